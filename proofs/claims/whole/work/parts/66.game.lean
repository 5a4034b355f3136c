/-! games: the game itself, on lists -/
def stG (t : Tb) (hid : Nat) (u : List Nat × Nat) : List Nat × Nat := match bsN (fun k => wN u.1.length (blkL u.1 k)) u.2 (t.h * t.w) with
  | none => u
  | some r => (u.1.filter (fun q => !((q ^^^ hid).testBit r.1)), u.2 ||| 2 ^ r.1)
def sqG (t : Tb) (hid : Nat) : Nat → List Nat × Nat
  | 0 => (t.L, t.bl ||| t.wt)
  | k + 1 => stG t hid (sqG t hid k)
abbrev inG (t : Tb) (hid : Nat) (u : List Nat × Nat) : Prop := u.1.Nodup ∧ hid ∈ u.1 ∧ (∀ q ∈ u.1, q < 2 ^ (t.h * t.w)) ∧ (∀ q ∈ u.1, ∀ i, u.2.testBit i = true → q.testBit i = hid.testBit i) ∧ u.1.length ≤ 200 ∧ u.2 < 2 ^ 16
theorem bsN_none {g : Nat → Nat} {mk : Nat} : ∀ n, bsN g mk n = none → ∀ k, k < n → mk.testBit k = true := by
  intro n
  induction n with
  | zero => intro _ k hk; omega
  | succ n ih =>
    intro h k hk
    unfold bsN at h
    by_cases a : mk.testBit n = true
    · rw [if_pos a] at h
      by_cases b : k = n
      · rw [b]; exact a
      · exact ih h k (by omega)
    · rw [if_neg a] at h
      cases e : bsN g mk n with
      | none => rw [e] at h; cases h
      | some r =>
        rw [e] at h
        dsimp only at h
        split at h <;> cases h
theorem bsN_some {g : Nat → Nat} {mk : Nat} : ∀ n r, bsN g mk n = some r → r.1 < n ∧ mk.testBit r.1 = false := by
  intro n
  induction n with
  | zero => intro r h; cases h
  | succ n ih =>
    intro r h
    unfold bsN at h
    by_cases a : mk.testBit n = true
    · rw [if_pos a] at h
      have := ih r h
      exact ⟨by omega, this.2⟩
    · rw [if_neg a] at h
      have a : mk.testBit n = false := by simpa using a
      cases e : bsN g mk n with
      | none =>
        rw [e] at h
        have := Option.some.inj h
        rw [← this]
        exact ⟨Nat.lt_succ_self _, a⟩
      | some r' =>
        rw [e] at h
        dsimp only at h
        split at h
        · have := Option.some.inj h
          rw [← this]
          exact ⟨Nat.lt_succ_self _, a⟩
        · have := Option.some.inj h
          subst this
          have := ih r' e
          exact ⟨by omega, this.2⟩
theorem nd_two {l : List Nat} (nd : l.Nodup) (h : ¬ l.length ≤ 1) (p : Nat) : ∃ q ∈ l, ¬ q = p := by
  cases l with
  | nil => exact absurd (Nat.zero_le _) h
  | cons a l =>
    cases l with
    | nil => exact absurd (Nat.le_refl _) h
    | cons b l =>
      by_cases x : a = p
      · refine ⟨b, List.mem_cons_of_mem _ List.mem_cons_self, fun y => ?_⟩
        rw [x, y] at nd
        exact (List.nodup_cons.mp nd).1 List.mem_cons_self
      · exact ⟨a, List.mem_cons_self, x⟩
theorem g_open {t : Tb} {hid : Nat} {u : List Nat × Nat} (i : inG t hid u) (h : ¬ u.1.length ≤ 1) : ∃ r, bsN (fun k => wN u.1.length (blkL u.1 k)) u.2 (t.h * t.w) = some r ∧ r.1 < t.h * t.w ∧ u.2.testBit r.1 = false := by
  cases e : bsN (fun k => wN u.1.length (blkL u.1 k)) u.2 (t.h * t.w) with
  | some r => exact ⟨r, rfl, bsN_some _ _ e⟩
  | none =>
    exfalso
    have all := bsN_none _ e
    obtain ⟨nd, hm, lt, ag, _, _⟩ := i
    obtain ⟨q, hq, hne⟩ := nd_two nd h hid
    apply hne
    apply Nat.eq_of_testBit_eq
    intro j
    by_cases b : j < t.h * t.w
    · exact ag q hq j (all j b)
    · rw [Nat.testBit_lt_two_pow (Nat.lt_of_lt_of_le (lt q hq) (pw_le (by omega))), Nat.testBit_lt_two_pow (Nat.lt_of_lt_of_le (lt hid hm) (pw_le (by omega)))]
theorem g_step {t : Tb} {hid : Nat} {u : List Nat × Nat} (o : tbOK t) (i : inG t hid u) (h : ¬ u.1.length ≤ 1) : inG t hid (stG t hid u) ∧ cntN (stG t hid u).2 16 = cntN u.2 16 + 1 := by
  have hm := o.hm
  obtain ⟨r, e, r1, r2⟩ := g_open i h
  obtain ⟨nd, hi, lt, ag, len, u16⟩ := i
  unfold stG
  rw [e]
  dsimp only
  have pr := pw16 (show r.1 < 16 by omega)
  refine ⟨⟨List.Pairwise.filter _ nd, ?_, ?_, ?_, ?_, Nat.or_lt_two_pow u16 pr⟩, ?_⟩
  · rw [List.mem_filter]
    refine ⟨hi, ?_⟩
    rw [Nat.xor_self, Nat.zero_testBit]
    rfl
  · intro q hq
    exact lt q (List.mem_filter.mp hq).1
  · intro q hq j hj
    obtain ⟨q1, q2⟩ := List.mem_filter.mp hq
    rw [Nat.testBit_or, Bool.or_eq_true, Nat.testBit_two_pow] at hj
    rcases hj with hj | hj
    · exact ag q q1 j hj
    · have hj := of_decide_eq_true hj
      subst hj
      rw [Nat.testBit_xor] at q2
      cases a : q.testBit r.1 <;> cases b : hid.testBit r.1 <;> simp [a, b] at q2 ⊢
  · exact Nat.le_trans (List.length_filter_le _ _) len
  · rw [cntN_or (fun j hj => ?_), la1 cnt_p (show r.1 < 16 by omega)]
    rw [Nat.testBit_two_pow]
    have : ¬ r.1 = j := fun q => by rw [q] at r2; rw [r2] at hj; cases hj
    simp [this]
theorem g_0 {t : Tb} {hid : Nat} (o : tbOK t) (h : hid ∈ t.L) (hl : t.L.length ≤ 200) : inG t hid (sqG t hid 0) := by
  refine ⟨L_nodup t, h, fun q hq => (tb_Lm.mp hq).1, ?_, hl, Nat.or_lt_two_pow (tt_b o) (tt_w o)⟩
  intro q hq j hj
  have fit : ∀ p, p ∈ t.L → p &&& t.bl = t.bl ∧ p &&& t.wt = 0 := fun p hp => by
    have := (tb_Lm.mp hp).2
    unfold Tb.F fitN at this
    simp only [Bool.and_eq_true, decide_eq_true_iff] at this
    exact ⟨this.1, this.2.1⟩
  obtain ⟨q1, q2⟩ := fit q hq
  obtain ⟨p1, p2⟩ := fit hid h
  have hj : (t.bl ||| t.wt).testBit j = true := hj
  rw [Nat.testBit_or, Bool.or_eq_true] at hj
  rcases hj with hj | hj
  · rw [and_eq_tb.mp q1 j hj, and_eq_tb.mp p1 j hj]
  · rw [and_z_tb.mp q2 j hj, and_z_tb.mp p2 j hj]
theorem g_K {t : Tb} {hid : Nat} (o : tbOK t) (h : hid ∈ t.L) (hl : t.L.length ≤ 200) : ∃ K, K ≤ 16 ∧ (sqG t hid K).1.length ≤ 1 ∧ (∀ k, k < K → ¬ (sqG t hid k).1.length ≤ 1) ∧ ∀ k, k ≤ K → inG t hid (sqG t hid k) := by
  have inv : ∀ k, (∀ j, j < k → ¬ (sqG t hid j).1.length ≤ 1) → inG t hid (sqG t hid k) ∧ k ≤ cntN (sqG t hid k).2 16 := by
    intro k
    induction k with
    | zero => intro _; exact ⟨g_0 o h hl, Nat.zero_le _⟩
    | succ k ih =>
      intro hk
      obtain ⟨i1, i2⟩ := ih (fun j hj => hk j (by omega))
      obtain ⟨s1, s2⟩ := g_step o i1 (hk k (Nat.lt_succ_self _))
      refine ⟨s1, ?_⟩
      show k + 1 ≤ cntN (stG t hid (sqG t hid k)).2 16
      omega
  have ex : ∃ k, k < 17 ∧ (sqG t hid k).1.length ≤ 1 := by
    by_cases e : ∃ k, k < 17 ∧ (sqG t hid k).1.length ≤ 1
    · exact e
    · exfalso
      have := (inv 17 (fun j hj q => e ⟨j, hj, q⟩)).2
      have := cntN_le (sqG t hid 17).2 16
      omega
  obtain ⟨K, ⟨k1, k2⟩, k3⟩ := pk_least (fun k => k < 17 ∧ (sqG t hid k).1.length ≤ 1) ex
  have k4 : ∀ k, k < K → ¬ (sqG t hid k).1.length ≤ 1 := fun k hk q => k3 k hk ⟨by omega, q⟩
  exact ⟨K, by omega, k2, k4, fun k hk => (inv k (fun j hj => k4 j (by omega))).1⟩
/-! the class's game -/
theorem a_fitsCopy {S S2 : Ob} {L : List Nat} (f : fitsO S2 L) (hl : L.length ≤ 200) (hq : ∀ q ∈ L, q < 2 ^ 16) : ∃ S', fX0_copyFrom 200 1690 S S2 = some S' ∧ fitsO S' L := by
  obtain ⟨S1, e1, e2, e3⟩ := a_empty 200 S
  obtain ⟨r, r1, r2⟩ := wh_inv (body := fun t => fX0_copyFrom_L6 200 1690 S2 t.1 t.2) (fun k (u : Int32 × Ob) => u.1 = nI k ∧ fitsO u.2 (L.take k)) (fun (u : Ob) => fitsO u L) L.length
    (by
      rintro k ⟨x, S3⟩ hk ⟨i1, i2⟩
      dsimp only at i1 i2
      subst i1
      have c1 : ¬ nI L.length ≤ nI k := by rw [nI_leI (by omega) (by omega)]; omega
      have ea := a_at f (show L.length ≤ 1690 by omega) (by decide) (show k < 2 ^ 31 by omega)
      rw [List.getElem?_eq_getElem hk] at ea
      obtain ⟨S4, g1, g2, g3⟩ := a_add (cN := 200) i2 (by rw [List.length_take]; omega) (by decide) (hq _ (List.getElem_mem hk))
      refine ⟨(nI (k + 1), S4), ?_, rfl, ?_⟩
      · show fX0_copyFrom_L6 200 1690 S2 (nI k) S3 = _
        unfold fX0_copyFrom_L6
        rw [f.1, if_neg c1, ea, Option.bind_some]
        dsimp only
        rw [g1, Option.bind_some, nI_1]
      · dsimp only
        rw [List.take_succ_eq_append_getElem hk]
        exact g2)
    (by
      rintro ⟨x, S3⟩ ⟨i1, i2⟩
      dsimp only at i1 i2
      subst i1
      rw [List.take_length] at i2
      refine ⟨S3, ?_, i2⟩
      show fX0_copyFrom_L6 200 1690 S2 (nI L.length) S3 = _
      unfold fX0_copyFrom_L6
      rw [f.1, if_pos (Int32.le_refl _)])
    (n := 100000) (s := ((0 : Int32), S1)) ⟨rfl, by rw [List.take_zero]; exact e2⟩ (by omega)
  refine ⟨r, ?_, r2⟩
  unfold fX0_copyFrom
  rw [e1, Option.bind_some, r1, Option.bind_some]
  rfl
theorem flt1 {p : Nat → Bool} {x : Nat} (h : p x = true) : [x].filter p = [x] := by rw [List.filter_cons_of_pos h]; rfl
theorem flt0 {p : Nat → Bool} {x : Nat} (h : ¬ p x = true) : [x].filter p = [] := by rw [List.filter_cons_of_neg h]; rfl
theorem a_keepLike {S : Ob} {L : List Nat} (f : fitsO S L) (hl : L.length ≤ 200) (hq : ∀ q ∈ L, q < 2 ^ 16) {hid c : Nat} (hh : hid < 2 ^ 16) (hc : c < 16) : ∃ S', fX0_keepLike 200 S (nI hid) (nI c) = some S' ∧ fitsO S' (L.filter (fun q => !((q ^^^ hid).testBit c))) := by
  obtain ⟨S1, e1, e2, e3⟩ := a_empty 200 S
  obtain ⟨r, r1, r2⟩ := wh_inv (body := fun t => fX0_keepLike_L12 200 (nI hid) (nI c) (nI L.length) t.1 t.2) (fun k (u : Int32 × Ob) => u.1 = nI k ∧ fitsO u.2 ((L.take k).filter (fun q => !((q ^^^ hid).testBit c))) ∧ ∀ i q, k ≤ i → L[i]? = some q → u.2.2 0 i = nI q) (fun (u : Ob) => fitsO u (L.filter (fun q => !((q ^^^ hid).testBit c)))) L.length
    (by
      rintro k ⟨x, S3⟩ hk ⟨i1, i2, i3⟩
      dsimp only at i1 i2 i3
      subst i1
      have c1 : ¬ nI L.length ≤ nI k := by rw [nI_leI (by omega) (by omega)]; omega
      have c2 : ¬ Int32.ofNat 200 ≤ nI k := by
        show ¬ nI 200 ≤ nI k
        rw [nI_leI (by omega) (by omega)]; omega
      have o1 := okI_t (show k < 200 by omega) (by decide)
      have cl : (nI k).toNatClampNeg = k := nI_clamp (by omega)
      have q16 := hq _ (List.getElem_mem hk)
      have rd := i3 k L[k] (Nat.le_refl _) (List.getElem?_eq_getElem hk)
      have hx : L[k] ^^^ hid < 2 ^ 16 := Nat.xor_lt_two_pow q16 hh
      have c3 := nbit0 (a := L[k] ^^^ hid) (k := c) (by omega) (by omega)
      have lf : ((L.take k).filter (fun q => !((q ^^^ hid).testBit c))).length ≤ k := Nat.le_trans (List.length_filter_le _ _) (by rw [List.length_take]; omega)
      have tk : (L.take (k + 1)).filter (fun q => !((q ^^^ hid).testBit c)) = (L.take k).filter (fun q => !((q ^^^ hid).testBit c)) ++ [L[k]].filter (fun q => !((q ^^^ hid).testBit c)) := by
        rw [List.take_succ_eq_append_getElem hk, List.filter_append]
      by_cases a : (L[k] ^^^ hid).testBit c = false
      · obtain ⟨S4, g1, g2, g3⟩ := a_add (cN := 200) i2 (by omega) (by decide) q16
        refine ⟨(nI (k + 1), S4), ?_, rfl, ?_, ?_⟩
        · show fX0_keepLike_L12 200 (nI hid) (nI c) (nI L.length) (nI k) S3 = _
          unfold fX0_keepLike_L12
          rw [if_neg c1, if_neg c2, if_pos o1, cl, rd, nq_xor (by omega) (by omega), if_pos (c3.mpr a), g1, Option.bind_some, nI_1]
        · dsimp only
          rw [tk, flt1 (show (!((L[k] ^^^ hid).testBit c)) = true by rw [a]; rfl)]
          exact g2
        · intro i q hi hL
          dsimp only
          rw [g3, up_n _ _ (by omega)]
          exact i3 i q (by omega) hL
      · refine ⟨(nI (k + 1), S3), ?_, rfl, ?_, ?_⟩
        · show fX0_keepLike_L12 200 (nI hid) (nI c) (nI L.length) (nI k) S3 = _
          unfold fX0_keepLike_L12
          rw [if_neg c1, if_neg c2, if_pos o1, cl, rd, nq_xor (by omega) (by omega), if_neg (fun z => a (c3.mp z)), nI_1]
        · dsimp only
          have a : (L[k] ^^^ hid).testBit c = true := by simpa using a
          rw [tk, flt0 (show ¬ (!((L[k] ^^^ hid).testBit c)) = true by rw [a]; decide), List.append_nil]
          exact i2
        · intro i q hi hL
          exact i3 i q (by omega) hL)
    (by
      rintro ⟨x, S3⟩ ⟨i1, i2, i3⟩
      dsimp only at i1 i2
      subst i1
      rw [List.take_length] at i2
      refine ⟨S3, ?_, i2⟩
      show fX0_keepLike_L12 200 (nI hid) (nI c) (nI L.length) (nI L.length) S3 = _
      unfold fX0_keepLike_L12
      rw [if_pos (Int32.le_refl _)])
    (n := 100000) (s := ((0 : Int32), S1)) ⟨rfl, by rw [List.take_zero]; exact e2, fun i q _ hL => by
      show S1.2 0 i = _
      rw [e3]; exact f.2.1 i q hL⟩ (by omega)
  refine ⟨r, ?_, r2⟩
  unfold fX0_keepLike
  rw [e1, Option.bind_some, f.1, r1, Option.bind_some]
  rfl
theorem a_play {A : Ab} {E : OE} (o : tbOK A.t) (es : ES A E) (f : fitsO (E.2 5) A.t.L) {hid K : Nat} (hh : hid ∈ A.t.L) (hl : A.t.L.length ≤ 200) (hK : K ≤ 16) (k0 : (sqG A.t hid K).1.length ≤ 1) (k1 : ∀ k, k < K → ¬ (sqG A.t hid k).1.length ≤ 1) (k2 : ∀ k, k ≤ K → inG A.t hid (sqG A.t hid k)) : ∃ T, fX5_playGame E (nI hid) = some (nI K, (E.1, va_up E.2 6 T)) := by
  have hm := o.hm
  have h16 := tb_Lt o hh
  obtain ⟨T0, t1, t2⟩ := a_fitsCopy (S := E.2 6) f hl (fun q hq => tb_Lt o hq)
  obtain ⟨r, r1, T, r2⟩ := wh_inv (body := fun t => fX5_playGame_L21 (nI hid) t.1 t.2.1 t.2.2) (fun k (u : Int32 × Int32 × OE) => u.1 = nI (sqG A.t hid k).2 ∧ u.2.1 = nI k ∧ ∃ T, u.2.2 = (E.1, va_up E.2 6 T) ∧ fitsO T (sqG A.t hid k).1) (fun (u : (Int32 × OE) ⊕ (Int32 × OE)) => ∃ T, u = .inr (nI K, (E.1, va_up E.2 6 T))) K
    (by
      rintro k ⟨x, y, E1⟩ hk ⟨e1, e2, T, e3, e4⟩
      dsimp only at e1 e2 e3 e4
      subst e1 e2 e3
      have i := k2 k (by omega)
      have ns := k1 k hk
      obtain ⟨r, b1, b2, b3⟩ := g_open i ns
      obtain ⟨nd, hi, lt, ag, len, u16⟩ := i
      have hL16 : ∀ q ∈ (sqG A.t hid k).1, q < 2 ^ 16 := fun q hq => Nat.lt_of_lt_of_le (lt q hq) (pw_le hm)
      have pr := pw16 (show r.1 < 16 by omega)
      obtain ⟨T', g1, g2⟩ := a_keepLike e4 len hL16 h16 (show r.1 < 16 by omega)
      have bl := a_bestLook (cN := 200) e4 (by omega) hm u16
      rw [if_neg (by omega), b1] at bl
      have c1 : ¬ nI (sqG A.t hid k).1.length ≤ (1 : Int32) := by rw [show (1 : Int32) = nI 1 from rfl, nI_leI (by omega) (by decide)]; exact ns
      have c2 : ¬ (16 : Int32) ≤ nI k := by rw [show (16 : Int32) = nI 16 from rfl, nI_leI (by omega) (by omega)]; omega
      have sq : sqG A.t hid (k + 1) = ((sqG A.t hid k).1.filter (fun q => !((q ^^^ hid).testBit r.1)), (sqG A.t hid k).2 ||| 2 ^ r.1) := by
        show stG A.t hid (sqG A.t hid k) = _
        unfold stG
        rw [b1]
      refine ⟨(nI (sqG A.t hid (k + 1)).2, nI (k + 1), (E.1, va_up E.2 6 T')), ?_, rfl, rfl, T', rfl, ?_⟩
      · show fX5_playGame_L21 (nI hid) (nI (sqG A.t hid k).2) (nI k) (E.1, va_up E.2 6 T) = _
        unfold fX5_playGame_L21
        show (if T.1 2 ≤ (1 : Int32) then _ else (if (16 : Int32) ≤ nI k then _ else ((fX4_cells (E.2 1)).bind (fun r46 => ((fX0_bestLook 200 T r46 (nI (sqG A.t hid k).2)).bind (fun r50 => (if r50 = (-1 : Int32) then _ else ((fX0_keepLike 200 T (nI hid) r50).bind (fun T77 => some (Sum.inl ((nI (sqG A.t hid k).2 ||| ((1 : Int32) <<< (r50 &&& 31))), (nI k + (1 : Int32)), (E.1, (va_up (va_up E.2 6 T) 6 T77)))))))))))))  = _
        rw [e4.1, if_neg c1, if_neg c2, a_cells es.t, Option.bind_some, bl, Option.bind_some]
        show (if nI r.1 = (-1 : Int32) then _ else _) = _
        rw [if_neg (nI_ne1 (by omega))]
        show ((fX0_keepLike 200 T (nI hid) (nI r.1)).bind (fun T77 => some (Sum.inl ((nI (sqG A.t hid k).2 ||| ((1 : Int32) <<< (nI r.1 &&& 31))), (nI k + (1 : Int32)), (E.1, (va_up (va_up E.2 6 T) 6 T77)))))) = _
        rw [g1, Option.bind_some, sh1 (by omega), nq_or (by omega) (by omega), nI_1, vu_u, sq]
      · rw [sq]
        exact g2)
    (by
      rintro ⟨x, y, E1⟩ ⟨e1, e2, T, e3, e4⟩
      dsimp only at e1 e2 e3 e4
      subst e1 e2 e3
      refine ⟨.inr (nI K, (E.1, va_up E.2 6 T)), ?_, T, rfl⟩
      show fX5_playGame_L21 (nI hid) (nI (sqG A.t hid K).2) (nI K) (E.1, va_up E.2 6 T) = _
      unfold fX5_playGame_L21
      have c1 : nI (sqG A.t hid K).1.length ≤ (1 : Int32) := by rw [show (1 : Int32) = nI 1 from rfl, nI_leI (by omega) (by decide)]; exact k0
      rw [show ((E.1, va_up E.2 6 T) : OE).2 6 = T from rfl, e4.1, if_pos c1])
    (n := 100000) (s := (nI (A.t.bl ||| A.t.wt), (0 : Int32), (E.1, va_up E.2 6 T0))) ⟨rfl, rfl, T0, rfl, t2⟩ (by omega)
  refine ⟨T, ?_⟩
  unfold fX5_playGame
  rw [a_marked o es.t, Option.bind_some, t1, Option.bind_some, r1, Option.bind_some, r2]
  rfl
