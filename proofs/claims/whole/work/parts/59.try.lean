/-! try, spare, line -/
def yeN (t : Tb) (l c : Nat) : Nat := cntN (soN t l &&& kbN t l c) 16
def tryV (t : Tb) (l : Nat) : Int32 := if soN t l = 0 then -1 else bsI (bsN (fun c => wN (cntN (soN t l) 16) (yeN t l c)) 0 (2 ^ lenN t.h t.w l))
theorem cnt_and (a b k : Nat) : cntN (a &&& b) k ≤ cntN a k := by
  induction k with
  | zero => exact Nat.le_refl _
  | succ k ih =>
    show cntN (a &&& b) k + bq (a &&& b) k ≤ cntN a k + bq a k
    rw [bq_tb, bq_tb, Nat.testBit_and]
    cases a.testBit k <;> cases b.testBit k <;> simp <;> omega
theorem cnt_5 {x : Nat} (hx : x < 32) : cntN x 16 = cntN x 5 := by
  have : ∀ j, cntN x (5 + j) = cntN x 5 := by
    intro j
    induction j with
    | zero => rfl
    | succ j ih =>
      show cntN x (5 + j) + bq x (5 + j) = _
      have : x.testBit (5 + j) = false := Nat.testBit_lt_two_pow (Nat.lt_of_lt_of_le hx (pw_le (a := 5) (by omega)))
      rw [ih, bq_tb, this]
      rfl
  exact this 11
theorem cnt_z : ((List.range 32).all fun x => decide (cntN x 16 = 0 ↔ x = 0) && decide (cntN x 16 ≤ 5)) = true := by decide +kernel
theorem cnt_0 {x : Nat} (hx : x < 32) : (cntN x 16 = 0 ↔ x = 0) ∧ cntN x 16 ≤ 5 := by
  have h := cnt_z
  rw [List.all_eq_true] at h
  have := h x (List.mem_range.mpr hx)
  rw [Bool.and_eq_true] at this
  exact ⟨of_decide_eq_true this.1, of_decide_eq_true this.2⟩
theorem a_worst {T : Ob} {t : Tb} (o : tbOK t) (q : tT T t) {l c : Nat} (hl : l < t.h + t.w) (hc : c < 16) : fX4_worstOfTry T (nI l) (nI (soN t l)) (nI c) = some (nI (wN (cntN (soN t l) 16) (yeN t l c))) := by
  have hs := soN_lt t l
  have hb := kbN_lt t l c
  have hx : soN t l &&& kbN t l c < 32 := Nat.lt_of_le_of_lt Nat.and_le_left hs
  have hle := cnt_and (soN t l) (kbN t l c) 16
  have h16 := cntN_le (soN t l) 16
  unfold fX4_worstOfTry
  refine wh_b (fun k => (nI (cntN (soN t l &&& kbN t l c) k), nI k)) 5 (nI (cntN (soN t l &&& kbN t l c) 5)) rfl (by decide) ?_ rfl ?_
  · intro k hk
    have c1 : ¬ (5 : Int32) ≤ nI k := by rw [show (5 : Int32) = nI 5 from rfl, nI_leI (by omega) (by omega)]; omega
    have c2 := nbit0 (a := soN t l) (k := k) (by omega) (by omega)
    show fX4_worstOfTry_L6 T (nI l) (nI (soN t l)) (nI c) (nI (cntN (soN t l &&& kbN t l c) k)) (nI k) = some (.inl (nI (cntN (soN t l &&& kbN t l c) k + bq (soN t l &&& kbN t l c) k), nI (k + 1)))
    have kb : (kbN t l c).testBit k = keptN k (t.fr l) (t.sc l) c := by
      unfold kbN
      rw [bmN_tb]
      simp [hk]
    unfold fX4_worstOfTry_L6
    rw [if_neg c1, nI_1, bq_tb, Nat.testBit_and, kb]
    by_cases a : (soN t l).testBit k = true
    · rw [if_neg (by rw [c2, a]; decide), a_would o q hl hk hc, Option.bind_some, a]
      cases keptN k (t.fr l) (t.sc l) c with
      | true => rw [if_neg (by decide), nI_1]; rfl
      | false => rw [if_pos (by decide)]; rfl
    · have a : (soN t l).testBit k = false := by simpa using a
      rw [if_pos (c2.mpr a), a]
      rfl
  · show fX4_worstOfTry_J41 T (nI (soN t l)) (nI (cntN (soN t l &&& kbN t l c) 5)) = _
    unfold fX4_worstOfTry_J41
    rw [a_bits (by omega), Option.bind_some, ← cnt_5 hx]
    show some (if nI (yeN t l c) < nI (cntN (soN t l) 16) - nI (yeN t l c) then nI (cntN (soN t l) 16) - nI (yeN t l c) else nI (yeN t l c)) = _
    rw [wN_i (b := yeN t l c) hle (by omega)]
theorem a_try {T : Ob} {t : Tb} (o : tbOK t) (q : tT T t) {l : Nat} (hl : l < t.h + t.w) : fX4_nextTry T (nI l) = some (tryV t l) := by
  have hs := soN_lt t l
  obtain ⟨z1, z2⟩ := cnt_0 hs
  have hl8 := o.hl
  have hlen := lenN_le (l := l) o.hh o.hw
  have hp : 2 ^ lenN t.h t.w l ≤ 16 := pw_le (b := 4) hlen
  unfold fX4_nextTry tryV
  rw [a_sorts o q hl, Option.bind_some, a_bits (by omega), Option.bind_some]
  by_cases z : soN t l = 0
  · rw [if_pos z, if_pos (by rw [z1.mpr z]; rfl)]
  · have z3 : ¬ cntN (soN t l) 16 = 0 := fun k => z (z1.mp k)
    rw [if_neg z, if_neg (nI_ne0 (by omega) (by omega))]
    have hg : ∀ j, (fun c => wN (cntN (soN t l) 16) (yeN t l c)) j ≤ 5 := fun j => Nat.le_trans (wN_le (cnt_and _ _ _)) z2
    refine wh_b (fun k => (bsI (bsN (fun c => wN (cntN (soN t l) 16) (yeN t l c)) 0 k), bsW (nI (cntN (soN t l) 16)) (bsN (fun c => wN (cntN (soN t l) 16) (yeN t l c)) 0 k), nI k)) (2 ^ lenN t.h t.w l) _ rfl (by omega) ?_ ?_ rfl
    · intro k hk
      have c1 : ¬ nI (2 ^ lenN t.h t.w l) ≤ nI k := by rw [nI_leI (by omega) (by omega)]; omega
      have hgk := hg k
      dsimp only at hgk
      show fX4_nextTry_L24 T (nI l) (nI (soN t l)) (bsI (bsN (fun c => wN (cntN (soN t l) 16) (yeN t l c)) 0 k)) (bsW (nI (cntN (soN t l) 16)) (bsN (fun c => wN (cntN (soN t l) 16) (yeN t l c)) 0 k)) (nI k) = _
      have st : bsN (fun c => wN (cntN (soN t l) 16) (yeN t l c)) 0 (k + 1) = match bsN (fun c => wN (cntN (soN t l) 16) (yeN t l c)) 0 k with
        | none => some (k, wN (cntN (soN t l) 16) (yeN t l k))
        | some r => if wN (cntN (soN t l) 16) (yeN t l k) < r.2 then some (k, wN (cntN (soN t l) 16) (yeN t l k)) else some r := by
        show (if (0 : Nat).testBit k = true then _ else _) = _
        rw [if_neg (by rw [Nat.zero_testBit]; decide)]
        rfl
      unfold fX4_nextTry_L24
      rw [a_length q.h q.w o.hh (show l < 2 ^ 31 by omega), Option.bind_some, sh1 (by omega), if_neg c1, a_worst o q hl (by omega), Option.bind_some, nI_1, st]
      cases e : bsN (fun c => wN (cntN (soN t l) 16) (yeN t l c)) 0 k with
      | none =>
        rw [if_pos (show bsI none = -1 from rfl)]
        rfl
      | some r =>
        obtain ⟨r1, r2⟩ := bsN_le hg e
        rw [if_neg (show ¬ bsI (some r) = -1 from nI_ne1 (by omega))]
        have c3 : bsW (nI (cntN (soN t l) 16)) (some r) ≤ nI (wN (cntN (soN t l) 16) (yeN t l k)) ↔ ¬ wN (cntN (soN t l) 16) (yeN t l k) < r.2 := by
          show nI r.2 ≤ _ ↔ _
          rw [nI_leI (by omega) (by omega)]; omega
        by_cases b : wN (cntN (soN t l) 16) (yeN t l k) < r.2
        · rw [if_neg (by rw [c3]; exact fun q => q b)]
          dsimp only
          rw [if_pos b]
          rfl
        · rw [if_pos (c3.mpr b)]
          dsimp only
          rw [if_neg b]
    · show fX4_nextTry_L24 T (nI l) (nI (soN t l)) _ _ (nI (2 ^ lenN t.h t.w l)) = _
      unfold fX4_nextTry_L24
      rw [a_length q.h q.w o.hh (show l < 2 ^ 31 by omega), Option.bind_some, sh1 (by omega), if_pos (Int32.le_refl _)]
theorem c_try {A : Ab} {M : OM} (o : tbOK A.t) (s : MS A M) {l : Nat} (hl : l < A.t.h + A.t.w) : ∃ M', fX6_tryOf M (nI l) = some (tryV A.t l, M') ∧ rM M M' := by
  have hs := soN_lt A.t l
  obtain ⟨z1, z2⟩ := cnt_0 hs
  have hl8 := o.hl
  have hlen := lenN_le (l := l) o.hh o.hw
  have hp : 2 ^ lenN A.t.h A.t.w l ≤ 16 := pw_le (b := 4) hlen
  obtain ⟨M1, q1, q2⟩ := c_sorts o s hl
  have s1 : MS A M1 := MS_fr s (mfr_mono q2.1 (by decide) (by decide))
  unfold fX6_tryOf
  rw [q1, Option.bind_some]
  dsimp only
  by_cases z : soN A.t l = 0
  · refine ⟨M1, ?_, q2⟩
    have : fX6_tryOf_L15 (nI l) (nI (soN A.t l)) (-1) 6 0 M1 = some (.inr (-1, M1)) := by
      unfold fX6_tryOf_L15
      rw [c_cellsOf s1.h s1.w o.hh (show l < 2 ^ 31 by omega), Option.bind_some]
      by_cases k : (1 : Int32) <<< (nI (lenN A.t.h A.t.w l) &&& 31) ≤ 0
      · rw [if_pos k]
      · rw [if_neg k, if_pos (by rw [z]; rfl)]
    rw [wh_r this, Option.bind_some]
    unfold tryV
    rw [if_pos z]
    rfl
  · have hg : ∀ j, (fun c => wN (cntN (soN A.t l) 16) (yeN A.t l c)) j ≤ 5 := fun j => Nat.le_trans (wN_le (cnt_and _ _ _)) z2
    obtain ⟨r, r1, r2, r3⟩ := wh_inv (body := fun u => fX6_tryOf_L15 (nI l) (nI (soN A.t l)) u.1 u.2.1 u.2.2.1 u.2.2.2) (fun k (u : Int32 × Int32 × Int32 × OM) => u.1 = bsI (bsN (fun c => wN (cntN (soN A.t l) 16) (yeN A.t l c)) 0 k) ∧ u.2.1 = bsW 6 (bsN (fun c => wN (cntN (soN A.t l) 16) (yeN A.t l c)) 0 k) ∧ u.2.2.1 = nI k ∧ rM M u.2.2.2) (fun (u : Int32 × OM) => u.1 = tryV A.t l ∧ rM M u.2) (2 ^ lenN A.t.h A.t.w l)
      (by
        rintro k ⟨x, y, w, M2⟩ hk ⟨e1, e2, e3, e4⟩
        dsimp only at e1 e2 e3 e4
        subst e1 e2 e3
        have s2 : MS A M2 := MS_fr s (mfr_mono e4.1 (by decide) (by decide))
        obtain ⟨M3, p1, p2⟩ := c_keptBy o s2 hl (show k < 16 by omega)
        have hb := kbN_lt A.t l k
        have hx : soN A.t l &&& kbN A.t l k < 32 := Nat.lt_of_le_of_lt Nat.and_le_left hs
        have c1 : ¬ nI (2 ^ lenN A.t.h A.t.w l) ≤ nI k := by rw [nI_leI (by omega) (by omega)]; omega
        have c2 : ¬ nI (soN A.t l) = 0 := nI_ne0 (by omega) (by omega)
        have hle := cnt_and (soN A.t l) (kbN A.t l k) 16
        have hgk := hg k
        dsimp only at hgk
        refine ⟨(bsI (bsN (fun c => wN (cntN (soN A.t l) 16) (yeN A.t l c)) 0 (k + 1)), bsW 6 (bsN (fun c => wN (cntN (soN A.t l) 16) (yeN A.t l c)) 0 (k + 1)), nI (k + 1), M3), ?_, rfl, rfl, rfl, rM_tr e4 p2⟩
        show fX6_tryOf_L15 (nI l) (nI (soN A.t l)) (bsI (bsN (fun c => wN (cntN (soN A.t l) 16) (yeN A.t l c)) 0 k)) (bsW 6 (bsN (fun c => wN (cntN (soN A.t l) 16) (yeN A.t l c)) 0 k)) (nI k) M2 = _
        have st : bsN (fun c => wN (cntN (soN A.t l) 16) (yeN A.t l c)) 0 (k + 1) = match bsN (fun c => wN (cntN (soN A.t l) 16) (yeN A.t l c)) 0 k with
          | none => some (k, wN (cntN (soN A.t l) 16) (yeN A.t l k))
          | some r => if wN (cntN (soN A.t l) 16) (yeN A.t l k) < r.2 then some (k, wN (cntN (soN A.t l) 16) (yeN A.t l k)) else some r := by
          show (if (0 : Nat).testBit k = true then _ else _) = _
          rw [if_neg (by rw [Nat.zero_testBit]; decide)]
          rfl
        have toJ : fX6_tryOf_L15 (nI l) (nI (soN A.t l)) (bsI (bsN (fun c => wN (cntN (soN A.t l) 16) (yeN A.t l c)) 0 k)) (bsW 6 (bsN (fun c => wN (cntN (soN A.t l) 16) (yeN A.t l c)) 0 k)) (nI k) M2 = fX6_tryOf_J68 (nI l) (nI (soN A.t l)) (bsI (bsN (fun c => wN (cntN (soN A.t l) 16) (yeN A.t l c)) 0 k)) (bsW 6 (bsN (fun c => wN (cntN (soN A.t l) 16) (yeN A.t l c)) 0 k)) (nI k) (nI (wN (cntN (soN A.t l) 16) (yeN A.t l k))) M3 := by
          unfold fX6_tryOf_L15
          rw [c_cellsOf s2.h s2.w o.hh (show l < 2 ^ 31 by omega), Option.bind_some, sh1 (by omega), if_neg c1, if_neg c2, p1, Option.bind_some]
          dsimp only
          rw [nq_and (by omega) (by omega), c_ones (by omega), Option.bind_some, c_ones (by omega), Option.bind_some, pk_sub hle]
          unfold wN yeN
          by_cases v : cntN (soN A.t l &&& kbN A.t l k) 16 ≤ cntN (soN A.t l) 16 - cntN (soN A.t l &&& kbN A.t l k) 16
          · rw [if_pos (by rw [nI_leI (by omega) (by omega)]; exact v)]
            by_cases v2 : cntN (soN A.t l &&& kbN A.t l k) 16 < cntN (soN A.t l) 16 - cntN (soN A.t l &&& kbN A.t l k) 16
            · rw [if_pos v2]
            · rw [if_neg v2, show cntN (soN A.t l) 16 - cntN (soN A.t l &&& kbN A.t l k) 16 = cntN (soN A.t l &&& kbN A.t l k) 16 by omega]
          · rw [if_neg (by rw [nI_leI (by omega) (by omega)]; exact v), if_neg (by omega)]
        rw [toJ, st]
        unfold fX6_tryOf_J68 fX6_tryOf_J83
        rw [nI_1]
        cases e : bsN (fun c => wN (cntN (soN A.t l) 16) (yeN A.t l c)) 0 k with
        | none =>
          have c4 : ¬ bsW 6 none ≤ nI (wN (cntN (soN A.t l) 16) (yeN A.t l k)) := by
            show ¬ nI 6 ≤ _
            rw [nI_leI (by decide) (by omega)]; omega
          rw [if_neg c4, if_neg c4]
          rfl
        | some r =>
          obtain ⟨r1, r2⟩ := bsN_le hg e
          have c3 : bsW 6 (some r) ≤ nI (wN (cntN (soN A.t l) 16) (yeN A.t l k)) ↔ ¬ wN (cntN (soN A.t l) 16) (yeN A.t l k) < r.2 := by
            show nI r.2 ≤ _ ↔ _
            rw [nI_leI (by omega) (by omega)]; omega
          by_cases b : wN (cntN (soN A.t l) 16) (yeN A.t l k) < r.2
          · rw [if_neg (by rw [c3]; exact fun q => q b), if_neg (by rw [c3]; exact fun q => q b)]
            dsimp only
            rw [if_pos b]
            rfl
          · rw [if_pos (c3.mpr b), if_pos (c3.mpr b)]
            dsimp only
            rw [if_neg b])
      (by
        rintro ⟨x, y, w, M2⟩ ⟨e1, e2, e3, e4⟩
        dsimp only at e1 e2 e3 e4
        subst e1 e2 e3
        have s2 : MS A M2 := MS_fr s (mfr_mono e4.1 (by decide) (by decide))
        refine ⟨(tryV A.t l, M2), ?_, rfl, e4⟩
        show fX6_tryOf_L15 (nI l) (nI (soN A.t l)) _ _ (nI (2 ^ lenN A.t.h A.t.w l)) M2 = _
        unfold fX6_tryOf_L15
        rw [c_cellsOf s2.h s2.w o.hh (show l < 2 ^ 31 by omega), Option.bind_some, sh1 (by omega), if_pos (Int32.le_refl _)]
        unfold tryV
        rw [if_neg z])
      (n := 100000) (s := ((-1 : Int32), (6 : Int32), (0 : Int32), M1)) ⟨rfl, rfl, rfl, q2⟩ (by omega)
    refine ⟨r.2, ?_, r3⟩
    rw [r1, Option.bind_some]
    show some (r.1, r.2) = _
    rw [r2]
/-! spare -/
def spL (t : Tb) (l : Nat) : List Nat := FL (fitN t.h t.w (fun l' c => if l' = l then decide (c < 2 ^ lenN t.h t.w l) else tbC t.h t.w t.kd t.fr t.sc l' c) t.bl t.wt) (2 ^ (t.h * t.w))
def spV (t : Tb) (l : Nat) : Int32 := if (spL t l).length = t.L.length then 1 else 0
theorem any_i {len : Nat} (hl : len ≤ 4) : fX1_anyCells (nI len) = some (nI (2 ^ 2 ^ len - 1)) := by
  have h : len = 0 ∨ len = 1 ∨ len = 2 ∨ len = 3 ∨ len = 4 := by omega
  rcases h with rfl | rfl | rfl | rfl | rfl <;> rfl
theorem sp_len (t : Tb) (l : Nat) (o : tbOK t) : (spL t l).length ≤ 65536 := by
  unfold spL
  rw [FL_len]
  exact Nat.le_trans (cntF_le _ _) (pw_le (b := 16) o.hm)
theorem a_spare {A : Ab} {E : OE} {n : Nat} (o : abOK n A) (s : ES A E) (k : EC A E) {l : Nat} (hl : l < A.t.h + A.t.w) : ∃ E', fX5_isSpare E (nI l) = some (spV A.t l, E') ∧ kE A E' := by
  have hl8 := o.t.hl
  obtain ⟨b1, b2, b3, b4⟩ := o.t.of_line hl
  have hL := tb_L o.t
  have hlen := lenN_le (l := l) o.t.hh o.t.hw
  have hp : 2 ^ lenN A.t.h A.t.w l ≤ 16 := pw_le (b := 4) hlen
  have hpp : 2 ^ 2 ^ lenN A.t.h A.t.w l ≤ 2 ^ 16 := pw_le hp
  have hpos := Nat.two_pow_pos (2 ^ lenN A.t.h A.t.w l)
  obtain ⟨E', a1, a2, a3, a4, a5⟩ := a_settled o s k (by omega)
  obtain ⟨S', c1, c2⟩ := a_countWith (lim := A.t.L.length + 1) (line := l) (m := 2 ^ 2 ^ lenN A.t.h A.t.w l - 1) (g := fun c => decide (c < 2 ^ lenN A.t.h A.t.w l)) a5 (by omega) (by omega) b2 b4 (tb_bl A.t) (tb_wt A.t) (by omega) hl (by omega) (fun c hc => Nat.testBit_two_pow_sub_one _ _)
  have sl := sp_len A.t l o.t
  have c1' : fX3_countWith (E'.2 4) (nI l) (nI (2 ^ 2 ^ lenN A.t.h A.t.w l - 1)) (nI (A.t.L.length + 1)) = some (nI ((spL A.t l).take (A.t.L.length + 1)).length, S') := c1
  refine ⟨(E'.1, va_up E'.2 4 S'), ?_, ES_4 a2 S', fun _ _ => ⟨a4, c2⟩⟩
  unfold fX5_isSpare
  rw [a1, Option.bind_some, a_length a2.t.h a2.t.w o.t.hh (show l < 2 ^ 31 by omega), Option.bind_some, any_i hlen, Option.bind_some, a4.1, nI_1, c1', Option.bind_some]
  dsimp only
  rw [List.length_take]
  have e : nI (min (A.t.L.length + 1) (spL A.t l).length) = nI A.t.L.length ↔ (spL A.t l).length = A.t.L.length := by
    rw [nI_eq (by omega) (by omega)]; omega
  unfold spV
  by_cases q : (spL A.t l).length = A.t.L.length
  · rw [if_pos (e.mpr q), if_pos q]
  · rw [if_neg (fun z => q (e.mp z)), if_neg q]
theorem c_spare {A : Ab} {M : OM} {n : Nat} (o : abOK n A) (s : MS A M) (k : MC A M) {l : Nat} (hl : l < A.t.h + A.t.w) : ∃ M', fX6_spareOf M (nI l) = some (spV A.t l, M') ∧ kM A M M' := by
  have hl8 := o.t.hl
  have hL := tb_L o.t
  obtain ⟨M1, b1, b2, b3, b4, b5⟩ := c_fresh o s k
  have hM1 : mfr [25] [] M1 (va_up M1.1 25 (nI l), M1.2.1, M1.2.2.1, M1.2.2.2) := ⟨fr1_up fr1_rfl (by decide), fr1_rfl, rfl⟩
  have s1 : MS A (va_up M1.1 25 (nI l), M1.2.1, M1.2.2.1, M1.2.2.2) := MS_fr b2 (mfr_mono hM1 (by decide) (by decide))
  obtain ⟨M2, r1, r2, r3⟩ := c_layFit (wo := fun l' => decide (l' = l)) s1.h s1.w o.t.hh o.t.hw (ms_clu s1 o.t) (ms_mk s1 o.t) (fun l' hl' => by
      show nI l' = nI l ↔ _
      rw [nI_eq (by omega) (by omega), decide_eq_true_iff])
  have e : fitN A.t.h A.t.w (tabB (A.t.h + A.t.w) A.t.kd A.t.fr A.t.sc (fun l' => decide (l' = l))) A.t.bl A.t.wt = fitN A.t.h A.t.w (fun l' c => if l' = l then decide (c < 2 ^ lenN A.t.h A.t.w l) else tbC A.t.h A.t.w A.t.kd A.t.fr A.t.sc l' c) A.t.bl A.t.wt := by
    refine fitN_congr (fun l' hl' c hc => ?_)
    unfold tabB tbC
    by_cases q : l' = l
    · subst q
      simp [hc]
    · simp [q, hl', hc]
  have r4 : M2.1 22 = nI (spL A.t l).length := by
    have := r3.1
    rw [← FL_len] at this
    rw [this]
    show nI (FL (fitN A.t.h A.t.w (tabB (A.t.h + A.t.w) A.t.kd A.t.fr A.t.sc (fun l' => decide (l' = l))) A.t.bl A.t.wt) _).length = _
    rw [e]
    rfl
  have sl := sp_len A.t l o.t
  have hM3 : mfr [20] [] M2 (va_up M2.1 20 (1 : Int32), M2.2.1, M2.2.2.1, M2.2.2.2) := ⟨fr1_up fr1_rfl (by decide), fr1_rfl, rfl⟩
  have hall : mfr [16, 17, 18, 19, 20, 22, 25] [23, 24] M (va_up M2.1 20 (1 : Int32), M2.2.1, M2.2.2.1, M2.2.2.2) := mfr_tr b5 (mfr_tr (mfr_mono hM1 (by decide) (by decide)) (mfr_tr (mfr_mono r2 (by decide) (by decide)) (mfr_mono hM3 (by decide) (by decide))))
  refine ⟨(va_up M2.1 20 (1 : Int32), M2.2.1, M2.2.2.1, M2.2.2.2), ?_, MS_fr s (mfr_mono hall (by decide) (by decide)), mstale rfl, hall.2.2⟩
  unfold fX6_spareOf
  rw [b1, Option.bind_some, r1, Option.bind_some, r4, b4.nL]
  have e2 : nI A.t.L.length = nI (spL A.t l).length ↔ (spL A.t l).length = A.t.L.length := by
    rw [nI_eq (by omega) (by omega)]; omega
  unfold spV
  by_cases q : (spL A.t l).length = A.t.L.length
  · rw [if_pos (e2.mpr q), if_pos q]
  · rw [if_neg (fun z => q (e2.mp z)), if_neg q]
/-! line -/
def lineV (t : Tb) (l what : Nat) : Int32 := if what = 0 then nI (t.kd l) else if what = 1 then nI (t.fr l) else if what = 2 then nI (t.sc l) else if what = 3 then nI (lenN t.h t.w l) else if what = 4 then spV t l else if what = 5 then nI (soN t l) else tryV t l
theorem a_lineV {A : Ab} {E : OE} {n : Nat} (o : abOK n A) (s : ES A E) (k : EC A E) {l what : Nat} (hl : l < A.t.h + A.t.w) (hw : what < 7) : ∃ E', fX5_line E (nI l) (nI what) = some (lineV A.t l what, E') ∧ kE A E' := by
  have hl8 := o.t.hl
  have h1 := a_line o.t s (nI l)
  have a : 0 ≤ (nI l).toInt ∧ (nI l).toInt < ((A.t.h + A.t.w : Nat) : Int) := by rw [nI_toInt (by omega)]; omega
  have o1 := okI_t (show l < 8 by omega) (by decide)
  have cl : (nI l).toNatClampNeg = l := nI_clamp (by omega)
  obtain ⟨q1, q2, q3⟩ := s.t.cl l hl
  have q : what = 0 ∨ what = 1 ∨ what = 2 ∨ what = 3 ∨ what = 4 ∨ what = 5 ∨ what = 6 := by omega
  have hs : kE A E := ⟨s, k⟩
  unfold fX5_line
  rw [h1, Option.bind_some, if_neg (izn a)]
  rcases q with rfl | rfl | rfl | rfl | rfl | rfl | rfl
  · refine ⟨E, ?_, hs⟩
    rw [if_pos (by decide), if_pos o1, cl, q1]; rfl
  · refine ⟨E, ?_, hs⟩
    rw [if_neg (by decide), if_pos (by decide), if_pos o1, cl, q2]; rfl
  · refine ⟨E, ?_, hs⟩
    rw [if_neg (by decide), if_neg (by decide), if_pos (by decide), if_pos o1, cl, q3]; rfl
  · refine ⟨E, ?_, hs⟩
    rw [if_neg (by decide), if_neg (by decide), if_neg (by decide), if_pos (by decide), a_length s.t.h s.t.w o.t.hh (show l < 2 ^ 31 by omega), Option.bind_some]; rfl
  · obtain ⟨E', e1, e2⟩ := a_spare o s k hl
    refine ⟨E', ?_, e2⟩
    rw [if_neg (by decide), if_neg (by decide), if_neg (by decide), if_neg (by decide), if_pos (by decide), e1, Option.bind_some]
    show (if spV A.t l = 0 then some (0, E') else some (1, E')) = some (spV A.t l, E')
    unfold spV
    by_cases q : (spL A.t l).length = A.t.L.length
    · rw [if_pos q, if_neg (by decide)]
    · rw [if_neg q, if_pos rfl]
  · refine ⟨E, ?_, hs⟩
    rw [if_neg (by decide), if_neg (by decide), if_neg (by decide), if_neg (by decide), if_neg (by decide), if_pos (by decide), a_sorts o.t s.t hl, Option.bind_some]; rfl
  · refine ⟨E, ?_, hs⟩
    rw [if_neg (by decide), if_neg (by decide), if_neg (by decide), if_neg (by decide), if_neg (by decide), if_neg (by decide), if_pos (by decide), a_try o.t s.t hl, Option.bind_some]; rfl
theorem c_lineV {A : Ab} {M : OM} {n : Nat} (o : abOK n A) (s : MS A M) (k : MC A M) {l what : Nat} (hl : l < A.t.h + A.t.w) (hw : what < 7) : ∃ M', fX6_tellLine M (nI l) (nI what) = some (lineV A.t l what, M') ∧ kM A M M' := by
  have hl8 := o.t.hl
  have o1 := okI_t (show l < 8 by omega) (by decide)
  have cl : (nI l).toNatClampNeg = l := nI_clamp (by omega)
  obtain ⟨q1, q2, q3⟩ := s.t.cl l hl
  have q : what = 0 ∨ what = 1 ∨ what = 2 ∨ what = 3 ∨ what = 4 ∨ what = 5 ∨ what = 6 := by omega
  have hs : kM A M M := ⟨s, k, rfl⟩
  unfold fX6_tellLine
  rcases q with rfl | rfl | rfl | rfl | rfl | rfl | rfl
  · refine ⟨M, ?_, hs⟩
    rw [if_pos (by decide), if_pos o1, cl, q1]; rfl
  · refine ⟨M, ?_, hs⟩
    rw [if_neg (by decide), if_pos (by decide), if_pos o1, cl, q2]; rfl
  · refine ⟨M, ?_, hs⟩
    rw [if_neg (by decide), if_neg (by decide), if_pos (by decide), if_pos o1, cl, q3]; rfl
  · refine ⟨M, ?_, hs⟩
    rw [if_neg (by decide), if_neg (by decide), if_neg (by decide), if_pos (by decide), c_cellsOf s.h s.w o.t.hh (show l < 2 ^ 31 by omega), Option.bind_some]; rfl
  · obtain ⟨M', e1, e2⟩ := c_spare o s k hl
    refine ⟨M', ?_, e2⟩
    rw [if_neg (by decide), if_neg (by decide), if_neg (by decide), if_neg (by decide), if_pos (by decide), e1, Option.bind_some]; rfl
  · obtain ⟨M', e1, e2⟩ := c_sorts o.t s hl
    refine ⟨M', ?_, rM_k e2 s k⟩
    rw [if_neg (by decide), if_neg (by decide), if_neg (by decide), if_neg (by decide), if_neg (by decide), if_pos (by decide), e1, Option.bind_some]; rfl
  · obtain ⟨M', e1, e2⟩ := c_try o.t s hl
    refine ⟨M', ?_, rM_k e2 s k⟩
    rw [if_neg (by decide), if_neg (by decide), if_neg (by decide), if_neg (by decide), if_neg (by decide), if_neg (by decide), if_pos (by decide), e1, Option.bind_some]; rfl
theorem op_line : opL4 Rel := by
  rintro n E M x y ⟨A, o, es, ec, ms, mc⟩
  have hR : Rel n E M := ⟨A, o.dn, es, ec, ms, mc⟩
  have h1 := a_line o.t es x
  have h2 := m_line o.t ms x
  by_cases a : 0 ≤ x.toInt ∧ x.toInt < ((A.t.h + A.t.w : Nat) : Int)
  · obtain ⟨c, hc, rfl⟩ := nI_of3 a
    by_cases b : 0 ≤ y.toInt ∧ y.toInt < ((7 : Nat) : Int)
    · obtain ⟨v, hv, rfl⟩ := nI_of3 b
      obtain ⟨E', e1, e2, e3⟩ := a_lineV o es ec hc hv
      obtain ⟨M', m1, m2, m3, m4⟩ := c_lineV o ms mc hc hv
      refine ⟨lineV A.t c v, E', M', e1, ?_, A, o.dn, e2, e3, m2, m3⟩
      unfold fX6_line
      rw [h2, Option.bind_some, if_neg (izn a), m1, Option.bind_some]
    · have ne : ∀ k, k < 7 → ¬ y = nI k := fun k hk => i_ne (by omega) (by omega)
      refine ⟨-102, E, M, ?_, ?_, hR⟩
      · unfold fX5_line
        rw [h1, Option.bind_some, if_neg (izn a), if_neg (show ¬ y = 0 from ne 0 (by decide)), if_neg (show ¬ y = 1 from ne 1 (by decide)), if_neg (show ¬ y = 2 from ne 2 (by decide)), if_neg (show ¬ y = 3 from ne 3 (by decide)), if_neg (show ¬ y = 4 from ne 4 (by decide)), if_neg (show ¬ y = 5 from ne 5 (by decide)), if_neg (show ¬ y = 6 from ne 6 (by decide))]
      · unfold fX6_line fX6_tellLine
        rw [h2, Option.bind_some, if_neg (izn a), if_neg (show ¬ y = 0 from ne 0 (by decide)), if_neg (show ¬ y = 1 from ne 1 (by decide)), if_neg (show ¬ y = 2 from ne 2 (by decide)), if_neg (show ¬ y = 3 from ne 3 (by decide)), if_neg (show ¬ y = 4 from ne 4 (by decide)), if_neg (show ¬ y = 5 from ne 5 (by decide)), if_neg (show ¬ y = 6 from ne 6 (by decide)), Option.bind_some]
  · refine ⟨-101, E, M, ?_, ?_, hR⟩
    · unfold fX5_line
      rw [h1, Option.bind_some, if_pos (iz0 a)]
    · unfold fX6_line
      rw [h2, Option.bind_some, if_pos (iz0 a)]
