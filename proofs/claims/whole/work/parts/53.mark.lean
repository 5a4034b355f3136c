/-! mark, clear, clue, image, restore -/
theorem tt_b {t : Tb} (o : tbOK t) : t.bl < 2 ^ 16 := Nat.lt_of_lt_of_le (tb_bl t) (pw_le o.hm)
theorem tt_w {t : Tb} (o : tbOK t) : t.wt < 2 ^ 16 := Nat.lt_of_lt_of_le (tb_wt t) (pw_le o.hm)
theorem bl_tb (t : Tb) (j : Nat) : t.bl.testBit j = decide (j < t.h * t.w ∧ t.mk j = 1) := mskN_tb _ _ _ _
theorem wt_tb (t : Tb) (j : Nat) : t.wt.testBit j = decide (j < t.h * t.w ∧ t.mk j = 2) := mskN_tb _ _ _ _
theorem a_how {T : Ob} {t : Tb} (o : tbOK t) (q : tT T t) {c : Nat} (hc : c < t.h * t.w) : fX4_howMarked T (nI c) = some (nI (t.mk c)) := by
  have hm := o.hm
  have h3 := o.mk3 c
  have b1 := tt_b o
  have b2 := tt_w o
  have e1 := nbit0 (a := t.bl) (k := c) (by omega) (by omega)
  have e2 := nbit0 (a := t.wt) (k := c) (by omega) (by omega)
  rw [bl_tb] at e1
  rw [wt_tb] at e2
  unfold fX4_howMarked
  rw [q.b, q.wh]
  have k : t.mk c = 0 ∨ t.mk c = 1 ∨ t.mk c = 2 := by omega
  rcases k with k | k | k
  · rw [if_pos (e1.mpr (by simp [k])), if_pos (e2.mpr (by simp [k])), k]; rfl
  · rw [if_neg (by rw [e1]; simp [k, hc]), k]; rfl
  · rw [if_pos (e1.mpr (by simp [k])), if_neg (by rw [e2]; simp [k, hc]), k]; rfl
def mkU (t : Tb) (c v : Nat) : Tb := ⟨t.h, t.w, t.kd, t.fr, t.sc, fun j => if j = c then v else t.mk j, t.sn, t.sl, t.ce, t.sk⟩
theorem msk_u {mk : Nat → Nat} {c v how n : Nat} (hc : c < n) (hn : n ≤ 16) : mskN (fun j => if j = c then v else mk j) how n = (mskN mk how n &&& (2 ^ c ^^^ (2 ^ 32 - 1))) ||| (if v = how then 2 ^ c else 0) := by
  apply Nat.eq_of_testBit_eq
  intro i
  rw [mskN_tb, Nat.testBit_or, Nat.testBit_and, Nat.testBit_xor, mskN_tb, Nat.testBit_two_pow, Nat.testBit_two_pow_sub_one]
  by_cases a : i = c
  · subst a
    by_cases b : v = how
    · simp [b, hc, Nat.testBit_two_pow]
    · have : i < 32 := by omega
      simp [b, this]
  · have a' : ¬ c = i := fun q => a q.symm
    by_cases d : i < n
    · have : i < 32 := by omega
      by_cases b : v = how
      · simp [a, a', b, d, this, Nat.testBit_two_pow]
      · simp [a, a', b, d, this]
    · by_cases b : v = how
      · simp [a, a', b, d, Nat.testBit_two_pow]
      · simp [a, a', b, d]
theorem clr_i {b c : Nat} (hb : b < 2 ^ 16) (hc : c < 16) : nI b &&& (((1 : Int32) <<< (nI c &&& 31)) ^^^ (-1 : Int32)) = nI (b &&& (2 ^ c ^^^ (2 ^ 32 - 1))) := by
  have hp : 2 ^ c < 2 ^ 32 := Nat.pow_lt_pow_right (by decide) (by omega)
  rw [sh1 (by omega), show (-1 : Int32) = nI (2 ^ 32 - 1) from rfl, nq_xor hp (by decide), nq_and (by omega) (Nat.xor_lt_two_pow hp (by decide))]
theorem a_setMark {T : Ob} {t : Tb} (o : tbOK t) (q : tT T t) {c v : Nat} (hc : c < t.h * t.w) (hv : v < 3) : ∃ T', fX4_setMark T (nI c) (nI v) = some T' ∧ tT T' (mkU t c v) := by
  have hm := o.hm
  have b1 := tt_b o
  have b2 := tt_w o
  have ub : (mkU t c v).bl = (t.bl &&& (2 ^ c ^^^ (2 ^ 32 - 1))) ||| (if v = 1 then 2 ^ c else 0) := msk_u hc hm
  have uw : (mkU t c v).wt = (t.wt &&& (2 ^ c ^^^ (2 ^ 32 - 1))) ||| (if v = 2 then 2 ^ c else 0) := msk_u hc hm
  have g1 := clr_i b1 (show c < 16 by omega)
  have g2 := clr_i b2 (show c < 16 by omega)
  have l1 : t.bl &&& (2 ^ c ^^^ (2 ^ 32 - 1)) < 2 ^ 32 := Nat.lt_of_le_of_lt Nat.and_le_left (by omega)
  have l2 : t.wt &&& (2 ^ c ^^^ (2 ^ 32 - 1)) < 2 ^ 32 := Nat.lt_of_le_of_lt Nat.and_le_left (by omega)
  have hp : 2 ^ c < 2 ^ 32 := Nat.pow_lt_pow_right (by decide) (by omega)
  have s1 := sh1 (show c < 31 by omega)
  have k : v = 0 ∨ v = 1 ∨ v = 2 := by omega
  refine ⟨(va_up (va_up T.1 5 (nI (mkU t c v).bl)) 6 (nI (mkU t c v).wt), T.2), ?_, q.h, q.w, q.cl, rfl, rfl, q.sn, q.se⟩
  rcases k with rfl | rfl | rfl
  · rw [if_neg (by decide), Nat.or_zero] at ub uw
    unfold fX4_setMark fX4_setMark_J43
    rw [if_neg (by decide), if_neg (by decide), q.b, q.wh, g1, g2, ub, uw]
  · rw [if_pos rfl] at ub
    rw [if_neg (by decide), Nat.or_zero] at uw
    unfold fX4_setMark fX4_setMark_J43
    rw [if_pos (by decide), if_neg (by decide), q.b, q.wh, g1, g2, s1, nq_or l1 hp, ub, uw]
  · rw [if_pos rfl] at uw
    rw [if_neg (by decide), Nat.or_zero] at ub
    unfold fX4_setMark fX4_setMark_J43
    rw [if_neg (by decide), if_pos (by decide), q.b, q.wh, g1, g2, s1]
    show some (va_up (va_up (va_up T.1 5 (nI (t.bl &&& (2 ^ c ^^^ 2 ^ 32 - 1)))) 6 (nI (t.wt &&& (2 ^ c ^^^ 2 ^ 32 - 1)))) 6 (nI (t.wt &&& (2 ^ c ^^^ 2 ^ 32 - 1)) ||| nI (2 ^ c)), T.2) = _
    rw [vu_u, nq_or l2 hp, ub, uw]
theorem mkU_ok {t : Tb} (o : tbOK t) {c v : Nat} (hv : v < 3) : tbOK (mkU t c v) := ⟨o.sz, o.cl, fun j => by
  show (if j = c then v else t.mk j) < 3
  by_cases a : j = c
  · rw [if_pos a]; exact hv
  · rw [if_neg a]; exact o.mk3 j, o.sn6, o.se⟩
theorem nstale {A : Ab} {f : Nat → Int32} {g : Nat → Ob} (h : f 7 = 1) : EC A (f, g) := fun q => absurd (h.symm.trans q) (by decide)
theorem mstale {A : Ab} {f : Nat → Int32} {g : (Nat → Nat → Int32) × Int64 × (Nat → Int64)} (h : f 20 = 1) : MC A (f, g) := fun q => absurd (h.symm.trans q) (by decide)
theorem op_mark : opL8 Rel := by
  rintro n E M x y ⟨A, o, es, ec, ms, mc⟩
  have hR : Rel n E M := ⟨A, o.dn, es, ec, ms, mc⟩
  have h1 := a_cell o.t es x
  have h2 := m_cell o.t ms x
  by_cases a : 0 ≤ x.toInt ∧ x.toInt < ((A.t.h * A.t.w : Nat) : Int)
  · have ein := c_inL y 0 2 (a' := 0) (b' := 2) (p := 0) (q := 2) rfl rfl rfl rfl
    have j1 : y < 0 ↔ y.toInt < 0 := i_lt _ _
    have j2 : y ≤ (2 : Int32) ↔ y.toInt ≤ 2 := i_le _ _
    obtain ⟨c, hc, rfl⟩ := nI_of3 a
    have hm := o.t.hm
    have o1 := okI_t (show c < 16 by omega) (by decide)
    have cl : (nI c).toNatClampNeg = c := nI_clamp (by omega)
    by_cases b : 0 ≤ y.toInt ∧ y.toInt ≤ 2
    · obtain ⟨v, hv, rfl⟩ := nI_of3 (x := y) (n := 3) (by omega)
      obtain ⟨T', t1, t2⟩ := a_setMark o.t es.t hc hv
      refine ⟨nI (A.t.mk c), (va_up E.1 7 1, va_up E.2 1 T'), (va_up M.1 20 1, va_up M.2.1 15 (upd (M.2.1 15) c (nI v)), M.2.2.1, M.2.2.2), ?_, ?_, ⟨A.ps, A.pc, mkU A.t c v, A.br, A.hd, A.od, A.im, A.k⟩, ?_, ?_, nstale rfl, ?_, mstale rfl⟩
      · unfold fX5_mark
        rw [h1, Option.bind_some, if_neg (izn a), if_neg (by rw [j1]; omega), if_pos (by rw [j2]; omega), a_how o.t es.t hc, Option.bind_some, t1, Option.bind_some]
      · unfold fX6_mark
        rw [h2, Option.bind_some, if_neg (izn a), ein, Option.bind_some, if_neg (izn b), if_pos o1, if_pos o1, cl, ms.t.mk c hc]
      · exact ⟨o.ps, o.pc, mkU_ok o.t hv, o.dn.br, o.hd, o.od, o.im⟩
      · exact ⟨es.ps, es.pc, t2, es.br, es.hd, es.od, es.im, es.k⟩
      · refine ⟨ms.ps, ms.pc, ms.h, ms.w, ⟨ms.t.cl, ?_, ms.t.se⟩, ms.sn, ms.br, ms.hd, ms.od, fun i => ⟨(ms.k i).1, (ms.k i).2.1, (ms.k i).2.2.cl, (ms.k i).2.2.mk, (ms.k i).2.2.se⟩, ms.nk⟩
        intro j hj
        show upd (M.2.1 15) c (nI v) j = nI (if j = c then v else A.t.mk j)
        by_cases d : j = c
        · rw [if_pos d, d, up_s]
        · rw [if_neg d, up_n _ _ d]
          exact ms.t.mk j hj
    · refine ⟨-102, E, M, ?_, ?_, hR⟩
      · unfold fX5_mark
        rw [h1, Option.bind_some, if_neg (izn a)]
        by_cases d : y < 0
        · rw [if_pos d]
        · rw [if_neg d, if_neg (by rw [j2]; rw [j1] at d; omega)]
      · unfold fX6_mark
        rw [h2, Option.bind_some, if_neg (izn a), ein, Option.bind_some, if_pos (iz0 b)]
  · refine ⟨-101, E, M, ?_, ?_, hR⟩
    · unfold fX5_mark
      rw [h1, Option.bind_some, if_pos (iz0 a)]
    · unfold fX6_mark
      rw [h2, Option.bind_some, if_pos (iz0 a)]
theorem cntN_or {a b : Nat} (h : ∀ i, a.testBit i = true → b.testBit i = false) (k : Nat) : cntN (a ||| b) k = cntN a k + cntN b k := by
  induction k with
  | zero => rfl
  | succ k ih =>
    show cntN (a ||| b) k + bq (a ||| b) k = cntN a k + bq a k + (cntN b k + bq b k)
    rw [ih, bq_tb, bq_tb, bq_tb, Nat.testBit_or]
    have := h k
    cases e : a.testBit k with
    | true => rw [this e]; simp; omega
    | false => simp; omega
def Tb.mm (t : Tb) : Nat := cntN t.bl 16 + cntN t.wt 16
theorem dj (t : Tb) : ∀ i, t.bl.testBit i = true → t.wt.testBit i = false := fun i h => by
  rw [bl_tb] at h
  rw [wt_tb]
  have := of_decide_eq_true h
  simp [this.2]
theorem a_marked {T : Ob} {t : Tb} (o : tbOK t) (q : tT T t) : fX4_marked T = some (nI (t.bl ||| t.wt)) := by
  have b1 := tt_b o
  have b2 := tt_w o
  unfold fX4_marked
  rw [q.b, q.wh, nq_or (by omega) (by omega)]
theorem a_markedCells {T : Ob} {t : Tb} (o : tbOK t) (q : tT T t) : fX4_markedCells T = some (nI t.mm) := by
  unfold fX4_markedCells
  rw [a_marked o q, Option.bind_some, a_bits (Nat.or_lt_two_pow (tt_b o) (tt_w o)), Option.bind_some, cntN_or (dj t)]
  rfl
theorem c_mk1 {M : OM} {t : Tb} (o : tbOK t) (h9 : M.1 9 = nI t.h) (h10 : M.1 10 = nI t.w) (hk : ∀ j, j < t.h * t.w → M.2.1 15 j = nI (t.mk j)) : fX6_marked M (1 : Int32) = some (nI t.bl) := c_marked h9 h10 o.hm (fun j hj => ⟨hk j hj, o.mk3 j⟩) (how := 1) (by decide)
theorem c_mk2 {M : OM} {t : Tb} (o : tbOK t) (h9 : M.1 9 = nI t.h) (h10 : M.1 10 = nI t.w) (hk : ∀ j, j < t.h * t.w → M.2.1 15 j = nI (t.mk j)) : fX6_marked M (2 : Int32) = some (nI t.wt) := c_marked h9 h10 o.hm (fun j hj => ⟨hk j hj, o.mk3 j⟩) (how := 2) (by decide)
theorem c_markedMany {M : OM} {t : Tb} (o : tbOK t) (h9 : M.1 9 = nI t.h) (h10 : M.1 10 = nI t.w) (hk : ∀ j, j < t.h * t.w → M.2.1 15 j = nI (t.mk j)) : fX6_markedMany M = some (nI t.mm) := by
  have b1 := tt_b o
  have b2 := tt_w o
  unfold fX6_markedMany
  rw [c_mk1 o h9 h10 hk, Option.bind_some, c_ones (by omega), Option.bind_some, c_mk2 o h9 h10 hk, Option.bind_some, c_ones (by omega), Option.bind_some, nI_add]
  rfl
def mk0 (t : Tb) : Tb := ⟨t.h, t.w, t.kd, t.fr, t.sc, fun _ => 0, t.sn, t.sl, t.ce, t.sk⟩
theorem msk_0 (how n : Nat) (h : 0 < how) : mskN (fun _ => 0) how n = 0 := by
  apply Nat.eq_of_testBit_eq
  intro i
  rw [mskN_tb, Nat.zero_testBit]
  simp
  omega
theorem mk0_ok {t : Tb} (o : tbOK t) : tbOK (mk0 t) := ⟨o.sz, o.cl, fun _ => (by decide : 0 < 3), o.sn6, o.se⟩
theorem c_clr (M : OM) (x : Int32) : wh (σ := Int32 × OM) (ρ := OM) (fun t => fX6_clear_L7 x t.1 t.2) 100000 ((0 : Int32), M) = some (M.1, va_up M.2.1 15 (fun j => if j < 16 then 0 else M.2.1 15 j), M.2.2.1, M.2.2.2) := by
  refine wh_for0 (fun k => (nI k, (M.1, va_up M.2.1 15 (fun j => if j < k then 0 else M.2.1 15 j), M.2.2.1, M.2.2.2))) 16 ?_ (by decide) ?_ ?_
  · rw [zr_0, vu_id]; rfl
  · intro k hk
    have o1 := okI_t hk (by decide)
    have c1 : ¬ (16 : Int32) ≤ nI k := by rw [show (16 : Int32) = nI 16 from rfl, nI_leI (by omega) (by omega)]; omega
    have cl : (nI k).toNatClampNeg = k := nI_clamp (by omega)
    show fX6_clear_L7 x (nI k) (M.1, va_up M.2.1 15 (fun j => if j < k then 0 else M.2.1 15 j), M.2.2.1, M.2.2.2) = _
    unfold fX6_clear_L7
    rw [if_neg c1, if_pos o1, cl, nI_1]
    show some (Sum.inl (nI (k + 1), (M.1, va_up (va_up M.2.1 15 (fun j => if j < k then 0 else M.2.1 15 j)) 15 (upd (fun j => if j < k then 0 else M.2.1 15 j) k 0), M.2.2.1, M.2.2.2))) = _
    rw [vu_u, zr_i]
  · show fX6_clear_L7 x (nI 16) (M.1, va_up M.2.1 15 (fun j => if j < 16 then 0 else M.2.1 15 j), M.2.2.1, M.2.2.2) = _
    unfold fX6_clear_L7
    rw [if_pos (by decide)]
theorem op_clear : opL9 Rel := by
  rintro n E M ⟨A, o, es, ec, ms, mc⟩
  refine ⟨nI A.t.mm, (va_up E.1 7 1, va_up E.2 1 (va_up (va_up (E.2 1).1 5 0) 6 0, (E.2 1).2)), (va_up M.1 20 1, va_up M.2.1 15 (fun j => if j < 16 then 0 else M.2.1 15 j), M.2.2.1, M.2.2.2), ?_, ?_, ⟨A.ps, A.pc, mk0 A.t, A.br, A.hd, A.od, A.im, A.k⟩, ?_, ?_, nstale rfl, ?_, mstale rfl⟩
  · unfold fX5_clear
    rw [a_markedCells o.t es.t, Option.bind_some]
    rfl
  · unfold fX6_clear
    rw [c_markedMany o.t ms.h ms.w ms.t.mk, Option.bind_some, c_clr, Option.bind_some]
    rfl
  · exact ⟨o.ps, o.pc, mk0_ok o.t, o.dn.br, o.hd, o.od, o.im⟩
  · refine ⟨es.ps, es.pc, ⟨es.t.h, es.t.w, es.t.cl, ?_, ?_, es.t.sn, es.t.se⟩, es.br, es.hd, es.od, es.im, es.k⟩
    · show (0 : Int32) = nI (mskN (fun _ => 0) 1 _)
      rw [msk_0 1 _ (by decide)]; rfl
    · show (0 : Int32) = nI (mskN (fun _ => 0) 2 _)
      rw [msk_0 2 _ (by decide)]; rfl
  · refine ⟨ms.ps, ms.pc, ms.h, ms.w, ⟨ms.t.cl, ?_, ms.t.se⟩, ms.sn, ms.br, ms.hd, ms.od, fun i => ⟨(ms.k i).1, (ms.k i).2.1, (ms.k i).2.2.cl, (ms.k i).2.2.mk, (ms.k i).2.2.se⟩, ms.nk⟩
    intro j hj
    have hm := o.t.hm
    have hj2 : j < A.t.h * A.t.w := hj
    show (if j < 16 then (0 : Int32) else M.2.1 15 j) = nI 0
    rw [if_pos (by omega)]
    rfl
/-! clues -/
def msN (len f : Nat) : Nat := if f = 0 then 0 else len - f - 1
def dbN (k : Nat) : Bool := k == 1 || k == 4
theorem ms_1 : ((List.range 5).all fun len => (List.range 5).all fun f => decide (f ≤ len → fX1_mostSecond (nI len) (nI f) = some (nI (msN len f)) ∧ fX6_mostSecond (nI f) (nI len) = some (nI (msN len f)))) = true := by decide +kernel
theorem db_1 : ((List.range 5).all fun k => decide (fX1_hasSecond (nI k) = some (nI (dbN k).toNat) ∧ fX6_isDouble (nI k) = some (nI (dbN k).toNat))) = true := by decide +kernel
theorem op_clue : opL10 Rel := by
  rintro n E M x y z u ⟨A, o, es, ec, ms, mc⟩
  have hR : Rel n E M := ⟨A, o.dn, es, ec, ms, mc⟩
  have h1 := a_line o.t es x
  have h2 := m_line o.t ms x
  by_cases a : 0 ≤ x.toInt ∧ x.toInt < ((A.t.h + A.t.w : Nat) : Int)
  · obtain ⟨l, hl, rfl⟩ := nI_of3 a
    have hl8 := o.t.hl
    have h3 := a_length es.t.h es.t.w o.t.hh (show l < 2 ^ 31 by omega)
    have h4 := c_cellsOf ms.h ms.w o.t.hh (show l < 2 ^ 31 by omega)
    have hlen := lenN_le (l := l) o.t.hh o.t.hw
    generalize lenN A.t.h A.t.w l = len at h3 h4 hlen
    have o1 := okI_t (show l < 8 by omega) (by decide)
    have cl : (nI l).toNatClampNeg = l := nI_clamp (by omega)
    obtain ⟨q1, q2, q3⟩ := es.t.cl l hl
    obtain ⟨p1, p2, p3⟩ := ms.t.cl l hl
    have ek := c_inL y 0 4 (a' := 0) (b' := 4) (p := 0) (q := 4) rfl rfl rfl rfl
    have ef := c_inL z 0 (nI len) (a' := 0) (b' := (nI len).toInt64) (p := 0) (q := len) rfl rfl rfl (nI_toInt (by omega))
    have jy1 : y < 0 ↔ y.toInt < 0 := i_lt _ _
    have jy2 : (5 : Int32) ≤ y ↔ 5 ≤ y.toInt := i_le _ _
    have jz1 : z < 0 ↔ z.toInt < 0 := i_lt _ _
    have jz2 : z ≤ nI len ↔ z.toInt ≤ len := by rw [i_le, nI_toInt (by omega)]
    have ju1 : u < 0 ↔ u.toInt < 0 := i_lt _ _
    by_cases b : 0 ≤ y.toInt ∧ y.toInt ≤ 4
    · obtain ⟨k, hk, rfl⟩ := nI_of3 (x := y) (n := 5) (by omega)
      have b1 : ¬ nI k < 0 := by rw [jy1]; omega
      have b2 : ¬ (5 : Int32) ≤ nI k := by rw [jy2]; omega
      have kk : fX1_isKind (nI k) = some 1 := by unfold fX1_isKind; rw [if_neg b1, if_neg b2]
      by_cases c : 0 ≤ z.toInt ∧ z.toInt ≤ len
      · obtain ⟨f, hf, rfl⟩ := nI_of3 (x := z) (n := len + 1) (by omega)
        have c1 : ¬ nI f < 0 := by rw [jz1]; omega
        have c2 : nI f ≤ nI len := by rw [jz2]; omega
        obtain ⟨m1, m2⟩ := la2 ms_1 (show len < 5 by omega) (show f < 5 by omega) (by omega)
        obtain ⟨d1, d2⟩ := la1 db_1 hk
        -- the greatest second
        have top : ∃ s, s < 4 ∧ (f = 0 → s = 0) ∧ fX1_allows (nI len) (nI k) (nI f) u = (if u < 0 then some 0 else fX1_allows_J39 (nI s) u) ∧ fX6_clue M (nI l) (nI k) (nI f) u = fX6_clue_J63 (nI l) (nI k) (nI f) u (nI s).toInt64 0 u.toInt64 M := by
          by_cases e : dbN k = true
          · rw [e] at d1 d2
            refine ⟨msN len f, by unfold msN; split <;> omega, fun q => by unfold msN; rw [if_pos q], ?_, ?_⟩
            · unfold fX1_allows
              rw [kk, Option.bind_some, if_neg (by decide), if_neg c1, if_pos c2, d1, Option.bind_some, if_neg (show ¬ nI true.toNat = 0 by decide), m1, Option.bind_some]
            · unfold fX6_clue
              rw [h2, Option.bind_some, if_neg (izn a), ek, Option.bind_some, if_neg (izn b), h4, Option.bind_some, ef, Option.bind_some, if_neg (izn c), d2, Option.bind_some, if_neg (show ¬ nI true.toNat = 0 by decide), Option.bind_some, m2, Option.bind_some]
          · have e : dbN k = false := by simpa using e
            rw [e] at d1 d2
            refine ⟨0, by decide, fun _ => rfl, ?_, ?_⟩
            · unfold fX1_allows
              rw [kk, Option.bind_some, if_neg (by decide), if_neg c1, if_pos c2, d1, Option.bind_some, if_pos (show nI false.toNat = 0 from rfl)]
              rfl
            · unfold fX6_clue
              rw [h2, Option.bind_some, if_neg (izn a), ek, Option.bind_some, if_neg (izn b), h4, Option.bind_some, ef, Option.bind_some, if_neg (izn c), d2, Option.bind_some, if_pos (show nI false.toNat = 0 from rfl)]
              rfl
        obtain ⟨s, hs, hs0, t1, t2⟩ := top
        have es2 := c_inL u 0 (nI s) (a' := 0) (b' := (nI s).toInt64) (p := 0) (q := s) rfl rfl rfl (nI_toInt (by omega))
        have ju2 : nI s < u ↔ (s : Int) < u.toInt := by rw [i_lt, nI_toInt (by omega)]
        by_cases d : 0 ≤ u.toInt ∧ u.toInt ≤ s
        · obtain ⟨g, hg, rfl⟩ := nI_of3 (x := u) (n := s + 1) (by omega)
          have al : fX1_allows (nI len) (nI k) (nI f) (nI g) = some 1 := by
            rw [t1, if_neg (by rw [ju1]; omega)]
            unfold fX1_allows_J39
            rw [if_neg (by rw [ju2]; omega)]
          refine ⟨nI (A.t.kd l), (va_up E.1 7 1, va_up E.2 1 ((E.2 1).1, va_up (va_up (va_up (E.2 1).2 2 (upd ((E.2 1).2 2) l (nI k))) 3 (upd ((E.2 1).2 3) l (nI f))) 4 (upd ((E.2 1).2 4) l (nI g)))), (va_up M.1 20 1, va_up (va_up (va_up M.2.1 12 (upd (M.2.1 12) l (nI k))) 13 (upd (M.2.1 13) l (nI f))) 14 (upd (M.2.1 14) l (nI g)), M.2.2.1, M.2.2.2), ?_, ?_, ⟨A.ps, A.pc, ⟨A.t.h, A.t.w, fun j => if j = l then k else A.t.kd j, fun j => if j = l then f else A.t.fr j, fun j => if j = l then g else A.t.sc j, A.t.mk, A.t.sn, A.t.sl, A.t.ce, A.t.sk⟩, A.br, A.hd, A.od, A.im, A.k⟩, ?_, ?_, nstale rfl, ?_, mstale rfl⟩
          · unfold fX5_clue
            rw [h1, Option.bind_some, if_neg (izn a), h3, Option.bind_some, al, Option.bind_some, if_neg (by decide), if_pos o1, cl, q1]
            unfold fX4_setClue
            rw [h1, Option.bind_some, if_neg (izn a), if_pos o1, if_pos o1, if_pos o1, cl, Option.bind_some]
          · rw [t2]
            unfold fX6_clue_J63
            rw [es2, Option.bind_some, if_neg (izn d), if_pos o1, if_pos o1, if_pos o1, if_pos o1, cl, p1]
          · refine ⟨o.ps, o.pc, ⟨o.t.sz, ?_, o.t.mk3, o.t.sn6, o.t.se⟩, o.dn.br, o.hd, o.od, o.im⟩
            intro j hj
            show (if j = l then k else A.t.kd j) < 5 ∧ (if j = l then f else A.t.fr j) < 5 ∧ (if j = l then g else A.t.sc j) < 5 ∧ ((if j = l then f else A.t.fr j) = 0 → (if j = l then g else A.t.sc j) = 0)
            by_cases q : j = l
            · rw [if_pos q, if_pos q, if_pos q]
              exact ⟨hk, by omega, by omega, fun q0 => by have := hs0 q0; omega⟩
            · rw [if_neg q, if_neg q, if_neg q]
              exact o.t.cl j hj
          · refine ⟨es.ps, es.pc, ⟨es.t.h, es.t.w, ?_, es.t.b, es.t.wh, es.t.sn, es.t.se⟩, es.br, es.hd, es.od, es.im, es.k⟩
            intro j hj
            show upd ((E.2 1).2 2) l (nI k) j = nI (if j = l then k else A.t.kd j) ∧ upd ((E.2 1).2 3) l (nI f) j = nI (if j = l then f else A.t.fr j) ∧ upd ((E.2 1).2 4) l (nI g) j = nI (if j = l then g else A.t.sc j)
            by_cases q : j = l
            · rw [if_pos q, if_pos q, if_pos q, q, up_s, up_s, up_s]
              exact ⟨rfl, rfl, rfl⟩
            · rw [if_neg q, if_neg q, if_neg q, up_n _ _ q, up_n _ _ q, up_n _ _ q]
              exact es.t.cl j hj
          · refine ⟨ms.ps, ms.pc, ms.h, ms.w, ⟨?_, ms.t.mk, ms.t.se⟩, ms.sn, ms.br, ms.hd, ms.od, fun i => ⟨(ms.k i).1, (ms.k i).2.1, (ms.k i).2.2.cl, (ms.k i).2.2.mk, (ms.k i).2.2.se⟩, ms.nk⟩
            intro j hj
            show upd (M.2.1 12) l (nI k) j = nI (if j = l then k else A.t.kd j) ∧ upd (M.2.1 13) l (nI f) j = nI (if j = l then f else A.t.fr j) ∧ upd (M.2.1 14) l (nI g) j = nI (if j = l then g else A.t.sc j)
            by_cases q : j = l
            · rw [if_pos q, if_pos q, if_pos q, q, up_s, up_s, up_s]
              exact ⟨rfl, rfl, rfl⟩
            · rw [if_neg q, if_neg q, if_neg q, up_n _ _ q, up_n _ _ q, up_n _ _ q]
              exact ms.t.cl j hj
        · refine ⟨-102, E, M, ?_, ?_, hR⟩
          · have al : fX1_allows (nI len) (nI k) (nI f) u = some 0 := by
              rw [t1]
              by_cases v : u < 0
              · rw [if_pos v]
              · rw [if_neg v]
                unfold fX1_allows_J39
                rw [if_pos (by rw [ju2]; rw [ju1] at v; omega)]
            unfold fX5_clue
            rw [h1, Option.bind_some, if_neg (izn a), h3, Option.bind_some, al, Option.bind_some, if_pos rfl]
          · rw [t2]
            unfold fX6_clue_J63
            rw [es2, Option.bind_some, if_pos (iz0 d)]
      · refine ⟨-102, E, M, ?_, ?_, hR⟩
        · have al : fX1_allows (nI len) (nI k) z u = some 0 := by
            unfold fX1_allows
            rw [kk, Option.bind_some, if_neg (by decide)]
            by_cases v : z < 0
            · rw [if_pos v]
            · rw [if_neg v, if_neg (by rw [jz2]; rw [jz1] at v; omega)]
          unfold fX5_clue
          rw [h1, Option.bind_some, if_neg (izn a), h3, Option.bind_some, al, Option.bind_some, if_pos rfl]
        · unfold fX6_clue
          rw [h2, Option.bind_some, if_neg (izn a), ek, Option.bind_some, if_neg (izn b), h4, Option.bind_some, ef, Option.bind_some, if_pos (iz0 c)]
    · refine ⟨-102, E, M, ?_, ?_, hR⟩
      · have al : fX1_allows (nI len) y z u = some 0 := by
          unfold fX1_allows fX1_isKind
          by_cases v : y < 0
          · rw [if_pos v, Option.bind_some, if_pos rfl]
          · rw [if_neg v, if_pos (by rw [jy2]; rw [jy1] at v; omega), Option.bind_some, if_pos rfl]
        unfold fX5_clue
        rw [h1, Option.bind_some, if_neg (izn a), h3, Option.bind_some, al, Option.bind_some, if_pos rfl]
      · unfold fX6_clue
        rw [h2, Option.bind_some, if_neg (izn a), ek, Option.bind_some, if_pos (iz0 b)]
  · refine ⟨-101, E, M, ?_, ?_, hR⟩
    · unfold fX5_clue
      rw [h1, Option.bind_some, if_pos (iz0 a)]
    · unfold fX6_clue
      rw [h2, Option.bind_some, if_pos (iz0 a)]
