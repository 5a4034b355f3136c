/-! letter, blank, forget, as, keeps, see -/
theorem abOK.dn {n : Nat} {A : Ab} (o : abOK (n + 1) A) : abOK n A := ⟨o.ps, o.pc, o.t, by have := o.br; omega, o.hd, o.od, o.im⟩
theorem rel_dn (n : Nat) (E : OE) (M : OM) : Rel (n + 1) E M → Rel n E M := fun ⟨A, o, r⟩ => ⟨A, o.dn, r⟩
theorem i_le (x y : Int32) : x ≤ y ↔ x.toInt ≤ y.toInt := Int32.le_iff_toInt_le
theorem i_lt (x y : Int32) : x < y ↔ x.toInt < y.toInt := Int32.lt_iff_toInt_lt
theorem c_inL (x a b : Int32) {a' b' : Int64} {p q : Int} (ha : a' = a.toInt64) (hb : b' = b.toInt64) (hp : a.toInt = p) (hq : b.toInt = q) : fX6_in x.toInt64 a' b' = some (iz (p ≤ x.toInt ∧ x.toInt ≤ q)) := by
  subst ha hb hp hq
  exact c_in32 x a b
theorem iz0 {p : Prop} [Decidable p] (h : ¬ p) : iz p = 0 := if_neg h
theorem izn {p : Prop} [Decidable p] (h : p) : ¬ iz p = 0 := by rw [iz_t h]; decide
theorem nar_c {j : Nat} (hj : j < 65536) : vp_nar .char (((nI j).toUInt32 % 65536).toInt32) = nI j := by
  rw [pk_vc, pk_char, pk_tn (by omega), Nat.mod_eq_of_lt hj]
theorem op_letter : opL0 Rel := by
  rintro n E M x ⟨A, o, es, ec, ms, mc⟩
  have ein := c_inL x 1 126 (a' := 1) (b' := 126) (p := 1) (q := 126) rfl rfl rfl rfl
  have i1 : x < (1 : Int32) ↔ x.toInt < 1 := i_lt _ _
  have i2 : x ≤ (126 : Int32) ↔ x.toInt ≤ 126 := i_le _ _
  have ops := o.ps
  by_cases a : 1 ≤ x.toInt ∧ x.toInt ≤ 126
  · have c1 : ¬ x < (1 : Int32) := by rw [i1]; omega
    have c2 : x ≤ (126 : Int32) := by rw [i2]; omega
    have c3 : nI A.ps < (36 : Int32) ↔ A.ps < 36 := nI_ltI (b := 36) (by omega) (by decide)
    have c4 : nI A.ps = (36 : Int32) ↔ A.ps = 36 := nI_eq (b := 36) (by omega) (by decide)
    obtain ⟨j, hj, rfl⟩ := nI_of3 (x := x) (n := 127) (by omega)
    have hj1 : 1 ≤ j := by have := a.1; rw [nI_toInt (by omega)] at this; omega
    by_cases b : A.ps = 36
    · refine ⟨-104, E, M, ?_, ?_, A, o.dn, es, ec, ms, mc⟩
      · unfold fX5_letter
        rw [if_neg c1, if_pos c2, es.ps, if_neg (by rw [c3]; omega)]
      · unfold fX6_letter
        rw [ein, Option.bind_some, if_neg (izn a), ms.ps, if_pos (c4.mpr b)]
    · have hlt : A.ps < 36 := by omega
      have o1 := okI_t hlt (by decide)
      have cl : (nI A.ps).toNatClampNeg = A.ps := nI_clamp (by omega)
      refine ⟨nI (A.ps + 1), (E.1, va_up E.2 0 (va_up (E.2 0).1 1 (nI (A.ps + 1)), va_up (E.2 0).2 0 (upd ((E.2 0).2 0) A.ps (nI j)))), (va_up M.1 1 (nI (A.ps + 1)), va_up M.2.1 0 (upd (M.2.1 0) A.ps (nI j)), M.2.2.1, M.2.2.2), ?_, ?_, ⟨A.ps + 1, fun i => if i = A.ps then j else A.pc i, A.t, A.br, A.hd, A.od, A.im, A.k⟩, ?_, ?_, ec, ?_, ?_⟩
      · unfold fX5_letter fX2_add
        rw [if_neg c1, if_pos c2, es.ps, if_pos (c3.mpr hlt), if_pos (show nI A.ps < Int32.ofNat 36 from c3.mpr hlt), if_pos o1, cl, nar_c (by omega), Option.bind_some]
        rw [show (1 : Int32) = nI 1 from rfl, nI_add]
        rfl
      · unfold fX6_letter
        rw [ein, Option.bind_some, if_neg (izn a), ms.ps, if_neg (fun q => b (c4.mp q)), if_pos o1, cl]
        rw [show (1 : Int32) = nI 1 from rfl, nI_add]
      · refine ⟨hlt, ?_, o.t, by have := o.br; show A.br + n ≤ 3000; omega, o.hd, o.od, o.im⟩
        intro i hi
        show 1 ≤ (if i = A.ps then j else A.pc i) ∧ (if i = A.ps then j else A.pc i) ≤ 126
        by_cases q : i = A.ps
        · rw [if_pos q]; omega
        · rw [if_neg q]
          exact o.pc i (by have : i < A.ps + 1 := hi; omega)
      · refine ⟨rfl, ?_, es.t, es.br, es.hd, es.od, es.im, es.k⟩
        intro i hi
        show upd ((E.2 0).2 0) A.ps (nI j) i = nI (if i = A.ps then j else A.pc i)
        by_cases q : i = A.ps
        · rw [if_pos q, q, up_s]
        · rw [if_neg q, up_n _ _ q]
          exact es.pc i (by have : i < A.ps + 1 := hi; omega)
      · refine ⟨rfl, ?_, ms.h, ms.w, ⟨ms.t.cl, ms.t.mk, ms.t.se⟩, ms.sn, ms.br, ms.hd, ms.od, fun i => ?_, ms.nk⟩
        · intro i hi
          show upd (M.2.1 0) A.ps (nI j) i = nI (if i = A.ps then j else A.pc i)
          by_cases q : i = A.ps
          · rw [if_pos q, q, up_s]
          · rw [if_neg q, up_n _ _ q]
            exact ms.pc i (by have : i < A.ps + 1 := hi; omega)
        · obtain ⟨k1, k2, k3⟩ := ms.k i
          exact ⟨k1, k2, k3.cl, k3.mk, k3.se⟩
      · intro q
        obtain ⟨f1, f2, f3⟩ := mc q
        exact ⟨f1, f2, f3⟩
  · refine ⟨-102, E, M, ?_, ?_, A, o.dn, es, ec, ms, mc⟩
    · unfold fX5_letter
      by_cases b : x.toInt < 1
      · rw [if_pos (i1.mpr b)]
      · rw [if_neg (fun q => b (i1.mp q)), if_neg (fun q => a ⟨by omega, i2.mp q⟩)]
    · unfold fX6_letter
      rw [ein, Option.bind_some, if_pos (iz0 a)]
theorem op_blank : opL1 Rel := by
  rintro n E M ⟨A, o, es, ec, ms, mc⟩
  refine ⟨nI A.ps, (E.1, va_up E.2 0 (va_up (E.2 0).1 1 0, (E.2 0).2)), (va_up M.1 1 0, M.2.1, M.2.2.1, M.2.2.2), ?_, ?_, ⟨0, A.pc, A.t, A.br, A.hd, A.od, A.im, A.k⟩, ?_, ?_, ec, ?_, ?_⟩
  · unfold fX5_blank; rw [es.ps]
  · unfold fX6_blank; rw [ms.ps]
  · exact ⟨Nat.zero_le _, fun i hi => absurd hi (Nat.not_lt_zero _), o.t, by have := o.br; show A.br + n ≤ 3000; omega, o.hd, o.od, o.im⟩
  · exact ⟨rfl, fun i hi => absurd hi (Nat.not_lt_zero _), es.t, es.br, es.hd, es.od, es.im, es.k⟩
  · exact ⟨rfl, fun i hi => absurd hi (Nat.not_lt_zero _), ms.h, ms.w, ms.t, ms.sn, ms.br, ms.hd, ms.od, ms.k, ms.nk⟩
  · exact fun q => ⟨(mc q).n, (mc q).b, (mc q).wk⟩
theorem op_forget : opL18 Rel := by
  rintro n E M ⟨A, o, es, ec, ms, mc⟩
  refine ⟨nI A.t.sn, (E.1, va_up E.2 1 (va_up (E.2 1).1 10 0, (E.2 1).2)), (va_up M.1 28 0, M.2.1, M.2.2.1, M.2.2.2), ?_, ?_, ⟨A.ps, A.pc, ⟨A.t.h, A.t.w, A.t.kd, A.t.fr, A.t.sc, A.t.mk, 0, A.t.sl, A.t.ce, A.t.sk⟩, A.br, A.hd, A.od, A.im, A.k⟩, ?_, ?_, ec, ?_, ?_⟩
  · unfold fX5_forget; rw [es.t.sn]
  · unfold fX6_forget; rw [ms.sn]
  · exact ⟨o.ps, o.pc, ⟨o.t.sz, o.t.cl, o.t.mk3, Nat.zero_le _, fun i hi => absurd hi (Nat.not_lt_zero _)⟩, by have := o.br; show A.br + n ≤ 3000; omega, o.hd, o.od, o.im⟩
  · exact ⟨es.ps, es.pc, ⟨es.t.h, es.t.w, es.t.cl, es.t.b, es.t.wh, rfl, fun i hi => absurd hi (Nat.not_lt_zero _)⟩, es.br, es.hd, es.od, es.im, es.k⟩
  · exact ⟨ms.ps, ms.pc, ms.h, ms.w, ⟨ms.t.cl, ms.t.mk, fun i hi => absurd hi (Nat.not_lt_zero _)⟩, rfl, ms.br, ms.hd, ms.od, ms.k, ms.nk⟩
  · exact fun q => ⟨(mc q).n, (mc q).b, (mc q).wk⟩
theorem a_line {A : Ab} {E : OE} (o : tbOK A.t) (es : ES A E) (x : Int32) : fX4_hasLine (E.2 1) x = some (iz (0 ≤ x.toInt ∧ x.toInt < ((A.t.h + A.t.w : Nat) : Int))) := a_hasLine es.t.h es.t.w o.hh o.hw x
theorem m_line {A : Ab} {M : OM} (o : tbOK A.t) (ms : MS A M) (x : Int32) : fX6_isLine M x = some (iz (0 ≤ x.toInt ∧ x.toInt < ((A.t.h + A.t.w : Nat) : Int))) := c_isLine ms.h ms.w o.hh o.hw x
theorem a_cell {A : Ab} {E : OE} (o : tbOK A.t) (es : ES A E) (x : Int32) : fX4_hasCell (E.2 1) x = some (iz (0 ≤ x.toInt ∧ x.toInt < ((A.t.h * A.t.w : Nat) : Int))) := a_hasCell es.t.h es.t.w o.hh o.hw x
theorem m_cell {A : Ab} {M : OM} (o : tbOK A.t) (ms : MS A M) (x : Int32) : fX6_isCell M x = some (iz (0 ≤ x.toInt ∧ x.toInt < ((A.t.h * A.t.w : Nat) : Int))) := c_isCell ms.h ms.w o.hh o.hw x
theorem op_as : opL5 Rel := by
  rintro n E M x y ⟨A, o, es, ec, ms, mc⟩
  have hR : Rel n E M := ⟨A, o.dn, es, ec, ms, mc⟩
  have h1 := a_line o.t es x
  have h2 := m_line o.t ms x
  by_cases a : 0 ≤ x.toInt ∧ x.toInt < ((A.t.h + A.t.w : Nat) : Int)
  · have ein := c_inL y 0 4 (a' := 0) (b' := 4) (p := 0) (q := 4) rfl rfl rfl rfl
    obtain ⟨l, hl, rfl⟩ := nI_of3 a
    have hl8 := o.t.hl
    have o1 := okI_t (show l < 8 by omega) (by decide)
    have cl : (nI l).toNatClampNeg = l := nI_clamp (by omega)
    obtain ⟨q1, _, _⟩ := es.t.cl l hl
    obtain ⟨p1, _, _⟩ := ms.t.cl l hl
    have j1 : y < 0 ↔ y.toInt < 0 := i_lt _ _
    have j2 : (5 : Int32) ≤ y ↔ 5 ≤ y.toInt := i_le _ _
    by_cases b : 0 ≤ y.toInt ∧ y.toInt ≤ 4
    · have b1 : ¬ y < 0 := by rw [j1]; omega
      have b2 : ¬ (5 : Int32) ≤ y := by rw [j2]; omega
      have kk : fX1_isKind y = some 1 := by unfold fX1_isKind; rw [if_neg b1, if_neg b2]
      by_cases d1 : y = 0
      · refine ⟨nI l, ?_, ?_, hR⟩
        · subst d1
          simp only [fX5_as, h1, Option.bind_some, izn a, if_false, kk, o1, if_true, cl, q1, fX1_isSuch, show ¬ (1 : Int32) = 0 by decide]
        · subst d1
          simp only [fX6_as, h2, Option.bind_some, izn a, if_false, ein, izn b, if_true, fX6_as_J55, fX6_as_J60, show ¬ (1 : Int32) = 0 by decide]
      · by_cases d2 : y = nI (A.t.kd l)
        · refine ⟨nI l, ?_, ?_, hR⟩
          · simp only [fX5_as, h1, Option.bind_some, izn a, if_false, kk, o1, if_true, cl, q1, fX1_isSuch, d1, ← d2, show ¬ (1 : Int32) = 0 by decide]
          · simp only [fX6_as, h2, Option.bind_some, izn a, if_false, ein, izn b, d1, o1, cl, p1, ← d2, if_true, fX6_as_J55, fX6_as_J60, show ¬ (1 : Int32) = 0 by decide]
        · by_cases d3 : y = 1
          · by_cases d4 : nI (A.t.kd l) = 4
            · refine ⟨nI l, ?_, ?_, hR⟩
              · subst d3
                simp only [fX5_as, h1, Option.bind_some, izn a, if_false, kk, o1, if_true, cl, q1, fX1_isSuch, d4, show ¬ (1 : Int32) = 0 by decide, show ¬ (1 : Int32) = 4 by decide]
              · subst d3
                simp only [fX6_as, h2, Option.bind_some, izn a, if_false, ein, izn b, d4, o1, cl, p1, if_true, fX6_as_J55, fX6_as_J60, show ¬ (1 : Int32) = 0 by decide, show ¬ (1 : Int32) = 4 by decide]
            · refine ⟨-1, ?_, ?_, hR⟩
              · subst d3
                simp only [fX5_as, h1, Option.bind_some, izn a, if_false, kk, o1, if_true, cl, q1, fX1_isSuch, d2, d4, show ¬ (1 : Int32) = 0 by decide]
              · subst d3
                simp only [fX6_as, h2, Option.bind_some, izn a, if_false, ein, izn b, d2, d4, o1, cl, p1, if_true, fX6_as_J59, fX6_as_J60, show ¬ (1 : Int32) = 0 by decide]
          · refine ⟨-1, ?_, ?_, hR⟩
            · simp only [fX5_as, h1, Option.bind_some, izn a, if_false, kk, o1, if_true, cl, q1, fX1_isSuch, d1, d2, d3, show ¬ (1 : Int32) = 0 by decide]
            · simp only [fX6_as, h2, Option.bind_some, izn a, if_false, ein, izn b, d1, d2, d3, o1, cl, p1, if_true, fX6_as_J59, fX6_as_J60]
    · refine ⟨-102, ?_, ?_, hR⟩
      · have kk : fX1_isKind y = some 0 := by
          unfold fX1_isKind
          by_cases b1 : y < 0
          · rw [if_pos b1]
          · rw [if_neg b1, if_pos (j2.mpr (by rw [j1] at b1; omega))]
        simp only [fX5_as, h1, Option.bind_some, izn a, if_false, kk, if_true]
      · simp only [fX6_as, h2, Option.bind_some, izn a, if_false, ein, iz0 b, if_true]
  · refine ⟨-101, ?_, ?_, hR⟩
    · unfold fX5_as
      rw [h1, Option.bind_some, if_pos (iz0 a)]
    · unfold fX6_as
      rw [h2, Option.bind_some, if_pos (iz0 a)]
theorem MC_fr {A : Ab} {M : OM} (mc : MC A M) (f : Nat → Int32) (h20 : f 20 = M.1 20) (h22 : f 22 = M.1 22) (h9 : f 9 = M.1 9) (h10 : f 10 = M.1 10) : MC A (f, M.2.1, M.2.2.1, M.2.2.2) := fun q => by
  have k := mc (h20.symm.trans q)
  exact ⟨h22.trans k.n, k.b, h9.trans k.wk.1, h10.trans k.wk.2.1, k.wk.2.2.1, k.wk.2.2.2⟩
theorem MS_run {A : Ab} {M : OM} (ms : MS A M) (t : Nat × Nat × Nat × Nat × Nat) : MS A (runF M.1 t, M.2.1, M.2.2.1, M.2.2.2) := MS_fr ms ⟨fr1_run fr1_rfl (by decide) (by decide) (by decide) (by decide), fr1_rfl, rfl⟩
theorem MC_run {A : Ab} {M : OM} (mc : MC A M) (t : Nat × Nat × Nat × Nat × Nat) : MC A (runF M.1 t, M.2.1, M.2.2.1, M.2.2.2) := MC_fr mc _ (runF_o (by decide)) (runF_o (by decide)) (runF_o (by decide)) (runF_o (by decide))
theorem op_keeps : opL7 Rel := by
  rintro n E M x y ⟨A, o, es, ec, ms, mc⟩
  have hR : Rel n E M := ⟨A, o.dn, es, ec, ms, mc⟩
  have h1 := a_line o.t es x
  have h2 := m_line o.t ms x
  by_cases a : 0 ≤ x.toInt ∧ x.toInt < ((A.t.h + A.t.w : Nat) : Int)
  · obtain ⟨l, hl, rfl⟩ := nI_of3 a
    have hl8 := o.t.hl
    have o1 := okI_t (show l < 8 by omega) (by decide)
    have cl : (nI l).toNatClampNeg = l := nI_clamp (by omega)
    obtain ⟨q1, q2, q3⟩ := es.t.cl l hl
    obtain ⟨p1, p2, p3⟩ := ms.t.cl l hl
    obtain ⟨k1, k2, k3, k4⟩ := o.t.cl l hl
    have h3 := a_hasCellsOf es.t.h es.t.w o.t.hh o.t.hw (show l < 2 ^ 31 by omega) y
    have h4 := c_cellsOf ms.h ms.w o.t.hh (show l < 2 ^ 31 by omega)
    have h5 := c_inCells (l := l) o.t.hh o.t.hw y
    by_cases b : 0 ≤ y.toInt ∧ y.toInt < ((2 ^ lenN A.t.h A.t.w l : Nat) : Int)
    · obtain ⟨c, hc, rfl⟩ := nI_of3 b
      have hc16 : c < 16 := Nat.lt_of_lt_of_le hc (pw_le (b := 4) (lenN_le o.t.hh o.t.hw))
      have e1 := a_isKept k1 k2 k3 k4 hc16
      have e2 := c_keepsOf (show l < 8 by omega) p1 p2 p3 k1 k2 k3 hc16
      refine ⟨nI (keptN (A.t.kd l) (A.t.fr l) (A.t.sc l) c).toNat, (runF M.1 (rsN c 5), M.2.1, M.2.2.1, M.2.2.2), ?_, ?_, A, o.dn, es, ec, MS_run ms _, MC_run mc _⟩
      · unfold fX5_keeps
        rw [h1, Option.bind_some, if_neg (izn a), h3, Option.bind_some, if_neg (izn b), if_pos o1, if_pos o1, if_pos o1, cl, q1, q2, q3, e1, Option.bind_some]
        cases keptN (A.t.kd l) (A.t.fr l) (A.t.sc l) c
        · rw [if_pos (by decide)]; rfl
        · rw [if_neg (by decide)]; rfl
      · unfold fX6_keeps
        rw [h2, Option.bind_some, if_neg (izn a), h4, Option.bind_some, h5, Option.bind_some, if_neg (izn b), e2, Option.bind_some]
    · refine ⟨-102, M, ?_, ?_, hR⟩
      · unfold fX5_keeps
        rw [h1, Option.bind_some, if_neg (izn a), h3, Option.bind_some, if_pos (iz0 b)]
      · unfold fX6_keeps
        rw [h2, Option.bind_some, if_neg (izn a), h4, Option.bind_some, h5, Option.bind_some, if_pos (iz0 b)]
  · refine ⟨-101, M, ?_, ?_, hR⟩
    · unfold fX5_keeps
      rw [h1, Option.bind_some, if_pos (iz0 a)]
    · unfold fX6_keeps
      rw [h2, Option.bind_some, if_pos (iz0 a)]
theorem op_see : opL17 Rel := by
  rintro n E M x y z hz ⟨A, o, es, ec, ms, mc⟩
  have hR : Rel n E M := ⟨A, o.dn, es, ec, ms, mc⟩
  have h1 := a_line o.t es x
  have h2 := m_line o.t ms x
  by_cases a : 0 ≤ x.toInt ∧ x.toInt < ((A.t.h + A.t.w : Nat) : Int)
  · obtain ⟨l, hl, rfl⟩ := nI_of3 a
    have hl8 := o.t.hl
    have h3 := a_hasCellsOf es.t.h es.t.w o.t.hh o.t.hw (show l < 2 ^ 31 by omega) y
    have h4 := c_cellsOf ms.h ms.w o.t.hh (show l < 2 ^ 31 by omega)
    have h5 := c_inCells (l := l) o.t.hh o.t.hw y
    by_cases b : 0 ≤ y.toInt ∧ y.toInt < ((2 ^ lenN A.t.h A.t.w l : Nat) : Int)
    · obtain ⟨c, hc, rfl⟩ := nI_of3 b
      have hc16 : c < 16 := Nat.lt_of_lt_of_le hc (pw_le (b := 4) (lenN_le o.t.hh o.t.hw))
      have hs6 := o.t.sn6
      have c1 : nI A.t.sn < (6 : Int32) ↔ A.t.sn < 6 := nI_ltI (b := 6) (by omega) (by decide)
      have c2 : nI A.t.sn = (6 : Int32) ↔ A.t.sn = 6 := nI_eq (b := 6) (by omega) (by decide)
      by_cases d : A.t.sn = 6
      · refine ⟨-104, E, M, ?_, ?_, hR⟩
        · unfold fX5_see
          rw [h1, Option.bind_some, if_neg (izn a), h3, Option.bind_some, if_neg (izn b), es.t.sn, if_neg (by rw [c1]; omega)]
        · unfold fX6_see
          rw [h2, Option.bind_some, if_neg (izn a), h4, Option.bind_some, h5, Option.bind_some, if_neg (izn b), ms.sn, if_pos (c2.mpr d)]
      · have hlt : A.t.sn < 6 := by omega
        obtain ⟨v, hv, rfl⟩ : ∃ v, v < 2 ∧ z = nI v := by
          rcases hz with rfl | rfl
          · exact ⟨0, by decide, rfl⟩
          · exact ⟨1, by decide, rfl⟩
        have hnar : vp_nar .boolean (nI v) = nI v := by
          have : v = 0 ∨ v = 1 := by omega
          rcases this with rfl | rfl <;> rfl
        have o1 := okI_t hlt (by decide)
        have cl : (nI A.t.sn).toNatClampNeg = A.t.sn := nI_clamp (by omega)
        have m0 : (3 : Int32) * nI A.t.sn = nI (3 * A.t.sn) := pk_mul 3 _
        have m1 : nI (3 * A.t.sn) + (1 : Int32) = nI (3 * A.t.sn + 1) := nI_1 _
        have m2 : nI (3 * A.t.sn) + (2 : Int32) = nI (3 * A.t.sn + 2) := nI_add _ 2
        have k0 := okI_t (show 3 * A.t.sn < 18 by omega) (by decide)
        have k1 := okI_t (show 3 * A.t.sn + 1 < 18 by omega) (by decide)
        have k2 := okI_t (show 3 * A.t.sn + 2 < 18 by omega) (by decide)
        have cl0 : (nI (3 * A.t.sn)).toNatClampNeg = 3 * A.t.sn := nI_clamp (by omega)
        have cl1 : (nI (3 * A.t.sn + 1)).toNatClampNeg = 3 * A.t.sn + 1 := nI_clamp (by omega)
        have cl2 : (nI (3 * A.t.sn + 2)).toNatClampNeg = 3 * A.t.sn + 2 := nI_clamp (by omega)
        have es1 : nI A.t.sn + (1 : Int32) = nI (A.t.sn + 1) := nI_1 _
        refine ⟨nI (A.t.sn + 1), (E.1, va_up E.2 1 (va_up (E.2 1).1 10 (nI (A.t.sn + 1)), va_up (va_up (va_up (E.2 1).2 7 (upd ((E.2 1).2 7) A.t.sn (nI l))) 8 (upd ((E.2 1).2 8) A.t.sn (nI c))) 9 (upd ((E.2 1).2 9) A.t.sn (nI v)))), (va_up M.1 28 (nI (A.t.sn + 1)), va_up (va_up M.2.1 29 (upd (upd (M.2.1 29) (3 * A.t.sn) (nI l)) (3 * A.t.sn + 1) (nI c))) 29 (upd (upd (upd (M.2.1 29) (3 * A.t.sn) (nI l)) (3 * A.t.sn + 1) (nI c)) (3 * A.t.sn + 2) (nI v)), M.2.2.1, M.2.2.2), ?_, ?_, ⟨A.ps, A.pc, ⟨A.t.h, A.t.w, A.t.kd, A.t.fr, A.t.sc, A.t.mk, A.t.sn + 1, fun i => if i = A.t.sn then l else A.t.sl i, fun i => if i = A.t.sn then c else A.t.ce i, fun i => if i = A.t.sn then v else A.t.sk i⟩, A.br, A.hd, A.od, A.im, A.k⟩, ?_, ?_, ec, ?_, ?_⟩
        · unfold fX5_see fX4_addSeen
          rw [h1, Option.bind_some, if_neg (izn a), h3, Option.bind_some, if_neg (izn b), es.t.sn, if_pos (c1.mpr hlt), if_pos (c1.mpr hlt), if_pos o1, if_pos o1, if_pos o1, Option.bind_some, cl, hnar, es1]
          rfl
        · unfold fX6_see fX6_see_J92
          rw [h2, Option.bind_some, if_neg (izn a), h4, Option.bind_some, h5, Option.bind_some, if_neg (izn b), ms.sn, if_neg (fun q => d (c2.mp q)), m0, m1, m2, if_pos k0, if_pos k1, cl0, cl1]
          have : v = 0 ∨ v = 1 := by omega
          rcases this with rfl | rfl
          · rw [if_pos (show nI 0 = 0 from rfl), if_pos k2, cl2, es1]
            rfl
          · rw [if_neg (by decide), if_pos k2, cl2, es1]
            rfl
        · refine ⟨o.ps, o.pc, ⟨o.t.sz, o.t.cl, o.t.mk3, hlt, ?_⟩, by have := o.br; show A.br + n ≤ 3000; omega, o.hd, o.od, o.im⟩
          intro i hi
          show (if i = A.t.sn then l else A.t.sl i) < 8 ∧ (if i = A.t.sn then c else A.t.ce i) < 16 ∧ (if i = A.t.sn then v else A.t.sk i) < 2
          by_cases q : i = A.t.sn
          · rw [if_pos q, if_pos q, if_pos q]; omega
          · rw [if_neg q, if_neg q, if_neg q]
            exact o.t.se i (by have : i < A.t.sn + 1 := hi; omega)
        · refine ⟨es.ps, es.pc, ⟨es.t.h, es.t.w, es.t.cl, es.t.b, es.t.wh, rfl, ?_⟩, es.br, es.hd, es.od, es.im, es.k⟩
          intro i hi
          show upd ((E.2 1).2 7) A.t.sn (nI l) i = nI (if i = A.t.sn then l else A.t.sl i) ∧ upd ((E.2 1).2 8) A.t.sn (nI c) i = nI (if i = A.t.sn then c else A.t.ce i) ∧ upd ((E.2 1).2 9) A.t.sn (nI v) i = nI (if i = A.t.sn then v else A.t.sk i)
          by_cases q : i = A.t.sn
          · rw [if_pos q, if_pos q, if_pos q, q, up_s, up_s, up_s]
            exact ⟨rfl, rfl, rfl⟩
          · rw [if_neg q, if_neg q, if_neg q, up_n _ _ q, up_n _ _ q, up_n _ _ q]
            exact es.t.se i (by have : i < A.t.sn + 1 := hi; omega)
        · refine ⟨ms.ps, ms.pc, ms.h, ms.w, ⟨ms.t.cl, ms.t.mk, ?_⟩, rfl, ms.br, ms.hd, ms.od, fun i => ⟨(ms.k i).1, (ms.k i).2.1, (ms.k i).2.2.cl, (ms.k i).2.2.mk, (ms.k i).2.2.se⟩, ms.nk⟩
          intro i hi
          have hi2 : i < A.t.sn + 1 := hi
          show upd (upd (upd (M.2.1 29) (3 * A.t.sn) (nI l)) (3 * A.t.sn + 1) (nI c)) (3 * A.t.sn + 2) (nI v) (3 * i) = nI (if i = A.t.sn then l else A.t.sl i) ∧ upd (upd (upd (M.2.1 29) (3 * A.t.sn) (nI l)) (3 * A.t.sn + 1) (nI c)) (3 * A.t.sn + 2) (nI v) (3 * i + 1) = nI (if i = A.t.sn then c else A.t.ce i) ∧ upd (upd (upd (M.2.1 29) (3 * A.t.sn) (nI l)) (3 * A.t.sn + 1) (nI c)) (3 * A.t.sn + 2) (nI v) (3 * i + 2) = nI (if i = A.t.sn then v else A.t.sk i)
          by_cases q : i = A.t.sn
          · rw [if_pos q, if_pos q, if_pos q, q]
            refine ⟨?_, ?_, up_s _ _ _⟩
            · rw [up_n _ _ (by omega), up_n _ _ (by omega), up_s]
            · rw [up_n _ _ (by omega), up_s]
          · rw [if_neg q, if_neg q, if_neg q]
            obtain ⟨r1, r2, r3⟩ := ms.t.se i (by omega)
            refine ⟨?_, ?_, ?_⟩
            · rw [up_n _ _ (by omega), up_n _ _ (by omega), up_n _ _ (by omega)]; exact r1
            · rw [up_n _ _ (by omega), up_n _ _ (by omega), up_n _ _ (by omega)]; exact r2
            · rw [up_n _ _ (by omega), up_n _ _ (by omega), up_n _ _ (by omega)]; exact r3
        · exact fun q => ⟨(mc q).n, (mc q).b, (mc q).wk⟩
    · refine ⟨-102, E, M, ?_, ?_, hR⟩
      · unfold fX5_see
        rw [h1, Option.bind_some, if_neg (izn a), h3, Option.bind_some, if_pos (iz0 b)]
      · unfold fX6_see
        rw [h2, Option.bind_some, if_neg (izn a), h4, Option.bind_some, h5, Option.bind_some, if_pos (iz0 b)]
  · refine ⟨-101, E, M, ?_, ?_, hR⟩
    · unfold fX5_see
      rw [h1, Option.bind_some, if_pos (iz0 a)]
    · unfold fX6_see
      rw [h2, Option.bind_some, if_pos (iz0 a)]
