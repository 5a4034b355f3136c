/-! one, the reference's side -/
theorem c_oneOf {A : Ab} {M : OM} (o : tbOK A.t) (ms : MS A M) (mc : MC A M) {l : Nat} (hl : l < A.t.h + A.t.w) : ∃ M', fX6_oneOf M (nI l) = some ((match chV A.t l with | some v => nI (100 * l + v) | none => -1), M') ∧ kM A M M' := by
  have hl8 := o.hl
  have o1 := okI_t (show l < 8 by omega) (by decide)
  have cl : (nI l).toNatClampNeg = l := nI_clamp (by omega)
  obtain ⟨k1, k2, k3, k4⟩ := o.cl l hl
  have hlen := lenN_le (l := l) o.hh o.hw
  have m0 : (100 : Int32) * nI l = nI (100 * l) := pk_mul 100 l
  obtain ⟨M1, i1, w1⟩ := wh_find (body := fun u => fX6_oneOf_L2 (nI l) u.1 u.2) (kM A M) (g1N A.t l) (fun v => nI (100 * l + v)) (N := lenN A.t.h A.t.w l + 1) (n := 100000)
    (by
      intro n M2 hn i2
      obtain ⟨q1, q2, q3⟩ := i2.1.t.cl l hl
      obtain ⟨b1, b2⟩ := bh_ok o (n := n) hl
      have c1 : ¬ nI (lenN A.t.h A.t.w l) < nI n := by rw [nI_ltI (by omega) (by omega)]; omega
      have msl := msN_lt (f := n) hlen
      have c2 : nI (A.t.sc l) ≤ nI (msN (lenN A.t.h A.t.w l) n) ↔ A.t.sc l ≤ msN (lenN A.t.h A.t.w l) n := nI_leI (by omega) (by omega)
      have c3 : nI n = nI (A.t.fr l) ↔ n = A.t.fr l := nI_eq (by omega) (by omega)
      have toJ : fX6_oneOf_L2 (nI l) (nI n) M2 = fX6_oneOf_J39 (nI l) (nI n) (nI (bhN A.t l n)) M2 := by
        unfold fX6_oneOf_L2 bhN
        rw [c_cellsOf i2.1.h i2.1.w o.hh (show l < 2 ^ 31 by omega), Option.bind_some, if_neg c1, if_pos o1, Option.bind_some, (ms2 hlen (by omega)).2, Option.bind_some, cl, q3]
        by_cases a : A.t.sc l ≤ msN (lenN A.t.h A.t.w l) n
        · rw [if_pos (c2.mpr a), if_pos a, if_pos o1]
        · rw [if_neg (fun z => a (c2.mp z)), if_neg a]
          rfl
      by_cases a : n = A.t.fr l
      · refine ⟨M2, i2, ?_⟩
        show fX6_oneOf_L2 (nI l) (nI n) M2 = _
        rw [toJ]
        unfold fX6_oneOf_J39 g1N
        rw [if_pos o1, cl, q2, if_pos (c3.mpr a), if_pos a, nI_1]
      · obtain ⟨M3, p1, p2⟩ := c_isOne o i2.1 hl k1 (show n < 5 by omega) b1 b2
        refine ⟨M3, ⟨p2.1, p2.2.1, p2.2.2.trans i2.2.2⟩, ?_⟩
        show fX6_oneOf_L2 (nI l) (nI n) M2 = _
        rw [toJ]
        unfold fX6_oneOf_J39 g1N
        rw [if_pos o1, cl, q2, if_neg (fun z => a (c3.mp z)), if_neg a, if_pos o1, q1, p1, Option.bind_some, nI_1]
        dsimp only
        by_cases b : onB A.t l (A.t.kd l) n (bhN A.t l n) = true
        · rw [if_neg (izn b), if_pos b, m0, nI_add]
        · rw [if_pos (iz0 b), if_neg b])
    (by
      intro M2 i2
      show fX6_oneOf_L2 (nI l) (nI (lenN A.t.h A.t.w l + 1)) M2 = _
      unfold fX6_oneOf_L2
      rw [c_cellsOf i2.1.h i2.1.w o.hh (show l < 2 ^ 31 by omega), Option.bind_some, if_pos (by rw [nI_ltI (by omega) (by omega)]; omega)])
    (by omega) (show kM A M M from ⟨ms, mc, rfl⟩)
  obtain ⟨M4, i4, w4⟩ := wh_find (body := fun u => fX6_oneOf_L81 (nI l) u.1 u.2) (kM A M) (g2N A.t l) (fun v => nI (100 * l + v)) (N := 5) (n := 100000)
    (by
      intro n M2 hn i2
      obtain ⟨q1, q2, q3⟩ := i2.1.t.cl l hl
      have c1 : ¬ (5 : Int32) ≤ nI n := by rw [show (5 : Int32) = nI 5 from rfl, nI_leI (by omega) (by omega)]; omega
      have c3 : nI n = nI (A.t.kd l) ↔ n = A.t.kd l := nI_eq (by omega) (by omega)
      have b1 : (if dbN n = true then A.t.sc l else 0) < 5 := by split <;> omega
      have b2 : A.t.fr l = 0 → (if dbN n = true then A.t.sc l else 0) = 0 := fun q => by rw [k4 q]; split <;> rfl
      have toJ : fX6_oneOf_L81 (nI l) (nI n) M2 = fX6_oneOf_J103 (nI l) (nI n) (nI (if dbN n = true then A.t.sc l else 0)) M2 := by
        unfold fX6_oneOf_L81
        rw [if_neg c1, (la1 db_1 hn).2, Option.bind_some]
        cases dbN n with
        | true => rw [if_neg (show ¬ nI true.toNat = 0 by decide), if_pos rfl, if_pos o1, cl, q3]
        | false => rw [if_pos (show nI false.toNat = 0 from rfl), if_neg (by decide)]; rfl
      by_cases a : n = A.t.kd l
      · refine ⟨M2, i2, ?_⟩
        show fX6_oneOf_L81 (nI l) (nI n) M2 = _
        rw [toJ]
        unfold fX6_oneOf_J103 g2N
        rw [if_pos o1, cl, q1, if_pos (c3.mpr a), if_pos a, nI_1]
      · obtain ⟨M3, p1, p2⟩ := c_isOne o i2.1 hl hn k2 b1 b2
        refine ⟨M3, ⟨p2.1, p2.2.1, p2.2.2.trans i2.2.2⟩, ?_⟩
        show fX6_oneOf_L81 (nI l) (nI n) M2 = _
        rw [toJ]
        unfold fX6_oneOf_J103 g2N
        rw [if_pos o1, cl, q1, if_neg (fun z => a (c3.mp z)), if_neg a, if_pos o1, q2, p1, Option.bind_some, nI_1]
        dsimp only
        by_cases b : onB A.t l n (A.t.fr l) (if dbN n = true then A.t.sc l else 0) = true
        · rw [if_neg (izn b), if_pos b, m0, show nI (100 * l) + (10 : Int32) = nI (100 * l + 10) from nI_add _ 10, nI_add, Nat.add_assoc]
        · rw [if_pos (iz0 b), if_neg b])
    (by
      intro M2 i2
      show fX6_oneOf_L81 (nI l) (nI 5) M2 = _
      unfold fX6_oneOf_L81
      rw [if_pos (by decide)])
    (by decide) i1
  unfold fX6_oneOf
  rw [show (0 : Int32) = nI 0 from rfl, w1, Option.bind_some]
  unfold chV
  cases e : (List.range (lenN A.t.h A.t.w l + 1)).findSome? (g1N A.t l) with
  | some v =>
    refine ⟨M1, rfl, i1⟩
  | none =>
    refine ⟨M4, ?_, i4⟩
    show fX6_oneOf_J79 (nI l) M1 = _
    unfold fX6_oneOf_J79
    rw [show (0 : Int32) = nI 0 from rfl, w4, Option.bind_some]
    cases (List.range 5).findSome? (g2N A.t l) with
    | some v => rfl
    | none => rfl
def oneG (t : Tb) (l : Nat) : Option Nat := (chV t l).map (fun v => 100 * l + v)
def oneV (t : Tb) : Int32 := if t.L.length = 1 then -2 else match (List.range (t.h + t.w)).findSome? (oneG t) with | some v => nI v | none => -1
theorem a_one {A : Ab} {E : OE} (o : tbOK A.t) (h : kE1 A E) (h1 : ¬ A.t.L.length = 1) : ∃ E', (wh (σ := Int32 × OE) (ρ := (Int32 × OE) ⊕ (OE)) (fun t => fX5_one_L48 t.1 t.2) 100000 ((0 : Int32), E)).bind (fun X => Sum.elim (fun r => some r) (fun E_E48 => fX5_one_J83 E_E48) X) = some (oneV A.t, E') ∧ kE1 A E' := by
  have hl8 := o.hl
  obtain ⟨E1, i1, w1⟩ := wh_find (body := fun u => fX5_one_L48 u.1 u.2) (kE1 A) (oneG A.t) (fun v => nI v) (N := A.t.h + A.t.w) (n := 100000)
    (by
      intro l E2 hl i2
      obtain ⟨E3, p1, p2⟩ := a_change o i2 hl
      have c1 : ¬ nI (A.t.h + A.t.w) ≤ nI l := by rw [nI_leI (by omega) (by omega)]; omega
      refine ⟨E3, p2, ?_⟩
      show fX5_one_L48 (nI l) E2 = _
      unfold fX5_one_L48 oneG
      rw [a_lines i2.1.t, Option.bind_some, if_neg c1, p1, Option.bind_some, nI_1]
      dsimp only
      cases e : chV A.t l with
      | none => rw [if_pos rfl]; rfl
      | some v =>
        have := chV_lt o e
        rw [if_neg (nI_ne1 (by omega)), show (100 : Int32) * nI l = nI (100 * l) from pk_mul 100 l, nI_add]
        rfl)
    (by
      intro E2 i2
      show fX5_one_L48 (nI (A.t.h + A.t.w)) E2 = _
      unfold fX5_one_L48
      rw [a_lines i2.1.t, Option.bind_some, if_pos (Int32.le_refl _)])
    (by omega) h
  refine ⟨E1, ?_, i1⟩
  rw [show (0 : Int32) = nI 0 from rfl, w1, Option.bind_some]
  unfold oneV
  rw [if_neg h1]
  cases (List.range (A.t.h + A.t.w)).findSome? (oneG A.t) with
  | none => rfl
  | some v => rfl
theorem c_one {A : Ab} {M : OM} (o : tbOK A.t) (ms : MS A M) (mc : MC A M) (h1 : ¬ A.t.L.length = 1) : ∃ M', (wh (σ := Int32 × OM) (ρ := (Int32 × OM) ⊕ (OM)) (fun t => fX6_oneOfAll_L13 t.1 t.2) 100000 ((0 : Int32), M)).bind (fun X => Sum.elim (fun r => some r) (fun M_E13 => fX6_oneOfAll_J45 M_E13) X) = some (oneV A.t, M') ∧ kM A M M' := by
  have hl8 := o.hl
  obtain ⟨M1, i1, w1⟩ := wh_find (body := fun u => fX6_oneOfAll_L13 u.1 u.2) (kM A M) (oneG A.t) (fun v => nI v) (N := A.t.h + A.t.w) (n := 100000)
    (by
      intro l M2 hl i2
      obtain ⟨M3, p1, p2⟩ := c_oneOf o i2.1 i2.2.1 hl
      have c1 : ¬ nI (A.t.h + A.t.w) ≤ nI l := by rw [nI_leI (by omega) (by omega)]; omega
      refine ⟨M3, ⟨p2.1, p2.2.1, p2.2.2.trans i2.2.2⟩, ?_⟩
      show fX6_oneOfAll_L13 (nI l) M2 = _
      unfold fX6_oneOfAll_L13 oneG
      rw [i2.1.h, i2.1.w, nI_add, if_neg c1, p1, Option.bind_some, nI_1]
      dsimp only
      cases e : chV A.t l with
      | none => rw [if_pos rfl]; rfl
      | some v =>
        have := chV_lt o e
        rw [if_neg (nI_ne1 (by omega))]
        rfl)
    (by
      intro M2 i2
      show fX6_oneOfAll_L13 (nI (A.t.h + A.t.w)) M2 = _
      unfold fX6_oneOfAll_L13
      rw [i2.1.h, i2.1.w, nI_add, if_pos (Int32.le_refl _)])
    (by omega) (show kM A M M from ⟨ms, mc, rfl⟩)
  refine ⟨M1, ?_, i1⟩
  rw [show (0 : Int32) = nI 0 from rfl, w1, Option.bind_some]
  unfold oneV
  rw [if_neg h1]
  cases (List.range (A.t.h + A.t.w)).findSome? (oneG A.t) with
  | none => rfl
  | some v => rfl
def odU (A : Ab) : Ab := ⟨A.ps, A.pc, A.t, A.br, A.hd, A.od + 1, A.im, A.k⟩
theorem op_one : opL16 Rel := by
  rintro n E M ⟨A, o, es, ec, ms, mc⟩
  have hR : Rel n E M := ⟨A, o.dn, es, ec, ms, mc⟩
  have h1 := a_isBoard o.t es.t
  have h2 := c_lacks o.t.hh ms.h
  have od := o.od
  by_cases a : A.t.h = 0
  · refine ⟨-103, E, M, ?_, ?_, hR⟩
    · unfold fX5_one
      rw [h1, Option.bind_some, if_pos (iz0 (fun k => k a))]
    · unfold fX6_one
      rw [h2, Option.bind_some, if_neg (izn a)]
  · have c1 : nI A.od < (6 : Int32) ↔ A.od < 6 := nI_ltI (b := 6) (by omega) (by decide)
    have c2 : nI A.od = (6 : Int32) ↔ A.od = 6 := nI_eq (b := 6) (by omega) (by decide)
    by_cases b : A.od = 6
    · refine ⟨-103, E, M, ?_, ?_, hR⟩
      · unfold fX5_one
        rw [h1, Option.bind_some, if_neg (izn a), es.od, if_neg (by rw [c1]; omega)]
      · unfold fX6_one
        rw [h2, Option.bind_some, if_pos (iz0 a), ms.od, if_pos (c2.mpr b)]
    · have hlt : A.od < 6 := by omega
      have hL := tb_L o.t
      have o2 : abOK n (odU A) := ⟨o.ps, o.pc, o.t, o.dn.br, o.hd, hlt, o.im⟩
      have es2 : ES (odU A) (va_up E.1 11 (nI (A.od + 1)), E.2) := ⟨es.ps, es.pc, es.t, es.br, es.hd, rfl, es.im, es.k⟩
      have ms2 : MS (odU A) (va_up M.1 27 (nI (A.od + 1)), M.2.1, M.2.2.1, M.2.2.2) := ⟨ms.ps, ms.pc, ms.h, ms.w, ms.t, ms.sn, ms.br, ms.hd, rfl, ms.k, ms.nk⟩
      have mc2 : MC (odU A) (va_up M.1 27 (nI (A.od + 1)), M.2.1, M.2.2.1, M.2.2.2) := fun q => ⟨(mc q).n, (mc q).b, (mc q).wk⟩
      have ec2 : EC (odU A) (va_up E.1 11 (nI (A.od + 1)), E.2) := ec
      generalize hA : odU A = A2 at *
      have tA : A2.t = A.t := by rw [← hA]; rfl
      obtain ⟨E', a1, a2, a3, a4, a5⟩ := a_settled o2 es2 ec2 (by rw [tA]; exact a)
      obtain ⟨M', b1, b2, b3⟩ := fresh o2 ms2 mc2
      have hL2 := tb_L o2.t
      by_cases d : A2.t.L.length = 1
      · refine ⟨-2, E', M', ?_, ?_, A2, o2, a2, fun _ _ => ⟨a4, a5⟩, b2.1, b2.2.1⟩
        · unfold fX5_one
          rw [h1, Option.bind_some, if_neg (izn a), es.od, if_pos (c1.mpr hlt), nI_1, a1, Option.bind_some, a4.1, d, if_pos (show nI 1 = 1 from rfl)]
        · unfold fX6_one fX6_oneOfAll fX6_leftOf
          rw [h2, Option.bind_some, if_pos (iz0 a), ms.od, if_neg (fun z => b (c2.mp z)), nI_1, b1, Option.bind_some, Option.bind_some]
          dsimp only
          rw [b3.nL, d, if_pos (show nI 1 = 1 from rfl), Option.bind_some]
      · obtain ⟨E3, e1, e2⟩ := a_one o2.t ⟨a2, a3, a4, a5⟩ d
        obtain ⟨M3, m1, m2⟩ := c_one o2.t b2.1 b2.2.1 d
        have d1 : ¬ nI A2.t.L.length = (1 : Int32) := lit_ne (b := 1) (by omega) (by decide) d
        refine ⟨oneV A2.t, E3, M3, ?_, ?_, A2, o2, (kE1_k e2).1, (kE1_k e2).2, m2.1, m2.2.1⟩
        · unfold fX5_one
          rw [h1, Option.bind_some, if_neg (izn a), es.od, if_pos (c1.mpr hlt), nI_1, a1, Option.bind_some, a4.1, if_neg d1, e1]
        · unfold fX6_one fX6_oneOfAll fX6_leftOf
          rw [h2, Option.bind_some, if_pos (iz0 a), ms.od, if_neg (fun z => b (c2.mp z)), nI_1, b1, Option.bind_some, Option.bind_some]
          dsimp only
          rw [b3.nL, if_neg d1, m1, Option.bind_some]
