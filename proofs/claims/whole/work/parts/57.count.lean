/-! count -/
def suN (t : Tb) : Nat → Nat
  | 0 => 0
  | k + 1 => suN t k + (if cellV t k 2 = -1 then 0 else 1)
theorem a_sureCells {A : Ab} {E : OE} {n : Nat} (o : abOK n A) (s : ES A E) (k : EC A E) : ∃ E', fX5_sureCells E = some (nI (suN A.t (A.t.h * A.t.w)), E') ∧ kE A E' := by
  have hm := o.t.hm
  have hL := tb_L o.t
  obtain ⟨r, r1, r2, r3⟩ := wh_inv (body := fun t => fX5_sureCells_L4 t.1 t.2.1 t.2.2) (fun k (u : Int32 × Int32 × OE) => u.1 = nI (suN A.t k) ∧ u.2.1 = nI k ∧ kE A u.2.2) (fun (u : Int32 × OE) => u.1 = nI (suN A.t (A.t.h * A.t.w)) ∧ kE A u.2) (A.t.h * A.t.w)
    (by
      rintro k ⟨x, y, E1⟩ hk ⟨e1, e2, e3, e4⟩
      dsimp only at e1 e2 e3 e4
      subst e1 e2
      have hb : ¬ A.t.h = 0 := by have := o.t.of_cell hk; omega
      obtain ⟨E2, f1, f2, f3⟩ := settl o e3 e4 hb
      have c1 : ¬ nI (A.t.h * A.t.w) ≤ nI k := by rw [nI_leI (by omega) (by omega)]; omega
      have g : fX5_sureCells_L4 (nI (suN A.t k)) (nI k) E1 = some (.inl (nI (suN A.t (k + 1)), nI (k + 1), E2)) := by
        unfold fX5_sureCells_L4
        rw [a_cells e3.t, Option.bind_some, if_neg c1, f1, Option.bind_some, a_sure 1690 f3 (by omega) (by omega), Option.bind_some]
        show (if cellV A.t k 2 = -1 then _ else _) = some (Sum.inl (nI (suN A.t k + (if cellV A.t k 2 = -1 then 0 else 1)), _, _))
        by_cases q : cellV A.t k 2 = -1
        · rw [if_pos q, if_pos q, nI_1, Nat.add_zero]
          rfl
        · rw [if_neg q, if_neg q, nI_1, nI_1]
      exact ⟨_, g, rfl, rfl, f2⟩)
    (by
      rintro ⟨x, y, E1⟩ ⟨e1, e2, e3⟩
      dsimp only at e1 e2 e3
      subst e1 e2
      refine ⟨(nI (suN A.t (A.t.h * A.t.w)), E1), ?_, rfl, e3⟩
      show fX5_sureCells_L4 (nI (suN A.t (A.t.h * A.t.w))) (nI (A.t.h * A.t.w)) E1 = _
      unfold fX5_sureCells_L4
      rw [a_cells e3.1.t, Option.bind_some, if_pos (Int32.le_refl _)])
    (n := 100000) (s := ((0 : Int32), (0 : Int32), E)) ⟨rfl, rfl, s, k⟩ (by omega)
  refine ⟨r.2, ?_, r3⟩
  unfold fX5_sureCells
  rw [r1, Option.bind_some]
  show some (r.1, r.2) = _
  rw [r2]
theorem c_sureMany {A : Ab} {M : OM} {n : Nat} (o : abOK n A) (s : MS A M) (k : MC A M) : ∃ M', fX6_sureMany M = some (nI (suN A.t (A.t.h * A.t.w)), M') ∧ kM A M M' := by
  have hm := o.t.hm
  obtain ⟨r, r1, r2, r3⟩ := wh_inv (body := fun t => fX6_sureMany_L4 t.1 t.2.1 t.2.2) (fun k (u : Int32 × Int32 × OM) => u.1 = nI (suN A.t k) ∧ u.2.1 = nI k ∧ kM A M u.2.2) (fun (u : Int32 × OM) => u.1 = nI (suN A.t (A.t.h * A.t.w)) ∧ kM A M u.2) (A.t.h * A.t.w)
    (by
      rintro k ⟨x, y, M1⟩ hk ⟨e1, e2, e3, e4, e5⟩
      dsimp only at e1 e2 e3 e4 e5
      subst e1 e2
      obtain ⟨M2, f1, f2, f3, f4⟩ := c_sureOf o e3 e4 hk
      have c1 : ¬ nI (A.t.h * A.t.w) ≤ nI k := by rw [nI_leI (by omega) (by omega)]; omega
      have g : fX6_sureMany_L4 (nI (suN A.t k)) (nI k) M1 = some (.inl (nI (suN A.t (k + 1)), nI (k + 1), M2)) := by
        unfold fX6_sureMany_L4
        rw [e3.h, e3.w, pk_mul, if_neg c1, f1, Option.bind_some]
        show (if cellV A.t k 2 = -1 then _ else _) = some (Sum.inl (nI (suN A.t k + (if cellV A.t k 2 = -1 then 0 else 1)), _, _))
        by_cases q : cellV A.t k 2 = -1
        · rw [if_pos q, if_pos q, nI_1, show (0 : Int32) = nI 0 from rfl, nI_add]
        · rw [if_neg q, if_neg q, nI_1, nI_1]
      exact ⟨_, g, rfl, rfl, f2, f3, f4.trans e5⟩)
    (by
      rintro ⟨x, y, M1⟩ ⟨e1, e2, e3⟩
      dsimp only at e1 e2 e3
      subst e1 e2
      refine ⟨(nI (suN A.t (A.t.h * A.t.w)), M1), ?_, rfl, e3⟩
      show fX6_sureMany_L4 (nI (suN A.t (A.t.h * A.t.w))) (nI (A.t.h * A.t.w)) M1 = _
      unfold fX6_sureMany_L4
      rw [e3.1.h, e3.1.w, pk_mul, if_pos (Int32.le_refl _)])
    (n := 100000) (s := ((0 : Int32), (0 : Int32), M)) ⟨rfl, rfl, s, k, rfl⟩ (by omega)
  refine ⟨r.2, ?_, r3⟩
  unfold fX6_sureMany
  rw [r1, Option.bind_some]
  show some (r.1, r.2) = _
  rw [r2]
def countV (A : Ab) (what : Nat) : Int32 :=
  if what = 0 then nI A.t.h else if what = 1 then nI A.t.w else if what = 2 then nI (A.t.h + A.t.w) else if what = 3 then nI (cntN A.t.bl 16) else if what = 4 then nI (cntN A.t.wt 16) else if what = 5 then nI (suN A.t (A.t.h * A.t.w)) else if what = 6 then nI A.t.sn else if what = 7 then nI A.ps else if what = 8 then nI A.br else if what = 9 then nI A.hd else nI A.od
theorem lit_ne {a b : Nat} (ha : a < 2 ^ 31) (hb : b < 2 ^ 31) (h : ¬ a = b) : ¬ nI a = nI b := fun q => h ((nI_eq ha hb).mp q)
theorem a_countV {A : Ab} {E : OE} {n : Nat} (o : abOK n A) (s : ES A E) (k : EC A E) {what : Nat} (hw : what < 11) : ∃ E', fX5_count E (nI what) = some (countV A what, E') ∧ kE A E' := by
  obtain ⟨E', e1, e2⟩ := a_sureCells o s k
  have q : what = 0 ∨ what = 1 ∨ what = 2 ∨ what = 3 ∨ what = 4 ∨ what = 5 ∨ what = 6 ∨ what = 7 ∨ what = 8 ∨ what = 9 ∨ what = 10 := by omega
  have hs : kE A E := ⟨s, k⟩
  rcases q with rfl | rfl | rfl | rfl | rfl | rfl | rfl | rfl | rfl | rfl | rfl
  · refine ⟨E, ?_, hs⟩
    unfold fX5_count
    rw [if_pos (by decide), s.t.h]; rfl
  · refine ⟨E, ?_, hs⟩
    unfold fX5_count
    rw [if_neg (by decide), if_pos (by decide), s.t.w]; rfl
  · refine ⟨E, ?_, hs⟩
    unfold fX5_count
    rw [if_neg (by decide), if_neg (by decide), if_pos (by decide), a_lines s.t, Option.bind_some]; rfl
  · refine ⟨E, ?_, hs⟩
    unfold fX5_count
    rw [if_neg (by decide), if_neg (by decide), if_neg (by decide), if_pos (by decide), s.t.b, a_bits (tt_b o.t), Option.bind_some]; rfl
  · refine ⟨E, ?_, hs⟩
    unfold fX5_count
    rw [if_neg (by decide), if_neg (by decide), if_neg (by decide), if_neg (by decide), if_pos (by decide), s.t.wh, a_bits (tt_w o.t), Option.bind_some]; rfl
  · refine ⟨E', ?_, e2⟩
    unfold fX5_count
    rw [if_neg (by decide), if_neg (by decide), if_neg (by decide), if_neg (by decide), if_neg (by decide), if_pos (by decide), e1, Option.bind_some]; rfl
  · refine ⟨E, ?_, hs⟩
    unfold fX5_count
    rw [if_neg (by decide), if_neg (by decide), if_neg (by decide), if_neg (by decide), if_neg (by decide), if_neg (by decide), if_pos (by decide), s.t.sn]; rfl
  · refine ⟨E, ?_, hs⟩
    unfold fX5_count
    rw [if_neg (by decide), if_neg (by decide), if_neg (by decide), if_neg (by decide), if_neg (by decide), if_neg (by decide), if_neg (by decide), if_pos (by decide), s.ps]; rfl
  · refine ⟨E, ?_, hs⟩
    unfold fX5_count
    rw [if_neg (by decide), if_neg (by decide), if_neg (by decide), if_neg (by decide), if_neg (by decide), if_neg (by decide), if_neg (by decide), if_neg (by decide), if_pos (by decide), s.br]; rfl
  · refine ⟨E, ?_, hs⟩
    unfold fX5_count
    rw [if_neg (by decide), if_neg (by decide), if_neg (by decide), if_neg (by decide), if_neg (by decide), if_neg (by decide), if_neg (by decide), if_neg (by decide), if_neg (by decide), if_pos (by decide), s.hd]; rfl
  · refine ⟨E, ?_, hs⟩
    unfold fX5_count
    rw [if_neg (by decide), if_neg (by decide), if_neg (by decide), if_neg (by decide), if_neg (by decide), if_neg (by decide), if_neg (by decide), if_neg (by decide), if_neg (by decide), if_neg (by decide), if_pos (by decide), s.od]; rfl
theorem c_countV {A : Ab} {M : OM} {n : Nat} (o : abOK n A) (s : MS A M) (k : MC A M) {what : Nat} (hw : what < 11) : ∃ M', fX6_countOf M (nI what) = some (countV A what, M') ∧ kM A M M' := by
  obtain ⟨M', e1, e2⟩ := c_sureMany o s k
  have b1 := tt_b o.t
  have b2 := tt_w o.t
  have q : what = 0 ∨ what = 1 ∨ what = 2 ∨ what = 3 ∨ what = 4 ∨ what = 5 ∨ what = 6 ∨ what = 7 ∨ what = 8 ∨ what = 9 ∨ what = 10 := by omega
  have hs : kM A M M := ⟨s, k, rfl⟩
  rcases q with rfl | rfl | rfl | rfl | rfl | rfl | rfl | rfl | rfl | rfl | rfl
  · refine ⟨M, ?_, hs⟩
    unfold fX6_countOf
    rw [if_pos (by decide), s.h]; rfl
  · refine ⟨M, ?_, hs⟩
    unfold fX6_countOf
    rw [if_neg (by decide), if_pos (by decide), s.w]; rfl
  · refine ⟨M, ?_, hs⟩
    unfold fX6_countOf
    rw [if_neg (by decide), if_neg (by decide), if_pos (by decide), s.h, s.w, nI_add]; rfl
  · refine ⟨M, ?_, hs⟩
    unfold fX6_countOf fX6_countOf_J80
    rw [if_neg (by decide), if_neg (by decide), if_neg (by decide), if_pos (by decide), show nI 3 - (2 : Int32) = 1 from rfl, c_mk1 o.t s.h s.w s.t.mk, Option.bind_some, c_ones (by omega), Option.bind_some]; rfl
  · refine ⟨M, ?_, hs⟩
    unfold fX6_countOf fX6_countOf_J80
    rw [if_neg (by decide), if_neg (by decide), if_neg (by decide), if_neg (by decide), if_pos (by decide), show nI 4 - (2 : Int32) = 2 from rfl, c_mk2 o.t s.h s.w s.t.mk, Option.bind_some, c_ones (by omega), Option.bind_some]; rfl
  · refine ⟨M', ?_, e2⟩
    unfold fX6_countOf
    rw [if_neg (by decide), if_neg (by decide), if_neg (by decide), if_neg (by decide), if_neg (by decide), if_pos (by decide), e1, Option.bind_some]; rfl
  · refine ⟨M, ?_, hs⟩
    unfold fX6_countOf
    rw [if_neg (by decide), if_neg (by decide), if_neg (by decide), if_neg (by decide), if_neg (by decide), if_neg (by decide), if_pos (by decide), s.sn]; rfl
  · refine ⟨M, ?_, hs⟩
    unfold fX6_countOf
    rw [if_neg (by decide), if_neg (by decide), if_neg (by decide), if_neg (by decide), if_neg (by decide), if_neg (by decide), if_neg (by decide), if_pos (by decide), s.ps]; rfl
  · refine ⟨M, ?_, hs⟩
    unfold fX6_countOf
    rw [if_neg (by decide), if_neg (by decide), if_neg (by decide), if_neg (by decide), if_neg (by decide), if_neg (by decide), if_neg (by decide), if_neg (by decide), if_pos (by decide), s.br]; rfl
  · refine ⟨M, ?_, hs⟩
    unfold fX6_countOf
    rw [if_neg (by decide), if_neg (by decide), if_neg (by decide), if_neg (by decide), if_neg (by decide), if_neg (by decide), if_neg (by decide), if_neg (by decide), if_neg (by decide), if_pos (by decide), s.hd]; rfl
  · refine ⟨M, ?_, hs⟩
    unfold fX6_countOf
    rw [if_neg (by decide), if_neg (by decide), if_neg (by decide), if_neg (by decide), if_neg (by decide), if_neg (by decide), if_neg (by decide), if_neg (by decide), if_neg (by decide), if_neg (by decide), if_pos (by decide), s.od]; rfl
theorem op_count : opL22 Rel := by
  rintro n E M x ⟨A, o, es, ec, ms, mc⟩
  by_cases a : 0 ≤ x.toInt ∧ x.toInt < ((11 : Nat) : Int)
  · obtain ⟨v, hv, rfl⟩ := nI_of3 a
    obtain ⟨E', e1, e2, e3⟩ := a_countV o es ec hv
    obtain ⟨M', m1, m2, m3, m4⟩ := c_countV o ms mc hv
    refine ⟨countV A v, E', M', e1, ?_, A, o.dn, e2, e3, m2, m3⟩
    unfold fX6_count
    rw [m1, Option.bind_some]
  · have ne : ∀ k, k < 11 → ¬ x = nI k := fun k hk => i_ne (by omega) (by omega)
    refine ⟨-102, E, M, ?_, ?_, A, o.dn, es, ec, ms, mc⟩
    · unfold fX5_count
      rw [if_neg (show ¬ x = 0 from ne 0 (by decide)), if_neg (show ¬ x = 1 from ne 1 (by decide)), if_neg (show ¬ x = 2 from ne 2 (by decide)), if_neg (show ¬ x = 3 from ne 3 (by decide)), if_neg (show ¬ x = 4 from ne 4 (by decide)), if_neg (show ¬ x = 5 from ne 5 (by decide)), if_neg (show ¬ x = 6 from ne 6 (by decide)), if_neg (show ¬ x = 7 from ne 7 (by decide)), if_neg (show ¬ x = 8 from ne 8 (by decide)), if_neg (show ¬ x = 9 from ne 9 (by decide)), if_neg (show ¬ x = 10 from ne 10 (by decide))]
    · unfold fX6_count fX6_countOf
      rw [if_neg (show ¬ x = 0 from ne 0 (by decide)), if_neg (show ¬ x = 1 from ne 1 (by decide)), if_neg (show ¬ x = 2 from ne 2 (by decide)), if_neg (show ¬ x = 3 from ne 3 (by decide)), if_neg (show ¬ x = 4 from ne 4 (by decide)), if_neg (show ¬ x = 5 from ne 5 (by decide)), if_neg (show ¬ x = 6 from ne 6 (by decide)), if_neg (show ¬ x = 7 from ne 7 (by decide)), if_neg (show ¬ x = 8 from ne 8 (by decide)), if_neg (show ¬ x = 9 from ne 9 (by decide)), if_neg (show ¬ x = 10 from ne 10 (by decide)), Option.bind_some]
