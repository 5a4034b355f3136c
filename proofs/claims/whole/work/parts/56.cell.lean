/-! cell, odds, count -/
def kM (A : Ab) (M M' : OM) : Prop := MS A M' ∧ MC A M' ∧ M'.2.2.1 = M.2.2.1
def kE (A : Ab) (E' : OE) : Prop := ES A E' ∧ EC A E'
theorem fresh {A : Ab} {M : OM} {n : Nat} (o : abOK n A) (s : MS A M) (c : MC A M) : ∃ M', fX6_freshen M = some M' ∧ kM A M M' ∧ fM M' A.t.h A.t.w A.t.F := by
  obtain ⟨M', b1, b2, b3, b4, b5⟩ := c_fresh o s c
  exact ⟨M', b1, ⟨b2, fun _ => b4, b5.2.2⟩, b4⟩
theorem settl {A : Ab} {E : OE} {n : Nat} (o : abOK n A) (s : ES A E) (c : EC A E) (hb : ¬ A.t.h = 0) : ∃ E', fX5_settled E = some E' ∧ kE A E' ∧ fitsO (E'.2 5) A.t.L := by
  obtain ⟨E', a1, a2, a3, a4, a5⟩ := a_settled o s c hb
  exact ⟨E', a1, ⟨a2, fun _ _ => ⟨a4, a5⟩⟩, a4⟩
def cellV (t : Tb) (c what : Nat) : Int32 := if what = 0 then nI (t.mk c) else if what = 1 then nI (blkL t.L c) else sureN t.L.length (blkL t.L c)
theorem a_cellV {A : Ab} {E : OE} {n : Nat} (o : abOK n A) (s : ES A E) (k : EC A E) {c what : Nat} (hc : c < A.t.h * A.t.w) (hw : what < 3) : ∃ E', fX5_cell E (nI c) (nI what) = some (cellV A.t c what, E') ∧ kE A E' := by
  have hm := o.t.hm
  have hL := tb_L o.t
  have h1 := a_cell o.t s (nI c)
  have a : 0 ≤ (nI c).toInt ∧ (nI c).toInt < ((A.t.h * A.t.w : Nat) : Int) := by rw [nI_toInt (by omega)]; omega
  have hb : ¬ A.t.h = 0 := by have := o.t.of_cell hc; omega
  obtain ⟨E', e1, e2, e3⟩ := settl o s k hb
  have q : what = 0 ∨ what = 1 ∨ what = 2 := by omega
  unfold fX5_cell
  rw [h1, Option.bind_some, if_neg (izn a)]
  rcases q with rfl | rfl | rfl
  · refine ⟨E, ?_, s, k⟩
    rw [if_pos (by decide), a_how o.t s.t hc, Option.bind_some]
    rfl
  · refine ⟨E', ?_, e2⟩
    rw [if_neg (by decide), if_pos (by decide), e1, Option.bind_some, a_blackIn 1690 e3 (by omega), Option.bind_some]
    rfl
  · refine ⟨E', ?_, e2⟩
    rw [if_neg (by decide), if_neg (by decide), if_pos (by decide), e1, Option.bind_some, a_sure 1690 e3 (by omega) (by omega), Option.bind_some]
    rfl
theorem c_blackOf {A : Ab} {M : OM} {n : Nat} (o : abOK n A) (s : MS A M) (k : MC A M) {c : Nat} (hc : c < A.t.h * A.t.w) : ∃ M', fX6_blackOf M (nI c) = some (cellV A.t c 1, M') ∧ kM A M M' := by
  have hm := o.t.hm
  obtain ⟨M', b1, b2, b3⟩ := fresh o s k
  refine ⟨M', ?_, b2⟩
  unfold fX6_blackOf
  rw [b1, Option.bind_some, if_pos (okI_t (show c < 16 by omega) (by decide)), nI_clamp (by omega), b3.bL (by omega)]
  rfl
theorem c_sureOf {A : Ab} {M : OM} {n : Nat} (o : abOK n A) (s : MS A M) (k : MC A M) {c : Nat} (hc : c < A.t.h * A.t.w) : ∃ M', fX6_sureOf M (nI c) = some (cellV A.t c 2, M') ∧ kM A M M' := by
  have hm := o.t.hm
  have hL := tb_L o.t
  have hb := blkL_le A.t.L c
  obtain ⟨M', b1, b2, b3⟩ := fresh o s k
  refine ⟨M', ?_, b2⟩
  have o1 := okI_t (show c < 16 by omega) (by decide)
  have e1 : (nI A.t.L.length = 0) ↔ A.t.L.length = 0 := nI_eq (b := 0) (by omega) (by decide)
  have e2 : (nI (blkL A.t.L c) = nI A.t.L.length) ↔ blkL A.t.L c = A.t.L.length := nI_eq (by omega) (by omega)
  have e3 : (nI (blkL A.t.L c) = 0) ↔ blkL A.t.L c = 0 := nI_eq (b := 0) (by omega) (by decide)
  unfold fX6_sureOf
  rw [b1, Option.bind_some, b3.nL, nI_clamp (show c < 2 ^ 31 by omega), b3.bL (show c < 16 by omega)]
  show _ = some (sureN A.t.L.length (blkL A.t.L c), M')
  unfold sureN
  by_cases a1 : A.t.L.length = 0
  · rw [if_pos (e1.mpr a1), if_pos a1]
  · rw [if_neg (fun q => a1 (e1.mp q)), if_neg a1, if_pos o1]
    by_cases a2 : blkL A.t.L c = A.t.L.length
    · rw [if_pos (e2.mpr a2), if_pos a2]
    · rw [if_neg (fun q => a2 (e2.mp q)), if_neg a2, if_pos o1]
      by_cases a3 : blkL A.t.L c = 0
      · rw [if_pos (e3.mpr a3), if_pos a3]
      · rw [if_neg (fun q => a3 (e3.mp q)), if_neg a3]
theorem c_cellV {A : Ab} {M : OM} {n : Nat} (o : abOK n A) (s : MS A M) (k : MC A M) {c what : Nat} (hc : c < A.t.h * A.t.w) (hw : what < 3) : ∃ M', fX6_tellCell M (nI c) (nI what) = some (cellV A.t c what, M') ∧ kM A M M' := by
  have hm := o.t.hm
  have q : what = 0 ∨ what = 1 ∨ what = 2 := by omega
  unfold fX6_tellCell
  rcases q with rfl | rfl | rfl
  · refine ⟨M, ?_, s, k, rfl⟩
    rw [if_pos (by decide), if_pos (okI_t (show c < 16 by omega) (by decide)), nI_clamp (by omega), s.t.mk c hc]
    rfl
  · obtain ⟨M', b1, b2⟩ := c_blackOf o s k hc
    refine ⟨M', ?_, b2⟩
    rw [if_neg (by decide), if_pos (by decide), b1, Option.bind_some]
  · obtain ⟨M', b1, b2⟩ := c_sureOf o s k hc
    refine ⟨M', ?_, b2⟩
    rw [if_neg (by decide), if_neg (by decide), if_pos (by decide), b1, Option.bind_some]
theorem i_ne {y : Int32} {n : Nat} (hn : n < 2 ^ 31) (h : ¬ y.toInt = n) : ¬ y = nI n := fun q => h (by rw [q, nI_toInt hn])
theorem op_cell : opL6 Rel := by
  rintro n E M x y ⟨A, o, es, ec, ms, mc⟩
  have hR : Rel n E M := ⟨A, o.dn, es, ec, ms, mc⟩
  have h1 := a_cell o.t es x
  have h2 := m_cell o.t ms x
  by_cases a : 0 ≤ x.toInt ∧ x.toInt < ((A.t.h * A.t.w : Nat) : Int)
  · obtain ⟨c, hc, rfl⟩ := nI_of3 a
    by_cases b : 0 ≤ y.toInt ∧ y.toInt < ((3 : Nat) : Int)
    · obtain ⟨v, hv, rfl⟩ := nI_of3 b
      obtain ⟨E', e1, e2, e3⟩ := a_cellV o es ec hc hv
      obtain ⟨M', m1, m2, m3, m4⟩ := c_cellV o ms mc hc hv
      refine ⟨cellV A.t c v, E', M', e1, ?_, A, o.dn, e2, e3, m2, m3⟩
      unfold fX6_cell
      rw [h2, Option.bind_some, if_neg (izn a), m1, Option.bind_some]
    · have y0 : ¬ y = 0 := i_ne (n := 0) (by decide) (by omega)
      have y1 : ¬ y = 1 := i_ne (n := 1) (by decide) (by omega)
      have y2 : ¬ y = 2 := i_ne (n := 2) (by decide) (by omega)
      refine ⟨-102, E, M, ?_, ?_, hR⟩
      · unfold fX5_cell
        rw [h1, Option.bind_some, if_neg (izn a), if_neg y0, if_neg y1, if_neg y2]
      · unfold fX6_cell fX6_tellCell
        rw [h2, Option.bind_some, if_neg (izn a), if_neg y0, if_neg y1, if_neg y2, Option.bind_some]
  · refine ⟨-101, E, M, ?_, ?_, hR⟩
    · unfold fX5_cell
      rw [h1, Option.bind_some, if_pos (iz0 a)]
    · unfold fX6_cell
      rw [h2, Option.bind_some, if_pos (iz0 a)]
/-! odds -/
def euS (p : Nat × Nat) : Nat × Nat := if p.2 = 0 then p else (p.2, p.1 % p.2)
def euN (p : Nat × Nat) : Nat → Nat × Nat
  | 0 => p
  | k + 1 => euS (euN p k)
theorem eu_b {p : Nat × Nat} {N : Nat} (h : p.1 ≤ N ∧ p.2 ≤ N) (h0 : 0 < p.1) (k : Nat) : (euN p k).1 ≤ N ∧ (euN p k).2 ≤ N ∧ 0 < (euN p k).1 := by
  induction k with
  | zero => exact ⟨h.1, h.2, h0⟩
  | succ k ih =>
    have e : euN p (k + 1) = euS (euN p k) := rfl
    rw [e]
    unfold euS
    by_cases a : (euN p k).2 = 0
    · rw [if_pos a]; exact ih
    · rw [if_neg a]
      have := Nat.mod_le (euN p k).1 (euN p k).2
      dsimp only
      omega
theorem mod_half {b c : Nat} (hc : 0 < c) (h : c ≤ b) : 2 * (b % c) ≤ b := by
  by_cases a : 2 * c ≤ b
  · have := Nat.mod_lt b hc; omega
  · have : b % c = b - c := by
      rw [Nat.mod_eq_sub_mod h, Nat.mod_eq_of_lt (by omega)]
    omega
theorem eu_2 (p : Nat × Nat) : 2 * (euS (euS p)).2 ≤ p.2 := by
  unfold euS
  by_cases a : p.2 = 0
  · rw [if_pos a, if_pos a]; omega
  · rw [if_neg a]
    dsimp only
    have h1 := Nat.mod_lt p.1 (Nat.pos_of_ne_zero a)
    by_cases b : p.1 % p.2 = 0
    · rw [if_pos b]; dsimp only; omega
    · rw [if_neg b]
      dsimp only
      exact mod_half (Nat.pos_of_ne_zero b) (by omega)
theorem eu_h (p : Nat × Nat) (j : Nat) : 2 ^ j * (euN p (2 * j)).2 ≤ p.2 := by
  induction j with
  | zero => show 1 * p.2 ≤ p.2; omega
  | succ j ih =>
    have e : euN p (2 * (j + 1)) = euS (euS (euN p (2 * j))) := rfl
    rw [e, Nat.pow_succ, Nat.mul_assoc]
    exact Nat.le_trans (Nat.mul_le_mul_left _ (eu_2 _)) ih
theorem eu_K {p : Nat × Nat} (h : p.2 < 2048) : ∃ K, K ≤ 22 ∧ (euN p K).2 = 0 ∧ ∀ k, k < K → ¬ (euN p k).2 = 0 := by
  have h1 := eu_h p 11
  have h2 : (euN p (2 * 11)).2 = 0 := by
    by_cases a : (euN p (2 * 11)).2 = 0
    · exact a
    · have : 2 ^ 11 * 1 ≤ 2 ^ 11 * (euN p (2 * 11)).2 := Nat.mul_le_mul_left _ (by omega)
      omega
  obtain ⟨K, k1, k2⟩ := pk_least (fun k => (euN p k).2 = 0) ⟨22, h2⟩
  refine ⟨K, ?_, k1, k2⟩
  by_cases a : K ≤ 22
  · exact a
  · exact absurd h2 (k2 22 (by omega))
theorem a_gcd {b n K : Nat} (hb : b ≤ n) (hn : n < 2048) (h0 : 0 < n) (hK : K ≤ 22) (k0 : (euN (n, b) K).2 = 0) (k1 : ∀ k, k < K → ¬ (euN (n, b) k).2 = 0) : fX5_commonDivisor (nI b) (nI n) = some (nI (euN (n, b) K).1) := by
  have bd := eu_b (p := (n, b)) (N := n) ⟨Nat.le_refl _, hb⟩ h0
  unfold fX5_commonDivisor
  refine wh_b (fun k => (nI (euN (n, b) k).1, nI (euN (n, b) k).2, nI k)) K (nI (euN (n, b) K).1) rfl (by omega) ?_ ?_ rfl
  · intro k hk
    obtain ⟨b1, b2, b3⟩ := bd k
    have a := k1 k hk
    show fX5_commonDivisor_L7 (nI (euN (n, b) k).1) (nI (euN (n, b) k).2) (nI k) = some (.inl (nI (euS (euN (n, b) k)).1, nI (euS (euN (n, b) k)).2, nI (k + 1)))
    unfold fX5_commonDivisor_L7 euS
    have c1 : ¬ (64 : Int32) ≤ nI k := by rw [show (64 : Int32) = nI 64 from rfl, nI_leI (by omega) (by omega)]; omega
    have c2 : ¬ nI (euN (n, b) k).2 = 0 := nI_ne0 (by omega) (by omega)
    rw [if_neg c1, if_neg c2, if_pos c2, if_neg a, pk_rem (by omega) (by omega) (by omega), nI_1]
  · show fX5_commonDivisor_L7 (nI (euN (n, b) K).1) (nI (euN (n, b) K).2) (nI K) = _
    unfold fX5_commonDivisor_L7
    have c1 : ¬ (64 : Int32) ≤ nI K := by rw [show (64 : Int32) = nI 64 from rfl, nI_leI (by omega) (by omega)]; omega
    rw [if_neg c1, k0, if_pos nI_0]
theorem c_gcd {b n K : Nat} (x y : Int32) (M : OM) (hb : b ≤ n) (hn : n < 2048) (h0 : 0 < n) (hK : K ≤ 22) (k0 : (euN (n, b) K).2 = 0) (k1 : ∀ k, k < K → ¬ (euN (n, b) k).2 = 0) : wh (σ := Int32 × Int32) (ρ := Int32) (fun t => fX6_oddsOf_L26 x y M t.1 t.2) 100000 (nI n, nI b) = some (nI (euN (n, b) K).1) := by
  have bd := eu_b (p := (n, b)) (N := n) ⟨Nat.le_refl _, hb⟩ h0
  refine wh_for0 (fun k => (nI (euN (n, b) k).1, nI (euN (n, b) k).2)) K rfl (by omega) ?_ ?_
  · intro k hk
    obtain ⟨b1, b2, b3⟩ := bd k
    have a := k1 k hk
    show fX6_oddsOf_L26 x y M (nI (euN (n, b) k).1) (nI (euN (n, b) k).2) = some (.inl (nI (euS (euN (n, b) k)).1, nI (euS (euN (n, b) k)).2))
    unfold fX6_oddsOf_L26 euS
    have c1 : ¬ nI (euN (n, b) k).2 ≤ 0 := nI_nle (by omega) (by omega)
    have c2 : ¬ nI (euN (n, b) k).2 = 0 := nI_ne0 (by omega) (by omega)
    rw [if_neg c1, if_pos c2, if_neg a, pk_rem (by omega) (by omega) (by omega)]
  · show fX6_oddsOf_L26 x y M (nI (euN (n, b) K).1) (nI (euN (n, b) K).2) = _
    unfold fX6_oddsOf_L26
    rw [k0, if_pos (show nI 0 ≤ 0 by decide)]
theorem op_odds : opL14 Rel := by
  rintro n E M x y ⟨A, o, es, ec, ms, mc⟩
  have hR : Rel n E M := ⟨A, o.dn, es, ec, ms, mc⟩
  have h1 := a_cell o.t es x
  have h2 := m_cell o.t ms x
  by_cases a : 0 ≤ x.toInt ∧ x.toInt < ((A.t.h * A.t.w : Nat) : Int)
  · have ein := c_inL y 0 1 (a' := 0) (b' := 1) (p := 0) (q := 1) rfl rfl rfl rfl
    have j1 : y < 0 ↔ y.toInt < 0 := i_lt _ _
    have j2 : y ≤ (1 : Int32) ↔ y.toInt ≤ 1 := i_le _ _
    obtain ⟨c, hc, rfl⟩ := nI_of3 a
    by_cases b : 0 ≤ y.toInt ∧ y.toInt ≤ 1
    · obtain ⟨v, hv, rfl⟩ := nI_of3 (x := y) (n := 2) (by omega)
      have hm := o.t.hm
      have hL := tb_L o.t
      have hbk := blkL_le A.t.L c
      have hb : ¬ A.t.h = 0 := by have := o.t.of_cell hc; omega
      obtain ⟨E', M', a1, b1, es', ec', ms', mc', f1, f2⟩ := both o es ec ms mc hb
      have o1 := okI_t (show c < 16 by omega) (by decide)
      have cl : (nI c).toNatClampNeg = c := nI_clamp (by omega)
      have d1 : ¬ nI v < 0 := by rw [j1]; omega
      have d2 : nI v ≤ (1 : Int32) := by rw [j2]; omega
      have bi := a_blackIn 1690 f1 (show c < 16 by omega)
      have bm := f2.bL (show c < 16 by omega)
      by_cases z : A.t.L.length = 0
      · have zb : blkL A.t.L c = 0 := by omega
        have zd : fX5_commonDivisor (nI 0) (nI 0) = some (nI 0) := by
          unfold fX5_commonDivisor
          have : fX5_commonDivisor_L7 (nI 0) (nI 0) 0 = some (.inr (nI 0)) := by
            unfold fX5_commonDivisor_L7
            rw [if_neg (by decide), if_pos nI_0]
          rw [wh_r this]
          rfl
        refine ⟨nI v, E', M', ?_, ?_, A, o.dn, es', ec', ms', mc'⟩
        · unfold fX5_odds
          rw [h1, Option.bind_some, if_neg (izn a), if_neg d1, if_pos d2, a1, Option.bind_some, bi, Option.bind_some, f1.1, zb, z, zd, Option.bind_some, if_neg (by decide)]
          have : v = 0 ∨ v = 1 := by omega
          rcases this with rfl | rfl
          · rw [if_pos nI_0]; rfl
          · rw [if_neg (by decide)]; rfl
        · unfold fX6_odds fX6_oddsOf
          rw [h2, Option.bind_some, if_neg (izn a), ein, Option.bind_some, if_neg (izn b), b1, Option.bind_some, f2.nL, z, if_pos nI_0, Option.bind_some]
      · obtain ⟨K, hK, k0, k1⟩ := eu_K (p := (A.t.L.length, blkL A.t.L c)) (show blkL A.t.L c < 2048 by omega)
        have g1 := a_gcd hbk (by omega) (by omega) hK k0 k1
        have g2 := c_gcd (nI c) (nI v) M' hbk (by omega) (by omega) hK k0 k1
        obtain ⟨u1, u2, u3⟩ := eu_b (p := (A.t.L.length, blkL A.t.L c)) (N := A.t.L.length) ⟨Nat.le_refl _, hbk⟩ (by omega) K
        generalize (euN (A.t.L.length, blkL A.t.L c) K).1 = g at g1 g2 u1 u3
        have c1 : (1 : Int32) ≤ nI g := by rw [show (1 : Int32) = nI 1 from rfl, nI_leI (by decide) (by omega)]; omega
        have c2 : ¬ nI g = 0 := nI_ne0 u3 (by omega)
        have c3 : ¬ nI A.t.L.length = 0 := nI_ne0 (by omega) (by omega)
        have : v = 0 ∨ v = 1 := by omega
        rcases this with rfl | rfl
        · refine ⟨nI (blkL A.t.L c) / nI g, E', M', ?_, ?_, A, o.dn, es', ec', ms', mc'⟩
          · unfold fX5_odds
            rw [h1, Option.bind_some, if_neg (izn a), if_neg d1, if_pos d2, a1, Option.bind_some, bi, Option.bind_some, f1.1, g1, Option.bind_some, if_pos c1, if_pos (by decide), if_pos c2]
          · unfold fX6_odds fX6_oddsOf
            rw [h2, Option.bind_some, if_neg (izn a), ein, Option.bind_some, if_neg (izn b), b1, Option.bind_some, f2.nL, if_neg c3, if_pos o1, cl, bm, g2, Option.bind_some]
            unfold fX6_oddsOf_J47
            rw [if_pos (by decide), if_pos o1, if_pos c2, cl, bm, Option.bind_some]
        · refine ⟨nI A.t.L.length / nI g, E', M', ?_, ?_, A, o.dn, es', ec', ms', mc'⟩
          · unfold fX5_odds
            rw [h1, Option.bind_some, if_neg (izn a), if_neg d1, if_pos d2, a1, Option.bind_some, bi, Option.bind_some, f1.1, g1, Option.bind_some, if_pos c1, if_neg (by decide), if_pos c2]
          · unfold fX6_odds fX6_oddsOf
            rw [h2, Option.bind_some, if_neg (izn a), ein, Option.bind_some, if_neg (izn b), b1, Option.bind_some, f2.nL, if_neg c3, if_pos o1, cl, bm, g2, Option.bind_some]
            unfold fX6_oddsOf_J47
            rw [if_neg (by decide), if_pos c2, f2.nL, Option.bind_some]
    · refine ⟨-102, E, M, ?_, ?_, hR⟩
      · unfold fX5_odds
        rw [h1, Option.bind_some, if_neg (izn a)]
        by_cases d : y < 0
        · rw [if_pos d]
        · rw [if_neg d, if_neg (by rw [j2]; rw [j1] at d; omega)]
      · unfold fX6_odds
        rw [h2, Option.bind_some, if_neg (izn a), ein, Option.bind_some, if_pos (iz0 b)]
  · refine ⟨-101, E, M, ?_, ?_, hR⟩
    · unfold fX5_odds
      rw [h1, Option.bind_some, if_pos (iz0 a)]
    · unfold fX6_odds
      rw [h2, Option.bind_some, if_pos (iz0 a)]
