/-! frames; the reference's table and its fits -/
theorem wh_inv {σ ρ : Type} {body : σ → Option (σ ⊕ ρ)} (P : Nat → σ → Prop) (Q : ρ → Prop) (K : Nat) (hs : ∀ k s, k < K → P k s → ∃ s', body s = some (.inl s') ∧ P (k + 1) s') (he : ∀ s, P K s → ∃ r, body s = some (.inr r) ∧ Q r) {n : Nat} {s : σ} (h0 : P 0 s) (hn : K < n) : ∃ r, wh body n s = some r ∧ Q r := by
  have key : ∀ (d k m : Nat) (s : σ), k + d = K → d < m → P k s → ∃ r, wh body m s = some r ∧ Q r := by
    intro d
    induction d with
    | zero =>
      intro k m s hk hm hp
      obtain ⟨m, rfl⟩ : ∃ q, m = q + 1 := ⟨m - 1, by omega⟩
      have : k = K := by omega
      subst this
      obtain ⟨r, h1, h2⟩ := he s hp
      exact ⟨r, wh_r h1, h2⟩
    | succ d ih =>
      intro k m s hk hm hp
      obtain ⟨m, rfl⟩ : ∃ q, m = q + 1 := ⟨m - 1, by omega⟩
      obtain ⟨s', h1, h2⟩ := hs k s (by omega) hp
      obtain ⟨r, h3, h4⟩ := ih (k + 1) m s' (by omega) (by omega) h2
      exact ⟨r, by rw [wh_i h1]; exact h3, h4⟩
  exact key K 0 n s (by omega) hn h0
def fr1 {α : Type} (L : List Nat) (f g : Nat → α) : Prop := ∀ j, j ∉ L → g j = f j
theorem fr1_rfl {α : Type} {L : List Nat} {f : Nat → α} : fr1 L f f := fun _ _ => rfl
theorem fr1_tr {α : Type} {L : List Nat} {f g h : Nat → α} (a : fr1 L f g) (b : fr1 L g h) : fr1 L f h := fun j hj => (b j hj).trans (a j hj)
theorem fr1_up {α : Type} {L : List Nat} {f g : Nat → α} {k : Nat} {v : α} (a : fr1 L f g) (h : k ∈ L) : fr1 L f (va_up g k v) := fun j hj => by
  rw [vu_n _ _ (fun e => hj (by rw [e]; exact h))]
  exact a j hj
theorem fr1_mono {α : Type} {L K : List Nat} {f g : Nat → α} (a : fr1 L f g) (h : ∀ j ∈ L, j ∈ K) : fr1 K f g := fun j hj => a j (fun q => hj (h j q))
theorem fr1_run {L : List Nat} {f g : Nat → Int32} {t : Nat × Nat × Nat × Nat × Nat} (a : fr1 L f g) (h16 : 16 ∈ L) (h17 : 17 ∈ L) (h18 : 18 ∈ L) (h19 : 19 ∈ L) : fr1 L f (runF g t) := fr1_up (fr1_up (fr1_up (fr1_up a h16) h17) h18) h19
def mfr (L A : List Nat) (M M' : OM) : Prop := fr1 L M.1 M'.1 ∧ fr1 A M.2.1 M'.2.1 ∧ M'.2.2.1 = M.2.2.1
theorem mfr_rfl {L A : List Nat} {M : OM} : mfr L A M M := ⟨fr1_rfl, fr1_rfl, rfl⟩
theorem mfr_tr {L A : List Nat} {M M1 M2 : OM} (a : mfr L A M M1) (b : mfr L A M1 M2) : mfr L A M M2 := ⟨fr1_tr a.1 b.1, fr1_tr a.2.1 b.2.1, b.2.2.trans a.2.2⟩
theorem mfr_mono {L A L' A' : List Nat} {M M1 : OM} (a : mfr L A M M1) (h1 : ∀ j ∈ L, j ∈ L') (h2 : ∀ j ∈ A, j ∈ A') : mfr L' A' M M1 := ⟨fr1_mono a.1 h1, fr1_mono a.2.1 h2, a.2.2⟩
/-- the reference's clues are these numbers -/
def cluM (M : OM) (n : Nat) (kd fr sc : Nat → Nat) : Prop := ∀ l, l < n → M.2.1 12 l = nI (kd l) ∧ M.2.1 13 l = nI (fr l) ∧ M.2.1 14 l = nI (sc l) ∧ kd l < 5 ∧ fr l < 5 ∧ sc l < 5 ∧ (fr l = 0 → sc l = 0)
def tabB (n : Nat) (kd fr sc : Nat → Nat) (wo : Nat → Bool) (l c : Nat) : Bool := wo l || (decide (l < n) && keptN (kd l) (fr l) (sc l) c)
theorem c_layTable {M : OM} {h w : Nat} {kd fr sc : Nat → Nat} {wo : Nat → Bool} (h9 : M.1 9 = nI h) (h10 : M.1 10 = nI w) (hh : h ≤ 4) (hw : w ≤ 4) (hc : cluM M (h + w) kd fr sc) (hwo : ∀ l, l < 8 → (nI l = M.1 25 ↔ wo l = true)) :
    ∃ M', fX6_layTable M = some M' ∧ mfr [16, 17, 18, 19] [24] M M' ∧ M'.2.2.2 = M.2.2.2 ∧ ∀ l, l < 8 → ∀ c, c < 16 → M'.2.1 24 (16 * l + c) = nI (tabB (h + w) kd fr sc wo l c).toNat := by
  have key : ∃ M', wh (σ := Int32 × OM) (ρ := OM) (fun t => fX6_layTable_L2 t.1 t.2) 100000 ((0 : Int32), M) = some M' ∧ (mfr [16, 17, 18, 19] [24] M M' ∧ M'.2.2.2 = M.2.2.2 ∧ ∀ j, j < 128 → M'.2.1 24 j = nI (tabB (h + w) kd fr sc wo (j / 16) (j % 16)).toNat) := by
    refine wh_inv (fun k t => t.1 = nI k ∧ mfr [16, 17, 18, 19] [24] M t.2 ∧ t.2.2.2.2 = M.2.2.2 ∧ ∀ j, j < k → t.2.2.1 24 j = nI (tabB (h + w) kd fr sc wo (j / 16) (j % 16)).toNat) _ 128 ?_ ?_ ⟨rfl, mfr_rfl, rfl, fun j hj => absurd hj (Nat.not_lt_zero j)⟩ (by decide)
    · rintro k ⟨x, M1⟩ hk ⟨e1, e2, e3, e4⟩
      dsimp only at e1 e2 e3 e4
      subst e1
      have c1 : ¬ (128 : Int32) ≤ nI k := by rw [show (128 : Int32) = nI 128 from rfl, nI_leI (by omega) (by omega)]; omega
      have cd : nI k / (16 : Int32) = nI (k / 16) := pk_div (d := 16) (by omega) (by decide) (by decide)
      have cr : nI k - nI k / (16 : Int32) * (16 : Int32) = nI (k % 16) := pk_rem (d := 16) (by omega) (by decide) (by decide)
      have o1 := okI_t (show k < 128 from hk) (by decide)
      have cl : (nI k).toNatClampNeg = k := nI_clamp (by omega)
      have ek : nI k + (1 : Int32) = nI (k + 1) := nI_1 k
      have h16 : ¬ (16 : Int32) = 0 := by decide
      have hl : k / 16 < 8 := by omega
      have hcm : k % 16 < 16 := Nat.mod_lt _ (by decide)
      have g9 : M1.1 9 = nI h := (e2.1 9 (by decide)).trans h9
      have g10 : M1.1 10 = nI w := (e2.1 10 (by decide)).trans h10
      have g25 : M1.1 25 = M.1 25 := e2.1 25 (by decide)
      have cw := hwo (k / 16) hl
      rw [← g25] at cw
      -- what is put, and into what
      have fin : ∀ (M2 : OM) (b : Bool), mfr [16, 17, 18, 19] [24] M M2 → M2.2.2.2 = M.2.2.2 → (∀ j, j < k → M2.2.1 24 j = nI (tabB (h + w) kd fr sc wo (j / 16) (j % 16)).toNat) → b = tabB (h + w) kd fr sc wo (k / 16) (k % 16) →
          (mfr [16, 17, 18, 19] [24] M (M2.1, va_up M2.2.1 24 (upd (M2.2.1 24) k (nI b.toNat)), M2.2.2.1, M2.2.2.2) ∧ M2.2.2.2 = M.2.2.2 ∧ ∀ j, j < k + 1 → (va_up M2.2.1 24 (upd (M2.2.1 24) k (nI b.toNat))) 24 j = nI (tabB (h + w) kd fr sc wo (j / 16) (j % 16)).toNat) := by
        intro M2 b m1 m2 m3 hb
        refine ⟨⟨m1.1, fr1_up m1.2.1 (by decide), m1.2.2⟩, m2, fun j hj => ?_⟩
        rw [vu_s]
        by_cases q : j = k
        · subst q; rw [up_s, hb]
        · rw [up_n _ _ q]; exact m3 j (by omega)
      by_cases a : nI (k / 16) = M1.1 25
      · have hb : true = tabB (h + w) kd fr sc wo (k / 16) (k % 16) := by unfold tabB; rw [cw.mp a]; rfl
        refine ⟨(nI (k + 1), (M1.1, va_up M1.2.1 24 (upd (M1.2.1 24) k (nI true.toNat)), M1.2.2.1, M1.2.2.2)), ?_, rfl, fin M1 true e2 e3 e4 hb⟩
        simp only [fX6_layTable_L2, c1, if_false, h16, not_false_eq_true, if_true, cd, a, o1, cl, ek]
        rfl
      · have wf : wo (k / 16) = false := by
          cases q : wo (k / 16) with
          | false => rfl
          | true => exact absurd (cw.mpr q) a
        have il := c_isLine g9 g10 hh hw (nI (k / 16))
        rw [nI_toInt (show k / 16 < 2 ^ 31 by omega)] at il
        by_cases b : k / 16 < h + w
        · obtain ⟨q1, q2, q3, q4, q5, q6, q7⟩ := hc (k / 16) b
          have r1 : M1.2.1 12 (k / 16) = nI (kd (k / 16)) := by rw [e2.2.1 12 (by decide)]; exact q1
          have r2 : M1.2.1 13 (k / 16) = nI (fr (k / 16)) := by rw [e2.2.1 13 (by decide)]; exact q2
          have r3 : M1.2.1 14 (k / 16) = nI (sc (k / 16)) := by rw [e2.2.1 14 (by decide)]; exact q3
          have kp := c_keepsOf hl r1 r2 r3 q4 q5 q6 hcm
          have hb : keptN (kd (k / 16)) (fr (k / 16)) (sc (k / 16)) (k % 16) = tabB (h + w) kd fr sc wo (k / 16) (k % 16) := by unfold tabB; rw [wf]; simp [b]
          have il2 : iz (0 ≤ ((k / 16 : Nat) : Int) ∧ ((k / 16 : Nat) : Int) < ((h + w : Nat) : Int)) = 1 := iz_t (by omega)
          have n1 : ¬ (1 : Int32) = 0 := by decide
          refine ⟨(nI (k + 1), ((runF M1.1 (rsN (k % 16) 5)), va_up M1.2.1 24 (upd (M1.2.1 24) k (nI (keptN (kd (k / 16)) (fr (k / 16)) (sc (k / 16)) (k % 16)).toNat)), M1.2.2.1, M1.2.2.2)), ?_, rfl, fin (runF M1.1 (rsN (k % 16) 5), M1.2) _ ⟨fr1_run e2.1 (by decide) (by decide) (by decide) (by decide), e2.2⟩ e3 e4 hb⟩
          simp only [fX6_layTable_L2, c1, if_false, h16, not_false_eq_true, if_true, cr]
          simp only [cd, a, if_false, il, Option.bind_some, il2, n1, kp]
          cases keptN (kd (k / 16)) (fr (k / 16)) (sc (k / 16)) (k % 16)
          · simp only [show ¬ nI (false.toNat) = (1 : Int32) by decide, if_false, o1, if_true, cl, ek]
            rfl
          · simp only [show nI (true.toNat) = (1 : Int32) from rfl, o1, if_true, cl, ek]
        · have hb : false = tabB (h + w) kd fr sc wo (k / 16) (k % 16) := by unfold tabB; rw [wf]; simp [b]
          have il2 : iz (0 ≤ ((k / 16 : Nat) : Int) ∧ ((k / 16 : Nat) : Int) < ((h + w : Nat) : Int)) = 0 := iz_f (by omega)
          refine ⟨(nI (k + 1), (M1.1, va_up M1.2.1 24 (upd (M1.2.1 24) k (nI false.toNat)), M1.2.2.1, M1.2.2.2)), ?_, rfl, fin M1 false e2 e3 e4 hb⟩
          simp only [fX6_layTable_L2, c1, if_false, h16, not_false_eq_true, if_true, cd, a, il, Option.bind_some, il2, o1, cl, ek]
          rfl
    · rintro ⟨x, M1⟩ ⟨e1, e2, e3, e4⟩
      dsimp only at e1 e2 e3 e4
      subst e1
      exact ⟨M1, by rfl, e2, e3, e4⟩
  obtain ⟨M', k1, k2, k3, k4⟩ := key
  refine ⟨M', ?_, k2, k3, fun l hl c hc => ?_⟩
  · unfold fX6_layTable
    rw [k1]
    rfl
  · have := k4 (16 * l + c) (by omega)
    rw [show (16 * l + c) / 16 = l by omega, show (16 * l + c) % 16 = c by omega] at this
    exact this
