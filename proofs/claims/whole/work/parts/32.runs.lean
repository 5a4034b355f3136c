/-! the reference's runs -/
def runF (f : Nat → Int32) (t : Nat × Nat × Nat × Nat × Nat) : Nat → Int32 := va_up (va_up (va_up (va_up f 16 (nI t.2.1)) 17 (nI t.2.2.1)) 18 (nI t.2.2.2.1)) 19 (nI t.2.2.2.2)
theorem runF_16 (f : Nat → Int32) (t : Nat × Nat × Nat × Nat × Nat) : runF f t 16 = nI t.2.1 := rfl
theorem runF_17 (f : Nat → Int32) (t : Nat × Nat × Nat × Nat × Nat) : runF f t 17 = nI t.2.2.1 := rfl
theorem runF_18 (f : Nat → Int32) (t : Nat × Nat × Nat × Nat × Nat) : runF f t 18 = nI t.2.2.2.1 := rfl
theorem runF_19 (f : Nat → Int32) (t : Nat × Nat × Nat × Nat × Nat) : runF f t 19 = nI t.2.2.2.2 := rfl
theorem runF_o {f : Nat → Int32} {t : Nat × Nat × Nat × Nat × Nat} {j : Nat} (h : j < 16 ∨ 19 < j) : runF f t j = f j := by
  unfold runF
  rw [vu_n _ _ (by omega), vu_n _ _ (by omega), vu_n _ _ (by omega), vu_n _ _ (by omega)]
theorem runF_eq {f g : Nat → Int32} {t : Nat × Nat × Nat × Nat × Nat} (h16 : g 16 = nI t.2.1) (h17 : g 17 = nI t.2.2.1) (h18 : g 18 = nI t.2.2.2.1) (h19 : g 19 = nI t.2.2.2.2) (ho : ∀ j, j < 16 ∨ 19 < j → g j = f j) : g = runF f t := by
  funext j
  by_cases a : j = 16
  · subst a; exact h16
  by_cases b : j = 17
  · subst b; exact h17
  by_cases c : j = 18
  · subst c; exact h18
  by_cases d : j = 19
  · subst d; exact h19
  · rw [ho j (by omega), runF_o (by omega)]
theorem rsN_le_b : ((List.range 16).all fun c => (List.range 6).all fun k => decide ((rsN c k).1 ≤ k ∧ (rsN c k).2.1 ≤ k ∧ (rsN c k).2.2.1 ≤ k ∧ (rsN c k).2.2.2.1 ≤ k ∧ (rsN c k).2.2.2.2 ≤ k)) = true := by decide +kernel
theorem rsN_le {c k : Nat} (hc : c < 16) (hk : k < 6) : (rsN c k).1 ≤ k ∧ (rsN c k).2.1 ≤ k ∧ (rsN c k).2.2.1 ≤ k ∧ (rsN c k).2.2.2.1 ≤ k ∧ (rsN c k).2.2.2.2 ≤ k := by
  have h := rsN_le_b
  rw [List.all_eq_true] at h
  have h1 := h c (List.mem_range.mpr hc)
  rw [List.all_eq_true] at h1
  exact of_decide_eq_true (h1 k (List.mem_range.mpr hk))
theorem nbit {c k : Nat} (hc : c < 2 ^ 31) (hk : k < 32) : ((nI c >>> (nI k &&& 31)) &&& (1 : Int32)) = nI (bq c k) := nq_bit hc hk
set_option maxRecDepth 10000 in
theorem b_layRuns (M : OM) {c : Nat} (hc : c < 16) : fX6_layRuns M (nI c) = some (runF M.1 (rsN c 5), M.2.1, M.2.2.1, M.2.2.2) := by
  unfold fX6_layRuns
  rw [wh_for0 (fun k => (nI (rsN c k).1, nI k, (runF M.1 (rsN c k), M.2.1, M.2.2.1, M.2.2.2))) 5 (r := (runF M.1 (rsN c 5), M.2.1, M.2.2.1, M.2.2.2)) ?h0 (by decide) ?hs ?he]
  · rfl
  case h0 => rfl
  case he =>
    show fX6_layRuns_L24 (nI c) (nI (rsN c 5).1) (nI 5) (runF M.1 (rsN c 5), M.2.1, M.2.2.1, M.2.2.2) = _
    unfold fX6_layRuns_L24
    rw [if_pos (by decide)]
  case hs =>
    intro k hk
    show fX6_layRuns_L24 (nI c) (nI (rsN c k).1) (nI k) (runF M.1 (rsN c k), M.2.1, M.2.2.1, M.2.2.2) = some (.inl (nI (rsS (bq c k) (rsN c k)).1, nI (k + 1), (runF M.1 (rsS (bq c k) (rsN c k)), M.2.1, M.2.2.1, M.2.2.2)))
    obtain ⟨h1, h2, h3, h4, h5⟩ := rsN_le hc (Nat.lt_of_lt_of_le hk (by decide))
    generalize rsN c k = t at *
    obtain ⟨now, many, lng, fst, snd⟩ := t
    dsimp only at *
    have c5 : ¬ (5 : Int32) ≤ nI k := by rw [show (5 : Int32) = nI 5 from rfl, nI_leI (by omega) (by omega)]; omega
    have cb : (((nI c >>> (nI k &&& 31)) &&& (1 : Int32)) = (1 : Int32)) ↔ bq c k = 1 := by rw [nbit (by omega) (by omega)]; exact nI_eq (by have := bq_le c k; omega) (by decide)
    have c0 : nI now ≤ (0 : Int32) ↔ ¬ 0 < now := by rw [show (0 : Int32) = nI 0 from rfl, nI_leI (by omega) (by omega)]; omega
    have ek : nI k + (1 : Int32) = nI (k + 1) := nI_1 k
    have en : nI now + (1 : Int32) = nI (now + 1) := nI_1 now
    have em : nI many + (1 : Int32) = nI (many + 1) := nI_1 many
    have e18 : (nI (many + 1) = (1 : Int32) ↔ many + 1 = 1) := nI_eq (by omega) (by decide)
    have e19 : (nI (many + 1) = (2 : Int32) ↔ many + 1 = 2) := nI_eq (by omega) (by decide)
    have e17 : (nI now ≤ nI lng ↔ ¬ lng < now) := by rw [nI_leI (by omega) (by omega)]; omega
    have v17 (g : Nat → Int32) (a b : Int32) : va_up (va_up g 16 a) 18 b 17 = g 17 := rfl
    have v19 (g : Nat → Int32) (a : Int32) : va_up g 16 a 19 = g 19 := rfl
    have v16 (g : Nat → Int32) (a : Int32) : va_up g 16 a 16 = a := rfl
    by_cases e1 : bq c k = 1
    · simp only [fX6_layRuns_L24, c5, cb, e1, if_true, if_false, ek, en, rsS]
      rfl
    · by_cases e2 : 0 < now
      · by_cases q1 : many + 1 = 1 <;> by_cases q2 : many + 1 = 2 <;> by_cases q3 : lng < now <;>
          simp only [fX6_layRuns_L24, fX6_layRuns_J75, fX6_layRuns_J95, c5, cb, e1, c0, e2, em, e18, e19, e17, q1, q2, q3, v16, v17, v19, runF_16, runF_17, runF_18, runF_19, if_true, if_false, ek, en, rsS, not_true_eq_false, not_false_eq_true] <;>
          refine congrArg some (congrArg Sum.inl (Prod.ext rfl (Prod.ext rfl (Prod.ext (runF_eq rfl rfl rfl rfl (fun j hj => ?_)) rfl)))) <;>
          (simp only [va_up]; rw [if_neg (by omega), if_neg (by omega), if_neg (by omega), if_neg (by omega)]; exact runF_o hj)
      · simp only [fX6_layRuns_L24, c5, cb, e1, c0, e2, if_true, if_false, ek, rsS, not_true_eq_false, not_false_eq_true]
        rfl
