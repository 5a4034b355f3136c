/-! runs of black of a line, its cells as bits -/
/-- one place more: (now, many, longest, first, second) -/
def rsS (b : Nat) (t : Nat × Nat × Nat × Nat × Nat) : Nat × Nat × Nat × Nat × Nat :=
  if b = 1 then (t.1 + 1, t.2)
  else if 0 < t.1 then (0, t.2.1 + 1, (if t.2.2.1 < t.1 then t.1 else t.2.2.1), (if t.2.1 + 1 = 1 then t.1 else t.2.2.2.1), (if t.2.1 + 1 = 2 then t.1 else t.2.2.2.2))
  else (0, t.2)
def rsN (c : Nat) : Nat → Nat × Nat × Nat × Nat × Nat
  | 0 => (0, 0, 0, 0, 0)
  | k + 1 => rsS (bq c k) (rsN c k)
def cntN (c : Nat) : Nat → Nat
  | 0 => 0
  | k + 1 => cntN c k + bq c k
def keptT (t : Nat × Nat × Nat × Nat × Nat) (n k f s : Nat) : Bool :=
  if k = 1 then decide (t.2.2.2.1 = f ∧ t.2.2.2.2 = s)
  else if k = 2 then decide (t.2.1 = f)
  else if k = 3 then decide (t.2.2.1 = f)
  else if k = 4 then decide ((t.2.2.2.1 = f ∧ t.2.2.2.2 = s) ∨ (t.2.1 = 2 ∧ t.2.2.2.1 = s ∧ t.2.2.2.2 = f))
  else decide (n = f)
def keptN (k f s c : Nat) : Bool := keptT (rsN c 5) (cntN c 16) k f s
set_option maxRecDepth 100000 in
theorem a_isKept_b : ((List.range 5).all fun k => (List.range 5).all fun f => (List.range 5).all fun s => (List.range 16).all fun c => (f == 0 && s != 0) || decide (fX1_isKept (nI k) (nI f) (nI s) (nI c) = some (nI (keptN k f s c).toNat))) = true := by decide +kernel
theorem a_isKept {k f s c : Nat} (hk : k < 5) (hf : f < 5) (hs : s < 5) (h0 : f = 0 → s = 0) (hc : c < 16) : fX1_isKept (nI k) (nI f) (nI s) (nI c) = some (nI (keptN k f s c).toNat) := by
  have h := a_isKept_b
  rw [List.all_eq_true] at h
  have h1 := h k (List.mem_range.mpr hk)
  rw [List.all_eq_true] at h1
  have h2 := h1 f (List.mem_range.mpr hf)
  rw [List.all_eq_true] at h2
  have h3 := h2 s (List.mem_range.mpr hs)
  rw [List.all_eq_true] at h3
  have h4 := h3 c (List.mem_range.mpr hc)
  rcases Bool.or_eq_true_iff.mp h4 with h5 | h5
  · simp only [Bool.and_eq_true, beq_iff_eq, bne_iff_ne, ne_eq] at h5
    exact absurd (h0 h5.1) h5.2
  · exact of_decide_eq_true h5
