/-! no board has more than 1690 fits -/
theorem cvN_tb : ∀ (qs : List Nat) (p i : Nat), (cvN qs p).testBit i = match qs[i]? with | some q => p.testBit q | none => false := by
  intro qs
  induction qs with
  | nil => intro p i; show (0 : Nat).testBit i = _; rw [Nat.zero_testBit]; rfl
  | cons q qs ih =>
    intro p i
    have hb := bq_le p q
    cases i with
    | zero =>
      show (bq p q + 2 * cvN qs p).testBit 0 = p.testBit q
      rw [Nat.testBit_zero, show (bq p q + 2 * cvN qs p) % 2 = bq p q by omega, bq_tb]
      cases p.testBit q <;> rfl
    | succ i =>
      show (bq p q + 2 * cvN qs p).testBit (i + 1) = match qs[i]? with | some q => p.testBit q | none => false
      rw [Nat.testBit_succ, show (bq p q + 2 * cvN qs p) / 2 = cvN qs p by omega, ih]
theorem cv_row {h w l p : Nat} (hl : l < h) : cvN (posN h w l) p = rowN w p l := by
  apply Nat.eq_of_testBit_eq
  intro i
  rw [cvN_tb, rowN_tb]
  unfold posN
  rw [if_pos hl]
  by_cases a : i < w
  · simp [a]
  · simp [a]
theorem cv_col {h w l p : Nat} (hl : ¬ l < h) : cvN (posN h w l) p = colN w p (l - h) h := by
  apply Nat.eq_of_testBit_eq
  intro i
  rw [cvN_tb, colN_tb]
  unfold posN
  rw [if_neg hl]
  by_cases a : i < h
  · simp [a]
  · simp [a]
theorem pos_len (h w l : Nat) : (posN h w l).length = lenN h w l := by
  unfold posN lenN
  split <;> simp
theorem pos_lt {h w l q : Nat} (hl : l < h + w) (hq : q ∈ posN h w l) : q < h * w := by
  unfold posN at hq
  by_cases a : l < h
  · rw [if_pos a] at hq
    simp only [List.mem_map, List.mem_range] at hq
    obtain ⟨c, hc, rfl⟩ := hq
    have h1 : w * (l + 1) ≤ w * h := Nat.mul_le_mul_left _ a
    rw [Nat.mul_succ] at h1
    rw [Nat.mul_comm h w]
    omega
  · rw [if_neg a] at hq
    simp only [List.mem_map, List.mem_range] at hq
    obtain ⟨r, hr, rfl⟩ := hq
    have h1 : w * (r + 1) ≤ w * h := Nat.mul_le_mul_left _ hr
    rw [Nat.mul_succ] at h1
    rw [Nat.mul_comm h w]
    omega
theorem fit_lines {h w bl wt p : Nat} {tb : Nat → Nat → Bool} (hf : fitN h w tb bl wt p = true) {l : Nat} (hl : l < h + w) : tb l (cvN (posN h w l) p) = true := by
  unfold fitN at hf
  simp only [Bool.and_eq_true, List.all_eq_true, List.mem_range] at hf
  by_cases a : l < h
  · rw [cv_row a]; exact hf.2.2.1 l a
  · rw [cv_col a]
    have := hf.2.2.2 (l - h) (by omega)
    rw [show h + (l - h) = l by omega] at this
    exact this
theorem bnd_of {n h w bl wt : Nat} {tb : Nat → Nat → Bool} (hn : n = h * w) (hc : chN n 1690 (lnsN h w) (2 ^ 2 ^ n - 1) = true) (hm : ∀ l, l < h + w → ∃ m ∈ mxN (lenN h w l), ∀ c, c < 2 ^ lenN h w l → tb l c = true → m.testBit c = true) : cntF (fitN h w tb bl wt) (2 ^ n) ≤ 1690 := by
  have ex : ∀ l, ∃ m, l < h + w → (m ∈ mxN (lenN h w l) ∧ ∀ c, c < 2 ^ lenN h w l → tb l c = true → m.testBit c = true) := by
    intro l
    by_cases a : l < h + w
    · obtain ⟨m, h1, h2⟩ := hm l a
      exact ⟨m, fun _ => ⟨h1, h2⟩⟩
    · exact ⟨0, fun q => absurd q a⟩
  obtain ⟨mm, hmm⟩ := Classical.axiomOfChoice ex
  have h1 := chN_sound (lnsN h w) _ hc ((List.range (h + w)).map (fun l => lmN (h * w) (posN h w l) (mm l) (2 ^ lenN h w l))) (by unfold lnsN; simp) (by
    intro i m ms e1 e2
    unfold lnsN at e2
    by_cases a : i < h + w
    · rw [List.getElem?_map, List.getElem?_range a] at e1 e2
      simp only [Option.map_some, Option.some.injEq] at e1 e2
      rw [← e1, ← e2]
      exact List.mem_map.mpr ⟨mm i, (hmm i a).1, rfl⟩
    · rw [List.getElem?_map, List.getElem?_eq_none (by simp; omega)] at e1
      cases e1)
  refine Nat.le_trans (cntF_mono (fun p hp hf => ?_)) h1
  rw [Bool.and_eq_true, Nat.testBit_two_pow_sub_one, List.all_eq_true]
  refine ⟨decide_eq_true hp, ?_⟩
  intro m hmem
  rw [List.mem_map] at hmem
  obtain ⟨l, hl, rfl⟩ := hmem
  have hl := List.mem_range.mp hl
  subst hn
  rw [← pos_len, lmN_all (fun q hq => pos_lt hl hq) hp]
  refine (hmm l hl).2 _ ?_ (fit_lines hf hl)
  rw [← pos_len]
  exact cvN_lt _ _
theorem mx_cov_b : ([2, 3, 4].all fun len => (List.range 5).all fun k => (List.range 5).all fun f => (List.range 5).all fun s => (f == 0 && s != 0) || (mxN len).any fun m => (List.range (2 ^ len)).all fun c => !(keptN k f s c) || m.testBit c) = true := by decide +kernel
theorem mx_cov {len k f s : Nat} (hl : 2 ≤ len) (hl4 : len ≤ 4) (hk : k < 5) (hf : f < 5) (hs : s < 5) (h0 : f = 0 → s = 0) : ∃ m ∈ mxN len, ∀ c, c < 2 ^ len → keptN k f s c = true → m.testBit c = true := by
  have h := mx_cov_b
  rw [List.all_eq_true] at h
  have h1 := h len (by simp; omega)
  rw [List.all_eq_true] at h1
  have h2 := h1 k (List.mem_range.mpr hk)
  rw [List.all_eq_true] at h2
  have h3 := h2 f (List.mem_range.mpr hf)
  rw [List.all_eq_true] at h3
  have h4 := h3 s (List.mem_range.mpr hs)
  rcases Bool.or_eq_true_iff.mp h4 with h5 | h5
  · simp only [Bool.and_eq_true, beq_iff_eq, bne_iff_ne, ne_eq] at h5
    exact absurd (h0 h5.1) h5.2
  · rw [List.any_eq_true] at h5
    obtain ⟨m, hm, h6⟩ := h5
    refine ⟨m, hm, fun c hc hk => ?_⟩
    rw [List.all_eq_true] at h6
    have h7 := h6 c (List.mem_range.mpr hc)
    rw [hk] at h7
    exact h7
theorem bnd {h w bl wt : Nat} {tb : Nat → Nat → Bool} {kd fr sc : Nat → Nat} (h2 : 2 ≤ h) (h4 : h ≤ 4) (w2 : 2 ≤ w) (w4 : w ≤ 4) (hcl : ∀ l, l < h + w → kd l < 5 ∧ fr l < 5 ∧ sc l < 5 ∧ (fr l = 0 → sc l = 0)) (ht : ∀ l, l < h + w → ∀ c, c < 2 ^ lenN h w l → tb l c = true → keptN (kd l) (fr l) (sc l) c = true) : cntF (fitN h w tb bl wt) (2 ^ (h * w)) ≤ 1690 := by
  have hm : ∀ l, l < h + w → ∃ m ∈ mxN (lenN h w l), ∀ c, c < 2 ^ lenN h w l → tb l c = true → m.testBit c = true := by
    intro l hl
    obtain ⟨a1, a2, a3, a4⟩ := hcl l hl
    obtain ⟨m, b1, b2⟩ := mx_cov (len := lenN h w l) (by unfold lenN; split <;> omega) (lenN_le h4 w4) a1 a2 a3 a4
    exact ⟨m, b1, fun c hc hk => b2 c hc (ht l hl c hc hk)⟩
  have small : h * w ≤ 10 → cntF (fitN h w tb bl wt) (2 ^ (h * w)) ≤ 1690 := fun hs => Nat.le_trans (cntF_le _ _) (Nat.le_trans (pw_le hs) (by decide))
  have hh : h = 2 ∨ h = 3 ∨ h = 4 := by omega
  have ww : w = 2 ∨ w = 3 ∨ w = 4 := by omega
  rcases hh with rfl | rfl | rfl <;> rcases ww with rfl | rfl | rfl
  · exact small (by decide)
  · exact small (by decide)
  · exact small (by decide)
  · exact small (by decide)
  · exact small (by decide)
  · exact bnd_of (n := 12) rfl ch_34 hm
  · exact small (by decide)
  · exact bnd_of (n := 12) rfl ch_43 hm
  · exact bnd_of (n := 16) rfl ch_44 hm
