/-! the reference: clues kept, marks, rows and columns of a picture -/
theorem wh_all {body : Int32 → Option (Int32 ⊕ (Int32 ⊕ Unit))} {N n : Nat} (g : Nat → Bool) (v : Int32) (hs : ∀ k, k < N → body (nI k) = if g k = true then some (.inl (nI (k + 1))) else some (.inr (.inl v))) (he : body (nI N) = some (.inr (.inr ()))) (hn : N < n) : wh body n (nI 0) = some (if (List.range N).all g = true then .inr () else .inl v) := by
  have key : ∀ (d k m : Nat), k + d = N → d < m → wh body m (nI k) = some (if (List.range' k d).all g = true then .inr () else .inl v) := by
    intro d
    induction d with
    | zero =>
      intro k m hk hm
      obtain ⟨m, rfl⟩ : ∃ q, m = q + 1 := ⟨m - 1, by omega⟩
      have : k = N := by omega
      subst this
      rw [wh_r he]
      rfl
    | succ d ih =>
      intro k m hk hm
      obtain ⟨m, rfl⟩ : ∃ q, m = q + 1 := ⟨m - 1, by omega⟩
      have h1 := hs k (by omega)
      rw [List.range'_succ, List.all_cons]
      by_cases a : g k = true
      · rw [if_pos a] at h1
        rw [wh_i h1, ih (k + 1) m (by omega) (by omega), a, Bool.true_and]
      · rw [if_neg a] at h1
        rw [wh_r h1, if_neg (by simp [a])]
  have := key N 0 n (by omega) hn
  rw [← List.range_eq_range'] at this
  exact this
theorem c_isKept (M : OM) {k f s c : Nat} (hk : k < 5) (hf : f < 5) (hs : s < 5) (hc : c < 16) : fX6_isKept M (nI k) (nI f) (nI s) (nI c) = some (nI (keptN k f s c).toNat, (runF M.1 (rsN c 5), M.2.1, M.2.2.1, M.2.2.2)) := by
  obtain ⟨h1, h2, h3, h4, h5⟩ := rsN_le hc (show 5 < 6 by decide)
  have ho := cntN_le c 16
  have e16 : (nI (rsN c 5).2.1 = nI f) ↔ (rsN c 5).2.1 = f := nI_eq (by omega) (by omega)
  have e17 : (nI (rsN c 5).2.2.1 = nI f) ↔ (rsN c 5).2.2.1 = f := nI_eq (by omega) (by omega)
  have e18 : (nI (rsN c 5).2.2.2.1 = nI f) ↔ (rsN c 5).2.2.2.1 = f := nI_eq (by omega) (by omega)
  have e19 : (nI (rsN c 5).2.2.2.2 = nI s) ↔ (rsN c 5).2.2.2.2 = s := nI_eq (by omega) (by omega)
  have f16 : (nI (rsN c 5).2.1 = (2 : Int32)) ↔ (rsN c 5).2.1 = 2 := nI_eq (by omega) (by decide)
  have f18 : (nI (rsN c 5).2.2.2.1 = nI s) ↔ (rsN c 5).2.2.2.1 = s := nI_eq (by omega) (by omega)
  have f19 : (nI (rsN c 5).2.2.2.2 = nI f) ↔ (rsN c 5).2.2.2.2 = f := nI_eq (by omega) (by omega)
  have g0 : (nI (cntN c 16) = nI f) ↔ cntN c 16 = f := nI_eq (by omega) (by omega)
  have k1 : (nI k = (1 : Int32)) ↔ k = 1 := nI_eq (by omega) (by decide)
  have k2 : (nI k = (2 : Int32)) ↔ k = 2 := nI_eq (by omega) (by decide)
  have k3 : (nI k = (3 : Int32)) ↔ k = 3 := nI_eq (by omega) (by decide)
  have k4 : (nI k = (4 : Int32)) ↔ k = 4 := nI_eq (by omega) (by decide)
  unfold fX6_isKept keptN
  rw [b_layRuns M hc]
  simp only [Option.bind_some, runF_16, runF_17, runF_18, runF_19, k1, k2, k3, k4, e16, e17, e18, e19, fX6_isKept_J74, f16, f18, f19, c_ones (show c < 2 ^ 31 by omega), g0]
  generalize runF M.1 (rsN c 5) = F
  generalize rsN c 5 = t at *
  generalize cntN c 16 = n at *
  obtain ⟨now, many, lng, fst, snd⟩ := t
  dsimp only at *
  unfold keptT
  dsimp only
  rcases (show k = 0 ∨ k = 1 ∨ k = 2 ∨ k = 3 ∨ k = 4 by omega) with rfl | rfl | rfl | rfl | rfl
  · by_cases q : n = f <;> simp [q] <;> rfl
  · by_cases q : fst = f <;> by_cases q2 : snd = s <;> simp [q, q2] <;> rfl
  · by_cases q : many = f <;> simp [q] <;> rfl
  · by_cases q : lng = f <;> simp [q] <;> rfl
  · rcases Classical.propComplete (fst = f) with q | q <;> rcases Classical.propComplete (snd = s) with q2 | q2 <;> rcases Classical.propComplete (many = 2) with q3 | q3 <;> rcases Classical.propComplete (fst = s) with q4 | q4 <;> rcases Classical.propComplete (snd = f) with q5 | q5 <;> simp only [q, q2, q3, q4, q5, if_true, if_false, decide_true, decide_false, and_self, and_true, true_and, and_false, false_and, or_self, or_true, true_or, or_false, false_or, reduceCtorEq, Nat.reduceEqDiff, show ¬ (4 : Nat) = 1 by decide, show ¬ (4 : Nat) = 2 by decide, show ¬ (4 : Nat) = 3 by decide] <;> rfl
theorem c_keepsOf {M : OM} {l k f s c : Nat} (hl : l < 8) (e1 : M.2.1 12 l = nI k) (e2 : M.2.1 13 l = nI f) (e3 : M.2.1 14 l = nI s) (hk : k < 5) (hf : f < 5) (hs : s < 5) (hc : c < 16) : fX6_keepsOf M (nI l) (nI c) = some (nI (keptN k f s c).toNat, (runF M.1 (rsN c 5), M.2.1, M.2.2.1, M.2.2.2)) := by
  have o1 := okI_t hl (by decide)
  have cl : (nI l).toNatClampNeg = l := nI_clamp (by omega)
  simp only [fX6_keepsOf, o1, if_true, cl, e1, e2, e3, c_isKept M hk hf hs hc, Option.bind_some]
  cases keptN k f s c <;> rfl
/-- the cells marked so, as bits -/
def mskN (mk : Nat → Nat) (how : Nat) : Nat → Nat
  | 0 => 0
  | k + 1 => mskN mk how k ||| (if mk k = how then 2 ^ k else 0)
theorem mskN_lt (mk : Nat → Nat) (how k : Nat) : mskN mk how k < 2 ^ k := by
  induction k with
  | zero => exact Nat.zero_lt_one
  | succ k ih =>
    show _ ||| _ < _
    have h1 : 2 ^ k < 2 ^ (k + 1) := Nat.pow_lt_pow_right (by decide) (by omega)
    refine Nat.or_lt_two_pow (by omega) ?_
    split
    · exact h1
    · exact Nat.two_pow_pos _
theorem mskN_tb (mk : Nat → Nat) (how n j : Nat) : (mskN mk how n).testBit j = decide (j < n ∧ mk j = how) := by
  induction n with
  | zero => simp [mskN]
  | succ n ih =>
    show (mskN mk how n ||| _).testBit j = _
    rw [Nat.testBit_or, ih]
    by_cases a : mk n = how
    · rw [if_pos a, Nat.testBit_two_pow]
      by_cases b : n = j
      · subst b; simp [a]
      · have : (j < n + 1) ↔ (j < n) := by omega
        simp [b, this]
    · rw [if_neg a, Nat.zero_testBit, Bool.or_false]
      by_cases b : j = n
      · subst b; simp [a]
      · have : (j < n + 1) ↔ (j < n) := by omega
        simp [this]
theorem c_marked {M : OM} {h w : Nat} {mk : Nat → Nat} (h9 : M.1 9 = nI h) (h10 : M.1 10 = nI w) (hm : h * w ≤ 16) (hk : ∀ j, j < h * w → M.2.1 15 j = nI (mk j) ∧ mk j < 3) {how : Nat} (hw3 : how < 3) : fX6_marked M (nI how) = some (nI (mskN mk how (h * w))) := by
  unfold fX6_marked
  refine wh_b (fun k => (nI (mskN mk how k), nI k)) (h * w) (nI (mskN mk how (h * w))) rfl (by omega) ?hs ?he rfl
  case he =>
    show fX6_marked_L4 M (nI how) (nI (mskN mk how (h * w))) (nI (h * w)) = _
    simp only [fX6_marked_L4, h9, h10, pk_mul, Int32.le_refl, if_true]
  case hs =>
    intro k hk2
    show fX6_marked_L4 M (nI how) (nI (mskN mk how k)) (nI k) = some (.inl (nI (mskN mk how k ||| (if mk k = how then 2 ^ k else 0)), nI (k + 1)))
    obtain ⟨e1, e2⟩ := hk k hk2
    have c1 : ¬ nI (h * w) ≤ nI k := by rw [nI_leI (by omega) (by omega)]; omega
    have o1 := okI_t (show k < 16 by omega) (by decide)
    have cl : (nI k).toNatClampNeg = k := nI_clamp (by omega)
    have c2 : (nI (mk k) = nI how) ↔ mk k = how := nI_eq (by omega) (by omega)
    have hlt := mskN_lt mk how k
    have h16 : 2 ^ k < 2 ^ 16 := Nat.pow_lt_pow_right (by decide) (by omega)
    have ek : nI k + (1 : Int32) = nI (k + 1) := nI_1 k
    by_cases a : mk k = how
    · simp only [fX6_marked_L4, h9, h10, pk_mul, c1, if_false, o1, if_true, cl, e1, c2, a, sh1 (show k < 31 by omega), ek]
      rw [nq_or (by omega) (by omega)]
    · simp only [fX6_marked_L4, h9, h10, pk_mul, c1, if_false, o1, if_true, cl, e1, c2, a, ek]
      rw [show (0 : Int32) = nI 0 from rfl, nq_or (by omega) (by omega)]
/-- a row of a picture, a column -/
def rowN (w p r : Nat) : Nat := p / 2 ^ (w * r) % 2 ^ w
def colN (w p c : Nat) : Nat → Nat
  | 0 => 0
  | r + 1 => colN w p c r ||| (bq p (w * r + c) * 2 ^ r)
theorem rowN_lt (w p r : Nat) : rowN w p r < 2 ^ w := Nat.mod_lt _ (Nat.two_pow_pos _)
theorem colN_lt (w p c h : Nat) : colN w p c h < 2 ^ h := by
  induction h with
  | zero => exact Nat.zero_lt_one
  | succ r ih =>
    show _ ||| _ < _
    have h1 : 2 ^ (r + 1) = 2 * 2 ^ r := by rw [Nat.pow_succ]; omega
    have h2 := bq_le p (w * r + c)
    have h3 : bq p (w * r + c) * 2 ^ r ≤ 1 * 2 ^ r := Nat.mul_le_mul_right _ (by omega)
    exact Nat.or_lt_two_pow (by omega) (by have := Nat.two_pow_pos r; omega)
theorem c_rowOf {M : OM} {w p r : Nat} (h10 : M.1 10 = nI w) (hw : w ≤ 4) (hr : r < 4) (hp : p < 2 ^ 16) : fX6_rowOf M (nI p) (nI r) = some (nI (rowN w p r)) := by
  have hwr : w * r ≤ 4 * 3 := Nat.mul_le_mul hw (by omega)
  have h2 : 2 ^ w ≤ 16 := pw_le (b := 4) hw
  have h3 := Nat.two_pow_pos w
  unfold fX6_rowOf rowN
  rw [h10, pk_mul, nq_shr (by omega) (by omega), sh1 (by omega), show (1 : Int32) = nI 1 from rfl, pk_sub h3]
  have h4 : p / 2 ^ (w * r) < 2 ^ 32 := Nat.lt_of_le_of_lt (Nat.div_le_self _ _) (by omega)
  rw [pk_andN h4 w (pk_tn (by omega))]
theorem c_columnOf {M : OM} {h w p c : Nat} (h9 : M.1 9 = nI h) (h10 : M.1 10 = nI w) (hh : h ≤ 4) (hw : w ≤ 4) (hc : c < 4) (hp : p < 2 ^ 16) : fX6_columnOf M (nI p) (nI c) = some (nI (colN w p c h)) := by
  unfold fX6_columnOf
  refine wh_b (fun k => (nI (colN w p c k), nI k)) h (nI (colN w p c h)) rfl (by omega) ?hs ?he rfl
  case he =>
    show fX6_columnOf_L5 M (nI p) (nI c) (nI (colN w p c h)) (nI h) = _
    simp only [fX6_columnOf_L5, h9, Int32.le_refl, if_true]
  case hs =>
    intro k hk
    show fX6_columnOf_L5 M (nI p) (nI c) (nI (colN w p c k)) (nI k) = some (.inl (nI (colN w p c k ||| (bq p (w * k + c) * 2 ^ k)), nI (k + 1)))
    have c1 : ¬ nI h ≤ nI k := by rw [nI_leI (by omega) (by omega)]; omega
    have hwr : w * k ≤ 4 * 3 := Nat.mul_le_mul hw (by omega)
    have ek : nI k + (1 : Int32) = nI (k + 1) := nI_1 k
    have hb := bq_le p (w * k + c)
    have h16 : 2 ^ k < 2 ^ 16 := Nat.pow_lt_pow_right (by decide) (by omega)
    have hm : bq p (w * k + c) * 2 ^ k ≤ 1 * 2 ^ k := Nat.mul_le_mul_right _ (by omega)
    have hlt := colN_lt w p c k
    simp only [fX6_columnOf_L5, h9, h10, c1, if_false, pk_mul, nI_add, nbit (show p < 2 ^ 31 by omega) (show w * k + c < 32 by omega), ek]
    rw [nq_shl (by omega) (by omega), nq_or (by omega) (by omega)]
/-- which pictures fit: by a table of which cells keep which line, and the marks -/
def fitN (h w : Nat) (tb : Nat → Nat → Bool) (bl wt p : Nat) : Bool := decide (p &&& bl = bl) && (decide (p &&& wt = 0) && ((List.range h).all (fun r => tb r (rowN w p r)) && (List.range w).all (fun c => tb (h + c) (colN w p c h))))
theorem c_isFitting {M : OM} {h w p bl wt : Nat} {tb : Nat → Nat → Bool} (h9 : M.1 9 = nI h) (h10 : M.1 10 = nI w) (hh : h ≤ 4) (hw : w ≤ 4) (ht : ∀ l, l < h + w → ∀ c, c < 16 → M.2.1 24 (16 * l + c) = nI (tb l c).toNat) (hp : p < 2 ^ 16) (hb : bl < 2 ^ 16) (hwt : wt < 2 ^ 16) : fX6_isFitting M (nI p) (nI bl) (nI wt) = some (iz (fitN h w tb bl wt p = true)) := by
  have pa : p &&& bl < 2 ^ 16 := Nat.lt_of_le_of_lt Nat.and_le_left hp
  have pb : p &&& wt < 2 ^ 16 := Nat.lt_of_le_of_lt Nat.and_le_left hp
  have c1 : ((nI p &&& nI bl) = nI bl) ↔ (p &&& bl = bl) := by rw [nq_and (by omega) (by omega)]; exact nI_eq (by omega) (by omega)
  have c2 : ((nI p &&& nI wt) = 0) ↔ (p &&& wt = 0) := by rw [nq_and (by omega) (by omega)]; exact nI_eq (b := 0) (by omega) (by decide)
  have rows : wh (σ := Int32) (ρ := (Int32) ⊕ (Unit)) (fun t => fX6_isFitting_L18 M (nI p) t) 100000 (0 : Int32) = some (if (List.range h).all (fun r => tb r (rowN w p r)) = true then .inr () else .inl 0) := by
    refine wh_all (N := h) (fun r => tb r (rowN w p r)) 0 ?_ ?_ (by omega)
    · intro r hr
      have q1 : ¬ nI h ≤ nI r := by rw [nI_leI (by omega) (by omega)]; omega
      have hl := rowN_lt w p r
      have h2 : 2 ^ w ≤ 16 := pw_le (b := 4) hw
      have o1 := okI_t (show 16 * r + rowN w p r < 128 by omega) (by decide)
      have cl : (nI (16 * r + rowN w p r)).toNatClampNeg = 16 * r + rowN w p r := nI_clamp (by omega)
      have ek : nI r + (1 : Int32) = nI (r + 1) := nI_1 r
      show fX6_isFitting_L18 M (nI p) (nI r) = _
      unfold fX6_isFitting_L18
      rw [h9, if_neg q1, c_rowOf h10 hw (by omega) hp, Option.bind_some, show (16 : Int32) = nI 16 from rfl, pk_mul, nI_add, o1, cl, ht r (by omega) _ (by omega), ek]
      cases tb r (rowN w p r) <;> rfl
    · show fX6_isFitting_L18 M (nI p) (nI h) = _
      simp only [fX6_isFitting_L18, h9, Int32.le_refl, if_true]
  have cols : wh (σ := Int32) (ρ := (Int32) ⊕ (Unit)) (fun t => fX6_isFitting_L59 M (nI p) t) 100000 (0 : Int32) = some (if (List.range w).all (fun c => tb (h + c) (colN w p c h)) = true then .inr () else .inl 0) := by
    refine wh_all (N := w) (fun c => tb (h + c) (colN w p c h)) 0 ?_ ?_ (by omega)
    · intro r hr
      have q1 : ¬ nI w ≤ nI r := by rw [nI_leI (by omega) (by omega)]; omega
      have hl := colN_lt w p r h
      have h2 : 2 ^ h ≤ 16 := pw_le (b := 4) hh
      have o1 := okI_t (show 16 * (h + r) + colN w p r h < 128 by omega) (by decide)
      have cl : (nI (16 * (h + r) + colN w p r h)).toNatClampNeg = 16 * (h + r) + colN w p r h := nI_clamp (by omega)
      have ek : nI r + (1 : Int32) = nI (r + 1) := nI_1 r
      show fX6_isFitting_L59 M (nI p) (nI r) = _
      unfold fX6_isFitting_L59
      rw [h10, if_neg q1, c_columnOf h9 h10 hh hw (by omega) hp, Option.bind_some, h9, nI_add, show (16 : Int32) = nI 16 from rfl, pk_mul, nI_add, o1, cl, ht (h + r) (by omega) _ (by omega), ek]
      cases tb (h + r) (colN w p r h) <;> rfl
    · show fX6_isFitting_L59 M (nI p) (nI w) = _
      simp only [fX6_isFitting_L59, h10, Int32.le_refl, if_true]
  unfold fitN
  by_cases a : p &&& bl = bl
  · by_cases b : p &&& wt = 0
    · cases e1 : (List.range h).all (fun r => tb r (rowN w p r)) <;> cases e2 : (List.range w).all (fun c => tb (h + c) (colN w p c h)) <;>
        simp only [fX6_isFitting, fX6_isFitting_J56, fX6_isFitting_J102, c1, c2, a, b, if_true, if_false, rows, cols, e1, e2, Option.bind_some, Sum.elim_inl, Sum.elim_inr, decide_true, Bool.true_and, Bool.and_false, Bool.and_true, Bool.false_and, Bool.false_eq_true] <;> rfl
    · simp only [fX6_isFitting, c1, c2, a, b, if_true, if_false, decide_true, decide_false, Bool.true_and, Bool.false_and, Bool.false_eq_true]
      rfl
  · simp only [fX6_isFitting, c1, a, if_false, decide_false, Bool.false_and, Bool.false_eq_true]
    rfl
