/-! small functions of both sides -/
def iz (p : Prop) [Decidable p] : Int32 := if p then 1 else 0
theorem iz_t {p : Prop} [Decidable p] (h : p) : iz p = 1 := if_pos h
theorem iz_f {p : Prop} [Decidable p] (h : ¬ p) : iz p = 0 := if_neg h
theorem iz_0 {p : Prop} [Decidable p] : iz p = 0 ↔ ¬ p := by
  by_cases h : p
  · rw [iz_t h]; exact ⟨fun e => absurd e (by decide), fun e => absurd h e⟩
  · rw [iz_f h]; exact ⟨fun _ => h, fun _ => rfl⟩
theorem iz_1 {p : Prop} [Decidable p] : iz p = 1 ↔ p := by
  by_cases h : p
  · rw [iz_t h]; exact ⟨fun _ => h, fun _ => rfl⟩
  · rw [iz_f h]; exact ⟨fun e => absurd e (by decide), fun e => absurd e h⟩
theorem iz_z {p : Prop} [Decidable p] : okZ (iz p) = true := by
  by_cases h : p
  · rw [iz_t h]; decide
  · rw [iz_f h]; decide
theorem iz_n {p : Prop} [Decidable p] : iz p = nI (decide p).toNat := by
  by_cases h : p
  · rw [iz_t h]; simp [h]; rfl
  · rw [iz_f h]; simp [h]; rfl
theorem iz_c {p q : Prop} [Decidable p] [Decidable q] (h : p ↔ q) : iz p = iz q := by
  by_cases hp : p
  · rw [iz_t hp, iz_t (h.mp hp)]
  · rw [iz_f hp, iz_f (fun e => hp (h.mpr e))]
theorem c_in (x y z : Int64) : fX6_in x y z = some (iz (y ≤ x ∧ x ≤ z)) := by
  unfold fX6_in
  have h1 : lg_cmp x y < 0 ↔ ¬ y ≤ x := by
    rw [← lg_cmp_ge]
    exact Int32.not_le.symm
  have h2 : 0 < lg_cmp x z ↔ ¬ x ≤ z := by
    unfold lg_cmp
    by_cases a : x > z
    · rw [if_pos a]; exact ⟨fun _ => Int64.not_le.mpr a, fun _ => by decide⟩
    · rw [if_neg a]
      by_cases b : x = z
      · rw [if_pos b]; exact ⟨fun q => absurd q (by decide), fun q => absurd (Int64.not_lt.mp a) q⟩
      · rw [if_neg b]; exact ⟨fun q => absurd q (by decide), fun q => absurd (Int64.not_lt.mp a) q⟩
  by_cases a : y ≤ x <;> by_cases b : x ≤ z <;> simp only [h1, h2, a, b, if_true, if_false, not_true_eq_false, not_false_eq_true, iz, and_self, and_true, true_and, and_false, false_and]
theorem i64_le (a b : Int32) : a.toInt64 ≤ b.toInt64 ↔ a.toInt ≤ b.toInt := by rw [Int64.le_iff_toInt_le, Int32.toInt_toInt64, Int32.toInt_toInt64]
theorem c_in32 (x a b : Int32) : fX6_in x.toInt64 a.toInt64 b.toInt64 = some (iz (a.toInt ≤ x.toInt ∧ x.toInt ≤ b.toInt)) := by
  rw [c_in]
  exact congrArg some (iz_c (by rw [i64_le, i64_le]))
theorem nI_m1 {n : Nat} (h : n < 2 ^ 30) : (nI n - 1).toInt = (n : Int) - 1 := pk_sub_toInt (a := n) (b := 1) h (by decide)
theorem c_isLine {M : OM} {h w : Nat} (h9 : M.1 9 = nI h) (h10 : M.1 10 = nI w) (hh : h ≤ 4) (hw : w ≤ 4) (x : Int32) : fX6_isLine M x = some (iz (0 ≤ x.toInt ∧ x.toInt < ((h + w : Nat) : Int))) := by
  unfold fX6_isLine
  rw [h9, h10, nI_add, show (0 : Int64) = (0 : Int32).toInt64 from rfl, c_in32, nI_m1 (by omega)]
  show (if okZ _ = true then _ else _) = _
  rw [if_pos iz_z]
  refine congrArg some (iz_c ?_)
  show (0 : Int) ≤ _ ∧ _ ↔ _
  omega
theorem c_isCell {M : OM} {h w : Nat} (h9 : M.1 9 = nI h) (h10 : M.1 10 = nI w) (hh : h ≤ 4) (hw : w ≤ 4) (x : Int32) : fX6_isCell M x = some (iz (0 ≤ x.toInt ∧ x.toInt < ((h * w : Nat) : Int))) := by
  unfold fX6_isCell
  have hm : h * w ≤ 16 := Nat.mul_le_mul hh hw
  rw [h9, h10, pk_mul, show (0 : Int64) = (0 : Int32).toInt64 from rfl, c_in32, nI_m1 (by omega)]
  show (if okZ _ = true then _ else _) = _
  rw [if_pos iz_z]
  refine congrArg some (iz_c ?_)
  show (0 : Int) ≤ _ ∧ _ ↔ _
  omega
theorem i_lt0 (x : Int32) : x < 0 ↔ x.toInt < 0 := Int32.lt_iff_toInt_lt
theorem i_nle {n : Nat} (hn : n < 2 ^ 31) (x : Int32) : nI n ≤ x ↔ (n : Int) ≤ x.toInt := by rw [Int32.le_iff_toInt_le, nI_toInt hn]
theorem a_hasLine {S : Ob} {h w : Nat} (h0 : S.1 0 = nI h) (h1 : S.1 1 = nI w) (hh : h ≤ 4) (hw : w ≤ 4) (x : Int32) : fX4_hasLine S x = some (iz (0 ≤ x.toInt ∧ x.toInt < ((h + w : Nat) : Int))) := by
  have e1 : (nI h + nI w ≤ x) ↔ ((h + w : Nat) : Int) ≤ x.toInt := by rw [nI_add]; exact i_nle (by omega) x
  have e2 : ((8 : Int32) ≤ x) ↔ (8 : Int) ≤ x.toInt := i_nle (n := 8) (by decide) x
  by_cases a : x.toInt < 0
  · simp only [fX4_hasLine, i_lt0, a, if_true]
    rw [iz_f (by omega)]
  · by_cases b : ((h + w : Nat) : Int) ≤ x.toInt
    · simp only [fX4_hasLine, fX4_lines, i_lt0, a, if_false, Option.bind_some, h0, h1, e1, b, if_true]
      rw [iz_f (by omega)]
    · have c : ¬ (8 : Int) ≤ x.toInt := by omega
      simp only [fX4_hasLine, fX4_lines, i_lt0, a, if_false, Option.bind_some, h0, h1, e1, b, e2, c]
      rw [iz_t (by omega)]
theorem a_hasCell {S : Ob} {h w : Nat} (h0 : S.1 0 = nI h) (h1 : S.1 1 = nI w) (hh : h ≤ 4) (hw : w ≤ 4) (x : Int32) : fX4_hasCell S x = some (iz (0 ≤ x.toInt ∧ x.toInt < ((h * w : Nat) : Int))) := by
  have hm : h * w ≤ 16 := Nat.mul_le_mul hh hw
  have e1 : (nI h * nI w ≤ x) ↔ ((h * w : Nat) : Int) ≤ x.toInt := by rw [pk_mul]; exact i_nle (by omega) x
  by_cases a : x.toInt < 0
  · simp only [fX4_hasCell, i_lt0, a, if_true]
    rw [iz_f (by omega)]
  · by_cases b : ((h * w : Nat) : Int) ≤ x.toInt
    · simp only [fX4_hasCell, fX4_cells, i_lt0, a, if_false, Option.bind_some, h0, h1, e1, b, if_true]
      rw [iz_f (by omega)]
    · simp only [fX4_hasCell, fX4_cells, i_lt0, a, if_false, Option.bind_some, h0, h1, e1, b]
      rw [iz_t (by omega)]
/-- a number between: it is nI of one -/
theorem nI_of3 {x : Int32} {n : Nat} (h : 0 ≤ x.toInt ∧ x.toInt < (n : Int)) : ∃ j, j < n ∧ x = nI j := by
  obtain ⟨j, hj, e⟩ := nI_of (x := x) (fun q => by rw [i_lt0] at q; omega)
  refine ⟨j, ?_, e⟩
  rw [e, nI_toInt hj] at h
  omega
def lenN (h w l : Nat) : Nat := if l < h then w else h
theorem lenN_le {h w l : Nat} (hh : h ≤ 4) (hw : w ≤ 4) : lenN h w l ≤ 4 := by unfold lenN; split <;> omega
theorem a_length {S : Ob} {h w : Nat} (h0 : S.1 0 = nI h) (h1 : S.1 1 = nI w) (hh : h ≤ 4) {l : Nat} (hl : l < 2 ^ 31) : fX4_length S (nI l) = some (nI (lenN h w l)) := by
  have e : (nI h ≤ nI l) ↔ ¬ l < h := by rw [nI_leI (by omega) hl]; omega
  by_cases a : l < h <;> simp only [fX4_length, h0, h1, e, a, if_true, if_false, lenN, not_true_eq_false, not_false_eq_true]
theorem c_cellsOf {M : OM} {h w : Nat} (h9 : M.1 9 = nI h) (h10 : M.1 10 = nI w) (hh : h ≤ 4) {l : Nat} (hl : l < 2 ^ 31) : fX6_cellsOf M (nI l) = some (nI (lenN h w l)) := by
  have e : (nI h ≤ nI l) ↔ ¬ l < h := by rw [nI_leI (by omega) hl]; omega
  by_cases a : l < h <;> simp only [fX6_cellsOf, h9, h10, e, a, if_true, if_false, lenN, not_true_eq_false, not_false_eq_true]
theorem pw_le {a b : Nat} (h : a ≤ b) : 2 ^ a ≤ 2 ^ b := Nat.pow_le_pow_right (by decide) h
theorem sh1 {k : Nat} (hk : k < 31) : (1 : Int32) <<< (nI k &&& 31) = nI (2 ^ k) := by
  have h : 2 ^ k < 2 ^ 31 := Nat.pow_lt_pow_right (by decide) hk
  have := nq_shl (a := 1) (k := k) (by omega) (by omega)
  rw [Nat.one_mul] at this
  exact this
theorem a_hasCellsOf {S : Ob} {h w : Nat} (h0 : S.1 0 = nI h) (h1 : S.1 1 = nI w) (hh : h ≤ 4) (hw : w ≤ 4) {l : Nat} (hl : l < 2 ^ 31) (x : Int32) : fX4_hasCellsOf S (nI l) x = some (iz (0 ≤ x.toInt ∧ x.toInt < ((2 ^ lenN h w l : Nat) : Int))) := by
  have hL := lenN_le (l := l) hh hw
  have hp : 2 ^ lenN h w l ≤ 16 := pw_le (b := 4) hL
  have e1 : ((1 : Int32) <<< (nI (lenN h w l) &&& 31) ≤ x) ↔ ((2 ^ lenN h w l : Nat) : Int) ≤ x.toInt := by rw [sh1 (by omega)]; exact i_nle (by omega) x
  by_cases a : x.toInt < 0
  · simp only [fX4_hasCellsOf, i_lt0, a, if_true]
    rw [iz_f (by omega)]
  · by_cases b : ((2 ^ lenN h w l : Nat) : Int) ≤ x.toInt
    · simp only [fX4_hasCellsOf, i_lt0, a, if_false, a_length h0 h1 hh hl, Option.bind_some, e1, b, if_true]
      rw [iz_f (by omega)]
    · simp only [fX4_hasCellsOf, i_lt0, a, if_false, a_length h0 h1 hh hl, Option.bind_some, e1, b]
      rw [iz_t (by omega)]
theorem c_inCells {h w l : Nat} (hh : h ≤ 4) (hw : w ≤ 4) (x : Int32) : fX6_in x.toInt64 (0 : Int64) ((((1 : Int32) <<< (nI (lenN h w l) &&& 31)) - (1 : Int32)).toInt64) = some (iz (0 ≤ x.toInt ∧ x.toInt < ((2 ^ lenN h w l : Nat) : Int))) := by
  have hL := lenN_le (l := l) hh hw
  have hp : 2 ^ lenN h w l ≤ 16 := pw_le (b := 4) hL
  rw [show (0 : Int64) = (0 : Int32).toInt64 from rfl, c_in32, sh1 (by omega), nI_m1 (by omega)]
  refine congrArg some (iz_c ?_)
  show (0 : Int) ≤ _ ∧ _ ↔ _
  omega
theorem cntN_le (c k : Nat) : cntN c k ≤ k := by
  induction k with
  | zero => exact Nat.le_refl _
  | succ k ih => show cntN c k + bq c k ≤ k + 1; have := bq_le c k; omega
theorem c_ones {c : Nat} (hc : c < 2 ^ 31) : fX6_ones (nI c) = some (nI (cntN c 16)) := by
  unfold fX6_ones
  refine wh_b (fun k => (nI (cntN c k), nI k)) 16 (nI (cntN c 16)) rfl (by decide) ?hs rfl rfl
  case hs =>
    intro k hk
    show fX6_ones_L4 (nI c) (nI (cntN c k)) (nI k) = some (.inl (nI (cntN c k + bq c k), nI (k + 1)))
    have c1 : ¬ (16 : Int32) ≤ nI k := by rw [show (16 : Int32) = nI 16 from rfl, nI_leI (by omega) (by omega)]; omega
    simp only [fX6_ones_L4, c1, if_false, nbit hc (show k < 32 by omega), nI_add]
    rw [show (1 : Int32) = nI 1 from rfl, nI_add]
