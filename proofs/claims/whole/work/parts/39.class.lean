/-! the class: clues as sets of ways, what the search is made of -/
def bmN (g : Nat → Bool) : Nat → Nat
  | 0 => 0
  | k + 1 => bmN g k ||| (if g k = true then 2 ^ k else 0)
theorem bmN_lt (g : Nat → Bool) (k : Nat) : bmN g k < 2 ^ k := by
  induction k with
  | zero => exact Nat.zero_lt_one
  | succ k ih =>
    show _ ||| _ < _
    have h1 : 2 ^ k < 2 ^ (k + 1) := Nat.pow_lt_pow_right (by decide) (by omega)
    refine Nat.or_lt_two_pow (by omega) ?_
    split
    · exact h1
    · exact Nat.two_pow_pos _
theorem bmN_tb (g : Nat → Bool) (n j : Nat) : (bmN g n).testBit j = (decide (j < n) && g j) := by
  induction n with
  | zero => simp [bmN]
  | succ n ih =>
    show (bmN g n ||| _).testBit j = _
    rw [Nat.testBit_or, ih]
    cases a : g n with
    | true =>
      rw [if_pos rfl, Nat.testBit_two_pow]
      by_cases b : n = j
      · subst b; simp [a]
      · have : (j < n + 1) ↔ (j < n) := by omega
        simp [b, this]
    | false =>
      rw [if_neg (by decide), Nat.zero_testBit, Bool.or_false]
      by_cases b : j = n
      · subst b; simp [a]
      · have : (j < n + 1) ↔ (j < n) := by omega
        simp [this]
theorem nbit0 {a k : Nat} (ha : a < 2 ^ 31) (hk : k < 32) : (((nI a >>> (nI k &&& 31)) &&& (1 : Int32)) = 0) ↔ a.testBit k = false := by
  rw [nbit ha hk, bq_b]
  cases a.testBit k with
  | true => exact ⟨fun h => absurd h (by decide), fun h => absurd h (by decide)⟩
  | false => exact ⟨fun _ => rfl, fun _ => rfl⟩
theorem nb0 (b : Bool) : (nI b.toNat = (0 : Int32)) ↔ b = false := by
  cases b with
  | true => exact ⟨fun h => absurd h (by decide), fun h => absurd h (by decide)⟩
  | false => exact ⟨fun _ => rfl, fun _ => rfl⟩
theorem a_keeping {len k f s : Nat} (hl : len ≤ 4) (hk : k < 5) (hf : f < 5) (hs : s < 5) (h0 : f = 0 → s = 0) : fX1_keeping (nI len) (nI k) (nI f) (nI s) = some (nI (bmN (keptN k f s) (2 ^ len))) := by
  have hp : 2 ^ len ≤ 16 := pw_le (b := 4) hl
  unfold fX1_keeping
  refine wh_b (fun j => (nI (bmN (keptN k f s) j), nI j)) (2 ^ len) (nI (bmN (keptN k f s) (2 ^ len))) rfl (by omega) ?hs ?he rfl
  case he =>
    show fX1_keeping_L6 (nI len) (nI k) (nI f) (nI s) _ (nI (2 ^ len)) = _
    unfold fX1_keeping_L6
    rw [sh1 (by omega), if_pos (Int32.le_refl _)]
  case hs =>
    intro j hj
    show fX1_keeping_L6 (nI len) (nI k) (nI f) (nI s) (nI (bmN (keptN k f s) j)) (nI j) = some (.inl (nI (bmN (keptN k f s) j ||| (if keptN k f s j = true then 2 ^ j else 0)), nI (j + 1)))
    have c1 : ¬ nI (2 ^ len) ≤ nI j := by rw [nI_leI (by omega) (by omega)]; omega
    have ek : nI j + (1 : Int32) = nI (j + 1) := nI_1 j
    have hlt := bmN_lt (keptN k f s) j
    have h16 : 2 ^ j ≤ 2 ^ 15 := pw_le (by omega)
    unfold fX1_keeping_L6
    rw [sh1 (show len < 31 by omega), if_neg c1, a_isKept hk hf hs h0 (by omega), Option.bind_some, ek]
    cases keptN k f s j with
    | true =>
      rw [if_neg (by decide), if_pos rfl, sh1 (by omega), nq_or (by omega) (by omega)]
    | false =>
      rw [if_pos (by decide), if_neg (by decide), Nat.or_zero]
def cluT (T : Ob) (n : Nat) (kd fr sc : Nat → Nat) : Prop := ∀ l, l < n → T.2 2 l = nI (kd l) ∧ T.2 3 l = nI (fr l) ∧ T.2 4 l = nI (sc l) ∧ kd l < 5 ∧ fr l < 5 ∧ sc l < 5 ∧ (fr l = 0 → sc l = 0)
def wyN (h w : Nat) (kd fr sc : Nat → Nat) (l : Nat) : Nat := bmN (keptN (kd l) (fr l) (sc l)) (2 ^ lenN h w l)
theorem a_take {S T : Ob} {h w : Nat} {kd fr sc : Nat → Nat} (h0 : T.1 0 = nI h) (h1 : T.1 1 = nI w) (hh : h ≤ 4) (hw : w ≤ 4) (hc : cluT T (h + w) kd fr sc) : fX3_take S T = some (va_up (va_up (va_up (va_up S.1 0 (nI h)) 1 (nI w)) 2 (T.1 5)) 3 (T.1 6), va_up S.2 4 (fun l => if l < h + w then nI (wyN h w kd fr sc l) else S.2 4 l)) := by
  unfold fX3_take
  rw [h0, h1]
  refine wh_b (fun k => (nI k, (va_up (va_up (va_up (va_up S.1 0 (nI h)) 1 (nI w)) 2 (T.1 5)) 3 (T.1 6), va_up S.2 4 (fun l => if l < k then nI (wyN h w kd fr sc l) else S.2 4 l)))) (h + w) _ ?h0 (by omega) ?hs ?he rfl
  case h0 =>
    have e : (fun l => if l < 0 then nI (wyN h w kd fr sc l) else S.2 4 l) = S.2 4 := by
      funext l
      rw [if_neg (Nat.not_lt_zero l)]
    show _ = (nI 0, _)
    rw [e, vu_id]
    rfl
  case he =>
    show fX3_take_L34 T (nI (h + w)) _ = _
    unfold fX3_take_L34 fX4_lines
    rw [h0, h1, nI_add, Option.bind_some, if_pos (Int32.le_refl _)]
  case hs =>
    intro k hk
    show fX3_take_L34 T (nI k) _ = _
    have c1 : ¬ nI (h + w) ≤ nI k := by rw [nI_leI (by omega) (by omega)]; omega
    have c2 : ¬ (8 : Int32) ≤ nI k := by rw [show (8 : Int32) = nI 8 from rfl, nI_leI (by omega) (by omega)]; omega
    have o1 := okI_t (show k < 8 by omega) (by decide)
    have cl : (nI k).toNatClampNeg = k := nI_clamp (by omega)
    have ek : nI k + (1 : Int32) = nI (k + 1) := nI_1 k
    obtain ⟨q1, q2, q3, q4, q5, q6, q7⟩ := hc k hk
    unfold fX3_take_L34 fX4_lines
    rw [h0, h1, nI_add, Option.bind_some, if_neg c1, if_neg c2, a_length h0 h1 hh (by omega), Option.bind_some, if_pos o1, if_pos o1, if_pos o1, cl, q1, q2, q3, a_keeping (lenN_le hh hw) q4 q5 q6 q7, Option.bind_some, if_pos o1, ek]
    dsimp only
    rw [vu_s, vu_u]
    refine congrArg some (congrArg Sum.inl (Prod.ext rfl (Prod.ext rfl (congrArg (va_up S.2 4) ?_))))
    funext j
    by_cases a : j = k
    · subst a; rw [up_s, if_pos (Nat.lt_succ_self _)]; rfl
    · rw [up_n _ _ a]
      have : (j < k + 1) ↔ (j < k) := by omega
      simp only [this]
theorem a_spread_b : ((List.range 16).all fun c => decide (fX3_spread (nI c) = some (nI ((c &&& 1) ||| (c &&& 2) * 8 ||| (c &&& 4) * 64 ||| (c &&& 8) * 512)))) = true := by decide +kernel
def spN (c : Nat) : Nat := (c &&& 1) ||| (c &&& 2) * 8 ||| (c &&& 4) * 64 ||| (c &&& 8) * 512
theorem a_spread {c : Nat} (hc : c < 16) : fX3_spread (nI c) = some (nI (spN c)) := by
  have h := a_spread_b
  rw [List.all_eq_true] at h
  exact of_decide_eq_true (h c (List.mem_range.mpr hc))
theorem spN_b : ((List.range 16).all fun c => (List.range 4).all fun r => decide (spN c * 2 ^ r < 65536) && (List.range 4).all fun col => (List.range 4).all fun i => decide ((spN c * 2 ^ r).testBit (4 * col + i) = (decide (i = r) && c.testBit col))) = true := by decide +kernel
theorem spN_lt {c r : Nat} (hc : c < 16) (hr : r < 4) : spN c * 2 ^ r < 65536 := by
  have h := spN_b
  rw [List.all_eq_true] at h
  have h1 := h c (List.mem_range.mpr hc)
  rw [List.all_eq_true] at h1
  have h2 := h1 r (List.mem_range.mpr hr)
  rw [Bool.and_eq_true] at h2
  exact of_decide_eq_true h2.1
theorem spN_tb {c r col i : Nat} (hc : c < 16) (hr : r < 4) (hcol : col < 4) (hi : i < 4) : (spN c * 2 ^ r).testBit (4 * col + i) = (decide (i = r) && c.testBit col) := by
  have h := spN_b
  rw [List.all_eq_true] at h
  have h1 := h c (List.mem_range.mpr hc)
  rw [List.all_eq_true] at h1
  have h2 := h1 r (List.mem_range.mpr hr)
  rw [Bool.and_eq_true, List.all_eq_true] at h2
  have h3 := h2.2 col (List.mem_range.mpr hcol)
  rw [List.all_eq_true] at h3
  exact of_decide_eq_true (h3 i (List.mem_range.mpr hi))
/-- what a column may be, from row r on -/
def opN (g : Nat → Bool) (r : Nat) : Nat → Nat
  | 0 => 0
  | k + 1 => opN g r k ||| (if g k = true then 2 ^ (k / 2 ^ r * 2 ^ r) else 0)
theorem dm_le (k r : Nat) : k / 2 ^ r * 2 ^ r ≤ k := Nat.div_mul_le_self k (2 ^ r)
theorem opN_lt (g : Nat → Bool) (r k : Nat) : opN g r k < 2 ^ k := by
  induction k with
  | zero => exact Nat.zero_lt_one
  | succ k ih =>
    show _ ||| _ < _
    have h1 : 2 ^ k < 2 ^ (k + 1) := Nat.pow_lt_pow_right (by decide) (by omega)
    have h2 : 2 ^ (k / 2 ^ r * 2 ^ r) ≤ 2 ^ k := pw_le (dm_le k r)
    refine Nat.or_lt_two_pow (by omega) ?_
    split
    · omega
    · exact Nat.two_pow_pos _
theorem opN_tb (g : Nat → Bool) (r n x : Nat) : (opN g r n).testBit x = (List.range n).any (fun c => g c && decide (c / 2 ^ r * 2 ^ r = x)) := by
  induction n with
  | zero => simp [opN]
  | succ n ih =>
    show (opN g r n ||| _).testBit x = _
    rw [Nat.testBit_or, ih, List.range_succ, List.any_append]
    congr 1
    cases a : g n with
    | true => rw [if_pos rfl, Nat.testBit_two_pow]; simp [a]
    | false => simp [a]
theorem a_openColumn {S : Ob} {h r col m : Nat} {g : Nat → Bool} (h0 : S.1 0 = nI h) (hh : h ≤ 4) (hr : r < 4) (hcol : col < 4) (hm : m < 2 ^ 16) (hw : S.2 4 (h + col) = nI m) (hg : ∀ c, c < 16 → m.testBit c = g c) : fX3_openColumn S (nI r) (nI col) = some (S.1, va_up S.2 5 (upd (S.2 5) (r * 4 + col) (nI (opN g r (2 ^ h))))) := by
  have hp : 2 ^ h ≤ 16 := pw_le (b := 4) hh
  have c1 : ¬ (8 : Int32) ≤ nI h + nI col := by rw [nI_add, show (8 : Int32) = nI 8 from rfl, nI_leI (by omega) (by omega)]; omega
  have e1 : nI r * (4 : Int32) + nI col = nI (r * 4 + col) := by rw [show (4 : Int32) = nI 4 from rfl, pk_mul, nI_add]
  have c2 : nI (r * 4 + col) < (16 : Int32) := by rw [show (16 : Int32) = nI 16 from rfl, nI_ltI (by omega) (by omega)]; omega
  have o2 := okI_t (show r * 4 + col < 16 by omega) (by decide)
  have cl2 : (nI (r * 4 + col)).toNatClampNeg = r * 4 + col := nI_clamp (by omega)
  unfold fX3_openColumn
  rw [h0, if_neg c1, e1, if_pos c2]
  refine wh_b (fun k => (nI (opN g r k), nI k)) (2 ^ h) (nI (opN g r (2 ^ h))) rfl (by omega) ?hs ?he ?hk
  case hk =>
    show fX3_openColumn_J78 (nI (r * 4 + col)) _ S = _
    unfold fX3_openColumn_J78
    rw [if_pos o2, cl2]
  case he =>
    show fX3_openColumn_L34 (nI r) _ _ S _ (nI (2 ^ h)) = _
    unfold fX3_openColumn_L34
    rw [h0, sh1 (by omega), if_pos (Int32.le_refl _)]
  case hs =>
    intro k hk
    show fX3_openColumn_L34 (nI r) (nI h + nI col) (nI (r * 4 + col)) S (nI (opN g r k)) (nI k) = some (.inl (nI (opN g r k ||| (if g k = true then 2 ^ (k / 2 ^ r * 2 ^ r) else 0)), nI (k + 1)))
    have c3 : ¬ nI (2 ^ h) ≤ nI k := by rw [nI_leI (by omega) (by omega)]; omega
    have o1 := okI_t (show h + col < 8 by omega) (by decide)
    have cl : (nI (h + col)).toNatClampNeg = h + col := nI_clamp (by omega)
    have ek : nI k + (1 : Int32) = nI (k + 1) := nI_1 k
    have hlt := opN_lt g r k
    have h15 : 2 ^ k ≤ 2 ^ 15 := pw_le (by omega)
    have hd := dm_le k r
    have h16 : 2 ^ (k / 2 ^ r * 2 ^ r) ≤ 2 ^ 15 := pw_le (by omega)
    have hkd : k / 2 ^ r ≤ k := Nat.div_le_self _ _
    have e2 : (nI k >>> (nI r &&& 31)) <<< (nI r &&& 31) = nI (k / 2 ^ r * 2 ^ r) := by rw [nq_shr (by omega) (by omega), nq_shl (by omega) (by omega)]
    have e3 : ((nI m >>> (nI k &&& 31)) &&& (1 : Int32) = 0) ↔ g k = false := by rw [nbit0 (by omega) (by omega), hg k (by omega)]
    unfold fX3_openColumn_L34
    rw [h0, sh1 (show h < 31 by omega), if_neg c3, nI_add, if_pos o1, cl, hw, e2, ek]
    cases a : g k with
    | true => rw [if_neg (fun q => by rw [e3, a] at q; cases q), if_pos rfl, sh1 (by omega), nq_or (by omega) (by omega)]
    | false => rw [if_pos (e3.mpr a), if_neg (by decide), Nat.or_zero]
