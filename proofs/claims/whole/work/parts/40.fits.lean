/-! the class's lists of pictures -/
theorem gd_eq {L : List Nat} {i : Nat} (h : i < L.length) : L.getD i 0 = L[i] := by simp [List.getD, h]
def blkL (L : List Nat) (j : Nat) : Nat := (L.map (fun q => bq q j)).sum
theorem blkL_app (L : List Nat) (p j : Nat) : blkL (L ++ [p]) j = blkL L j + bq p j := by simp [blkL]
theorem blkL_le (L : List Nat) (j : Nat) : blkL L j ≤ L.length := by
  induction L with
  | nil => exact Nat.le_refl _
  | cons a l ih =>
    show bq a j + blkL l j ≤ l.length + 1
    have := bq_le a j
    omega
def fitsO (S : Ob) (L : List Nat) : Prop := S.1 2 = nI L.length ∧ (∀ i q, L[i]? = some q → S.2 0 i = nI q) ∧ ∀ j, j < 16 → S.2 1 j = nI (blkL L j)
theorem a_empty (cN : Nat) (S : Ob) : ∃ S', fX0_empty cN S = some S' ∧ fitsO S' [] ∧ S'.2 0 = S.2 0 := by
  refine ⟨(va_up S.1 2 0, va_up S.2 1 (fun j => if j < 16 then 0 else S.2 1 j)), ?_, ⟨rfl, fun i q h => (by simp at h), fun j hj => ?_⟩, rfl⟩
  · unfold fX0_empty
    refine wh_b (fun k => (nI k, (va_up S.1 2 (0 : Int32), va_up S.2 1 (fun j => if j < k then 0 else S.2 1 j)))) 16 _ ?_ (by decide) ?_ rfl rfl
    · rw [zr_0, vu_id]; rfl
    · intro k hk
      have c1 : ¬ (16 : Int32) ≤ nI k := by rw [show (16 : Int32) = nI 16 from rfl, nI_leI (by omega) (by omega)]; omega
      have o1 := okI_t (show k < 16 from hk) (by decide)
      have cl : (nI k).toNatClampNeg = k := nI_clamp (by omega)
      have ek : nI k + (1 : Int32) = nI (k + 1) := nI_1 k
      show fX0_empty_L7 cN (nI k) (va_up S.1 2 (0 : Int32), va_up S.2 1 (fun j => if j < k then 0 else S.2 1 j)) = _
      simp only [fX0_empty_L7, c1, if_false, o1, if_true, cl, ek, vu_s, vu_u, zr_i]
  · show (if j < 16 then (0 : Int32) else S.2 1 j) = nI 0
    rw [if_pos hj]
    rfl
theorem a_add {cN : Nat} {S : Ob} {L : List Nat} {p : Nat} (hS : fitsO S L) (hl : L.length < cN) (hc : cN < 2 ^ 31) (hp : p < 2 ^ 16) : ∃ S', fX0_add cN S (nI p) = some S' ∧ fitsO S' (L ++ [p]) ∧ S'.2 0 = upd (S.2 0) L.length (nI p) := by
  obtain ⟨h1, h2, h3⟩ := hS
  have c0 : ¬ nI L.length < (0 : Int32) := nI_pos (by omega)
  have c1 : nI L.length < Int32.ofNat cN := nI_lt hl hc
  have o1 := okI_t hl hc
  have cl : (nI L.length).toNatClampNeg = L.length := nI_clamp (by omega)
  have en : nI L.length + (1 : Int32) = nI (L.length + 1) := nI_1 _
  refine ⟨(va_up S.1 2 (nI (L.length + 1)), va_up (va_up S.2 0 (upd (S.2 0) L.length (nI p))) 1 (fun j => if j < 16 then S.2 1 j + nI (bq p j) else S.2 1 j)), ?_, ⟨?_, fun i q hi => ?_, fun j hj => ?_⟩, rfl⟩
  · unfold fX0_add
    rw [h1, if_neg c0, if_pos c1, if_pos o1, cl, en]
    refine wh_b (fun k => (nI k, (va_up S.1 2 (nI (L.length + 1)), va_up (va_up S.2 0 (upd (S.2 0) L.length (nI p))) 1 (fun j => if j < k then S.2 1 j + nI (bq p j) else S.2 1 j)))) 16 _ ?_ (by decide) ?_ rfl rfl
    · have e : (fun j => if j < 0 then S.2 1 j + nI (bq p j) else S.2 1 j) = (va_up S.2 0 (upd (S.2 0) L.length (nI p))) 1 := by
        funext j
        rw [if_neg (Nat.not_lt_zero j)]
        rfl
      show _ = (nI 0, (_, _))
      rw [e, vu_id]
      rfl
    · intro k hk
      have c1 : ¬ (16 : Int32) ≤ nI k := by rw [show (16 : Int32) = nI 16 from rfl, nI_leI (by omega) (by omega)]; omega
      have o1 := okI_t (show k < 16 from hk) (by decide)
      have cl : (nI k).toNatClampNeg = k := nI_clamp (by omega)
      have ek : nI k + (1 : Int32) = nI (k + 1) := nI_1 k
      show fX0_add_L42 cN (nI p) (nI k) (va_up S.1 2 (nI (L.length + 1)), va_up (va_up S.2 0 (upd (S.2 0) L.length (nI p))) 1 (fun j => if j < k then S.2 1 j + nI (bq p j) else S.2 1 j)) = _
      simp only [fX0_add_L42, c1, if_false, o1, if_true, cl, ek, vu_s, vu_u, nbit (show p < 2 ^ 31 by omega) (show k < 32 by omega), Nat.lt_irrefl]
      refine congrArg some (congrArg Sum.inl (Prod.ext rfl (Prod.ext rfl ?_)))
      refine congrArg (va_up (va_up S.2 0 (upd (S.2 0) L.length (nI p))) 1) ?_
      funext j
      by_cases h : j = k
      · subst h; rw [up_s, if_pos (Nat.lt_succ_self _)]
      · rw [up_n _ _ h]
        have : (j < k + 1) ↔ (j < k) := by omega
        simp only [this]
  · show nI (L.length + 1) = nI (L ++ [p]).length
    rw [List.length_append]; rfl
  · show upd (S.2 0) L.length (nI p) i = nI q
    by_cases a : i = L.length
    · subst a
      rw [List.getElem?_append_right (Nat.le_refl _), Nat.sub_self] at hi
      cases hi
      rw [up_s]
    · have hb := (List.getElem?_eq_some_iff.mp hi).1
      rw [List.length_append] at hb
      have hb2 : i < L.length := by simp at hb; omega
      rw [List.getElem?_append_left hb2] at hi
      rw [up_n _ _ a]
      exact h2 i q hi
  · show (if j < 16 then S.2 1 j + nI (bq p j) else S.2 1 j) = nI (blkL (L ++ [p]) j)
    rw [if_pos hj, h3 j hj, nI_add, blkL_app]
theorem a_at {cN : Nat} {S : Ob} {L : List Nat} (hS : fitsO S L) (hl : L.length ≤ cN) (hc : cN < 2 ^ 31) {i : Nat} (hi : i < 2 ^ 31) : fX0_at cN S (nI i) = some (match L[i]? with | some q => nI q | none => -1) := by
  obtain ⟨h1, h2, h3⟩ := hS
  have c0 : ¬ nI i < (0 : Int32) := nI_pos hi
  have c1 : (nI L.length ≤ nI i) ↔ L.length ≤ i := nI_leI (by omega) hi
  have c2 : (nI i < Int32.ofNat cN) ↔ i < cN := nI_ltI hi hc
  by_cases a : L.length ≤ i
  · rw [List.getElem?_eq_none a]
    unfold fX0_at
    rw [if_neg c0, h1, if_pos (c1.mpr a)]
  · have hlt : i < L.length := by omega
    rw [List.getElem?_eq_getElem hlt]
    unfold fX0_at
    rw [if_neg c0, h1, if_neg (fun q => a (c1.mp q)), if_pos (c2.mpr (by omega)), if_pos (okI_t (by omega) hc), nI_clamp hi, h2 i _ (List.getElem?_eq_getElem hlt)]
theorem a_blackIn (cN : Nat) {S : Ob} {L : List Nat} (hS : fitsO S L) {j : Nat} (hj : j < 16) : fX0_blackIn cN S (nI j) = some (nI (blkL L j)) := by
  have c0 : ¬ nI j < (0 : Int32) := nI_pos (by omega)
  have c1 : ¬ (16 : Int32) ≤ nI j := by rw [show (16 : Int32) = nI 16 from rfl, nI_leI (by omega) (by omega)]; omega
  unfold fX0_blackIn
  rw [if_neg c0, if_neg c1, if_pos (okI_t hj (by decide)), nI_clamp (by omega), hS.2.2 j hj]
/-- sure: 1 black in all, 0 in none, -1 -/
def sureN (n b : Nat) : Int32 := if n = 0 then -1 else if b = n then 1 else if b = 0 then 0 else -1
theorem a_sure (cN : Nat) {S : Ob} {L : List Nat} (hS : fitsO S L) (hl : L.length < 2 ^ 31) {j : Nat} (hj : j < 16) : fX0_sure cN S (nI j) = some (sureN L.length (blkL L j)) := by
  have hb := blkL_le L j
  have c0 : (nI L.length = (0 : Int32)) ↔ L.length = 0 := nI_eq (b := 0) hl (by decide)
  have c1 : (nI (blkL L j) = (0 : Int32)) ↔ blkL L j = 0 := nI_eq (b := 0) (by omega) (by decide)
  have c2 : (nI (blkL L j) = nI L.length) ↔ blkL L j = L.length := nI_eq (by omega) hl
  unfold fX0_sure fX0_sure_J27 sureN
  rw [a_blackIn cN hS hj, Option.bind_some, hS.1]
  by_cases a : L.length = 0
  · rw [if_pos (c0.mpr a), if_pos a]
  · rw [if_neg (fun q => a (c0.mp q)), if_neg a]
    by_cases b : blkL L j = 0
    · rw [if_pos (c1.mpr b), if_pos (c1.mpr b), if_neg (by omega), if_pos b]
    · rw [if_neg (fun q => b (c1.mp q)), if_neg (fun q => b (c1.mp q)), if_neg b]
      by_cases d : blkL L j = L.length
      · rw [if_pos (c2.mpr d), if_pos d]
      · rw [if_neg (fun q => d (c2.mp q)), if_neg d]
theorem a_holds {cN : Nat} {S : Ob} {L : List Nat} (hS : fitsO S L) (hl : L.length ≤ cN) (hc : cN < 90000) (hq : ∀ q ∈ L, q < 2 ^ 16) (x : Int32) : fX0_holds cN S x = some (iz (∃ q ∈ L, nI q = x)) := by
  have key : wh (σ := Int32) (ρ := (Int32) ⊕ (Unit)) (fun t => fX0_holds_L2 cN S x t) 100000 (0 : Int32) = some (if (List.range L.length).all (fun i => decide (¬ nI (L.getD i 0) = x)) = true then .inr () else .inl 1) := by
    refine wh_all (N := L.length) (fun i => decide (¬ nI (L.getD i 0) = x)) 1 ?_ ?_ (by omega)
    · intro i hi
      show fX0_holds_L2 cN S x (nI i) = _
      have c1 : ¬ nI L.length ≤ nI i := by rw [nI_leI (by omega) (by omega)]; omega
      have ek : nI i + (1 : Int32) = nI (i + 1) := nI_1 i
      unfold fX0_holds_L2
      rw [hS.1, if_neg c1, a_at hS hl (by omega) (by omega), List.getElem?_eq_getElem hi, Option.bind_some, ek, gd_eq hi]
      by_cases a : nI L[i] = x <;> simp [a]
    · show fX0_holds_L2 cN S x (nI L.length) = _
      unfold fX0_holds_L2
      rw [hS.1, if_pos (Int32.le_refl _)]
  unfold fX0_holds
  rw [key, Option.bind_some]
  by_cases a : ∃ q ∈ L, nI q = x
  · rw [iz_t a, if_neg]
    · rfl
    · rw [List.all_eq_true]
      intro h
      obtain ⟨q, h1, h2⟩ := a
      obtain ⟨i, hi, e⟩ := List.getElem_of_mem h1
      have := h i (List.mem_range.mpr hi)
      rw [gd_eq hi, e] at this
      simp [h2] at this
  · rw [iz_f a, if_pos]
    · rfl
    · rw [List.all_eq_true]
      intro i hi
      have hi := List.mem_range.mp hi
      rw [gd_eq hi]
      simp only [decide_eq_true_eq]
      exact fun e => a ⟨L[i], List.getElem_mem hi, e⟩
theorem a_tells {cN : Nat} {S : Ob} {L : List Nat} (hS : fitsO S L) (hl : L.length ≤ cN) (hc : cN < 90000) (hq : ∀ q ∈ L, q < 2 ^ 16) {p c : Nat} (hp : p < 2 ^ 16) (hcc : c < 2 ^ 16) : fX0_tells cN S (nI p) (nI c) = some (iz (∀ q ∈ L, q ≠ p → ¬ (q ^^^ p) &&& c = 0)) := by
  have key : wh (σ := Int32) (ρ := (Int32) ⊕ (Unit)) (fun t => fX0_tells_L2 cN S (nI p) (nI c) t) 100000 (0 : Int32) = some (if (List.range L.length).all (fun i => decide (L.getD i 0 ≠ p → ¬ (L.getD i 0 ^^^ p) &&& c = 0)) = true then .inr () else .inl 0) := by
    refine wh_all (N := L.length) (fun i => decide (L.getD i 0 ≠ p → ¬ (L.getD i 0 ^^^ p) &&& c = 0)) 0 ?_ ?_ (by omega)
    · intro i hi
      show fX0_tells_L2 cN S (nI p) (nI c) (nI i) = _
      have c1 : ¬ nI L.length ≤ nI i := by rw [nI_leI (by omega) (by omega)]; omega
      have ek : nI i + (1 : Int32) = nI (i + 1) := nI_1 i
      have hm := hq _ (List.getElem_mem hi)
      unfold fX0_tells_L2
      rw [hS.1, if_neg c1, a_at hS hl (by omega) (by omega), List.getElem?_eq_getElem hi, Option.bind_some, ek, gd_eq hi]
      generalize L[i] = q at *
      have hx : q ^^^ p < 2 ^ 16 := Nat.xor_lt_two_pow hm hp
      have hx2 : (q ^^^ p) &&& c < 2 ^ 16 := Nat.lt_of_le_of_lt Nat.and_le_left hx
      have e1 : (nI q = nI p) ↔ q = p := nI_eq (by omega) (by omega)
      have e2 : ((nI q ^^^ nI p) &&& nI c = 0) ↔ (q ^^^ p) &&& c = 0 := by rw [nq_xor (by omega) (by omega), nq_and (by omega) (by omega)]; exact nI_eq (b := 0) (by omega) (by decide)
      by_cases a : q = p
      · rw [if_pos (e1.mpr a), if_pos (by simp [a])]
      · rw [if_neg (fun h => a (e1.mp h))]
        by_cases b : (q ^^^ p) &&& c = 0
        · rw [if_pos (e2.mpr b), if_neg (by simp [a, b])]
        · rw [if_neg (fun h => b (e2.mp h)), if_pos (by simp [b])]
    · show fX0_tells_L2 cN S (nI p) (nI c) (nI L.length) = _
      unfold fX0_tells_L2
      rw [hS.1, if_pos (Int32.le_refl _)]
  unfold fX0_tells
  rw [key, Option.bind_some]
  by_cases a : ∀ q ∈ L, q ≠ p → ¬ (q ^^^ p) &&& c = 0
  · rw [iz_t a, if_pos]
    · rfl
    · rw [List.all_eq_true]
      intro i hi
      have hi := List.mem_range.mp hi
      rw [gd_eq hi]
      simp only [decide_eq_true_eq]
      exact a _ (List.getElem_mem hi)
  · rw [iz_f a, if_neg]
    · rfl
    · rw [List.all_eq_true]
      intro h
      apply a
      intro q h1
      obtain ⟨i, hi, e⟩ := List.getElem_of_mem h1
      have := h i (List.mem_range.mpr hi)
      rw [gd_eq hi, e] at this
      exact of_decide_eq_true this
/-! the search itself -/
def srS (S : Ob) (h w bl wt lim : Nat) (tb : Nat → Nat → Bool) : Prop := S.1 0 = nI h ∧ S.1 1 = nI w ∧ S.1 2 = nI bl ∧ S.1 3 = nI wt ∧ S.1 6 = nI lim ∧
  (∀ l, l < h + w → ∃ m, m < 2 ^ 16 ∧ S.2 4 l = nI m ∧ ∀ c, c < 16 → m.testBit c = tb l c) ∧
  ∀ r, r < h → ∀ col, col < w → ∃ m, m < 2 ^ 16 ∧ S.2 5 (r * 4 + col) = nI m ∧ ∀ x, x < 16 → m.testBit x = opB h w tb r col x
theorem srS_f {S : Ob} {h w bl wt lim : Nat} {tb : Nat → Nat → Bool} (hS : srS S h w bl wt lim tb) (x : Int32) : srS (va_up S.1 7 x, S.2) h w bl wt lim tb := hS
theorem nib_eq {w p h col cols : Nat} (hh : h ≤ 4) (hc : ∀ i, i < 4 → cols.testBit (4 * col + i) = (decide (i < h) && p.testBit (w * i + col))) : cols / 2 ^ (col * 4) % 16 = colN w p col h := by
  apply Nat.eq_of_testBit_eq
  intro i
  rw [show (16 : Nat) = 2 ^ 4 from rfl, Nat.testBit_mod_two_pow, Nat.testBit_div_two_pow, colN_tb, show i + col * 4 = 4 * col + i by omega]
  by_cases a : i < 4
  · rw [hc i a]; simp [a]
  · have : ¬ i < h := by omega
    simp [a, this]
theorem a_canGoOn {S : Ob} {h w bl wt lim r p cols : Nat} {tb : Nat → Nat → Bool} (hS : srS S h w bl wt lim tb) (hh : h ≤ 4) (hw : w ≤ 4) (hr : r < h) (hcl : cols < 2 ^ 16) (hc : ∀ col, col < w → ∀ i, i < 4 → cols.testBit (4 * col + i) = (decide (i < h) && p.testBit (w * i + col))) : fX3_canGoOn S (nI r) (nI cols) = some (iz (goB h w tb r p = true)) := by
  obtain ⟨s0, s1, s2, s3, s6, s4, s5⟩ := hS
  have key : wh (σ := Int32) (ρ := (Int32) ⊕ (Unit)) (fun t => fX3_canGoOn_L2 S (nI r) (nI cols) t) 100000 (0 : Int32) = some (if (List.range w).all (fun col => opB h w tb r col (colN w p col h)) = true then .inr () else .inl 0) := by
    refine wh_all (N := w) (fun col => opB h w tb r col (colN w p col h)) 0 ?_ ?_ (by omega)
    · intro col hcol
      show fX3_canGoOn_L2 S (nI r) (nI cols) (nI col) = _
      have c1 : ¬ nI w ≤ nI col := by rw [nI_leI (by omega) (by omega)]; omega
      have c2 : ¬ (4 : Int32) ≤ nI col := by rw [show (4 : Int32) = nI 4 from rfl, nI_leI (by omega) (by omega)]; omega
      have e1 : nI r * (4 : Int32) + nI col = nI (r * 4 + col) := by rw [show (4 : Int32) = nI 4 from rfl, pk_mul, nI_add]
      have c3 : ¬ (16 : Int32) ≤ nI (r * 4 + col) := by rw [show (16 : Int32) = nI 16 from rfl, nI_leI (by omega) (by omega)]; omega
      have o1 := okI_t (show r * 4 + col < 16 by omega) (by decide)
      have cl : (nI (r * 4 + col)).toNatClampNeg = r * 4 + col := nI_clamp (by omega)
      have ek : nI col + (1 : Int32) = nI (col + 1) := nI_1 col
      have e2 : (nI cols >>> ((nI col * (4 : Int32)) &&& 31)) &&& (15 : Int32) = nI (colN w p col h) := by
        rw [show (4 : Int32) = nI 4 from rfl, pk_mul, nq_shr (by omega) (by omega)]
        have h4 : cols / 2 ^ (col * 4) < 2 ^ 32 := Nat.lt_of_le_of_lt (Nat.div_le_self _ _) (by omega)
        rw [pk_andN h4 4 rfl]
        congr 1
        exact nib_eq hh (hc col hcol)
      obtain ⟨m, m1, m2, m3⟩ := s5 r hr col hcol
      have hlt := colN_lt w p col h
      have h16 : 2 ^ h ≤ 16 := pw_le (b := 4) hh
      have e3 := nbit0 (a := m) (k := colN w p col h) (by omega) (by omega)
      rw [m3 _ (by omega)] at e3
      unfold fX3_canGoOn_L2
      rw [s1, if_neg c1, if_neg c2, e1, if_neg c3, if_pos o1, cl, m2, e2, ek]
      cases a : opB h w tb r col (colN w p col h) with
      | true => rw [if_neg (fun q => by rw [e3, a] at q; cases q), if_pos rfl]
      | false => rw [if_pos (e3.mpr a), if_neg (by decide)]
    · show fX3_canGoOn_L2 S (nI r) (nI cols) (nI w) = _
      unfold fX3_canGoOn_L2
      rw [s1, if_pos (Int32.le_refl _)]
  unfold fX3_canGoOn
  rw [key, Option.bind_some]
  unfold goB
  cases (List.range w).all (fun col => opB h w tb r col (colN w p col h)) <;> rfl
