/-! the class's search, as lists -/
theorem bq_b (p i : Nat) : bq p i = if p.testBit i = true then 1 else 0 := by
  rw [bq_tb]
  cases p.testBit i <;> rfl
theorem rowN_tb (w p r c : Nat) : (rowN w p r).testBit c = (decide (c < w) && p.testBit (w * r + c)) := by
  unfold rowN
  rw [Nat.testBit_mod_two_pow, Nat.testBit_div_two_pow, Nat.add_comm]
theorem bmul_tb (b k r : Nat) (hb : b < 2) : (b * 2 ^ k).testBit r = (decide (r = k) && decide (b = 1)) := by
  rcases (show b = 0 ∨ b = 1 by omega) with rfl | rfl
  · simp
  · rw [Nat.one_mul, Nat.testBit_two_pow]
    by_cases h : k = r
    · subst h; simp
    · have : ¬ r = k := fun e => h e.symm
      simp [h, this]
theorem colN_tb (w p c h r : Nat) : (colN w p c h).testBit r = (decide (r < h) && p.testBit (w * r + c)) := by
  induction h with
  | zero => simp [colN]
  | succ h ih =>
    show (colN w p c h ||| _).testBit r = _
    rw [Nat.testBit_or, ih, bmul_tb _ _ _ (bq_le _ _), bq_b]
    by_cases a : r = h
    · subst a
      cases p.testBit (w * r + c) <;> simp
    · have : (r < h + 1) ↔ (r < h) := by omega
      simp [a, this]
/-- may the rows from r on, laid as P, go on: their columns are the upper ends of columns that are kept -/
def opB (h w : Nat) (tb : Nat → Nat → Bool) (r col x : Nat) : Bool := (List.range (2 ^ h)).any (fun cells => tb (h + col) cells && decide (cells / 2 ^ r * 2 ^ r = x))
def goB (h w : Nat) (tb : Nat → Nat → Bool) (r p : Nat) : Bool := (List.range w).all (fun col => opB h w tb r col (colN w p col h))
def okB (h w : Nat) (tb : Nat → Nat → Bool) (bl wt r P c : Nat) : Bool := tb r c && (decide (c &&& rowN w bl r = rowN w bl r) && (decide (c &&& rowN w wt r = 0) && goB h w tb r ((2 ^ w * P + c) * 2 ^ (w * r))))
def LSq (h w : Nat) (tb : Nat → Nat → Bool) (bl wt : Nat) : Nat → Nat → List Nat
  | 0, P => [P]
  | r + 1, P => (List.range (2 ^ w)).flatMap (fun c => if okB h w tb bl wt r P c = true then LSq h w tb bl wt r (2 ^ w * P + c) else [])
theorem rng_mul (a b : Nat) : List.range (a * b) = (List.range a).flatMap (fun c => (List.range b).map (fun x => b * c + x)) := by
  induction a with
  | zero => simp
  | succ a ih =>
    rw [List.range_succ, List.flatMap_append, ← ih, Nat.succ_mul, List.range_add]
    simp [Nat.mul_comm]
theorem and_eq_tb {q b : Nat} : (q &&& b = b) ↔ ∀ i, b.testBit i = true → q.testBit i = true := by
  constructor
  · intro h i hi
    have := congrArg (fun z => z.testBit i) h
    simp only [Nat.testBit_and] at this
    rw [hi] at this
    simpa using this
  · intro h
    apply Nat.eq_of_testBit_eq
    intro i
    rw [Nat.testBit_and]
    cases e : b.testBit i with
    | false => simp
    | true => rw [h i e]; rfl
theorem and_z_tb {q b : Nat} : (q &&& b = 0) ↔ ∀ i, b.testBit i = true → q.testBit i = false := by
  constructor
  · intro h i hi
    have := congrArg (fun z => z.testBit i) h
    simp only [Nat.testBit_and, Nat.zero_testBit] at this
    rw [hi] at this
    simpa using this
  · intro h
    apply Nat.eq_of_testBit_eq
    intro i
    rw [Nat.testBit_and, Nat.zero_testBit]
    cases e : b.testBit i with
    | false => simp
    | true => rw [h i e]; rfl
/-- bits of rows P laid above, row r being c, and x below -/
theorem lay_tb {w r P c x i : Nat} (hc : c < 2 ^ w) (hx : x < 2 ^ (w * r)) : (2 ^ (w * r) * (2 ^ w * P + c) + x).testBit i = if i < w * r then x.testBit i else if i - w * r < w then c.testBit (i - w * r) else P.testBit (i - w * r - w) := by
  rw [Nat.testBit_two_pow_mul_add _ hx]
  by_cases a : i < w * r
  · rw [if_pos a, if_pos a]
  · rw [if_neg a, if_neg a, Nat.testBit_two_pow_mul_add _ hc]
/-- the rows from r on of P are kept, and marked as they must be -/
def rowsOK (h w : Nat) (tb : Nat → Nat → Bool) (bl wt r p : Nat) : Prop := ∀ r', r ≤ r' → r' < h → tb r' (rowN w p r') = true ∧ rowN w p r' &&& rowN w bl r' = rowN w bl r' ∧ rowN w p r' &&& rowN w wt r' = 0
theorem rowN_lay {w r P c x : Nat} (hc : c < 2 ^ w) (hx : x < 2 ^ (w * r)) : rowN w (2 ^ (w * r) * (2 ^ w * P + c) + x) r = c := by
  apply Nat.eq_of_testBit_eq
  intro i
  rw [rowN_tb, lay_tb hc hx, if_neg (by omega), Nat.add_sub_cancel_left]
  by_cases a : i < w
  · simp [a]
  · have : c.testBit i = false := Nat.testBit_lt_two_pow (Nat.lt_of_lt_of_le hc (pw_le (by omega)))
    simp [a, this]
theorem rowN_up {w r P c x r' : Nat} (hc : c < 2 ^ w) (hx : x < 2 ^ (w * r)) (hr : r < r') : rowN w (2 ^ (w * r) * (2 ^ w * P + c) + x) r' = rowN w (2 ^ (w * (r + 1)) * P) r' := by
  apply Nat.eq_of_testBit_eq
  intro i
  have e1 : w * (r + 1) ≤ w * r' := Nat.mul_le_mul_left w hr
  have e2 : w * (r + 1) = w * r + w := Nat.mul_succ w r
  rw [rowN_tb, rowN_tb, lay_tb hc hx, if_neg (by omega), if_neg (by omega)]
  have := Nat.testBit_two_pow_mul_add P (b := 0) (i := w * (r + 1)) (Nat.two_pow_pos _) (w * r' + i)
  rw [Nat.add_zero] at this
  rw [this, if_neg (by omega)]
  congr 2
  omega
theorem colN_lay {w r P c x col h : Nat} (hcol : col < w) (hc : c < 2 ^ w) (hx : x < 2 ^ (w * r)) : colN w ((2 ^ w * P + c) * 2 ^ (w * r)) col h = colN w (2 ^ (w * r) * (2 ^ w * P + c) + x) col h / 2 ^ r * 2 ^ r := by
  apply Nat.eq_of_testBit_eq
  intro i
  have e0 : (2 ^ w * P + c) * 2 ^ (w * r) = 2 ^ (w * r) * (2 ^ w * P + c) + 0 := by rw [Nat.add_zero, Nat.mul_comm]
  have e1 := Nat.testBit_two_pow_mul_add (colN w (2 ^ (w * r) * (2 ^ w * P + c) + x) col h / 2 ^ r) (b := 0) (i := r) (Nat.two_pow_pos _) i
  rw [Nat.add_zero, Nat.mul_comm] at e1
  rw [e1, colN_tb, e0, lay_tb hc (Nat.two_pow_pos _), Nat.zero_testBit]
  by_cases a : i < r
  · have : w * i + col < w * r := by
      have := Nat.mul_le_mul_left w (show i + 1 ≤ r from a)
      rw [Nat.mul_succ] at this
      omega
    simp [a, this]
  · have b : ¬ w * i + col < w * r := by
      have := Nat.mul_le_mul_left w (show r ≤ i by omega)
      omega
    rw [if_neg a, Nat.testBit_div_two_pow, colN_tb, show i - r + r = i by omega, lay_tb hc hx, if_neg b, if_neg b]
theorem fit_iff {h w : Nat} {tb : Nat → Nat → Bool} {bl wt q : Nat} (hw : 0 < w) (hb : bl < 2 ^ (h * w)) (ht : wt < 2 ^ (h * w)) : fitN h w tb bl wt q = true ↔ rowsOK h w tb bl wt 0 q ∧ ∀ c, c < w → tb (h + c) (colN w q c h) = true := by
  unfold fitN
  simp only [Bool.and_eq_true, decide_eq_true_eq, List.all_eq_true, List.mem_range]
  have split : ∀ {b i : Nat}, b < 2 ^ (h * w) → b.testBit i = true → ∃ r c, r < h ∧ c < w ∧ i = w * r + c := by
    intro b i hb hi
    have hlt : i < h * w := by
      apply Nat.lt_of_not_le
      intro hle
      have := Nat.testBit_lt_two_pow (Nat.lt_of_lt_of_le hb (pw_le hle))
      rw [this] at hi
      cases hi
    refine ⟨i / w, i % w, ?_, Nat.mod_lt _ hw, (Nat.div_add_mod i w).symm⟩
    exact Nat.div_lt_of_lt_mul (by rw [Nat.mul_comm]; exact hlt)
  constructor
  · rintro ⟨h1, h2, h3, h4⟩
    refine ⟨fun r _ hr => ⟨h3 r hr, ?_, ?_⟩, h4⟩
    · rw [and_eq_tb] at h1 ⊢
      intro i hi
      rw [rowN_tb] at hi ⊢
      simp only [Bool.and_eq_true, decide_eq_true_eq] at hi ⊢
      exact ⟨hi.1, h1 _ hi.2⟩
    · rw [and_z_tb] at h2 ⊢
      intro i hi
      rw [rowN_tb] at hi ⊢
      simp only [Bool.and_eq_true, decide_eq_true_eq] at hi
      simp [h2 _ hi.2]
  · rintro ⟨h1, h4⟩
    refine ⟨?_, ?_, fun r hr => (h1 r (Nat.zero_le _) hr).1, h4⟩
    · rw [and_eq_tb]
      intro i hi
      obtain ⟨r, c, hr, hc, rfl⟩ := split hb hi
      have := and_eq_tb.mp (h1 r (Nat.zero_le _) hr).2.1 c (by rw [rowN_tb]; simp [hc, hi])
      rw [rowN_tb] at this
      simp only [Bool.and_eq_true] at this
      exact this.2
    · rw [and_z_tb]
      intro i hi
      obtain ⟨r, c, hr, hc, rfl⟩ := split ht hi
      have := and_z_tb.mp (h1 r (Nat.zero_le _) hr).2.2 c (by rw [rowN_tb]; simp [hc, hi])
      rw [rowN_tb] at this
      simpa [hc] using this
theorem flt_none {α : Type} {l : List α} {f : α → Bool} (h : ∀ x ∈ l, f x = false) : l.filter f = [] := by
  rw [List.filter_eq_nil_iff]
  intro x hx
  rw [h x hx]
  decide
theorem fm_congr {α β : Type} {f g : α → List β} : ∀ {l : List α}, (∀ a ∈ l, f a = g a) → l.flatMap f = l.flatMap g
  | [], _ => rfl
  | a :: l, h => by
    rw [List.flatMap_cons, List.flatMap_cons, h a List.mem_cons_self, fm_congr (fun b hb => h b (List.mem_cons_of_mem _ hb))]
theorem LSq_eq {h w : Nat} {tb : Nat → Nat → Bool} {bl wt : Nat} (hw : 0 < w) (hb : bl < 2 ^ (h * w)) (ht : wt < 2 ^ (h * w)) : ∀ (r P : Nat), r ≤ h → rowsOK h w tb bl wt r (2 ^ (w * r) * P) → (r < h → goB h w tb r (P * 2 ^ (w * r)) = true) → 0 < h →
    LSq h w tb bl wt r P = ((List.range (2 ^ (w * r))).filter (fun x => fitN h w tb bl wt (2 ^ (w * r) * P + x))).map (fun x => 2 ^ (w * r) * P + x) := by
  intro r
  induction r with
  | zero =>
    intro P hr h1 h2 h3
    have e : fitN h w tb bl wt P = true := by
      rw [fit_iff hw hb ht]
      refine ⟨by simpa using h1, fun c hc => ?_⟩
      have g := h2 h3
      unfold goB at g
      rw [List.all_eq_true] at g
      have g1 := g c (List.mem_range.mpr hc)
      unfold opB at g1
      rw [List.any_eq_true] at g1
      obtain ⟨x, _, hx⟩ := g1
      simp only [Bool.and_eq_true, decide_eq_true_eq, Nat.pow_zero, Nat.div_one, Nat.mul_one, Nat.mul_zero] at hx
      rw [← hx.2]
      exact hx.1
    show [P] = _
    simp [e]
  | succ r ih =>
    intro P hr h1 h2 h3
    show (List.range (2 ^ w)).flatMap _ = _
    have e2 : 2 ^ (w * (r + 1)) = 2 ^ w * 2 ^ (w * r) := by rw [Nat.mul_succ, Nat.pow_add, Nat.mul_comm]
    have hsum : ∀ c x, 2 ^ (w * (r + 1)) * P + (2 ^ (w * r) * c + x) = 2 ^ (w * r) * (2 ^ w * P + c) + x := by
      intro c x
      rw [e2, Nat.mul_add, ← Nat.mul_assoc, Nat.mul_comm (2 ^ (w * r)) (2 ^ w), Nat.add_assoc]
    rw [show List.range (2 ^ (w * (r + 1))) = (List.range (2 ^ w)).flatMap (fun c => (List.range (2 ^ (w * r))).map (fun x => 2 ^ (w * r) * c + x)) by rw [e2]; exact rng_mul _ _]
    rw [List.filter_flatMap, List.map_flatMap]
    refine fm_congr (fun c hc0 => ?_)
    have hc : c < 2 ^ w := List.mem_range.mp hc0
    rw [List.filter_map, List.map_map]
    have ef : ((fun x => fitN h w tb bl wt (2 ^ (w * (r + 1)) * P + x)) ∘ fun x => 2 ^ (w * r) * c + x) = (fun x => fitN h w tb bl wt (2 ^ (w * r) * (2 ^ w * P + c) + x)) := by
      funext x
      show fitN h w tb bl wt _ = _
      rw [hsum]
    have em : ((fun x => 2 ^ (w * (r + 1)) * P + x) ∘ fun x => 2 ^ (w * r) * c + x) = (fun x => 2 ^ (w * r) * (2 ^ w * P + c) + x) := by
      funext x
      exact hsum c x
    rw [ef, em]
    by_cases a : okB h w tb bl wt r P c = true
    · rw [if_pos a]
      unfold okB at a
      simp only [Bool.and_eq_true, decide_eq_true_eq] at a
      obtain ⟨a1, a2, a3, a4⟩ := a
      refine ih _ (by omega) (fun r' hr1 hr2 => ?_) (fun _ => a4) h3
      have z0 : 2 ^ (w * r) * (2 ^ w * P + c) = 2 ^ (w * r) * (2 ^ w * P + c) + 0 := rfl
      by_cases b : r' = r
      · subst b
        rw [z0, rowN_lay hc (Nat.two_pow_pos _)]
        exact ⟨a1, a2, a3⟩
      · rw [z0, rowN_up hc (Nat.two_pow_pos _) (by omega)]
        exact h1 r' (by omega) hr2
    · rw [if_neg a, flt_none, List.map_nil]
      intro x hx0
      have hx := List.mem_range.mp hx0
      cases e : fitN h w tb bl wt (2 ^ (w * r) * (2 ^ w * P + c) + x) with
      | false => rfl
      | true =>
        exfalso
        apply a
        rw [fit_iff hw hb ht] at e
        obtain ⟨f1, f2⟩ := e
        have f3 := f1 r (Nat.zero_le _) (by omega)
        rw [rowN_lay hc hx] at f3
        unfold okB
        simp only [Bool.and_eq_true, decide_eq_true_eq]
        refine ⟨f3.1, f3.2.1, f3.2.2, ?_⟩
        unfold goB
        rw [List.all_eq_true]
        intro col hcol0
        have hcol := List.mem_range.mp hcol0
        unfold opB
        rw [List.any_eq_true]
        refine ⟨colN w (2 ^ (w * r) * (2 ^ w * P + c) + x) col h, List.mem_range.mpr (colN_lt _ _ _ _), ?_⟩
        simp only [Bool.and_eq_true, decide_eq_true_eq]
        exact ⟨f2 col hcol, (colN_lay hcol hc hx).symm⟩
theorem LSq_all {h w : Nat} {tb : Nat → Nat → Bool} {bl wt : Nat} (hw : 0 < w) (hh : 0 < h) (hb : bl < 2 ^ (h * w)) (ht : wt < 2 ^ (h * w)) : LSq h w tb bl wt h 0 = FL (fitN h w tb bl wt) (2 ^ (h * w)) := by
  rw [LSq_eq hw hb ht h 0 (Nat.le_refl _) (fun r' h1 h2 => absurd h2 (by omega)) (fun q => absurd q (by omega)) hh]
  unfold FL
  simp only [Nat.mul_zero, Nat.zero_add, List.map_id', Nat.mul_comm w h]
