/-! the fits as a list; the reference's way through them -/
def FR (F : Nat → Bool) (n s : Nat) : List Nat := (List.range' s (n - s)).filter F
def FL (F : Nat → Bool) (n : Nat) : List Nat := (List.range n).filter F
theorem FR_0 (F : Nat → Bool) (n : Nat) : FR F n 0 = FL F n := by unfold FR FL; rw [List.range_eq_range', Nat.sub_zero]
theorem FR_end {F : Nat → Bool} {n s : Nat} (h : n ≤ s) : FR F n s = [] := by unfold FR; rw [Nat.sub_eq_zero_of_le h]; rfl
theorem FR_step {F : Nat → Bool} {n s : Nat} (h : s < n) : FR F n s = if F s = true then s :: FR F n (s + 1) else FR F n (s + 1) := by
  unfold FR
  obtain ⟨d, hd⟩ : ∃ d, n - s = d + 1 := ⟨n - s - 1, by omega⟩
  rw [hd, List.range'_succ, List.filter_cons, show n - (s + 1) = d by omega]
theorem FR_skip {F : Nat → Bool} {n s : Nat} (d : Nat) (h : ∀ q, s ≤ q → q < s + d → q < n → F q = false) : FR F n s = FR F n (s + d) := by
  induction d generalizing s with
  | zero => rfl
  | succ d ih =>
    by_cases a : s < n
    · rw [FR_step a, if_neg (by rw [h s (Nat.le_refl _) (by omega) a]; decide), ih (fun q h1 h2 h3 => h q (by omega) (by omega) h3)]
      congr 1
      omega
    · rw [FR_end (by omega), FR_end (by omega)]
def hdI (l : List Nat) : Int32 := match l with
  | [] => -1
  | q :: _ => nI q
theorem FR_cons {F : Nat → Bool} {n : Nat} : ∀ (d s : Nat) {q : Nat} {tl : List Nat}, n - s ≤ d → FR F n s = q :: tl → F q = true ∧ s ≤ q ∧ q < n ∧ tl = FR F n (q + 1) := by
  intro d
  induction d with
  | zero =>
    intro s q tl h e
    rw [FR_end (by omega)] at e
    cases e
  | succ d ih =>
    intro s q tl h e
    by_cases a : s < n
    · rw [FR_step a] at e
      by_cases b : F s = true
      · rw [if_pos b] at e
        obtain ⟨e1, e2⟩ := List.cons.inj e
        subst e1
        exact ⟨b, Nat.le_refl _, a, e2.symm⟩
      · rw [if_neg b] at e
        obtain ⟨h1, h2, h3, h4⟩ := ih (s + 1) (by omega) e
        exact ⟨h1, by omega, h3, h4⟩
    · rw [FR_end (by omega)] at e
      cases e
theorem FL_len (F : Nat → Bool) (n : Nat) : (FL F n).length = cntF F n := by
  unfold FL
  induction n with
  | zero => rfl
  | succ n ih =>
    rw [List.range_succ, List.filter_append, List.length_append, ih]
    show _ = cntF F n + (F n).toNat
    cases h : F n <;> simp [h]
theorem FL_mem {F : Nat → Bool} {n q : Nat} : q ∈ FL F n ↔ q < n ∧ F q = true := by
  unfold FL
  rw [List.mem_filter, List.mem_range]
theorem FL_drop {F : Nat → Bool} {n : Nat} : ∀ (i : Nat) {q : Nat}, (FL F n)[i]? = some q → (FL F n).drop (i + 1) = FR F n (q + 1) ∧ (FL F n).drop i = q :: FR F n (q + 1) := by
  intro i
  induction i with
  | zero =>
    intro q h
    cases e : FL F n with
    | nil => rw [e] at h; cases h
    | cons a tl =>
      rw [e] at h
      cases h
      have := FR_cons (F := F) (n := n) (n - 0) 0 (Nat.le_refl _) (by rw [FR_0]; exact e)
      exact ⟨this.2.2.2, by rw [← this.2.2.2]; rfl⟩
  | succ i ih =>
    intro q h
    have hl := (List.getElem?_eq_some_iff.mp h).1
    obtain ⟨p, hp⟩ : ∃ p, (FL F n)[i]? = some p := ⟨(FL F n)[i], List.getElem?_eq_getElem (by omega)⟩
    have h1 := (ih hp).1
    have h2 : (FL F n).drop (i + 1) = q :: (FL F n).drop (i + 2) := by
      rw [List.drop_eq_getElem_cons hl]
      congr 1
      exact (List.getElem?_eq_some_iff.mp h).2
    rw [h1] at h2
    have := FR_cons (F := F) (n := n) (n - (p + 1)) (p + 1) (Nat.le_refl _) h2
    exact ⟨this.2.2.2, by rw [h1, h2, ← this.2.2.2]⟩
/-- what the reference's rows must be for its walk over the fits -/
def walkM (M : OM) (h w : Nat) (F : Nat → Bool) : Prop := M.1 9 = nI h ∧ M.1 10 = nI w ∧ h * w ≤ 16 ∧ ∀ q, q < 65536 → bitL (M.2.2.2 (q / 64)) (q % 64) = (decide (q < 2 ^ (h * w)) && F q)
theorem c_isFit {M : OM} {h w : Nat} {F : Nat → Bool} (hM : walkM M h w F) {p : Nat} (hp : p < 65536) : fX6_isFit M (nI p) = some (iz (p < 2 ^ (h * w) ∧ F p = true)) := by
  obtain ⟨_, _, _, hb⟩ := hM
  have cd : nI p / (64 : Int32) = nI (p / 64) := pk_div (d := 64) (by omega) (by decide) (by decide)
  have cr : nI p - nI p / (64 : Int32) * (64 : Int32) = nI (p % 64) := pk_rem (d := 64) (by omega) (by decide) (by decide)
  have o1 := okI_t (show p / 64 < 1024 by omega) (by decide)
  have cl : (nI (p / 64)).toNatClampNeg = p / 64 := nI_clamp (by omega)
  have h64 : ¬ (64 : Int32) = 0 := by decide
  have e : (lg_cmp ((M.2.2.2 (p / 64) >>> ((nI (p % 64)).toInt64 &&& 63)) &&& 1) 1 = 0) ↔ (p < 2 ^ (h * w) ∧ F p = true) := by
    rw [lg_0, bl_a1, bl_sh _ (Nat.mod_lt _ (by decide)), hb p hp]
    simp
  unfold fX6_isFit
  rw [if_pos h64, cr, cd, if_pos o1, if_pos h64, cl]
  by_cases a : p < 2 ^ (h * w) ∧ F p = true
  · rw [if_pos (e.mpr a), iz_t a]
  · rw [if_neg (fun q => a (e.mp q)), iz_f a]
theorem c_nextFit {M : OM} {h w : Nat} {F : Nat → Bool} (hM : walkM M h w F) {x : Int32} {s : Nat} (hx : x + 1 = nI s) (hs : s ≤ 65536) : fX6_nextFit M x = some (hdI (FR F (2 ^ (h * w)) s)) := by
  obtain ⟨h9, h10, hm, hb⟩ := id hM
  have hpw : 2 ^ (h * w) ≤ 2 ^ 16 := pw_le hm
  have c0 : (1 : Int32) <<< ((nI h * nI w) &&& 31) = nI (2 ^ (h * w)) := by rw [pk_mul]; exact sh1 (by omega)
  generalize hn : 2 ^ (h * w) = n at *
  have h64 : ¬ (64 : Int32) = 0 := by decide
  have key : ∀ (d p m : Nat), n - p ≤ d → d < m → p ≤ 65600 → wh (σ := Int32) (ρ := (Int32) ⊕ (Unit)) (fun t => fX6_nextFit_L4 M t) m (nI p) = some (match FR F n p with | [] => .inr () | q :: _ => .inl (nI q)) := by
    intro d
    induction d with
    | zero =>
      intro p m h1 h2 h3
      obtain ⟨m, rfl⟩ : ∃ q, m = q + 1 := ⟨m - 1, by omega⟩
      have c1 : nI n ≤ nI p := by rw [nI_leI (by omega) (by omega)]; omega
      rw [FR_end (by omega)]
      refine wh_r ?_
      show fX6_nextFit_L4 M (nI p) = _
      unfold fX6_nextFit_L4
      rw [h9, h10, c0, if_pos c1]
    | succ d ih =>
      intro p m h1 h2 h3
      obtain ⟨m, rfl⟩ : ∃ q, m = q + 1 := ⟨m - 1, by omega⟩
      by_cases a : n ≤ p
      · have c1 : nI n ≤ nI p := by rw [nI_leI (by omega) (by omega)]; omega
        rw [FR_end a]
        refine wh_r ?_
        show fX6_nextFit_L4 M (nI p) = _
        unfold fX6_nextFit_L4
        rw [h9, h10, c0, if_pos c1]
      · have c1 : ¬ nI n ≤ nI p := by rw [nI_leI (by omega) (by omega)]; omega
        have cd : nI p / (64 : Int32) = nI (p / 64) := pk_div (d := 64) (by omega) (by decide) (by decide)
        have o1 := okI_t (show p / 64 < 1024 by omega) (by decide)
        have cl : (nI (p / 64)).toNatClampNeg = p / 64 := nI_clamp (by omega)
        by_cases b : M.2.2.2 (p / 64) = 0
        · have hz := (bl_z _).mp b
          have sk : FR F n p = FR F n (64 * (p / 64) + 64) := by
            have := FR_skip (F := F) (n := n) (s := p) (64 * (p / 64) + 64 - p) (fun q q1 q2 q3 => by
              have e1 : q / 64 = p / 64 := by omega
              have e2 := hb q (by omega)
              rw [e1, hz _ (Nat.mod_lt _ (by decide))] at e2
              simpa [q3] using e2.symm)
            rw [this]
            congr 1
            omega
          rw [sk, wh_i (s' := nI (64 * (p / 64) + 64))]
          · exact ih _ m (by omega) (by omega) (by omega)
          · show fX6_nextFit_L4 M (nI p) = _
            unfold fX6_nextFit_L4
            rw [h9, h10, c0, if_neg c1, if_pos h64, cd, if_pos o1, cl, if_pos ((lg_0 _ _).mpr b), if_pos h64, show (64 : Int32) = nI 64 from rfl, pk_mul, nI_add]
        · have isf := c_isFit hM (p := p) (by omega)
          rw [hn] at isf
          by_cases f : F p = true
          · rw [FR_step (by omega), if_pos f]
            refine wh_r ?_
            show fX6_nextFit_L4 M (nI p) = _
            unfold fX6_nextFit_L4
            rw [h9, h10, c0, if_neg c1, if_pos h64, cd, if_pos o1, cl, if_neg (fun q => b ((lg_0 _ _).mp q)), isf, iz_t ⟨by omega, f⟩, Option.bind_some, if_neg (by decide)]
          · rw [FR_step (by omega), if_neg f, wh_i (s' := nI (p + 1))]
            · exact ih _ m (by omega) (by omega) (by omega)
            · show fX6_nextFit_L4 M (nI p) = _
              unfold fX6_nextFit_L4
              rw [h9, h10, c0, if_neg c1, if_pos h64, cd, if_pos o1, cl, if_neg (fun q => b ((lg_0 _ _).mp q)), isf, iz_f (fun q => f q.2), Option.bind_some, if_pos rfl, show (1 : Int32) = nI 1 from rfl, nI_add]
  unfold fX6_nextFit
  rw [hx, key n s 100000 (by omega) (by omega) (by omega), Option.bind_some]
  cases FR F n s <;> rfl
/-- the one after the i-th, and the first -/
theorem c_next0 {M : OM} {h w : Nat} {F : Nat → Bool} (hM : walkM M h w F) : fX6_nextFit M (-1 : Int32) = some (hdI (FL F (2 ^ (h * w)))) := by
  rw [c_nextFit hM (s := 0) rfl (by decide), FR_0]
theorem c_nextI {M : OM} {h w : Nat} {F : Nat → Bool} (hM : walkM M h w F) {i q : Nat} (hq : (FL F (2 ^ (h * w)))[i]? = some q) : fX6_nextFit M (nI q) = some (hdI ((FL F (2 ^ (h * w))).drop (i + 1))) := by
  have hm := hM.2.2.1
  have hpw : 2 ^ (h * w) ≤ 2 ^ 16 := pw_le hm
  have hq2 := (FL_mem.mp (List.mem_of_getElem? hq)).1
  rw [c_nextFit hM (s := q + 1) (by rw [show (1 : Int32) = nI 1 from rfl, nI_add]) (by omega), (FL_drop i hq).1]
