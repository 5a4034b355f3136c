/-! hints, the reference's side -/
theorem all_rng (L : List Nat) (g : Nat → Bool) : (List.range L.length).all (fun k => g (L.getD k 0)) = L.all g := by
  rw [Bool.eq_iff_iff, List.all_eq_true, List.all_eq_true]
  constructor
  · intro h q hq
    obtain ⟨i, hi, e⟩ := List.mem_iff_getElem.mp hq
    have := h i (List.mem_range.mpr hi)
    rw [gd_eq hi, e] at this
    exact this
  · intro h k hk
    have hk := List.mem_range.mp hk
    rw [gd_eq hk]
    exact h _ (List.getElem_mem hk)
theorem c_isTelling {M : OM} {t : Tb} (o : tbOK t) (f : fM M t.h t.w t.F) {p c : Nat} (hp : p < 2 ^ 16) (hc : c < 2 ^ 16) : fX6_isTelling M (nI p) (nI c) = some (iz (tlB t.L p c = true)) := by
  have hL := tb_L o
  unfold fX6_isTelling
  have n0 : fX6_nextFit M (-1 : Int32) = some (hdI t.L) := c_next0 f.wk
  rw [n0, Option.bind_some]
  have := wh_allI (body := fun u => fX6_isTelling_L6 M (nI p) (nI c) u) (fun k => hdI (t.L.drop k)) (N := t.L.length) (n := 100000) (fun k => decide (t.L.getD k 0 = p) || decide (¬ (t.L.getD k 0 ^^^ p) &&& c = 0)) 0
    (by
      intro k hk
      have hq : t.L[k]? = some t.L[k] := List.getElem?_eq_getElem hk
      have hq16 := tb_Lt o (List.getElem_mem hk)
      have nx : fX6_nextFit M (nI t.L[k]) = some (hdI (t.L.drop (k + 1))) := c_nextI f.wk hq
      have c1 : nI t.L[k] = nI p ↔ t.L[k] = p := nI_eq (by omega) (by omega)
      have hx : t.L[k] ^^^ p < 2 ^ 16 := Nat.xor_lt_two_pow hq16 hp
      have hx2 : (t.L[k] ^^^ p) &&& c < 2 ^ 16 := Nat.lt_of_le_of_lt Nat.and_le_left hx
      have c2 : nI ((t.L[k] ^^^ p) &&& c) = 0 ↔ (t.L[k] ^^^ p) &&& c = 0 := nI_eq (b := 0) (by omega) (by decide)
      show fX6_isTelling_L6 M (nI p) (nI c) (hdI (t.L.drop k)) = _
      unfold fX6_isTelling_L6 fX6_isTelling_J26
      rw [hd_drop hq, if_neg (nI_ne1 (by omega)), nx, Option.bind_some, nq_xor (by omega) (by omega), nq_and (by omega) (by omega), gd_eq hk]
      by_cases a : t.L[k] = p
      · rw [if_pos (c1.mpr a), if_pos (by simp [a])]
      · rw [if_neg (fun z => a (c1.mp z))]
        by_cases b : (t.L[k] ^^^ p) &&& c = 0
        · rw [if_pos (c2.mpr b), if_neg (by simp [a, b])]
        · rw [if_neg (fun z => b (c2.mp z)), if_pos (by simp [b])])
    (by
      show fX6_isTelling_L6 M (nI p) (nI c) (hdI (t.L.drop t.L.length)) = _
      rw [List.drop_length]
      unfold fX6_isTelling_L6
      rw [if_pos (show hdI [] = -1 from rfl)])
    (by omega)
  rw [show hdI t.L = hdI (t.L.drop 0) from rfl, this, Option.bind_some]
  have e : (List.range t.L.length).all (fun k => decide (t.L.getD k 0 = p) || decide (¬ (t.L.getD k 0 ^^^ p) &&& c = 0)) = tlB t.L p c := all_rng t.L (fun q => decide (q = p) || decide (¬ (q ^^^ p) &&& c = 0))
  rw [e]
  by_cases a : tlB t.L p c = true
  · rw [if_pos a, iz_t a]; rfl
  · rw [if_neg a, iz_f a]; rfl
/-- the first of some, if there is none yet -/
theorem wh_best {body : Int32 × Int32 → Option ((Int32 × Int32) ⊕ Int32)} {n k0 : Nat} (g : Nat → Option Nat) (hv : ∀ k v, k < 16 → g k = some v → ¬ v = 0) (hs : ∀ b k, k < 16 → k0 ≤ k → b < 2 ^ 16 → body (nI b, nI k) = some (.inl (nI (if b = 0 then (g k).getD 0 else b), nI (k + 1)))) (hg : ∀ k v, k < 16 → g k = some v → v < 2 ^ 16) (he : ∀ x, body (x, nI 16) = some (.inr x)) (h0 : k0 ≤ 16) (hn : 16 < n) {b : Nat} (hb : b < 2 ^ 16) : wh body n (nI b, nI k0) = some (nI (if b = 0 then ((List.range' k0 (16 - k0)).findSome? g).getD 0 else b)) := by
  have key : ∀ (d k m b : Nat), b < 2 ^ 16 → k0 ≤ k → k + d = 16 → d < m → wh body m (nI b, nI k) = some (nI (if b = 0 then ((List.range' k d).findSome? g).getD 0 else b)) := by
    intro d
    induction d with
    | zero =>
      intro k m b hb h hk hm
      obtain ⟨m, rfl⟩ : ∃ q, m = q + 1 := ⟨m - 1, by omega⟩
      have : k = 16 := by omega
      subst this
      rw [wh_r (he _)]
      by_cases z : b = 0
      · rw [if_pos z, z]; rfl
      · rw [if_neg z]
    | succ d ih =>
      intro k m b hb h hk hm
      obtain ⟨m, rfl⟩ : ∃ q, m = q + 1 := ⟨m - 1, by omega⟩
      have h1 := hs b k (by omega) h hb
      rw [wh_i h1, List.range'_succ, List.findSome?_cons]
      by_cases z : b = 0
      · rw [if_pos z, if_pos z]
        cases e : g k with
        | none =>
          show wh body m (nI 0, nI (k + 1)) = _
          rw [ih (k + 1) m 0 (by decide) (by omega) (by omega) (by omega), if_pos rfl]
        | some v =>
          show wh body m (nI v, nI (k + 1)) = _
          rw [ih (k + 1) m v (hg k v (by omega) e) (by omega) (by omega) (by omega), if_neg (hv k v (by omega) e)]
          rfl
      · rw [if_neg z, if_neg z, ih (k + 1) m b hb (by omega) (by omega) (by omega), if_neg z]
  exact key (16 - k0) k0 n b hb (Nat.le_refl _) (by omega) (by omega)
def opN2 (t : Tb) : Nat := mskN t.mk 0 (t.h * t.w)
theorem msk_sum (mk : Nat → Nat) (h3 : ∀ j, mk j < 3) (n : Nat) : mskN mk 0 n + mskN mk 1 n + mskN mk 2 n = 2 ^ n - 1 := by
  have step : ∀ how k, mskN mk how (k + 1) = mskN mk how k + (if mk k = how then 2 ^ k else 0) := by
    intro how k
    show mskN mk how k ||| (if mk k = how then 2 ^ k else 0) = _
    by_cases a : mk k = how
    · have := Nat.two_pow_add_eq_or_of_lt (mskN_lt mk how k) 1
      rw [Nat.mul_one] at this
      rw [if_pos a, Nat.or_comm, ← this, Nat.add_comm]
    · rw [if_neg a, Nat.or_zero]; rfl
  induction n with
  | zero => rfl
  | succ n ih =>
    rw [step, step, step]
    have h := h3 n
    have hp := Nat.two_pow_pos n
    have e : 2 ^ (n + 1) = 2 ^ n + 2 ^ n := by rw [Nat.pow_succ]; omega
    have k : mk n = 0 ∨ mk n = 1 ∨ mk n = 2 := by omega
    rcases k with k | k | k <;> rw [k] <;> simp <;> omega
def okX (t : Tb) (X : Nat) : Bool := decide (X &&& (opN2 t ^^^ (2 ^ 32 - 1)) = 0)
theorem op2_tb (t : Tb) (i : Nat) : (opN2 t).testBit i = opC t i := by
  unfold opN2 opC
  rw [mskN_tb]
  simp
theorem okX_iff {t : Tb} {X : Nat} (hX : X < 2 ^ 16) : okX t X = true ↔ ∀ i, X.testBit i = true → opC t i = true := by
  unfold okX
  rw [decide_eq_true_iff, and_z_tb]
  constructor
  · intro h i hi
    have hi16 : i < 16 := by
      by_cases q : i < 16
      · exact q
      · rw [Nat.testBit_lt_two_pow (Nat.lt_of_lt_of_le hX (pw_le (show 16 ≤ i by omega)))] at hi
        cases hi
    have := h i
    rw [Nat.testBit_xor, op2_tb, Nat.testBit_two_pow_sub_one, hi] at this
    cases e : opC t i with
    | true => rfl
    | false =>
      rw [e] at this
      have h32 : i < 32 := by omega
      simp [h32] at this
  · intro h i hi
    cases e : X.testBit i with
    | false => rfl
    | true =>
      have h1 := h i e
      have hi16 : i < 16 := by
        by_cases q : i < 16
        · exact q
        · rw [Nat.testBit_lt_two_pow (Nat.lt_of_lt_of_le hX (pw_le (show 16 ≤ i by omega)))] at e
          cases e
      have h32 : i < 32 := by omega
      rw [Nat.testBit_xor, op2_tb, Nat.testBit_two_pow_sub_one, h1] at hi
      simp [h32] at hi
theorem okX_or {t : Tb} {X c : Nat} (hX : X < 2 ^ 16) (hc : c < 16) : okX t (X ||| 2 ^ c) = (okX t X && opC t c) := by
  have hp : 2 ^ c < 2 ^ 16 := Nat.pow_lt_pow_right (by decide) hc
  rw [Bool.eq_iff_iff, Bool.and_eq_true, okX_iff (Nat.or_lt_two_pow hX hp), okX_iff hX]
  constructor
  · intro h
    refine ⟨fun i hi => h i (by rw [Nat.testBit_or, hi, Bool.true_or]), h c (by rw [Nat.testBit_or, Nat.testBit_two_pow]; simp)⟩
  · rintro ⟨h1, h2⟩ i hi
    rw [Nat.testBit_or, Bool.or_eq_true, Nat.testBit_two_pow] at hi
    rcases hi with hi | hi
    · exact h1 i hi
    · have := of_decide_eq_true hi
      rw [← this]; exact h2
def tsN (t : Tb) (p X : Nat) : Option Nat := if okX t X = true ∧ tlB t.L p X = true then some X else none
def mdN (t : Tb) (p : Nat) : Nat → Nat → Nat → Option Nat
  | 0, X, _ => tsN t p X
  | m + 1, X, s => (List.range' s (16 - s)).findSome? (fun c => mdN t p m (X ||| 2 ^ c) (c + 1))
theorem md_hi {t : Tb} {p : Nat} : ∀ (m X s : Nat), X < 2 ^ 16 → mdN t p m X s = if okX t X = true then hiN t p m X s else none := by
  intro m
  induction m with
  | zero =>
    intro X s hX
    unfold mdN tsN hiN
    by_cases a : okX t X = true
    · rw [if_pos a]
      by_cases b : tlB t.L p X = true
      · rw [if_pos ⟨a, b⟩, if_pos b]
      · rw [if_neg (fun q => b q.2), if_neg b]
    · rw [if_neg (fun q => a q.1), if_neg a]
  | succ m ih =>
    intro X s hX
    unfold mdN
    have e : (List.range' s (16 - s)).findSome? (fun c => mdN t p m (X ||| 2 ^ c) (c + 1)) = (List.range' s (16 - s)).findSome? (fun c => if (okX t X && opC t c) = true then hiN t p m (X ||| 2 ^ c) (c + 1) else none) := by
      refine fs_congr (fun c hc => ?_)
      rw [List.mem_range'_1] at hc
      have hc16 : c < 16 := by omega
      have hp : 2 ^ c < 2 ^ 16 := Nat.pow_lt_pow_right (by decide) hc16
      rw [ih _ _ (Nat.or_lt_two_pow hX hp), okX_or hX hc16]
    rw [e]
    by_cases a : okX t X = true
    · rw [if_pos a, a]
      conv => rhs; unfold hiN
      refine fs_congr (fun c hc => ?_)
      rw [Bool.true_and]
    · rw [if_neg a]
      have a : okX t X = false := by simpa using a
      refine fs_none (fun c hc => ?_)
      rw [a]
      rfl
def cvX (m a b c : Nat) : Nat := (2 ^ a ||| (if 1 < m then 2 ^ b else 0)) ||| (if 2 < m then 2 ^ c else 0)
theorem pw16 {a : Nat} (h : a < 16) : 2 ^ a < 2 ^ 16 := Nat.pow_lt_pow_right (by decide) h
theorem cvX_lt {m a b c : Nat} (ha : a < 16) (hb : b < 16) (hc : c < 16) : cvX m a b c < 2 ^ 16 := by
  unfold cvX
  refine Nat.or_lt_two_pow (Nat.or_lt_two_pow (pw16 ha) ?_) ?_
  · split
    · exact pw16 hb
    · decide
  · split
    · exact pw16 hc
    · decide
theorem cvX_pos {m a b c : Nat} : ¬ cvX m a b c = 0 := by
  intro h
  have h1 : (cvX m a b c).testBit a = true := by
    unfold cvX
    rw [Nat.testBit_or, Nat.testBit_or, Nat.testBit_two_pow]
    simp
  rw [h, Nat.zero_testBit] at h1
  cases h1
theorem ts_v {t : Tb} {p X v : Nat} (h : tsN t p X = some v) : v = X := by
  unfold tsN at h
  split at h
  · exact (Option.some.inj h).symm
  · cases h
theorem c_t52 {M : OM} {t : Tb} (o : tbOK t) (f : fM M t.h t.w t.F) {p m a b c B : Nat} (hp : p < 2 ^ 16) (hm : m < 4) (ha : a < 16) (hb : b < 16) (hc : c < 16) (hB : B < 2 ^ 16) : fX6_telling_L52 M (nI p) (nI m) (nI (opN2 t)) (nI a) (nI b) (nI B) (nI c) = some (.inl (nI (if B = 0 then (tsN t p (cvX m a b c)).getD 0 else B), nI (c + 1))) := by
  have c1 : ¬ (16 : Int32) ≤ nI c := by rw [show (16 : Int32) = nI 16 from rfl, nI_leI (by omega) (by omega)]; omega
  have pa := pw16 ha
  have pb := pw16 hb
  have pc := pw16 hc
  have e1 : nI m ≤ (1 : Int32) ↔ ¬ 1 < m := by rw [show (1 : Int32) = nI 1 from rfl, nI_leI (by omega) (by omega)]; omega
  have e2 : nI m ≤ (2 : Int32) ↔ ¬ 2 < m := by rw [show (2 : Int32) = nI 2 from rfl, nI_leI (by omega) (by omega)]; omega
  have i1 : (if 1 < m then 2 ^ b else 0) < 2 ^ 16 := by split; exact pb; decide
  have i2 : (if 2 < m then 2 ^ c else 0) < 2 ^ 16 := by split; exact pc; decide
  have i3 : 2 ^ a ||| (if 1 < m then 2 ^ b else 0) < 2 ^ 16 := Nat.or_lt_two_pow pa i1
  have toJ : fX6_telling_L52 M (nI p) (nI m) (nI (opN2 t)) (nI a) (nI b) (nI B) (nI c) = fX6_telling_J90 M (nI p) (nI m) (nI (opN2 t)) (nI a) (nI b) (nI B) (nI c) (nI (if 2 < m then 2 ^ c else 0)) (nI (2 ^ a ||| (if 1 < m then 2 ^ b else 0))) := by
    unfold fX6_telling_L52 fX6_telling_J76
    rw [if_neg c1, sh1 (by omega), sh1 (by omega), sh1 (by omega)]
    by_cases q1 : 1 < m
    · rw [if_neg (by rw [e1]; exact fun z => z q1)]
      by_cases q2 : 2 < m
      · rw [if_neg (by rw [e2]; exact fun z => z q2), nq_or (by omega) (by omega), if_pos q1, if_pos q2]
      · rw [if_pos (e2.mpr q2), nq_or (by omega) (by omega), if_pos q1, if_neg q2]
        rfl
    · have q2 : ¬ 2 < m := by omega
      rw [if_pos (e1.mpr q1), if_pos (e2.mpr q2), show (0 : Int32) = nI 0 from rfl, nq_or (by omega) (by decide), if_neg q1, if_neg q2]
  have hcv := cvX_lt (m := m) ha hb hc
  rw [toJ]
  unfold fX6_telling_J90
  rw [nq_or (by omega) (by omega), nI_1]
  show (if nI B = 0 then (if (nI (cvX m a b c) &&& (nI (opN2 t) ^^^ (-1 : Int32))) = 0 then (fX6_isTelling M (nI p) (nI (cvX m a b c))).bind (fun r111 => if r111 = 0 then some (Sum.inl (nI B, nI (c + 1))) else some (Sum.inl (nI (cvX m a b c), nI (c + 1)))) else some (Sum.inl (nI B, nI (c + 1)))) else some (Sum.inl (nI B, nI (c + 1)))) = _
  have cB : nI B = 0 ↔ B = 0 := nI_eq (b := 0) (by omega) (by decide)
  by_cases z : B = 0
  · rw [if_pos (cB.mpr z), if_pos z, z]
    have hop : opN2 t < 2 ^ 16 := Nat.lt_of_lt_of_le (mskN_lt _ _ _) (pw_le o.hm)
    have hx : opN2 t ^^^ (2 ^ 32 - 1) < 2 ^ 32 := Nat.xor_lt_two_pow (by omega) (by decide)
    have ha2 : cvX m a b c &&& (opN2 t ^^^ (2 ^ 32 - 1)) < 2 ^ 16 := Nat.lt_of_le_of_lt Nat.and_le_left hcv
    have cO : nI (cvX m a b c &&& (opN2 t ^^^ (2 ^ 32 - 1))) = 0 ↔ okX t (cvX m a b c) = true := by
      rw [show (0 : Int32) = nI 0 from rfl, nI_eq (by omega) (by decide)]
      unfold okX
      rw [decide_eq_true_iff]
    rw [show (-1 : Int32) = nI (2 ^ 32 - 1) from rfl, nq_xor (by omega) (by decide), nq_and (by omega) hx]
    unfold tsN
    by_cases k : okX t (cvX m a b c) = true
    · rw [if_pos (cO.mpr k), c_isTelling o f hp hcv, Option.bind_some]
      by_cases u : tlB t.L p (cvX m a b c) = true
      · rw [if_neg (izn u), if_pos ⟨k, u⟩]
        rfl
      · rw [if_pos (iz0 u), if_neg (fun q => u q.2)]
        rfl
    · rw [if_neg (fun q => k (cO.mp q)), if_neg (fun q => k q.1)]
      rfl
  · rw [if_neg (fun q => z (cB.mp q)), if_neg z]
def g2X (t : Tb) (p m a b : Nat) : Option Nat := (List.range' (if 2 < m then b + 1 else 15) (16 - (if 2 < m then b + 1 else 15))).findSome? (fun c => tsN t p (cvX m a b c))
def g1X (t : Tb) (p m a : Nat) : Option Nat := (List.range' (if 1 < m then a + 1 else 15) (16 - (if 1 < m then a + 1 else 15))).findSome? (g2X t p m a)
theorem g2X_v {t : Tb} {p m a b v : Nat} (ha : a < 16) (hb : b < 16) (h : g2X t p m a b = some v) : v < 2 ^ 16 ∧ ¬ v = 0 := by
  unfold g2X at h
  obtain ⟨c, hc, hv⟩ := List.exists_of_findSome?_eq_some h
  rw [List.mem_range'_1] at hc
  rw [ts_v hv]
  exact ⟨cvX_lt ha hb (by omega), cvX_pos⟩
theorem g1X_v {t : Tb} {p m a v : Nat} (ha : a < 16) (h : g1X t p m a = some v) : v < 2 ^ 16 ∧ ¬ v = 0 := by
  unfold g1X at h
  obtain ⟨b, hb, hv⟩ := List.exists_of_findSome?_eq_some h
  rw [List.mem_range'_1] at hb
  exact g2X_v ha (by omega) hv
