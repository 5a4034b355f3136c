/-! hints -/
theorem wh_fs {body : Int32 → Option (Int32 ⊕ (Int32 ⊕ Unit))} {N n k0 : Nat} (g : Nat → Option Nat) (f : Nat → Int32) (hs : ∀ k, k < N → k0 ≤ k → body (nI k) = match g k with | none => some (.inl (nI (k + 1))) | some v => some (.inr (.inl (f v)))) (he : body (nI N) = some (.inr (.inr ()))) (h0 : k0 ≤ N) (hn : N < n) : wh body n (nI k0) = some (match (List.range' k0 (N - k0)).findSome? g with | none => .inr () | some v => .inl (f v)) := by
  have key : ∀ (d k m : Nat), k0 ≤ k → k + d = N → d < m → wh body m (nI k) = some (match (List.range' k d).findSome? g with | none => .inr () | some v => .inl (f v)) := by
    intro d
    induction d with
    | zero =>
      intro k m h hk hm
      obtain ⟨m, rfl⟩ : ∃ q, m = q + 1 := ⟨m - 1, by omega⟩
      have : k = N := by omega
      subst this
      rw [wh_r he]
      rfl
    | succ d ih =>
      intro k m h hk hm
      obtain ⟨m, rfl⟩ : ∃ q, m = q + 1 := ⟨m - 1, by omega⟩
      have h1 := hs k (by omega) h
      rw [List.range'_succ, List.findSome?_cons]
      cases e : g k with
      | none =>
        rw [e] at h1
        rw [wh_i h1, ih (k + 1) m (by omega) (by omega) (by omega)]
      | some v =>
        rw [e] at h1
        rw [wh_r h1]
  exact key (N - k0) k0 n (Nat.le_refl _) (by omega) (by omega)
theorem wh_allI {σ : Type} {body : σ → Option (σ ⊕ (Int32 ⊕ Unit))} (I : Nat → σ) {N n : Nat} (g : Nat → Bool) (v : Int32) (hs : ∀ k, k < N → body (I k) = if g k = true then some (.inl (I (k + 1))) else some (.inr (.inl v))) (he : body (I N) = some (.inr (.inr ()))) (hn : N < n) : wh body n (I 0) = some (if (List.range N).all g = true then .inr () else .inl v) := by
  have key : ∀ (d k m : Nat), k + d = N → d < m → wh body m (I k) = some (if (List.range' k d).all g = true then .inr () else .inl v) := by
    intro d
    induction d with
    | zero =>
      intro k m hk hm
      obtain ⟨m, rfl⟩ : ∃ q, m = q + 1 := ⟨m - 1, by omega⟩
      have : k = N := by omega
      subst this
      rw [wh_r he]
      rfl
    | succ d ih =>
      intro k m hk hm
      obtain ⟨m, rfl⟩ : ∃ q, m = q + 1 := ⟨m - 1, by omega⟩
      have h1 := hs k (by omega)
      rw [List.range'_succ, List.all_cons]
      by_cases a : g k = true
      · rw [if_pos a] at h1
        rw [wh_i h1, ih (k + 1) m (by omega) (by omega), a, Bool.true_and]
      · rw [if_neg a] at h1
        rw [wh_r h1, if_neg (by simp [a])]
  have := key N 0 n (by omega) hn
  rw [← List.range_eq_range'] at this
  exact this
theorem fs_none {α β : Type} {g : α → Option β} {l : List α} (h : ∀ x ∈ l, g x = none) : l.findSome? g = none := List.findSome?_eq_none_iff.mpr h
theorem fs_congr {α β : Type} {g g' : α → Option β} : ∀ {l : List α}, (∀ x ∈ l, g x = g' x) → l.findSome? g = l.findSome? g' := by
  intro l
  induction l with
  | nil => intro _; rfl
  | cons a l ih =>
    intro h
    rw [List.findSome?_cons, List.findSome?_cons, h a List.mem_cons_self, ih (fun x hx => h x (List.mem_cons_of_mem _ hx))]
theorem fs_ext {β : Type} {g : Nat → Option β} {s n : Nat} (hs : s ≤ n) (hn : n ≤ 16) (h : ∀ x, n ≤ x → x < 16 → g x = none) : (List.range' s (n - s)).findSome? g = (List.range' s (16 - s)).findSome? g := by
  have e : List.range' s (16 - s) = List.range' s (n - s) ++ List.range' n (16 - n) := by
    rw [show 16 - s = (n - s) + (16 - n) by omega, ← List.range'_append]
    congr 2
    omega
  rw [e, List.findSome?_append, fs_none (l := List.range' n (16 - n)) (fun x hx => by
    rw [List.mem_range'_1] at hx
    exact h x hx.1 (by omega)), Option.or_none]
/-- whether these cells tell the picture -/
def tlB (L : List Nat) (p c : Nat) : Bool := L.all (fun q => decide (q = p) || decide (¬ (q ^^^ p) &&& c = 0))
theorem tlB_iff {L : List Nat} {p c : Nat} : tlB L p c = true ↔ ∀ q ∈ L, q ≠ p → ¬ (q ^^^ p) &&& c = 0 := by
  unfold tlB
  rw [List.all_eq_true]
  constructor
  · intro h q hq hne
    have := h q hq
    simpa [hne] using this
  · intro h q hq
    by_cases a : q = p
    · simp [a]
    · simpa [a] using h q hq a
def opC (t : Tb) (c : Nat) : Bool := decide (c < t.h * t.w) && decide (t.mk c = 0)
/-- the first cells by numbers, so many more from one on -/
def hiN (t : Tb) (p : Nat) : Nat → Nat → Nat → Option Nat
  | 0, X, _ => if tlB t.L p X = true then some X else none
  | m + 1, X, s => (List.range' s (16 - s)).findSome? (fun c => if opC t c = true then hiN t p m (X ||| 2 ^ c) (c + 1) else none)
theorem or_p {X c : Nat} (hX : X < 2 ^ c) : X ||| 2 ^ c < 2 ^ (c + 1) := Nat.or_lt_two_pow (Nat.lt_of_lt_of_le hX (pw_le (by omega))) (Nat.pow_lt_pow_right (by decide) (by omega))
theorem cnt_p : ((List.range 16).all fun c => decide (cntN (2 ^ c) 16 = 1)) = true := by decide +kernel
theorem hiN_ok {t : Tb} {p : Nat} : ∀ (m X s Y : Nat), s ≤ 16 → X < 2 ^ s → hiN t p m X s = some Y → Y < 2 ^ 16 ∧ cntN Y 16 = cntN X 16 + m := by
  intro m
  induction m with
  | zero =>
    intro X s Y hs hX h
    unfold hiN at h
    split at h
    · have := Option.some.inj h
      subst this
      exact ⟨Nat.lt_of_lt_of_le hX (pw_le hs), rfl⟩
    · cases h
  | succ m ih =>
    intro X s Y hs hX h
    unfold hiN at h
    obtain ⟨c, hc, hv⟩ := List.exists_of_findSome?_eq_some h
    rw [List.mem_range'_1] at hc
    split at hv
    · have hX2 : X < 2 ^ c := Nat.lt_of_lt_of_le hX (pw_le hc.1)
      obtain ⟨h1, h2⟩ := ih _ _ _ (by omega) (or_p hX2) hv
      refine ⟨h1, ?_⟩
      rw [h2, cntN_or (fun i hi => ?_), la1 cnt_p (show c < 16 by omega)]
      · omega
      · rw [Nat.testBit_two_pow]
        have : i < c := by
          by_cases q : i < c
          · exact q
          · rw [Nat.testBit_lt_two_pow (Nat.lt_of_lt_of_le hX2 (pw_le (show c ≤ i by omega)))] at hi
            cases hi
        simp
        omega
    · cases hv
def oI (r : Option Nat) : Int32 := match r with | none => -1 | some v => nI v
theorem a_grow {A : Ab} {E : OE} (o : tbOK A.t) (es : ES A E) (f : fitsO (E.2 5) A.t.L) {p : Nat} (hp : p < 2 ^ 16) : ∀ (m X s d : Nat), m < d → m ≤ 3 → s ≤ A.t.h * A.t.w → X < 2 ^ s → fX5_growHints d E (nI p) (nI X) (nI s) (nI m) = some (oI (hiN A.t p m X s)) := by
  have hm := o.hm
  have hL := tb_L o
  intro m
  induction m with
  | zero =>
    intro X s d hd _ hs hX
    obtain ⟨d, rfl⟩ : ∃ q, d = q + 1 := ⟨d - 1, by omega⟩
    have hX16 : X < 2 ^ 16 := Nat.lt_of_lt_of_le hX (pw_le (by omega))
    show fX5_growHints_B (fX5_growHints d) E (nI p) (nI X) (nI s) (nI 0) = _
    unfold fX5_growHints_B
    rw [if_pos (by decide), if_neg (by decide), a_tells f hL (by decide) (fun q hq => tb_Lt o hq) hp hX16, Option.bind_some]
    unfold hiN
    by_cases a : tlB A.t.L p X = true
    · rw [if_neg (izn (tlB_iff.mp a)), if_pos a]
      rfl
    · rw [if_pos (iz0 (fun z => a (tlB_iff.mpr z))), if_neg a]
      rfl
  | succ m ih =>
    intro X s d hd hm3 hs hX
    obtain ⟨d, rfl⟩ : ∃ q, d = q + 1 := ⟨d - 1, by omega⟩
    show fX5_growHints_B (fX5_growHints d) E (nI p) (nI X) (nI s) (nI (m + 1)) = _
    unfold fX5_growHints_B
    have c0 : (1 : Int32) ≤ nI (m + 1) := by rw [show (1 : Int32) = nI 1 from rfl, nI_leI (by omega) (by omega)]; omega
    have c3 : nI (m + 1) ≤ (3 : Int32) := by rw [show (3 : Int32) = nI 3 from rfl, nI_leI (by omega) (by omega)]; omega
    rw [if_pos c3, if_pos c0]
    have := wh_fs (body := fun t => fX5_growHints_L35 (fX5_growHints d) E (nI p) (nI X) (nI (m + 1)) t) (N := A.t.h * A.t.w) (n := 100000) (k0 := s) (fun c => if opC A.t c = true then hiN A.t p m (X ||| 2 ^ c) (c + 1) else none) (fun v => nI v)
      (by
        intro k hk hsk
        have c1 : ¬ nI (A.t.h * A.t.w) ≤ nI k := by rw [nI_leI (by omega) (by omega)]; omega
        have mk3 := o.mk3 k
        have c2 : nI (A.t.mk k) = 0 ↔ A.t.mk k = 0 := nI_eq (b := 0) (by omega) (by decide)
        have hX2 : X < 2 ^ k := Nat.lt_of_lt_of_le hX (pw_le hsk)
        have hk16 : 2 ^ k < 2 ^ 16 := Nat.pow_lt_pow_right (by decide) (by omega)
        show fX5_growHints_L35 (fX5_growHints d) E (nI p) (nI X) (nI (m + 1)) (nI k) = match (if opC A.t k = true then hiN A.t p m (X ||| 2 ^ k) (k + 1) else none) with | none => some (.inl (nI (k + 1))) | some v => some (.inr (.inl (nI v)))
        unfold fX5_growHints_L35
        rw [a_cells es.t, Option.bind_some, if_neg c1, a_how o es.t hk, Option.bind_some, nI_1]
        by_cases a : A.t.mk k = 0
        · have oc : opC A.t k = true := by unfold opC; simp [hk, a]
          rw [if_pos (c2.mpr a), if_pos oc, sh1 (by omega), nq_or (by omega) (by omega), show nI (m + 1) - (1 : Int32) = nI m from nI_pred m, ih (X ||| 2 ^ k) (k + 1) d (by omega) (by omega) (by omega) (or_p hX2), Option.bind_some]
          cases e : hiN A.t p m (X ||| 2 ^ k) (k + 1) with
          | none =>
            rw [if_pos (show oI none = -1 from rfl)]
          | some v =>
            have := (hiN_ok _ _ _ _ (by omega) (or_p hX2) e).1
            rw [if_neg (show ¬ oI (some v) = -1 from nI_ne1 (by omega))]
            rfl
        · have oc : ¬ opC A.t k = true := by unfold opC; simp [a]
          rw [if_neg (fun z => a (c2.mp z)), if_neg oc])
      (by
        show fX5_growHints_L35 (fX5_growHints d) E (nI p) (nI X) (nI (m + 1)) (nI (A.t.h * A.t.w)) = _
        unfold fX5_growHints_L35
        rw [a_cells es.t, Option.bind_some, if_pos (Int32.le_refl _)])
      hs (by omega)
    rw [this, Option.bind_some]
    have ee : (List.range' s (A.t.h * A.t.w - s)).findSome? (fun c => if opC A.t c = true then hiN A.t p m (X ||| 2 ^ c) (c + 1) else none) = hiN A.t p (m + 1) X s := by
      rw [fs_ext hs hm (fun x hx _ => by
        have : ¬ opC A.t x = true := by unfold opC; simp; omega
        rw [if_neg this])]
      rfl
    rw [ee]
    cases hiN A.t p (m + 1) X s with
    | none => rfl
    | some v => rfl
theorem a_fewest {A : Ab} {E : OE} (o : tbOK A.t) (es : ES A E) (f : fitsO (E.2 5) A.t.L) {p : Nat} (hp : p < 2 ^ 16) : fX5_fewestHints E (nI p) = some (oI ((List.range 4).findSome? (fun m => hiN A.t p m 0 0))) := by
  unfold fX5_fewestHints
  have := wh_fs (body := fun t => fX5_fewestHints_L2 E (nI p) t) (N := 4) (n := 100000) (k0 := 0) (fun m => hiN A.t p m 0 0) (fun v => nI v)
    (by
      intro k hk _
      have c1 : ¬ (3 : Int32) < nI k := by rw [show (3 : Int32) = nI 3 from rfl, nI_ltI (by omega) (by omega)]; omega
      show fX5_fewestHints_L2 E (nI p) (nI k) = match hiN A.t p k 0 0 with | none => some (.inl (nI (k + 1))) | some v => some (.inr (.inl (nI v)))
      unfold fX5_fewestHints_L2
      rw [if_neg c1, show fX5_growHints 6 E (nI p) (0 : Int32) (0 : Int32) (nI k) = some (oI (hiN A.t p k 0 0)) from a_grow o es f hp k 0 0 6 (by omega) (by omega) (Nat.zero_le _) (by decide), Option.bind_some, nI_1]
      cases e : hiN A.t p k 0 0 with
      | none => rw [if_pos (show oI none = -1 from rfl)]
      | some v =>
        have := (hiN_ok _ _ _ _ (by omega) (by decide) e).1
        rw [if_neg (show ¬ oI (some v) = -1 from nI_ne1 (by omega))]
        rfl)
    (by
      show fX5_fewestHints_L2 E (nI p) (nI 4) = _
      unfold fX5_fewestHints_L2
      rw [if_pos (by decide)])
    (by decide) (by decide)
  rw [show (0 : Int32) = nI 0 from rfl, this, Option.bind_some, List.range_eq_range']
  show _ = some (oI ((List.range' 0 (4 - 0)).findSome? _))
  cases (List.range' 0 (4 - 0)).findSome? (fun m => hiN A.t p m 0 0) with
  | none => rfl
  | some v => rfl
/-! the number-th cell of some -/
def atN (X v : Nat) : Nat → Int32
  | 0 => -1
  | k + 1 => if bq X k = 1 ∧ cntN X (k + 1) = v then nI k else atN X v k
theorem cnt_mono {X a b : Nat} (h : a ≤ b) : cntN X a ≤ cntN X b := by
  induction b with
  | zero => have : a = 0 := by omega
            rw [this]; exact Nat.le_refl _
  | succ b ih =>
    by_cases q : a = b + 1
    · rw [q]; exact Nat.le_refl _
    · have := ih (by omega)
      show _ ≤ cntN X b + bq X b
      omega
theorem atN_some {X v K : Nat} (hv : 1 ≤ v) (hK : cntN X (K + 1) = v) (hm : ∀ j, j < K → ¬ cntN X (j + 1) = v) : ∀ d, atN X v (K + 1 + d) = nI K := by
  have b1 : bq X K = 1 := by
    have hb := bq_le X K
    have e : cntN X (K + 1) = cntN X K + bq X K := rfl
    have : ¬ cntN X K = v := by
      cases K with
      | zero => show ¬ 0 = v; omega
      | succ K => exact hm K (by omega)
    omega
  intro d
  induction d with
  | zero =>
    show (if bq X K = 1 ∧ cntN X (K + 1) = v then nI K else atN X v K) = _
    rw [if_pos ⟨b1, hK⟩]
  | succ d ih =>
    show (if bq X (K + 1 + d) = 1 ∧ cntN X (K + 1 + d + 1) = v then nI (K + 1 + d) else atN X v (K + 1 + d)) = _
    rw [if_neg, ih]
    rintro ⟨h1, h2⟩
    have e : cntN X (K + 1 + d + 1) = cntN X (K + 1 + d) + bq X (K + 1 + d) := rfl
    have := cnt_mono (X := X) (show K + 1 ≤ K + 1 + d by omega)
    omega
theorem atN_none {X v : Nat} : ∀ k, (∀ j, j < k → ¬ cntN X (j + 1) = v) → atN X v k = -1 := by
  intro k
  induction k with
  | zero => intro _; rfl
  | succ k ih =>
    intro h
    show (if bq X k = 1 ∧ cntN X (k + 1) = v then nI k else atN X v k) = _
    rw [if_neg (fun q => h k (by omega) q.2)]
    exact ih (fun j hj => h j (by omega))
theorem a_cellAt {X v : Nat} (hX : X < 2 ^ 16) (hv : 1 ≤ v) (hv3 : v < 4) : fX5_cellAt (nI X) (nI v) = some (atN X v 16) := by
  have step : ∀ k, k < 16 → fX5_cellAt_L4 (nI X) (nI v) (nI (cntN X k)) (nI k) = if cntN X (k + 1) = v then some (.inr (.inl (nI k))) else some (.inl (nI (cntN X (k + 1)), nI (k + 1))) := by
    intro k hk
    have c1 : ¬ (16 : Int32) ≤ nI k := by rw [show (16 : Int32) = nI 16 from rfl, nI_leI (by omega) (by omega)]; omega
    have c2 := nbit0 (a := X) (k := k) (by omega) (by omega)
    have hc := cntN_le X k
    have e : cntN X (k + 1) = cntN X k + bq X k := rfl
    have toJ : fX5_cellAt_L4 (nI X) (nI v) (nI (cntN X k)) (nI k) = fX5_cellAt_J21 (nI X) (nI v) (nI (cntN X (k + 1))) (nI k) := by
      unfold fX5_cellAt_L4
      rw [if_neg c1, e, bq_tb]
      by_cases a : X.testBit k = true
      · rw [if_neg (by rw [c2, a]; decide), a, nI_1]
        rfl
      · have a : X.testBit k = false := by simpa using a
        rw [if_pos (c2.mpr a), a]
        rfl
    rw [toJ]
    unfold fX5_cellAt_J21
    have hc2 := cntN_le X (k + 1)
    have c3 : nI (cntN X (k + 1)) = nI v ↔ cntN X (k + 1) = v := nI_eq (by omega) (by omega)
    rw [nI_1]
    by_cases a : cntN X (k + 1) = v
    · rw [if_pos (c3.mpr a), if_pos a]
    · rw [if_neg (fun z => a (c3.mp z)), if_neg a]
  unfold fX5_cellAt
  by_cases ex : ∃ k, k < 16 ∧ cntN X (k + 1) = v
  · obtain ⟨K, ⟨k1, k2⟩, k3⟩ := pk_least (fun k => k < 16 ∧ cntN X (k + 1) = v) ex
    have hm : ∀ j, j < K → ¬ cntN X (j + 1) = v := fun j hj q => k3 j hj ⟨by omega, q⟩
    have e := atN_some hv k2 hm (16 - (K + 1))
    rw [show K + 1 + (16 - (K + 1)) = 16 by omega] at e
    rw [e]
    refine wh_b (fun k => (nI (cntN X k), nI k)) K (.inl (nI K)) rfl (by omega) ?_ ?_ rfl
    · intro k hk
      have := step k (by omega)
      rw [if_neg (hm k hk)] at this
      exact this
    · have := step K k1
      rw [if_pos k2] at this
      exact this
  · have hm : ∀ j, j < 16 → ¬ cntN X (j + 1) = v := fun j hj q => ex ⟨j, hj, q⟩
    rw [atN_none 16 hm]
    refine wh_b (fun k => (nI (cntN X k), nI k)) 16 (.inr ()) rfl (by decide) ?_ ?_ rfl
    · intro k hk
      have := step k hk
      rw [if_neg (hm k hk)] at this
      exact this
    · show fX5_cellAt_L4 (nI X) (nI v) (nI (cntN X 16)) (nI 16) = _
      unfold fX5_cellAt_L4
      rw [if_pos (by decide)]
theorem c_cellAt {X v : Nat} (M : OM) (y : Int32) (hX : X < 2 ^ 16) (hv3 : v < 4) : wh (σ := Int32 × Int32 × Int32) (ρ := Int32) (fun t => fX6_hintsOf_L77 M (nI v) y (nI X) t.1 t.2.1 t.2.2) 100000 ((0 : Int32), (-1 : Int32), (0 : Int32)) = some (atN X v 16) := by
  refine wh_for0 (fun k => (nI (cntN X k), atN X v k, nI k)) 16 rfl (by decide) ?_ ?_
  · intro k hk
    show fX6_hintsOf_L77 M (nI v) y (nI X) (nI (cntN X k)) (atN X v k) (nI k) = some (.inl (nI (cntN X k + bq X k), (if bq X k = 1 ∧ cntN X (k + 1) = v then nI k else atN X v k), nI (k + 1)))
    have c1 : ¬ (16 : Int32) ≤ nI k := by rw [show (16 : Int32) = nI 16 from rfl, nI_leI (by omega) (by omega)]; omega
    have hb := bq_le X k
    have hc2 := cntN_le X (k + 1)
    have e : cntN X (k + 1) = cntN X k + bq X k := rfl
    have c2 : nI (bq X k) = (1 : Int32) ↔ bq X k = 1 := nI_eq (b := 1) (by omega) (by decide)
    have c3 : nI (cntN X k + bq X k) = nI v ↔ cntN X (k + 1) = v := by rw [nI_eq (by omega) (by omega), e]
    unfold fX6_hintsOf_L77
    rw [if_neg c1, nbit (by omega) (by omega), nI_add, nI_1]
    by_cases a : bq X k = 1
    · rw [if_pos (c2.mpr a)]
      by_cases b : cntN X (k + 1) = v
      · rw [if_pos (c3.mpr b), if_pos ⟨a, b⟩]
      · rw [if_neg (fun z => b (c3.mp z)), if_neg (fun z => b z.2)]
    · rw [if_neg (fun z => a (c2.mp z)), if_neg (fun z => a z.1)]
  · show fX6_hintsOf_L77 M (nI v) y (nI X) (nI (cntN X 16)) (atN X v 16) (nI 16) = _
    unfold fX6_hintsOf_L77
    rw [if_pos (by decide)]
