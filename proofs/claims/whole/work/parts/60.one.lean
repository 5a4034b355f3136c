/-! one -/
theorem wh_find {S : Type} {body : Int32 × S → Option ((Int32 × S) ⊕ ((Int32 × S) ⊕ S))} (I : S → Prop) (g : Nat → Option Nat) (f : Nat → Int32) {N n : Nat} (hs : ∀ k s, k < N → I s → ∃ s', I s' ∧ body (nI k, s) = match g k with | none => some (.inl (nI (k + 1), s')) | some v => some (.inr (.inl (f v, s')))) (he : ∀ s, I s → body (nI N, s) = some (.inr (.inr s))) (hn : N < n) {s : S} (h0 : I s) : ∃ s', I s' ∧ wh body n (nI 0, s) = some (match (List.range N).findSome? g with | none => .inr s' | some v => .inl (f v, s')) := by
  have key : ∀ (d k m : Nat) (s : S), I s → k + d = N → d < m → ∃ s', I s' ∧ wh body m (nI k, s) = some (match (List.range' k d).findSome? g with | none => .inr s' | some v => .inl (f v, s')) := by
    intro d
    induction d with
    | zero =>
      intro k m s h hk hm
      obtain ⟨m, rfl⟩ : ∃ q, m = q + 1 := ⟨m - 1, by omega⟩
      have : k = N := by omega
      subst this
      refine ⟨s, h, ?_⟩
      rw [wh_r (he s h)]
      rfl
    | succ d ih =>
      intro k m s h hk hm
      obtain ⟨m, rfl⟩ : ∃ q, m = q + 1 := ⟨m - 1, by omega⟩
      obtain ⟨s1, i1, h1⟩ := hs k s (by omega) h
      rw [List.range'_succ, List.findSome?_cons]
      cases e : g k with
      | none =>
        rw [e] at h1
        obtain ⟨s2, i2, h2⟩ := ih (k + 1) m s1 i1 (by omega) (by omega)
        refine ⟨s2, i2, ?_⟩
        rw [wh_i h1, h2]
      | some v =>
        rw [e] at h1
        refine ⟨s1, i1, ?_⟩
        rw [wh_r h1]
  have := key N 0 n s h0 (by omega) hn
  rw [← List.range_eq_range'] at this
  exact this
def onL (t : Tb) (l k f s : Nat) : List Nat := FL (fitN t.h t.w (fun l' c => if l' = l then (decide (c < 2 ^ lenN t.h t.w l) && keptN k f s c) else tbC t.h t.w t.kd t.fr t.sc l' c) t.bl t.wt) (2 ^ (t.h * t.w))
def onB (t : Tb) (l k f s : Nat) : Bool := decide ((onL t l k f s).length = 1)
def kE1 (A : Ab) (E : OE) : Prop := ES A E ∧ E.1 7 = 0 ∧ fitsO (E.2 5) A.t.L ∧ srW (E.2 4) A.t.h A.t.w A.t.bl A.t.wt (tbC A.t.h A.t.w A.t.kd A.t.fr A.t.sc)
theorem kE1_k {A : Ab} {E : OE} (h : kE1 A E) : kE A E := ⟨h.1, fun _ _ => ⟨h.2.2.1, h.2.2.2⟩⟩
theorem a_leaves {A : Ab} {E : OE} (o : tbOK A.t) (h : kE1 A E) {l k f s : Nat} (hl : l < A.t.h + A.t.w) (hk : k < 5) (hf : f < 5) (hs : s < 5) (h0 : f = 0 → s = 0) : ∃ E', fX5_leavesOne E (nI l) (nI k) (nI f) (nI s) = some (iz (onB A.t l k f s = true), E') ∧ kE1 A E' := by
  obtain ⟨es, e7, e5, e4⟩ := h
  have hl8 := o.hl
  obtain ⟨b1, b2, b3, b4⟩ := o.of_line hl
  have hlen := lenN_le (l := l) o.hh o.hw
  have hp : 2 ^ lenN A.t.h A.t.w l ≤ 16 := pw_le (b := 4) hlen
  have hpp : 2 ^ 2 ^ lenN A.t.h A.t.w l ≤ 2 ^ 16 := pw_le hp
  have hlt := bmN_lt (keptN k f s) (2 ^ lenN A.t.h A.t.w l)
  obtain ⟨S', c1, c2⟩ := a_countWith (lim := 2) (line := l) (m := bmN (keptN k f s) (2 ^ lenN A.t.h A.t.w l)) (g := fun c => decide (c < 2 ^ lenN A.t.h A.t.w l) && keptN k f s c) e4 (by omega) (by omega) b2 b4 (tb_bl A.t) (tb_wt A.t) (by decide) hl (by omega) (fun c hc => bmN_tb _ _ _)
  have c1' : fX3_countWith (E.2 4) (nI l) (nI (bmN (keptN k f s) (2 ^ lenN A.t.h A.t.w l))) (2 : Int32) = some (nI ((onL A.t l k f s).take 2).length, S') := c1
  refine ⟨(E.1, va_up E.2 4 S'), ?_, ES_4 es S', e7, e5, c2⟩
  unfold fX5_leavesOne
  rw [a_length es.t.h es.t.w o.hh (show l < 2 ^ 31 by omega), Option.bind_some, a_keeping hlen hk hf hs h0, Option.bind_some, c1', Option.bind_some]
  dsimp only
  rw [List.length_take]
  have e : nI (min 2 (onL A.t l k f s).length) = (1 : Int32) ↔ onB A.t l k f s = true := by
    rw [show (1 : Int32) = nI 1 from rfl, nI_eq (by omega) (by decide)]
    unfold onB
    rw [decide_eq_true_iff]
    omega
  by_cases q : onB A.t l k f s = true
  · rw [if_pos (e.mpr q), iz_t q]
  · rw [if_neg (fun z => q (e.mp z)), iz_f q]
theorem up_back (f : Nat → Int32) (l : Nat) (x : Int32) : upd (upd f l x) l (f l) = f := by
  funext j
  unfold upd
  by_cases a : j = l
  · rw [if_pos a, a]
  · rw [if_neg a, if_neg a]
theorem c_isOne {A : Ab} {M : OM} (o : tbOK A.t) (ms : MS A M) {l k f s : Nat} (hl : l < A.t.h + A.t.w) (hk : k < 5) (hf : f < 5) (hs : s < 5) (h0 : f = 0 → s = 0) : ∃ M', fX6_isOneBy M (nI l) (nI k) (nI f) (nI s) = some (iz (onB A.t l k f s = true), M') ∧ kM A M M' := by
  have hl8 := o.hl
  have o1 := okI_t (show l < 8 by omega) (by decide)
  have cl : (nI l).toNatClampNeg = l := nI_clamp (by omega)
  have sl : (onL A.t l k f s).length ≤ 65536 := by
    unfold onL
    rw [FL_len]
    exact Nat.le_trans (cntF_le _ _) (pw_le (b := 16) o.hm)
  obtain ⟨M2, r1, r2, r3⟩ := c_layFit (M := (va_up M.1 25 (-1 : Int32), va_up (va_up (va_up M.2.1 12 (upd (M.2.1 12) l (nI k))) 13 (upd (M.2.1 13) l (nI f))) 14 (upd (M.2.1 14) l (nI s)), M.2.2.1, M.2.2.2)) (kd := fun j => if j = l then k else A.t.kd j) (fr := fun j => if j = l then f else A.t.fr j) (sc := fun j => if j = l then s else A.t.sc j) (mk := A.t.mk) (wo := fun _ => false) ms.h ms.w o.hh o.hw (by
      intro j hj
      show upd (M.2.1 12) l (nI k) j = nI (if j = l then k else A.t.kd j) ∧ upd (M.2.1 13) l (nI f) j = nI (if j = l then f else A.t.fr j) ∧ upd (M.2.1 14) l (nI s) j = nI (if j = l then s else A.t.sc j) ∧ (if j = l then k else A.t.kd j) < 5 ∧ (if j = l then f else A.t.fr j) < 5 ∧ (if j = l then s else A.t.sc j) < 5 ∧ ((if j = l then f else A.t.fr j) = 0 → (if j = l then s else A.t.sc j) = 0)
      by_cases a : j = l
      · rw [if_pos a, if_pos a, if_pos a, a, up_s, up_s, up_s]
        exact ⟨rfl, rfl, rfl, hk, hf, hs, h0⟩
      · rw [if_neg a, if_neg a, if_neg a, up_n _ _ a, up_n _ _ a, up_n _ _ a]
        exact ms_clu ms o j hj) (fun j hj => ms_mk ms o j hj) (fun l' hl' => by
      show nI l' = (-1 : Int32) ↔ _
      exact ⟨fun q => absurd q (nI_ne1 (by omega)), fun q => by cases q⟩)
  have e : fitN A.t.h A.t.w (tabB (A.t.h + A.t.w) (fun j => if j = l then k else A.t.kd j) (fun j => if j = l then f else A.t.fr j) (fun j => if j = l then s else A.t.sc j) (fun _ => false)) A.t.bl A.t.wt = fitN A.t.h A.t.w (fun l' c => if l' = l then (decide (c < 2 ^ lenN A.t.h A.t.w l) && keptN k f s c) else tbC A.t.h A.t.w A.t.kd A.t.fr A.t.sc l' c) A.t.bl A.t.wt := by
    refine fitN_congr (fun l' hl' c hc => ?_)
    unfold tabB tbC
    by_cases q : l' = l
    · subst q
      simp [hc, hl']
    · simp [q, hl', hc]
  have r4 : M2.1 22 = nI (onL A.t l k f s).length := by
    have := r3.1
    rw [← FL_len] at this
    rw [this]
    show nI (FL (fitN A.t.h A.t.w (tabB (A.t.h + A.t.w) (fun j => if j = l then k else A.t.kd j) (fun j => if j = l then f else A.t.fr j) (fun j => if j = l then s else A.t.sc j) (fun _ => false)) A.t.bl A.t.wt) _).length = _
    rw [e]
    rfl
  have g12 : M2.2.1 12 = upd (M.2.1 12) l (nI k) := r2.2.1 12 (by decide)
  have g13 : M2.2.1 13 = upd (M.2.1 13) l (nI f) := r2.2.1 13 (by decide)
  have g14 : M2.2.1 14 = upd (M.2.1 14) l (nI s) := r2.2.1 14 (by decide)
  have m3 : mfr [16, 17, 18, 19, 20, 22, 25] [23, 24] M (va_up M2.1 20 (1 : Int32), va_up (va_up (va_up M2.2.1 12 (M.2.1 12)) 13 (M.2.1 13)) 14 (M.2.1 14), M2.2.2.1, M2.2.2.2) := by
    refine ⟨?_, ?_, r2.2.2⟩
    · exact fr1_up (fr1_tr (fr1_up fr1_rfl (by decide)) (fr1_mono r2.1 (by decide))) (by decide)
    · intro j hj
      show va_up (va_up (va_up M2.2.1 12 (M.2.1 12)) 13 (M.2.1 13)) 14 (M.2.1 14) j = M.2.1 j
      by_cases a14 : j = 14
      · subst a14; rfl
      · rw [vu_n _ _ a14]
        by_cases a13 : j = 13
        · subst a13; rfl
        · rw [vu_n _ _ a13]
          by_cases a12 : j = 12
          · subst a12; rfl
          · rw [vu_n _ _ a12, r2.2.1 j hj]
            show va_up (va_up (va_up M.2.1 12 _) 13 _) 14 _ j = _
            rw [vu_n _ _ a14, vu_n _ _ a13, vu_n _ _ a12]
  refine ⟨(va_up M2.1 20 (1 : Int32), va_up (va_up (va_up M2.2.1 12 (M.2.1 12)) 13 (M.2.1 13)) 14 (M.2.1 14), M2.2.2.1, M2.2.2.2), ?_, MS_fr ms (mfr_mono m3 (by decide) (by decide)), mstale rfl, m3.2.2⟩
  unfold fX6_isOneBy
  rw [if_pos o1, if_pos o1, if_pos o1, if_pos o1, if_pos o1, if_pos o1, cl, r1, Option.bind_some, if_pos o1, if_pos o1, if_pos o1, r4, g12, g13, g14, up_back, up_back, up_back]
  have e2 : nI (onL A.t l k f s).length = (1 : Int32) ↔ onB A.t l k f s = true := by
    rw [show (1 : Int32) = nI 1 from rfl, nI_eq (by omega) (by decide)]
    unfold onB
    rw [decide_eq_true_iff]
  by_cases q : onB A.t l k f s = true
  · rw [if_pos (e2.mpr q), iz_t q]
  · rw [if_neg (fun z => q (e2.mp z)), iz_f q]
def bhN (t : Tb) (l n : Nat) : Nat := if t.sc l ≤ msN (lenN t.h t.w l) n then t.sc l else 0
def g1N (t : Tb) (l n : Nat) : Option Nat := if n = t.fr l then none else if onB t l (t.kd l) n (bhN t l n) = true then some n else none
def g2N (t : Tb) (l k : Nat) : Option Nat := if k = t.kd l then none else if onB t l k (t.fr l) (if dbN k = true then t.sc l else 0) = true then some (10 + k) else none
def chV (t : Tb) (l : Nat) : Option Nat := match (List.range (lenN t.h t.w l + 1)).findSome? (g1N t l) with
  | some v => some v
  | none => (List.range 5).findSome? (g2N t l)
theorem g1N_lt {t : Tb} {l n v : Nat} (h : g1N t l n = some v) : v = n := by
  unfold g1N at h
  split at h
  · cases h
  · split at h
    · exact (Option.some.inj h).symm
    · cases h
theorem g2N_lt {t : Tb} {l n v : Nat} (h : g2N t l n = some v) : v = 10 + n := by
  unfold g2N at h
  generalize (if dbN n = true then t.sc l else 0) = z at h
  split at h
  · cases h
  · split at h
    · exact (Option.some.inj h).symm
    · cases h
theorem chV_lt {t : Tb} {l v : Nat} (o : tbOK t) (h : chV t l = some v) : v < 15 := by
  have hlen := lenN_le (l := l) o.hh o.hw
  unfold chV at h
  cases e : (List.range (lenN t.h t.w l + 1)).findSome? (g1N t l) with
  | some q =>
    rw [e] at h
    have : q = v := Option.some.inj h
    subst this
    obtain ⟨n, hn, hv⟩ := List.exists_of_findSome?_eq_some e
    have := List.mem_range.mp hn
    have := g1N_lt hv
    omega
  | none =>
    rw [e] at h
    obtain ⟨n, hn, hv⟩ := List.exists_of_findSome?_eq_some h
    have := List.mem_range.mp hn
    have := g2N_lt hv
    omega
theorem ms2 {len f : Nat} (hl : len ≤ 4) (hf : f ≤ len) : fX1_mostSecond (nI len) (nI f) = some (nI (msN len f)) ∧ fX6_mostSecond (nI f) (nI len) = some (nI (msN len f)) := la2 ms_1 (show len < 5 by omega) (show f < 5 by omega) hf
theorem msN_lt {len f : Nat} (hl : len ≤ 4) : msN len f < 4 := by unfold msN; split <;> omega
theorem bh_ok {t : Tb} (o : tbOK t) {l n : Nat} (hl : l < t.h + t.w) : bhN t l n < 5 ∧ (n = 0 → bhN t l n = 0) := by
  obtain ⟨_, _, k3, _⟩ := o.cl l hl
  unfold bhN
  by_cases a : t.sc l ≤ msN (lenN t.h t.w l) n
  · rw [if_pos a]
    refine ⟨k3, fun q => ?_⟩
    unfold msN at a
    rw [if_pos q] at a
    omega
  · rw [if_neg a]
    exact ⟨by decide, fun _ => rfl⟩
theorem a_change {A : Ab} {E : OE} (o : tbOK A.t) (h : kE1 A E) {l : Nat} (hl : l < A.t.h + A.t.w) : ∃ E', fX5_changeToOne E (nI l) = some ((match chV A.t l with | some v => nI v | none => -1), E') ∧ kE1 A E' := by
  have hl8 := o.hl
  have o1 := okI_t (show l < 8 by omega) (by decide)
  have cl : (nI l).toNatClampNeg = l := nI_clamp (by omega)
  obtain ⟨q1, q2, q3⟩ := h.1.t.cl l hl
  obtain ⟨k1, k2, k3, k4⟩ := o.cl l hl
  have hlen := lenN_le (l := l) o.hh o.hw
  obtain ⟨E1, i1, w1⟩ := wh_find (body := fun u => fX5_changeToOne_L57 (nI l) (nI (lenN A.t.h A.t.w l)) (nI (A.t.kd l)) (nI (A.t.fr l)) (nI (A.t.sc l)) u.1 u.2) (kE1 A) (g1N A.t l) (fun v => nI v) (N := lenN A.t.h A.t.w l + 1) (n := 100000)
    (by
      intro n E2 hn i2
      obtain ⟨b1, b2⟩ := bh_ok o (n := n) hl
      have c1 : ¬ nI (lenN A.t.h A.t.w l) < nI n := by rw [nI_ltI (by omega) (by omega)]; omega
      have msl := msN_lt (f := n) hlen
      have c2 : nI (A.t.sc l) ≤ nI (msN (lenN A.t.h A.t.w l) n) ↔ A.t.sc l ≤ msN (lenN A.t.h A.t.w l) n := nI_leI (by omega) (by omega)
      have c3 : nI n = nI (A.t.fr l) ↔ n = A.t.fr l := nI_eq (by omega) (by omega)
      have toJ : fX5_changeToOne_L57 (nI l) (nI (lenN A.t.h A.t.w l)) (nI (A.t.kd l)) (nI (A.t.fr l)) (nI (A.t.sc l)) (nI n) E2 = fX5_changeToOne_J80 (nI l) (nI (lenN A.t.h A.t.w l)) (nI (A.t.kd l)) (nI (A.t.fr l)) (nI (A.t.sc l)) (nI n) (nI (bhN A.t l n)) E2 := by
        unfold fX5_changeToOne_L57 bhN
        rw [if_neg c1, (ms2 hlen (by omega)).1, Option.bind_some]
        by_cases a : A.t.sc l ≤ msN (lenN A.t.h A.t.w l) n
        · rw [if_pos (c2.mpr a), if_pos a]
        · rw [if_neg (fun z => a (c2.mp z)), if_neg a]
          rfl
      by_cases a : n = A.t.fr l
      · refine ⟨E2, i2, ?_⟩
        show fX5_changeToOne_L57 (nI l) (nI (lenN A.t.h A.t.w l)) (nI (A.t.kd l)) (nI (A.t.fr l)) (nI (A.t.sc l)) (nI n) E2 = _
        rw [toJ]
        unfold fX5_changeToOne_J80 g1N
        rw [if_pos (c3.mpr a), if_pos a, nI_1]
      · obtain ⟨E3, p1, p2⟩ := a_leaves o i2 hl k1 (show n < 5 by omega) b1 b2
        refine ⟨E3, p2, ?_⟩
        show fX5_changeToOne_L57 (nI l) (nI (lenN A.t.h A.t.w l)) (nI (A.t.kd l)) (nI (A.t.fr l)) (nI (A.t.sc l)) (nI n) E2 = _
        rw [toJ]
        unfold fX5_changeToOne_J80 g1N
        rw [if_neg (fun z => a (c3.mp z)), if_neg a, p1, Option.bind_some, nI_1]
        dsimp only
        by_cases b : onB A.t l (A.t.kd l) n (bhN A.t l n) = true
        · rw [if_neg (izn b), if_pos b]
        · rw [if_pos (iz0 b), if_neg b])
    (by
      intro E2 i2
      show fX5_changeToOne_L57 (nI l) (nI (lenN A.t.h A.t.w l)) (nI (A.t.kd l)) (nI (A.t.fr l)) (nI (A.t.sc l)) (nI (lenN A.t.h A.t.w l + 1)) E2 = _
      unfold fX5_changeToOne_L57
      rw [if_pos (by rw [nI_ltI (by omega) (by omega)]; omega)])
    (by omega) h
  obtain ⟨E4, i4, w4⟩ := wh_find (body := fun u => fX5_changeToOne_L114 (nI l) (nI (A.t.kd l)) (nI (A.t.fr l)) (nI (A.t.sc l)) u.1 u.2) (kE1 A) (g2N A.t l) (fun v => nI v) (N := 5) (n := 100000)
    (by
      intro n E2 hn i2
      have c1 : ¬ (5 : Int32) ≤ nI n := by rw [show (5 : Int32) = nI 5 from rfl, nI_leI (by omega) (by omega)]; omega
      have c3 : nI n = nI (A.t.kd l) ↔ n = A.t.kd l := nI_eq (by omega) (by omega)
      have b1 : (if dbN n = true then A.t.sc l else 0) < 5 := by split <;> omega
      have b2 : A.t.fr l = 0 → (if dbN n = true then A.t.sc l else 0) = 0 := fun q => by rw [k4 q]; split <;> rfl
      have toJ : fX5_changeToOne_L114 (nI l) (nI (A.t.kd l)) (nI (A.t.fr l)) (nI (A.t.sc l)) (nI n) E2 = fX5_changeToOne_J134 (nI l) (nI (A.t.kd l)) (nI (A.t.fr l)) (nI (A.t.sc l)) (nI n) (nI (if dbN n = true then A.t.sc l else 0)) E2 := by
        unfold fX5_changeToOne_L114
        rw [if_neg c1, (la1 db_1 hn).1, Option.bind_some]
        cases dbN n with
        | true => rw [if_neg (show ¬ nI true.toNat = 0 by decide), if_pos rfl]
        | false => rw [if_pos (show nI false.toNat = 0 from rfl), if_neg (by decide)]; rfl
      by_cases a : n = A.t.kd l
      · refine ⟨E2, i2, ?_⟩
        show fX5_changeToOne_L114 (nI l) (nI (A.t.kd l)) (nI (A.t.fr l)) (nI (A.t.sc l)) (nI n) E2 = _
        rw [toJ]
        unfold fX5_changeToOne_J134 g2N
        rw [if_pos (c3.mpr a), if_pos a, nI_1]
      · obtain ⟨E3, p1, p2⟩ := a_leaves o i2 hl hn k2 b1 b2
        refine ⟨E3, p2, ?_⟩
        show fX5_changeToOne_L114 (nI l) (nI (A.t.kd l)) (nI (A.t.fr l)) (nI (A.t.sc l)) (nI n) E2 = _
        rw [toJ]
        unfold fX5_changeToOne_J134 g2N
        rw [if_neg (fun z => a (c3.mp z)), if_neg a, p1, Option.bind_some, nI_1]
        dsimp only
        by_cases b : onB A.t l n (A.t.fr l) (if dbN n = true then A.t.sc l else 0) = true
        · rw [if_neg (izn b), if_pos b, show (10 : Int32) + nI n = nI (10 + n) from nI_add 10 n]
        · rw [if_pos (iz0 b), if_neg b])
    (by
      intro E2 i2
      show fX5_changeToOne_L114 (nI l) (nI (A.t.kd l)) (nI (A.t.fr l)) (nI (A.t.sc l)) (nI 5) E2 = _
      unfold fX5_changeToOne_L114
      rw [if_pos (by decide)])
    (by decide) i1
  have hL := a_line o h.1 (nI l)
  have aL : 0 ≤ (nI l).toInt ∧ (nI l).toInt < ((A.t.h + A.t.w : Nat) : Int) := by rw [nI_toInt (by omega)]; omega
  unfold fX5_changeToOne
  rw [hL, Option.bind_some, if_neg (izn aL), a_length h.1.t.h h.1.t.w o.hh (show l < 2 ^ 31 by omega), Option.bind_some, if_pos o1, if_pos o1, if_pos o1, cl, q1, q2, q3, show (0 : Int32) = nI 0 from rfl, w1, Option.bind_some]
  unfold chV
  cases e : (List.range (lenN A.t.h A.t.w l + 1)).findSome? (g1N A.t l) with
  | some v =>
    refine ⟨E1, rfl, i1⟩
  | none =>
    refine ⟨E4, ?_, i4⟩
    show fX5_changeToOne_J111 (nI l) (nI (A.t.kd l)) (nI (A.t.fr l)) (nI (A.t.sc l)) E1 = _
    unfold fX5_changeToOne_J111
    rw [show (0 : Int32) = nI 0 from rfl, w4, Option.bind_some]
    cases (List.range 5).findSome? (g2N A.t l) with
    | some v => rfl
    | none => rfl
