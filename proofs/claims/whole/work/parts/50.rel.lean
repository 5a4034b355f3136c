/-! the relation of the two states -/
abbrev Tb := (Nat) × (Nat) × (Nat → Nat) × (Nat → Nat) × (Nat → Nat) × (Nat → Nat) × (Nat) × (Nat → Nat) × (Nat → Nat) × (Nat → Nat)
abbrev Tb.h (s : Tb) : Nat := s.1
abbrev Tb.w (s : Tb) : Nat := s.2.1
abbrev Tb.kd (s : Tb) : Nat → Nat := s.2.2.1
abbrev Tb.fr (s : Tb) : Nat → Nat := s.2.2.2.1
abbrev Tb.sc (s : Tb) : Nat → Nat := s.2.2.2.2.1
abbrev Tb.mk (s : Tb) : Nat → Nat := s.2.2.2.2.2.1
abbrev Tb.sn (s : Tb) : Nat := s.2.2.2.2.2.2.1
abbrev Tb.sl (s : Tb) : Nat → Nat := s.2.2.2.2.2.2.2.1
abbrev Tb.ce (s : Tb) : Nat → Nat := s.2.2.2.2.2.2.2.2.1
abbrev Tb.sk (s : Tb) : Nat → Nat := s.2.2.2.2.2.2.2.2.2
abbrev Ab := (Nat) × (Nat → Nat) × (Tb) × (Nat) × (Nat) × (Nat) × (Bool) × (Tb)
abbrev Ab.ps (s : Ab) : Nat := s.1
abbrev Ab.pc (s : Ab) : Nat → Nat := s.2.1
abbrev Ab.t (s : Ab) : Tb := s.2.2.1
abbrev Ab.br (s : Ab) : Nat := s.2.2.2.1
abbrev Ab.hd (s : Ab) : Nat := s.2.2.2.2.1
abbrev Ab.od (s : Ab) : Nat := s.2.2.2.2.2.1
abbrev Ab.im (s : Ab) : Bool := s.2.2.2.2.2.2.1
abbrev Ab.k (s : Ab) : Tb := s.2.2.2.2.2.2.2
abbrev tbOK (t : Tb) : Prop := ((t.h = 0 ∧ t.w = 0) ∨ (2 ≤ t.h ∧ t.h ≤ 4 ∧ 2 ≤ t.w ∧ t.w ≤ 4)) ∧ (∀ l, l < t.h + t.w → t.kd l < 5 ∧ t.fr l < 5 ∧ t.sc l < 5 ∧ (t.fr l = 0 → t.sc l = 0)) ∧ (∀ j, t.mk j < 3) ∧ (t.sn ≤ 6) ∧ (∀ i, i < t.sn → t.sl i < 8 ∧ t.ce i < 16 ∧ t.sk i < 2)
theorem tbOK.sz {t : Tb} (s : tbOK t) : (t.h = 0 ∧ t.w = 0) ∨ (2 ≤ t.h ∧ t.h ≤ 4 ∧ 2 ≤ t.w ∧ t.w ≤ 4) := s.1
theorem tbOK.cl {t : Tb} (s : tbOK t) : ∀ l, l < t.h + t.w → t.kd l < 5 ∧ t.fr l < 5 ∧ t.sc l < 5 ∧ (t.fr l = 0 → t.sc l = 0) := s.2.1
theorem tbOK.mk3 {t : Tb} (s : tbOK t) : ∀ j, t.mk j < 3 := s.2.2.1
theorem tbOK.sn6 {t : Tb} (s : tbOK t) : t.sn ≤ 6 := s.2.2.2.1
theorem tbOK.se {t : Tb} (s : tbOK t) : ∀ i, i < t.sn → t.sl i < 8 ∧ t.ce i < 16 ∧ t.sk i < 2 := s.2.2.2.2
theorem tbOK.hh {t : Tb} (o : tbOK t) : t.h ≤ 4 := by rcases o.sz with h | h <;> omega
theorem tbOK.hw {t : Tb} (o : tbOK t) : t.w ≤ 4 := by rcases o.sz with h | h <;> omega
theorem tbOK.hm {t : Tb} (o : tbOK t) : t.h * t.w ≤ 16 := Nat.mul_le_mul o.hh o.hw
theorem tbOK.hl {t : Tb} (o : tbOK t) : t.h + t.w ≤ 8 := by have := o.hh; have := o.hw; omega
theorem tbOK.two {t : Tb} (o : tbOK t) (h : ¬ t.h = 0) : 2 ≤ t.h ∧ t.h ≤ 4 ∧ 2 ≤ t.w ∧ t.w ≤ 4 := by rcases o.sz with q | q <;> omega
theorem tbOK.of_line {t : Tb} (o : tbOK t) {l : Nat} (h : l < t.h + t.w) : 2 ≤ t.h ∧ t.h ≤ 4 ∧ 2 ≤ t.w ∧ t.w ≤ 4 := by rcases o.sz with q | q <;> omega
theorem tbOK.of_cell {t : Tb} (o : tbOK t) {l : Nat} (h : l < t.h * t.w) : 2 ≤ t.h ∧ t.h ≤ 4 ∧ 2 ≤ t.w ∧ t.w ≤ 4 := by
  rcases o.sz with q | q
  · rw [q.1, Nat.zero_mul] at h; omega
  · exact q
abbrev abOK (n : Nat) (A : Ab) : Prop := (A.ps ≤ 36) ∧ (∀ i, i < A.ps → 1 ≤ A.pc i ∧ A.pc i ≤ 126) ∧ (tbOK A.t) ∧ (A.br + n ≤ 3000) ∧ (A.hd ≤ 12) ∧ (A.od ≤ 6) ∧ (A.im = true → tbOK A.k ∧ A.k.h = A.t.h ∧ A.k.w = A.t.w ∧ ¬ A.t.h = 0)
theorem abOK.ps {n : Nat} {A : Ab} (s : abOK n A) : A.ps ≤ 36 := s.1
theorem abOK.pc {n : Nat} {A : Ab} (s : abOK n A) : ∀ i, i < A.ps → 1 ≤ A.pc i ∧ A.pc i ≤ 126 := s.2.1
theorem abOK.t {n : Nat} {A : Ab} (s : abOK n A) : tbOK A.t := s.2.2.1
theorem abOK.br {n : Nat} {A : Ab} (s : abOK n A) : A.br + n ≤ 3000 := s.2.2.2.1
theorem abOK.hd {n : Nat} {A : Ab} (s : abOK n A) : A.hd ≤ 12 := s.2.2.2.2.1
theorem abOK.od {n : Nat} {A : Ab} (s : abOK n A) : A.od ≤ 6 := s.2.2.2.2.2.1
theorem abOK.im {n : Nat} {A : Ab} (s : abOK n A) : A.im = true → tbOK A.k ∧ A.k.h = A.t.h ∧ A.k.w = A.t.w ∧ ¬ A.t.h = 0 := s.2.2.2.2.2.2
def Tb.bl (t : Tb) : Nat := mskN t.mk 1 (t.h * t.w)
def Tb.wt (t : Tb) : Nat := mskN t.mk 2 (t.h * t.w)
/-- the class's table -/
abbrev tT (T : Ob) (t : Tb) : Prop := (T.1 0 = nI t.h) ∧ (T.1 1 = nI t.w) ∧ (∀ l, l < t.h + t.w → T.2 2 l = nI (t.kd l) ∧ T.2 3 l = nI (t.fr l) ∧ T.2 4 l = nI (t.sc l)) ∧ (T.1 5 = nI t.bl) ∧ (T.1 6 = nI t.wt) ∧ (T.1 10 = nI t.sn) ∧ (∀ i, i < t.sn → T.2 7 i = nI (t.sl i) ∧ T.2 8 i = nI (t.ce i) ∧ T.2 9 i = nI (t.sk i))
theorem tT.h {T : Ob} {t : Tb} (s : tT T t) : T.1 0 = nI t.h := s.1
theorem tT.w {T : Ob} {t : Tb} (s : tT T t) : T.1 1 = nI t.w := s.2.1
theorem tT.cl {T : Ob} {t : Tb} (s : tT T t) : ∀ l, l < t.h + t.w → T.2 2 l = nI (t.kd l) ∧ T.2 3 l = nI (t.fr l) ∧ T.2 4 l = nI (t.sc l) := s.2.2.1
theorem tT.b {T : Ob} {t : Tb} (s : tT T t) : T.1 5 = nI t.bl := s.2.2.2.1
theorem tT.wh {T : Ob} {t : Tb} (s : tT T t) : T.1 6 = nI t.wt := s.2.2.2.2.1
theorem tT.sn {T : Ob} {t : Tb} (s : tT T t) : T.1 10 = nI t.sn := s.2.2.2.2.2.1
theorem tT.se {T : Ob} {t : Tb} (s : tT T t) : ∀ i, i < t.sn → T.2 7 i = nI (t.sl i) ∧ T.2 8 i = nI (t.ce i) ∧ T.2 9 i = nI (t.sk i) := s.2.2.2.2.2.2
/-- the reference's table, the numbers of its rows given -/
abbrev tM (f : Nat → Nat → Int32) (a b c d e : Nat) (t : Tb) : Prop := (∀ l, l < t.h + t.w → f a l = nI (t.kd l) ∧ f b l = nI (t.fr l) ∧ f c l = nI (t.sc l)) ∧ (∀ j, j < t.h * t.w → f d j = nI (t.mk j)) ∧ (∀ i, i < t.sn → f e (3 * i) = nI (t.sl i) ∧ f e (3 * i + 1) = nI (t.ce i) ∧ f e (3 * i + 2) = nI (t.sk i))
theorem tM.cl {f : Nat → Nat → Int32} {a b c d e : Nat} {t : Tb} (s : tM f a b c d e t) : ∀ l, l < t.h + t.w → f a l = nI (t.kd l) ∧ f b l = nI (t.fr l) ∧ f c l = nI (t.sc l) := s.1
theorem tM.mk {f : Nat → Nat → Int32} {a b c d e : Nat} {t : Tb} (s : tM f a b c d e t) : ∀ j, j < t.h * t.w → f d j = nI (t.mk j) := s.2.1
theorem tM.se {f : Nat → Nat → Int32} {a b c d e : Nat} {t : Tb} (s : tM f a b c d e t) : ∀ i, i < t.sn → f e (3 * i) = nI (t.sl i) ∧ f e (3 * i + 1) = nI (t.ce i) ∧ f e (3 * i + 2) = nI (t.sk i) := s.2.2
abbrev ES (A : Ab) (E : OE) : Prop := ((E.2 0).1 1 = nI A.ps) ∧ (∀ i, i < A.ps → (E.2 0).2 0 i = nI (A.pc i)) ∧ (tT (E.2 1) A.t) ∧ (E.1 9 = nI A.br) ∧ (E.1 10 = nI A.hd) ∧ (E.1 11 = nI A.od) ∧ (E.1 8 = nI A.im.toNat) ∧ (A.im = true → tT (E.2 2) A.k)
theorem ES.ps {A : Ab} {E : OE} (s : ES A E) : (E.2 0).1 1 = nI A.ps := s.1
theorem ES.pc {A : Ab} {E : OE} (s : ES A E) : ∀ i, i < A.ps → (E.2 0).2 0 i = nI (A.pc i) := s.2.1
theorem ES.t {A : Ab} {E : OE} (s : ES A E) : tT (E.2 1) A.t := s.2.2.1
theorem ES.br {A : Ab} {E : OE} (s : ES A E) : E.1 9 = nI A.br := s.2.2.2.1
theorem ES.hd {A : Ab} {E : OE} (s : ES A E) : E.1 10 = nI A.hd := s.2.2.2.2.1
theorem ES.od {A : Ab} {E : OE} (s : ES A E) : E.1 11 = nI A.od := s.2.2.2.2.2.1
theorem ES.im {A : Ab} {E : OE} (s : ES A E) : E.1 8 = nI A.im.toNat := s.2.2.2.2.2.2.1
theorem ES.k {A : Ab} {E : OE} (s : ES A E) : A.im = true → tT (E.2 2) A.k := s.2.2.2.2.2.2.2
abbrev MS (A : Ab) (M : OM) : Prop := (M.1 1 = nI A.ps) ∧ (∀ i, i < A.ps → M.2.1 0 i = nI (A.pc i)) ∧ (M.1 9 = nI A.t.h) ∧ (M.1 10 = nI A.t.w) ∧ (tM M.2.1 12 13 14 15 29 A.t) ∧ (M.1 28 = nI A.t.sn) ∧ (M.1 11 = nI A.br) ∧ (M.1 26 = nI A.hd) ∧ (M.1 27 = nI A.od) ∧ (A.im = true → M.1 33 = nI A.br ∧ M.1 34 = nI A.k.sn ∧ tM M.2.1 35 36 37 38 39 A.k) ∧ (A.im = false → M.1 33 = -1 ∨ ∃ q, q < A.br ∧ M.1 33 = nI q)
theorem MS.ps {A : Ab} {M : OM} (s : MS A M) : M.1 1 = nI A.ps := s.1
theorem MS.pc {A : Ab} {M : OM} (s : MS A M) : ∀ i, i < A.ps → M.2.1 0 i = nI (A.pc i) := s.2.1
theorem MS.h {A : Ab} {M : OM} (s : MS A M) : M.1 9 = nI A.t.h := s.2.2.1
theorem MS.w {A : Ab} {M : OM} (s : MS A M) : M.1 10 = nI A.t.w := s.2.2.2.1
theorem MS.t {A : Ab} {M : OM} (s : MS A M) : tM M.2.1 12 13 14 15 29 A.t := s.2.2.2.2.1
theorem MS.sn {A : Ab} {M : OM} (s : MS A M) : M.1 28 = nI A.t.sn := s.2.2.2.2.2.1
theorem MS.br {A : Ab} {M : OM} (s : MS A M) : M.1 11 = nI A.br := s.2.2.2.2.2.2.1
theorem MS.hd {A : Ab} {M : OM} (s : MS A M) : M.1 26 = nI A.hd := s.2.2.2.2.2.2.2.1
theorem MS.od {A : Ab} {M : OM} (s : MS A M) : M.1 27 = nI A.od := s.2.2.2.2.2.2.2.2.1
theorem MS.k {A : Ab} {M : OM} (s : MS A M) : A.im = true → M.1 33 = nI A.br ∧ M.1 34 = nI A.k.sn ∧ tM M.2.1 35 36 37 38 39 A.k := s.2.2.2.2.2.2.2.2.2.1
theorem MS.nk {A : Ab} {M : OM} (s : MS A M) : A.im = false → M.1 33 = -1 ∨ ∃ q, q < A.br ∧ M.1 33 = nI q := s.2.2.2.2.2.2.2.2.2.2
/-! the pictures that fit -/
def tbC (h w : Nat) (kd fr sc : Nat → Nat) (l c : Nat) : Bool := decide (c < 2 ^ lenN h w l) && keptN (kd l) (fr l) (sc l) c
def Tb.F (t : Tb) : Nat → Bool := fitN t.h t.w (tbC t.h t.w t.kd t.fr t.sc) t.bl t.wt
def Tb.L (t : Tb) : List Nat := FL t.F (2 ^ (t.h * t.w))
theorem fitN_congr {h w bl wt : Nat} {tb tb' : Nat → Nat → Bool} (e : ∀ l, l < h + w → ∀ c, c < 2 ^ lenN h w l → tb l c = tb' l c) : fitN h w tb bl wt = fitN h w tb' bl wt := by
  funext p
  unfold fitN
  congr 1
  congr 1
  congr 1
  · rw [Bool.eq_iff_iff, List.all_eq_true, List.all_eq_true]
    have q : ∀ r, r ∈ List.range h → tb r (rowN w p r) = tb' r (rowN w p r) := fun r hr => by
      have hr := List.mem_range.mp hr
      exact e r (by omega) _ (by unfold lenN; rw [if_pos hr]; exact rowN_lt w p r)
    constructor <;> intro k r hr
    · rw [← q r hr]; exact k r hr
    · rw [q r hr]; exact k r hr
  · rw [Bool.eq_iff_iff, List.all_eq_true, List.all_eq_true]
    have q : ∀ c, c ∈ List.range w → tb (h + c) (colN w p c h) = tb' (h + c) (colN w p c h) := fun c hc => by
      have hc := List.mem_range.mp hc
      exact e (h + c) (by omega) _ (by unfold lenN; rw [if_neg (by omega)]; exact colN_lt w p c h)
    constructor <;> intro k r hr
    · rw [← q r hr]; exact k r hr
    · rw [q r hr]; exact k r hr
theorem tb_bl (t : Tb) : t.bl < 2 ^ (t.h * t.w) := mskN_lt _ _ _
theorem tb_wt (t : Tb) : t.wt < 2 ^ (t.h * t.w) := mskN_lt _ _ _
theorem tb_L {t : Tb} (o : tbOK t) : t.L.length ≤ 1690 := by
  unfold Tb.L
  rw [FL_len]
  rcases o.sz with q | q
  · refine Nat.le_trans (cntF_le _ _) ?_
    rw [q.1, Nat.zero_mul]
    decide
  · exact bnd (kd := t.kd) (fr := t.fr) (sc := t.sc) q.1 q.2.1 q.2.2.1 q.2.2.2 o.cl (fun l hl c hc k => by unfold tbC at k; rw [Bool.and_eq_true] at k; exact k.2)
theorem tb_Lm {t : Tb} {q : Nat} : q ∈ t.L ↔ q < 2 ^ (t.h * t.w) ∧ t.F q = true := FL_mem
theorem tb_Lt {t : Tb} (o : tbOK t) {q : Nat} (h : q ∈ t.L) : q < 2 ^ 16 := Nat.lt_of_lt_of_le (tb_Lm.mp h).1 (pw_le o.hm)
theorem FL_blk (F : Nat → Bool) (j n : Nat) : blkL (FL F n) j = blkF F j n := by
  induction n with
  | zero => rfl
  | succ n ih =>
    show blkL ((List.range (n + 1)).filter F) j = blkF F j n + _
    rw [List.range_succ, List.filter_append]
    by_cases a : F n = true
    · rw [if_pos a, show [n].filter F = [n] by simp [a], blkL_app, ← ih]
      rfl
    · rw [if_neg a, show [n].filter F = [] by simp [a], List.append_nil, ← ih]
      rfl
/-- the reference's fits are laid -/
abbrev fM (M : OM) (h w : Nat) (F : Nat → Bool) : Prop := (M.1 22 = nI (FL F (2 ^ (h * w))).length) ∧ (∀ j, j < 16 → M.2.1 23 j = nI (blkL (FL F (2 ^ (h * w))) j)) ∧ (walkM M h w F)
theorem fM.n {M : OM} {h w : Nat} {F : Nat → Bool} (s : fM M h w F) : M.1 22 = nI (FL F (2 ^ (h * w))).length := s.1
theorem fM.b {M : OM} {h w : Nat} {F : Nat → Bool} (s : fM M h w F) : ∀ j, j < 16 → M.2.1 23 j = nI (blkL (FL F (2 ^ (h * w))) j) := s.2.1
theorem fM.wk {M : OM} {h w : Nat} {F : Nat → Bool} (s : fM M h w F) : walkM M h w F := s.2.2
def MC (A : Ab) (M : OM) : Prop := M.1 20 = 0 → fM M A.t.h A.t.w A.t.F
def EC (A : Ab) (E : OE) : Prop := E.1 7 = 0 → ¬ A.t.h = 0 → fitsO (E.2 5) A.t.L ∧ srW (E.2 4) A.t.h A.t.w A.t.bl A.t.wt (tbC A.t.h A.t.w A.t.kd A.t.fr A.t.sc)
def Rel (n : Nat) (E : OE) (M : OM) : Prop := ∃ A, abOK n A ∧ ES A E ∧ EC A E ∧ MS A M ∧ MC A M
theorem MS_fr {A : Ab} {M M' : OM} (s : MS A M) (h : mfr [2, 3, 4, 5, 16, 17, 18, 19, 20, 22, 25, 30] [6, 7, 8, 23, 24, 31, 32] M M') : MS A M' := by
  obtain ⟨h1, h2, h3⟩ := h
  have e1 := h1 1 (by decide)
  have e9 := h1 9 (by decide)
  have e10 := h1 10 (by decide)
  have e11 := h1 11 (by decide)
  have e26 := h1 26 (by decide)
  have e27 := h1 27 (by decide)
  have e28 := h1 28 (by decide)
  have e33 := h1 33 (by decide)
  have e34 := h1 34 (by decide)
  have f0 := h2 0 (by decide)
  have tq : ∀ {a b c d e : Nat} {t : Tb}, a ∉ [6, 7, 8, 23, 24, 31, 32] → b ∉ [6, 7, 8, 23, 24, 31, 32] → c ∉ [6, 7, 8, 23, 24, 31, 32] → d ∉ [6, 7, 8, 23, 24, 31, 32] → e ∉ [6, 7, 8, 23, 24, 31, 32] → tM M.2.1 a b c d e t → tM M'.2.1 a b c d e t := by
    intro a b c d e t ha hb hc hd he q
    refine ⟨?_, ?_, ?_⟩
    · rw [h2 a ha, h2 b hb, h2 c hc]; exact q.cl
    · rw [h2 d hd]; exact q.mk
    · rw [h2 e he]; exact q.se
  refine ⟨e1.trans s.ps, ?_, e9.trans s.h, e10.trans s.w, tq (by decide) (by decide) (by decide) (by decide) (by decide) s.t, e28.trans s.sn, e11.trans s.br, e26.trans s.hd, e27.trans s.od, ?_, ?_⟩
  · rw [f0]; exact s.pc
  · intro i
    obtain ⟨q1, q2, q3⟩ := s.k i
    exact ⟨e33.trans q1, e34.trans q2, tq (by decide) (by decide) (by decide) (by decide) (by decide) q3⟩
  · intro i
    rw [e33]
    exact s.nk i
theorem ms_clu {A : Ab} {M : OM} (s : MS A M) (o : tbOK A.t) : cluM M (A.t.h + A.t.w) A.t.kd A.t.fr A.t.sc := fun l hl => by
  obtain ⟨a, b, c⟩ := s.t.cl l hl
  obtain ⟨d, e, f, g⟩ := o.cl l hl
  exact ⟨a, b, c, d, e, f, g⟩
theorem ms_mk {A : Ab} {M : OM} (s : MS A M) (o : tbOK A.t) : ∀ j, j < A.t.h * A.t.w → M.2.1 15 j = nI (A.t.mk j) ∧ A.t.mk j < 3 := fun j hj => ⟨s.t.mk j hj, o.mk3 j⟩
theorem nI_ne1 {l : Nat} (hl : l < 2 ^ 31) : ¬ nI l = -1 := fun h => by
  have := congrArg Int32.toInt h
  rw [nI_toInt hl] at this
  have e : (-1 : Int32).toInt = -1 := rfl
  omega
theorem fM_of {M : OM} {h w : Nat} {F : Nat → Bool} (h9 : M.1 9 = nI h) (h10 : M.1 10 = nI w) (hm : h * w ≤ 16) (k : fitsM M F (2 ^ (h * w))) : fM M h w F := by
  obtain ⟨k1, k2, k3⟩ := k
  refine ⟨?_, ?_, h9, h10, hm, k3⟩
  · rw [k1, FL_len]
  · intro j hj
    rw [k2 j hj, FL_blk]
theorem tab_tb {t : Tb} : fitN t.h t.w (tabB (t.h + t.w) t.kd t.fr t.sc (fun _ => false)) t.bl t.wt = t.F := by
  unfold Tb.F
  refine fitN_congr (fun l hl c hc => ?_)
  unfold tabB tbC
  simp [hl, hc]
/-- the reference lays its fits anew if they are stale -/
theorem c_fresh {A : Ab} {M : OM} {n : Nat} (o : abOK n A) (s : MS A M) (c : MC A M) : ∃ M', fX6_freshen M = some M' ∧ MS A M' ∧ M'.1 20 = 0 ∧ fM M' A.t.h A.t.w A.t.F ∧ mfr [16, 17, 18, 19, 20, 22, 25] [23, 24] M M' := by
  by_cases a : M.1 20 = 0
  · refine ⟨M, ?_, s, a, c a, mfr_rfl⟩
    unfold fX6_freshen
    rw [if_pos a]
  · have hM1 : mfr [25] [] M (va_up M.1 25 (-1 : Int32), M.2.1, M.2.2.1, M.2.2.2) := ⟨fr1_up fr1_rfl (by decide), fr1_rfl, rfl⟩
    have s1 : MS A (va_up M.1 25 (-1 : Int32), M.2.1, M.2.2.1, M.2.2.2) := MS_fr s (mfr_mono hM1 (by decide) (by decide))
    obtain ⟨M2, r1, r2, r3⟩ := c_layFit (wo := fun _ => false) s1.h s1.w o.t.hh o.t.hw (ms_clu s1 o.t) (ms_mk s1 o.t) (fun l hl => by
      show nI l = (-1 : Int32) ↔ _
      exact ⟨fun q => absurd q (nI_ne1 (by omega)), fun q => by cases q⟩)
    have hM3 : mfr [20] [] M2 (va_up M2.1 20 (0 : Int32), M2.2.1, M2.2.2.1, M2.2.2.2) := ⟨fr1_up fr1_rfl (by decide), fr1_rfl, rfl⟩
    have hall : mfr [16, 17, 18, 19, 20, 22, 25] [23, 24] M (va_up M2.1 20 (0 : Int32), M2.2.1, M2.2.2.1, M2.2.2.2) := mfr_tr (mfr_mono hM1 (by decide) (by decide)) (mfr_tr (mfr_mono r2 (by decide) (by decide)) (mfr_mono hM3 (by decide) (by decide)))
    have s3 := MS_fr s (mfr_mono hall (by decide) (by decide))
    refine ⟨(va_up M2.1 20 (0 : Int32), M2.2.1, M2.2.2.1, M2.2.2.2), ?_, s3, rfl, ?_, hall⟩
    · unfold fX6_freshen
      rw [if_neg a, r1, Option.bind_some]
    · refine fM_of s3.h s3.w o.t.hm ?_
      have e : fitN A.t.h A.t.w (tabB (A.t.h + A.t.w) A.t.kd A.t.fr A.t.sc (fun _ => false)) (mskN A.t.mk 1 (A.t.h * A.t.w)) (mskN A.t.mk 2 (A.t.h * A.t.w)) = A.t.F := tab_tb
      rw [e] at r3
      exact r3
/-! the class -/
theorem es_clu {A : Ab} {E : OE} (s : ES A E) (o : tbOK A.t) : cluT (E.2 1) (A.t.h + A.t.w) A.t.kd A.t.fr A.t.sc := fun l hl => by
  obtain ⟨a, b, c⟩ := s.t.cl l hl
  obtain ⟨d, e, f, g⟩ := o.cl l hl
  exact ⟨a, b, c, d, e, f, g⟩
theorem ES_fr {A : Ab} {E : OE} (s : ES A E) (x : Int32) (S4 S5 : Ob) : ES A (va_up E.1 7 x, va_up (va_up E.2 4 S4) 5 S5) := ⟨s.ps, s.pc, s.t, s.br, s.hd, s.od, s.im, s.k⟩
theorem ES_4 {A : Ab} {E : OE} (s : ES A E) (S4 : Ob) : ES A (E.1, va_up E.2 4 S4) := ⟨s.ps, s.pc, s.t, s.br, s.hd, s.od, s.im, s.k⟩
theorem ES_6 {A : Ab} {E : OE} (s : ES A E) (S4 : Ob) : ES A (E.1, va_up E.2 6 S4) := ⟨s.ps, s.pc, s.t, s.br, s.hd, s.od, s.im, s.k⟩
theorem wy_lt {h w : Nat} {kd fr sc : Nat → Nat} {l : Nat} (hh : h ≤ 4) (hw : w ≤ 4) : wyN h w kd fr sc l < 2 ^ 16 := Nat.lt_of_lt_of_le (bmN_lt _ _) (pw_le (pw_le (b := 4) (lenN_le hh hw)))
theorem wy_tb {h w : Nat} {kd fr sc : Nat → Nat} {l c : Nat} : (wyN h w kd fr sc l).testBit c = tbC h w kd fr sc l c := bmN_tb _ _ _
theorem a_settled {A : Ab} {E : OE} {n : Nat} (o : abOK n A) (s : ES A E) (c : EC A E) (hb : ¬ A.t.h = 0) : ∃ E', fX5_settled E = some E' ∧ ES A E' ∧ E'.1 7 = 0 ∧ fitsO (E'.2 5) A.t.L ∧ srW (E'.2 4) A.t.h A.t.w A.t.bl A.t.wt (tbC A.t.h A.t.w A.t.kd A.t.fr A.t.sc) := by
  by_cases a : E.1 7 = 0
  · obtain ⟨c1, c2⟩ := c a hb
    refine ⟨E, ?_, s, a, c1, c2⟩
    unfold fX5_settled
    rw [if_pos a]
  · obtain ⟨b1, b2, b3, b4⟩ := o.t.two hb
    have t1 := a_take (S := E.2 4) s.t.h s.t.w b2 b4 (es_clu s o.t)
    rw [s.t.b, s.t.wh] at t1
    have w1 : srW (va_up (va_up (va_up (va_up (E.2 4).1 0 (nI A.t.h)) 1 (nI A.t.w)) 2 (nI A.t.bl)) 3 (nI A.t.wt), va_up (E.2 4).2 4 (fun l => if l < A.t.h + A.t.w then nI (wyN A.t.h A.t.w A.t.kd A.t.fr A.t.sc l) else (E.2 4).2 4 l)) A.t.h A.t.w A.t.bl A.t.wt (tbC A.t.h A.t.w A.t.kd A.t.fr A.t.sc) := by
      refine ⟨rfl, rfl, rfl, rfl, fun l hl => ⟨wyN A.t.h A.t.w A.t.kd A.t.fr A.t.sc l, wy_lt b2 b4, ?_, fun c _ => wy_tb⟩⟩
      show (if l < A.t.h + A.t.w then nI (wyN A.t.h A.t.w A.t.kd A.t.fr A.t.sc l) else (E.2 4).2 4 l) = _
      rw [if_pos hl]
    obtain ⟨S2, e1, e2, e3⟩ := a_empty 1690 (E.2 5)
    obtain ⟨S', S2', r1, r2, r3, r4⟩ := a_run_f (lim := 1690) (cN := 1690) w1 e2 (by omega) (by omega) b2 b4 (tb_bl A.t) (tb_wt A.t) (Nat.le_refl _) (by decide)
    refine ⟨(va_up E.1 7 0, va_up (va_up E.2 4 S') 5 S2'), ?_, ES_fr s _ _ _, rfl, ?_, r2⟩
    · unfold fX5_settled
      rw [if_neg a, t1, Option.bind_some, e1, Option.bind_some]
      show (fX3_run_f 1690 _ S2 (nI 1690)).bind _ = _
      rw [r1]
      rfl
    · have e4 : (FL (fitN A.t.h A.t.w (tbC A.t.h A.t.w A.t.kd A.t.fr A.t.sc) A.t.bl A.t.wt) (2 ^ (A.t.h * A.t.w))).take 1690 = A.t.L := List.take_of_length_le (tb_L o.t)
      rw [e4] at r3
      exact r3
