/-! run, countWith -/
def frS (S S' : Ob) : Prop := (∀ j, j ≠ 6 → j ≠ 7 → S'.1 j = S.1 j) ∧ ∀ j, j ≠ 5 → S'.2 j = S.2 j
theorem a_openAll {S : Ob} {h w bl wt : Nat} {tb : Nat → Nat → Bool} (hS : srW S h w bl wt tb) (hh : h ≤ 4) (hw : w ≤ 4) : ∃ S', wh (σ := Int32 × Ob) (ρ := Ob) (fun t => fX3_run_n_L12 t.1 t.2) 100000 ((0 : Int32), S) = some S' ∧ (S'.1 = S.1 ∧ (∀ j, j ≠ 5 → S'.2 j = S.2 j) ∧ ∀ r, r < h → ∀ col, col < w → ∃ m, m < 2 ^ 16 ∧ S'.2 5 (r * 4 + col) = nI m ∧ ∀ x, x < 16 → m.testBit x = opB h w tb r col x) := by
  refine wh_inv (fun k t => t.1 = nI k ∧ t.2.1 = S.1 ∧ (∀ j, j ≠ 5 → t.2.2 j = S.2 j) ∧ ∀ r, r < h → ∀ col, col < k → ∃ m, m < 2 ^ 16 ∧ t.2.2 5 (r * 4 + col) = nI m ∧ ∀ x, x < 16 → m.testBit x = opB h w tb r col x) _ w ?_ ?_ ⟨rfl, rfl, fun _ _ => rfl, fun r _ col hc => absurd hc (Nat.not_lt_zero _)⟩ (by omega)
  · rintro k ⟨x, S1⟩ hk ⟨e1, e2, e3, e4⟩
    dsimp only at e1 e2 e3 e4
    subst e1
    obtain ⟨s0, s1, s2, s3, s4⟩ := hS
    have hS1 : srW S1 h w bl wt tb := ⟨by rw [e2]; exact s0, by rw [e2]; exact s1, by rw [e2]; exact s2, by rw [e2]; exact s3, fun l hl => by rw [e3 4 (by decide)]; exact s4 l hl⟩
    obtain ⟨f, f1, f2, f3⟩ := a_open1 hS1 hh hw hk
    have c1 : ¬ nI w ≤ nI k := by rw [nI_leI (by omega) (by omega)]; omega
    have ek : nI k + (1 : Int32) = nI (k + 1) := nI_1 k
    refine ⟨(nI (k + 1), (S1.1, va_up S1.2 5 f)), ?_, rfl, e2, fun j hj => ?_, fun r hr col hcol => ?_⟩
    · show fX3_run_n_L12 (nI k) S1 = _
      unfold fX3_run_n_L12
      rw [hS1.2.1, if_neg c1, f1, Option.bind_some]
      unfold fX3_run_n_J45
      rw [ek]
    · show va_up S1.2 5 f j = _
      rw [vu_n _ _ hj]
      exact e3 j hj
    · show ∃ m, m < 2 ^ 16 ∧ f (r * 4 + col) = nI m ∧ _
      by_cases a : col = k
      · subst a
        exact f3 r hr
      · rw [f2 (r * 4 + col) (fun r' hr' e => a (by omega))]
        exact e4 r hr col (by omega)
  · rintro ⟨x, S1⟩ ⟨e1, e2, e3, e4⟩
    dsimp only at e1 e2 e3 e4
    subst e1
    refine ⟨S1, ?_, e2, e3, e4⟩
    show fX3_run_n_L12 (nI w) S1 = _
    unfold fX3_run_n_L12
    rw [e2, hS.2.1, if_pos (Int32.le_refl _)]
theorem cols0 (w h : Nat) : colsOK w h (2 ^ (w * h) * 0) 0 := by
  intro col _ i _
  simp
theorem run_pre {S : Ob} {h w bl wt lim : Nat} {tb : Nat → Nat → Bool} (hS : srW S h w bl wt tb) (hh : h ≤ 4) (hw : w ≤ 4) : ∃ S1, wh (σ := Int32 × Ob) (ρ := Ob) (fun t => fX3_run_n_L12 t.1 t.2) 100000 ((0 : Int32), (va_up (va_up S.1 6 (nI lim)) 7 (0 : Int32), S.2)) = some S1 ∧ srS S1 h w bl wt lim tb ∧ S1.1 7 = nI 0 ∧ frS S S1 := by
  have hS0 : srW (va_up (va_up S.1 6 (nI lim)) 7 (0 : Int32), S.2) h w bl wt tb := hS
  obtain ⟨S1, a1, a2, a3, a4⟩ := a_openAll hS0 hh hw
  obtain ⟨s0, s1, s2, s3, s4⟩ := hS0
  refine ⟨S1, a1, ⟨by rw [a2]; exact s0, by rw [a2]; exact s1, by rw [a2]; exact s2, by rw [a2]; exact s3, by rw [a2]; rfl, fun l hl => by rw [a3 4 (by decide)]; exact s4 l hl, a4⟩, by rw [a2]; rfl, fun j h6 h7 => ?_, a3⟩
  rw [a2]
  show va_up (va_up S.1 6 (nI lim)) 7 0 j = _
  rw [vu_n _ _ h7, vu_n _ _ h6]
theorem srS_W {S : Ob} {h w bl wt lim : Nat} {tb : Nat → Nat → Bool} (hS : srS S h w bl wt lim tb) (x : Int32) : srW (va_up S.1 7 x, S.2) h w bl wt tb := ⟨hS.1, hS.2.1, hS.2.2.1, hS.2.2.2.1, hS.2.2.2.2.2.1⟩
theorem frS_7 {S S1 : Ob} (h : frS S S1) (x : Int32) : frS S (va_up S1.1 7 x, S1.2) := ⟨fun j h6 h7 => by
  show va_up S1.1 7 x j = _
  rw [vu_n _ _ h7]
  exact h.1 j h6 h7, h.2⟩
theorem a_run_n {S : Ob} {h w bl wt lim : Nat} {tb : Nat → Nat → Bool} (hS : srW S h w bl wt tb) (h0 : 0 < h) (w0 : 0 < w) (hh : h ≤ 4) (hw : w ≤ 4) (hbl : bl < 2 ^ (h * w)) (hwt : wt < 2 ^ (h * w)) (hlim : lim < 90000) : ∃ S', fX3_run_n S (nI lim) = some S' ∧ srW S' h w bl wt tb ∧ S'.1 7 = nI ((FL (fitN h w tb bl wt) (2 ^ (h * w))).take lim).length ∧ frS S S' := by
  have hm : h * w ≤ 16 := Nat.mul_le_mul hh hw
  have hpw : 2 ^ (h * w) ≤ 2 ^ 16 := pw_le hm
  obtain ⟨S1, a1, a2, a3, a4⟩ := run_pre (lim := lim) hS hh hw
  have ln := a_lay_n hh hw (show bl < 2 ^ 16 by omega) (show wt < 2 ^ 16 by omega) hlim h 0 6 S1 0 0 (Nat.le_refl _) (by omega) a2 a3 (Nat.zero_le _) (fun q => absurd q (by omega)) (by simpa using Nat.two_pow_pos _) (by decide) (cols0 w h)
  rw [LSq_all w0 h0 hbl hwt, Nat.sub_zero, Nat.zero_add, Nat.mul_zero] at ln
  refine ⟨_, ?_, srS_W a2 _, rfl, frS_7 a4 _⟩
  unfold fX3_run_n
  rw [a1, Option.bind_some]
  unfold fX3_run_n_J51
  rw [a2.1]
  show (fX3_lay_n 6 S1 (nI h - 1) (nI 0) (nI 0)).bind _ = _
  rw [ln]
  rfl
theorem a_run_f {S S2 : Ob} {h w bl wt lim cN : Nat} {tb : Nat → Nat → Bool} (hS : srW S h w bl wt tb) (h2 : fitsO S2 []) (h0 : 0 < h) (w0 : 0 < w) (hh : h ≤ 4) (hw : w ≤ 4) (hbl : bl < 2 ^ (h * w)) (hwt : wt < 2 ^ (h * w)) (hlim : lim ≤ cN) (hcN : cN < 90000) : ∃ S' S2', fX3_run_f cN S S2 (nI lim) = some (S', S2') ∧ srW S' h w bl wt tb ∧ fitsO S2' ((FL (fitN h w tb bl wt) (2 ^ (h * w))).take lim) ∧ frS S S' := by
  have hm : h * w ≤ 16 := Nat.mul_le_mul hh hw
  have hpw : 2 ^ (h * w) ≤ 2 ^ 16 := pw_le hm
  obtain ⟨S1, a1, a2, a3, a4⟩ := run_pre (lim := lim) hS hh hw
  obtain ⟨S2', ln, hf⟩ := a_lay_f hh hw (show bl < 2 ^ 16 by omega) (show wt < 2 ^ 16 by omega) hlim hcN h 0 6 S1 S2 [] 0 0 (Nat.le_refl _) (by omega) a2 a3 rfl h2 (Nat.zero_le _) (fun q => absurd q (by omega)) (by simpa using Nat.two_pow_pos _) (by decide) (cols0 w h)
  rw [LSq_all w0 h0 hbl hwt, Nat.sub_zero, Nat.mul_zero] at ln
  rw [LSq_all w0 h0 hbl hwt, Nat.sub_zero, List.nil_append] at hf
  refine ⟨(va_up S1.1 7 (nI (0 + ((FL (fitN h w tb bl wt) (2 ^ (h * w))).take lim).length)), S1.2), S2', ?_, srS_W a2 _, hf, frS_7 a4 _⟩
  unfold fX3_run_f
  show (wh (σ := Int32 × Ob) (ρ := Ob) (fun t => fX3_run_n_L12 t.1 t.2) 100000 ((0 : Int32), (va_up (va_up S.1 6 (nI lim)) 7 (0 : Int32), S.2))).bind _ = _
  rw [a1, Option.bind_some]
  unfold fX3_run_f_J51
  rw [a2.1]
  show (fX3_lay_f cN 6 S1 S2 (nI h - 1) (nI 0) (nI 0)).bind _ = _
  rw [ln]
  rfl
theorem a_countWith {S : Ob} {h w bl wt lim line m : Nat} {tb : Nat → Nat → Bool} {g : Nat → Bool} (hS : srW S h w bl wt tb) (h0 : 0 < h) (w0 : 0 < w) (hh : h ≤ 4) (hw : w ≤ 4) (hbl : bl < 2 ^ (h * w)) (hwt : wt < 2 ^ (h * w)) (hlim : lim < 90000) (hl : line < h + w) (hm : m < 2 ^ 16) (hg : ∀ c, c < 16 → m.testBit c = g c) : ∃ S', fX3_countWith S (nI line) (nI m) (nI lim) = some (nI ((FL (fitN h w (fun l c => if l = line then g c else tb l c) bl wt) (2 ^ (h * w))).take lim).length, S') ∧ srW S' h w bl wt tb := by
  have c0 : ¬ nI line < (0 : Int32) := nI_pos (by omega)
  have c1 : nI line < (8 : Int32) := by rw [show (8 : Int32) = nI 8 from rfl, nI_ltI (by omega) (by omega)]; omega
  have o1 := okI_t (show line < 8 by omega) (by decide)
  have cl : (nI line).toNatClampNeg = line := nI_clamp (by omega)
  have hS1 : srW (S.1, va_up S.2 4 (upd (S.2 4) line (nI m))) h w bl wt (fun l c => if l = line then g c else tb l c) := by
    obtain ⟨s0, s1, s2, s3, s4⟩ := hS
    refine ⟨s0, s1, s2, s3, fun l hl2 => ?_⟩
    show ∃ m', m' < 2 ^ 16 ∧ upd (S.2 4) line (nI m) l = nI m' ∧ _
    by_cases a : l = line
    · subst a
      exact ⟨m, hm, up_s _ _ _, fun c hc => by rw [hg c hc]; exact (if_pos rfl).symm⟩
    · obtain ⟨m', q1, q2, q3⟩ := s4 l hl2
      exact ⟨m', q1, by rw [up_n _ _ a]; exact q2, fun c hc => by rw [q3 c hc]; exact (if_neg a).symm⟩
  obtain ⟨S', r1, r2, r3, r4⟩ := a_run_n hS1 h0 w0 hh hw hbl hwt hlim
  refine ⟨(S'.1, va_up S'.2 4 (upd (S'.2 4) line (S.2 4 line))), ?_, ?_⟩
  · unfold fX3_countWith
    rw [if_neg c0, if_pos c1, if_pos o1, if_pos o1, cl, r1, Option.bind_some, if_pos o1, r3]
  · obtain ⟨s0, s1, s2, s3, s4⟩ := hS
    obtain ⟨t0, t1, t2, t3, t4⟩ := r2
    refine ⟨t0, t1, t2, t3, fun l hl2 => ?_⟩
    show ∃ m', m' < 2 ^ 16 ∧ upd (S'.2 4) line (S.2 4 line) l = nI m' ∧ _
    obtain ⟨m', q1, q2, q3⟩ := s4 l hl2
    refine ⟨m', q1, ?_, q3⟩
    by_cases a : l = line
    · subst a
      rw [up_s]
      exact q2
    · rw [up_n _ _ a, r4.2 4 (by decide)]
      show upd (S.2 4) line (nI m) l = _
      rw [up_n _ _ a]
      exact q2
