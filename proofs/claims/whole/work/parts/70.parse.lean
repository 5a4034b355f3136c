/-! the two readings side by side -/
theorem wh_ex {σ ρ : Type} {body : σ → Option (σ ⊕ ρ)} (P : Nat → σ → Prop) (Q : ρ → Prop) (K : Nat) (hs : ∀ k s, k < K → P k s → (∃ s', body s = some (.inl s') ∧ P (k + 1) s') ∨ ∃ r, body s = some (.inr r) ∧ Q r) (he : ∀ s, P K s → ∃ r, body s = some (.inr r) ∧ Q r) {n : Nat} {s : σ} (h0 : P 0 s) (hn : K < n) : ∃ r, wh body n s = some r ∧ Q r := by
  have key : ∀ (d k m : Nat) (s : σ), k + d = K → d < m → P k s → ∃ r, wh body m s = some r ∧ Q r := by
    intro d
    induction d with
    | zero =>
      intro k m s hk hm hp
      obtain ⟨m, rfl⟩ : ∃ q, m = q + 1 := ⟨m - 1, by omega⟩
      have : k = K := by omega
      subst this
      obtain ⟨r, h1, h2⟩ := he s hp
      exact ⟨r, wh_r h1, h2⟩
    | succ d ih =>
      intro k m s hk hm hp
      obtain ⟨m, rfl⟩ : ∃ q, m = q + 1 := ⟨m - 1, by omega⟩
      rcases hs k s (by omega) hp with ⟨s', h1, h2⟩ | ⟨r, h1, h2⟩
      · obtain ⟨r, h3, h4⟩ := ih (k + 1) m s' (by omega) (by omega) h2
        exact ⟨r, by rw [wh_i h1]; exact h3, h4⟩
      · exact ⟨r, wh_r h1, h2⟩
  exact key K 0 n s (by omega) hn h0
def R0 (M : OM) : OM := (va_up (va_up M.1 2 (0 : Int32)) 3 (0 : Int32), M.2.1, M.2.2.1, M.2.2.2)
def wF (n : Nat) (s : Int32 × OM) : Option (Int32 × OM) := wh (σ := Int32 × OM) (ρ := Int32 × OM) (fun t => fX6_faultOf_L12 t.1 t.2) n s
theorem wF_i {n : Nat} {x : Int32} {M : OM} {s' : Int32 × OM} (h : fX6_faultOf_L12 x M = some (.inl s')) : wF (n + 1) (x, M) = wF n s' := wh_i h
theorem wF_r {n : Nat} {x : Int32} {M : OM} {r : Int32 × OM} (h : fX6_faultOf_L12 x M = some (.inr r)) : wF (n + 1) (x, M) = some r := wh_r h
def Rch (M0 : OM) (p : Nat) (M : OM) : Prop := wF 100000 ((0 : Int32), R0 M0) = wF (100000 - p) (nI p, M)
theorem rch_g {M0 M M' : OM} {p : Nat} (r : Rch M0 p M) (hp : p < 100) (e : fX6_faultOf_L12 (nI p) M = some (.inl (nI (p + 1), M'))) : Rch M0 (p + 1) M' := by
  have r : wF 100000 ((0 : Int32), R0 M0) = wF (100000 - p) (nI p, M) := r
  show wF 100000 ((0 : Int32), R0 M0) = wF (100000 - (p + 1)) (nI (p + 1), M')
  rw [r, show 100000 - p = (100000 - (p + 1)) + 1 by omega]
  exact wF_i e
theorem rch_e {M0 M M' : OM} {p : Nat} (r : Rch M0 p M) (hp : p < 100) (e : fX6_faultOf_L12 (nI p) M = some (.inr (nI p, M'))) : wF 100000 ((0 : Int32), R0 M0) = some (nI p, M') := by
  have r : wF 100000 ((0 : Int32), R0 M0) = wF (100000 - p) (nI p, M) := r
  rw [r, show 100000 - p = (100000 - (p + 1)) + 1 by omega]
  exact wF_r e
theorem rch_0 (M0 : OM) : Rch M0 0 (R0 M0) := by
  unfold Rch
  rw [Nat.sub_zero, nI_0]
theorem pM_0 (M : OM) : pM M (R0 M) := pM_f _ _ _ (fr1_up (fr1_up fr1_rfl (by decide)) (by decide)) fr1_rfl
def nbR (A : Ab) (p : Nat) (M : OM) : Prop := A.ps < 3 ∨ p < A.ps ∨ ¬ M.1 3 = 3 ∨ ∃ x, fX6_readLines M = some x ∧ ¬ M.1 2 = x - (1 : Int32)
def stopR (A : Ab) (M0 : OM) (p : Nat) : Prop := ∃ M', wF 100000 ((0 : Int32), R0 M0) = some (nI p, M') ∧ pM M0 M' ∧ nbR A p M'
theorem st_b {n : Nat} {A : Ab} {M0 M M' : OM} {p : Nat} (o : abOK n A) (ms : MS A M) (pm : pM M0 M) (r : Rch M0 p M) (hp : p < A.ps) (e : fX6_isGood M (nI p) = some (0, M')) (q : pM M M') : stopR A M0 p := ⟨M', rch_e r (by have := o.ps; omega) (L12_b o ms hp e), pM_tr pm q, Or.inr (Or.inl hp)⟩
theorem st_e {n : Nat} {A : Ab} {M0 M : OM} {p : Nat} (o : abOK n A) (ms : MS A M) (pm : pM M0 M) (r : Rch M0 p M) (hp : p = A.ps) (e : nbR A p M) : stopR A M0 p := by
  subst hp
  exact ⟨M, rch_e r (by have := o.ps; omega) (L12_e ms), pm, e⟩
theorem st_g {n : Nat} {A : Ab} {M0 M M' : OM} {p : Nat} (o : abOK n A) (ms : MS A M) (r : Rch M0 p M) (hp : p < A.ps) (e : fX6_isGood M (nI p) = some (1, M')) : Rch M0 (p + 1) M' := rch_g r (by have := o.ps; omega) (L12_g o ms hp e)
def gotC (A : Ab) (M0 M : OM) (S T : Ob) (l : Nat) : Prop := ∃ S' p' M' a b c, fX2_readClue S T (nI l) = some (1, S', clT T l a b c) ∧ p' ≤ A.ps ∧ 3 ≤ p' ∧ pgS A S' p' ∧ MS A M' ∧ pM M0 M' ∧ Rch M0 p' M' ∧ M'.1 2 = nI l ∧ M'.1 3 = 3 ∧ M'.2.1 6 = upd (M.2.1 6) l (nI a) ∧ M'.2.1 7 = upd (M.2.1 7) l (nI b) ∧ (∀ j, ¬ j = l → M'.2.1 8 j = M.2.1 8 j) ∧ M'.2.1 8 l = nI c ∧ a < 5 ∧ b < 5 ∧ c < 5 ∧ (b = 0 → c = 0)
theorem j_clue {n : Nat} {A : Ab} {M0 M : OM} {S T : Ob} {h w l p : Nat} (o : abOK n A) (d : dg A h w) (hl : l < h + w) (hS : pgS A S p) (hp : p ≤ A.ps) (h3 : 3 ≤ p) (t0 : T.1 0 = nI h) (t1 : T.1 1 = nI w) (ms : MS A M) (pm : pM M0 M) (r : Rch M0 p M) (m2 : M.1 2 = nI l) (m3 : M.1 3 = 0) : (∃ S' T' p', fX2_readClue S T (nI l) = some (0, S', T') ∧ p' ≤ A.ps ∧ pgS A S' p' ∧ stopR A M0 p') ∨ gotC A M0 M S T l := by
  have hps := o.ps
  obtain ⟨d0, d1, d2, d3, d4, d5, d6⟩ := id d
  have hlen := lenN_le (l := l) d4 d6
  have el : fX4_length T (nI l) = some (nI (lenN h w l)) := a_length t0 t1 d4 (by omega)
  have hl8 : l < 8 := by omega
  by_cases a1 : p < A.ps ∧ kN (A.pc p) < 5
  · obtain ⟨M1, g1, g2, g3⟩ := c_g0 o ms a1.1 h3 m2 hl8 m3
    rw [iz_t a1.2] at g1
    obtain ⟨x2, x3, x4, x6, x7, x8⟩ := g3 a1.2
    have ms1 := pM_s g2 ms
    have pm1 := pM_tr pm g2
    have r1 := st_g o ms r a1.1 g1
    have hS1 := pg_b hS
    have k5 := a1.2
    obtain ⟨dd1, dd2⟩ := la1 db_1 k5
    have rk := pg_kind o hS hp
    rw [if_pos a1] at rk
    have rn := pg_num (lo := 0) (hi := lenN h w l) o hS1 (show p + 1 ≤ A.ps by omega) (by decide) (by omega)
    have c0 : (0 : Int32) ≤ nI (kN (A.pc p)) := by rw [show (0 : Int32) = nI 0 from rfl, nI_leI (by decide) (by omega)]; omega
    by_cases a2 : p + 1 < A.ps ∧ 48 + 0 ≤ A.pc (p + 1) ∧ A.pc (p + 1) ≤ 48 + lenN h w l
    · rw [if_pos a2] at rn
      obtain ⟨M2, g4, g5, y2, y3, y5, y6, y7, y8⟩ := c_g1 o ms1 d a2.1 (by omega) x2 hl8 x3 x4 k5
      rw [iz_t (show 48 ≤ A.pc (p + 1) ∧ A.pc (p + 1) ≤ 48 + lenN h w l by omega)] at g4
      have ef : nI (A.pc (p + 1)) - (48 : Int32) = nI (A.pc (p + 1) - 48) := pk_sub (b := 48) (by omega)
      rw [ef] at y5 y7
      have hf : A.pc (p + 1) - 48 ≤ lenN h w l := by omega
      generalize A.pc (p + 1) - 48 = f at rn y5 y7 hf
      have ms2 := pM_s g5 ms1
      have pm2 := pM_tr pm1 g5
      have r2 := st_g o ms1 r1 a2.1 g4
      have hS2 := pg_b hS1
      have cf : (0 : Int32) ≤ nI f := by rw [show (0 : Int32) = nI 0 from rfl, nI_leI (by decide) (by omega)]; omega
      by_cases e : dbN (kN (A.pc p)) = true
      · rw [if_pos e] at y3
        rw [e] at dd1
        obtain ⟨n1, _⟩ := la2 ms_1 (show lenN h w l < 5 by omega) (show f < 5 by omega) hf
        have hms : msN (lenN h w l) f < 5 := by unfold msN; split <;> omega
        have rm := pg_num (lo := 0) (hi := msN (lenN h w l) f) o hS2 (show p + 1 + 1 ≤ A.ps by omega) (by decide) (by omega)
        by_cases a3 : p + 1 + 1 < A.ps ∧ 48 + 0 ≤ A.pc (p + 1 + 1) ∧ A.pc (p + 1 + 1) ≤ 48 + msN (lenN h w l) f
        · rw [if_pos a3] at rm
          obtain ⟨M3, g6, g7, z2, z3, z6, z7, z8⟩ := c_g2 o ms2 d a3.1 (by omega) y2 hl8 y3 y5 hf
          rw [iz_t (show 48 ≤ A.pc (p + 1 + 1) ∧ A.pc (p + 1 + 1) ≤ 48 + msN (lenN h w l) f by omega)] at g6
          have eg : nI (A.pc (p + 1 + 1)) - (48 : Int32) = nI (A.pc (p + 1 + 1) - 48) := pk_sub (b := 48) (by omega)
          rw [eg] at z8
          have hg : A.pc (p + 1 + 1) - 48 ≤ msN (lenN h w l) f := by omega
          generalize A.pc (p + 1 + 1) - 48 = g at rm z8 hg
          have cg : (0 : Int32) ≤ nI g := by rw [show (0 : Int32) = nI 0 from rfl, nI_leI (by decide) (by omega)]; omega
          refine Or.inr ⟨pgB (pgB (pgB S p) (p + 1)) (p + 1 + 1), p + 1 + 1 + 1, M3, kN (A.pc p), f, g, ?_, by omega, by omega, pg_b hS2, pM_s g7 ms2, pM_tr pm2 g7, st_g o ms2 r2 a3.1 g6, z2, z3, ?_, ?_, ?_, ?_, k5, by omega, by omega, ?_⟩
          · unfold fX2_readClue
            rw [el, Option.bind_some, rk, Option.bind_some]
            dsimp only
            rw [if_pos c0, show (0 : Int32) = nI 0 from rfl, rn, Option.bind_some]
            dsimp only
            rw [if_pos (show nI 0 ≤ nI f from cf), dd1, Option.bind_some, if_neg (show ¬ nI true.toNat = nI 0 by decide), n1, Option.bind_some, rm, Option.bind_some]
            dsimp only
            unfold fX2_readClue_J58
            rw [if_pos cg, pg_set t0 t1 d4 d6 hl, Option.bind_some]
          · rw [z6, y6, x6]
          · rw [z7, y7, x7]
          · intro j hj
            rw [z8, y8, x8, up_n _ _ hj, up_n _ _ hj]
          · rw [z8, up_s]
          · intro q
            have : msN (lenN h w l) f = 0 := by unfold msN; rw [if_pos q]
            omega
        · rw [if_neg a3] at rm
          refine Or.inl ⟨pgB (pgB S p) (p + 1), T, p + 1 + 1, ?_, by omega, hS2, ?_⟩
          · unfold fX2_readClue
            rw [el, Option.bind_some, rk, Option.bind_some]
            dsimp only
            rw [if_pos c0, show (0 : Int32) = nI 0 from rfl, rn, Option.bind_some]
            dsimp only
            rw [if_pos (show nI 0 ≤ nI f from cf), dd1, Option.bind_some, if_neg (show ¬ nI true.toNat = nI 0 by decide), n1, Option.bind_some, rm, Option.bind_some]
            dsimp only
            unfold fX2_readClue_J58
            rw [if_neg (by decide)]
            rfl
          · by_cases b : p + 1 + 1 < A.ps
            · obtain ⟨M3, g6, g7, _⟩ := c_g2 o ms2 d b (by omega) y2 hl8 y3 y5 hf
              rw [iz_f (fun q => a3 ⟨b, by omega, q.2⟩)] at g6
              exact st_b o ms2 pm2 r2 b g6 g7
            · exact st_e o ms2 pm2 r2 (by omega) (Or.inr (Or.inr (Or.inl (by rw [y3]; decide))))
      · rw [if_neg e] at y3
        have e : dbN (kN (A.pc p)) = false := by simpa using e
        rw [e] at dd1
        refine Or.inr ⟨pgB (pgB S p) (p + 1), p + 1 + 1, M2, kN (A.pc p), f, 0, ?_, by omega, by omega, hS2, ms2, pm2, r2, y2, y3, ?_, ?_, ?_, ?_, k5, by omega, by decide, fun _ => rfl⟩
        · unfold fX2_readClue
          rw [el, Option.bind_some, rk, Option.bind_some]
          dsimp only
          rw [if_pos c0, show (0 : Int32) = nI 0 from rfl, rn, Option.bind_some]
          dsimp only
          rw [if_pos (show nI 0 ≤ nI f from cf), dd1, Option.bind_some, if_pos (show nI false.toNat = nI 0 from rfl)]
          unfold fX2_readClue_J58
          rw [if_pos (by decide), pg_set t0 t1 d4 d6 hl, Option.bind_some]
        · rw [y6, x6]
        · rw [y7, x7]
        · intro j hj
          rw [y8, x8, up_n _ _ hj]
        · rw [y8, x8, up_s]
          rfl
    · rw [if_neg a2] at rn
      refine Or.inl ⟨pgB S p, T, p + 1, ?_, by omega, hS1, ?_⟩
      · unfold fX2_readClue
        rw [el, Option.bind_some, rk, Option.bind_some]
        dsimp only
        rw [if_pos c0, show (0 : Int32) = nI 0 from rfl, rn, Option.bind_some]
        dsimp only
        rw [if_neg (by decide)]
      · by_cases b : p + 1 < A.ps
        · obtain ⟨M2, g4, g5, _⟩ := c_g1 o ms1 d b (by omega) x2 hl8 x3 x4 k5
          rw [iz_f (fun q => a2 ⟨b, by omega, q.2⟩)] at g4
          exact st_b o ms1 pm1 r1 b g4 g5
        · exact st_e o ms1 pm1 r1 (by omega) (Or.inr (Or.inr (Or.inl (by rw [x3]; decide))))
  · have rk := pg_kind o hS hp
    rw [if_neg a1] at rk
    refine Or.inl ⟨S, T, p, ?_, hp, hS, ?_⟩
    · unfold fX2_readClue
      rw [el, Option.bind_some, rk, Option.bind_some]
      dsimp only
      rw [if_neg (by decide)]
    · by_cases b : p < A.ps
      · obtain ⟨M1, g1, g2, _⟩ := c_g0 o ms b h3 m2 hl8 m3
        rw [iz_f (fun q => a1 ⟨b, q⟩)] at g1
        exact st_b o ms pm r b g1 g2
      · exact st_e o ms pm r (by omega) (Or.inr (Or.inr (Or.inl (by rw [m3]; decide))))
def sgN (h l : Nat) : Nat := if l = 0 ∨ l = h then 59 else 44
theorem sgN_lt (h l : Nat) : sgN h l < 100 := by unfold sgN; split <;> decide
theorem j_sign {n : Nat} {A : Ab} {M0 M : OM} {h w l p : Nat} (o : abOK n A) (d : dg A h w) (hl : l < h + w) (hp : p ≤ A.ps) (l0 : l = 0 → p = 2) (l1 : 0 < l → 3 ≤ p ∧ M.1 2 = nI (l - 1) ∧ M.1 3 = 3) (ms : MS A M) (pm : pM M0 M) (r : Rch M0 p M) : (p < A.ps ∧ A.pc p = sgN h l → ∃ M', pM M M' ∧ Rch M0 (p + 1) M' ∧ M'.1 2 = nI l ∧ M'.1 3 = 0 ∧ M'.2.1 = M.2.1) ∧ (¬ (p < A.ps ∧ A.pc p = sgN h l) → stopR A M0 p) := by
  have hps := o.ps
  obtain ⟨d0, d1, d2, d3, d4, d5, d6⟩ := id d
  by_cases z : l = 0
  · have hp2 := l0 z
    subst hp2 z
    have sg : sgN h 0 = 59 := by unfold sgN; rw [if_pos (Or.inl rfl)]
    rw [sg]
    constructor
    · intro a
      obtain ⟨M', g1, g2, g3, g4, g5⟩ := c_g22 o ms a.1
      rw [iz_t a.2] at g1
      exact ⟨M', g2, st_g o ms r a.1 g1, g3, g4, g5⟩
    · intro a
      by_cases b : 2 < A.ps
      · obtain ⟨M', g1, g2, _⟩ := c_g22 o ms b
        rw [iz_f (fun q => a ⟨b, q⟩)] at g1
        exact st_b o ms pm r b g1 g2
      · exact st_e o ms pm r (by omega) (Or.inl (by omega))
  · obtain ⟨h3, m2, m3⟩ := l1 (by omega)
    have el : l - 1 + 1 = l := by omega
    have sg : sgN h l = if l = h then 59 else 44 := by
      unfold sgN
      by_cases q : l = h
      · rw [if_pos (Or.inr q), if_pos q]
      · rw [if_neg (fun k => k.elim z q), if_neg q]
    rw [sg]
    constructor
    · intro a
      obtain ⟨M', g1, g2, g3, g4, g5⟩ := c_g3 o ms d a.1 h3 m2 (by omega) m3
      rw [el] at g1 g3
      rw [iz_t (show l < h + w ∧ A.pc p = if l = h then 59 else 44 from ⟨hl, a.2⟩)] at g1
      exact ⟨M', g2, st_g o ms r a.1 g1, g3, g4, g5⟩
    · intro a
      by_cases b : p < A.ps
      · obtain ⟨M', g1, g2, _⟩ := c_g3 o ms d b h3 m2 (by omega) m3
        rw [el] at g1
        rw [iz_f (fun q => a ⟨b, q.2⟩)] at g1
        exact st_b o ms pm r b g1 g2
      · refine st_e o ms pm r (by omega) (Or.inr (Or.inr (Or.inr ⟨nI (h + w), c_lines ms d, ?_⟩)))
        rw [m2, show (1 : Int32) = nI 1 from rfl, pk_sub (by omega), nI_eq (by omega) (by omega)]
        omega
def jL (A : Ab) (M0 : OM) (h w l : Nat) (S T : Ob) : Prop := ∃ p M, p ≤ A.ps ∧ 2 ≤ p ∧ (l = 0 → p = 2) ∧ (0 < l → 3 ≤ p ∧ M.1 2 = nI (l - 1) ∧ M.1 3 = 3) ∧ pgS A S p ∧ (T.1 0 = nI h ∧ T.1 1 = nI w ∧ T.1 5 = 0 ∧ T.1 6 = 0 ∧ T.1 10 = 0) ∧ MS A M ∧ pM M0 M ∧ Rch M0 p M ∧ ∀ j, j < l → ∃ a b c, T.2 2 j = nI a ∧ T.2 3 j = nI b ∧ T.2 4 j = nI c ∧ M.2.1 6 j = nI a ∧ M.2.1 7 j = nI b ∧ M.2.1 8 j = nI c ∧ a < 5 ∧ b < 5 ∧ c < 5 ∧ (b = 0 → c = 0)
def jQ (A : Ab) (M0 : OM) (h w : Nat) (r : (Int32 × Ob × Ob) ⊕ (Ob × Ob)) : Prop := (∃ S' T' p', r = .inl (0, S', T') ∧ p' ≤ A.ps ∧ pgS A S' p' ∧ stopR A M0 p') ∨ ∃ S' T', r = .inr (S', T') ∧ jL A M0 h w (h + w) S' T'
theorem j_loop {n : Nat} {A : Ab} {M0 : OM} {h w : Nat} {S T : Ob} (o : abOK n A) (d : dg A h w) (j0 : jL A M0 h w 0 S T) : ∃ r, wh (σ := Int32 × Ob × Ob) (ρ := (Int32 × Ob × Ob) ⊕ (Ob × Ob)) (fun t => fX2_readInto_L48 (nI h) (nI w) t.1 t.2.1 t.2.2) 100000 ((0 : Int32), S, T) = some r ∧ jQ A M0 h w r := by
  have hps := o.ps
  obtain ⟨d0, d1, d2, d3, d4, d5, d6⟩ := id d
  refine wh_ex (body := fun t => fX2_readInto_L48 (nI h) (nI w) t.1 t.2.1 t.2.2) (fun l (u : Int32 × Ob × Ob) => u.1 = nI l ∧ jL A M0 h w l u.2.1 u.2.2) (jQ A M0 h w) (h + w) ?_ ?_ ⟨rfl, j0⟩ (by omega)
  · rintro l ⟨x, S1, T1⟩ hl ⟨e, p, M, hp, hp2, l0, l1, hS, hT, ms, pm, r, rows⟩
    dsimp only at e hS hT rows
    subst e
    have toJ : fX2_readInto_L48 (nI h) (nI w) (nI l) S1 T1 = fX2_readInto_J74 (nI h) (nI w) (nI l) (nI (sgN h l)) S1 T1 := by
      unfold fX2_readInto_L48 fX2_readInto_J67 sgN
      have q0 : nI l = 0 ↔ l = 0 := nI_eq (b := 0) (by omega) (by decide)
      have qh : nI l = nI h ↔ l = h := nI_eq (by omega) (by omega)
      rw [nI_add, if_neg (show ¬ nI (h + w) ≤ nI l by rw [nI_leI (by omega) (by omega)]; omega)]
      by_cases z : l = 0
      · rw [if_pos (q0.mpr z), if_pos (Or.inl z)]
        rfl
      · rw [if_neg (fun k => z (q0.mp k))]
        by_cases z2 : l = h
        · rw [if_pos (qh.mpr z2), if_pos (Or.inr z2)]
          rfl
        · rw [if_neg (fun k => z2 (qh.mp k)), if_neg (fun k => k.elim z z2)]
          rfl
    have rs := pg_sign o hS hp (sgN_lt h l)
    obtain ⟨sg1, sg2⟩ := j_sign o d hl hp l0 l1 ms pm r
    by_cases a : p < A.ps ∧ A.pc p = sgN h l
    · rw [if_pos a] at rs
      obtain ⟨M1, g1, g2, g3, g4, g5⟩ := sg1 a
      have ms1 := pM_s g1 ms
      rcases j_clue o d hl (pg_b hS) (show p + 1 ≤ A.ps by omega) (show 3 ≤ p + 1 by omega) hT.1 hT.2.1 ms1 (pM_tr pm g1) g2 g3 g4 with ⟨S2, T2, p2, c1, c2, c3, c4⟩ | ⟨S2, p2, M2, a', b', c', c1, c2, c3, c4, c5, c6, c7, c8, c9, v6, v7, v8, v8l, v1, v2, v3, v4⟩
      · refine Or.inr ⟨.inl (0, S2, T2), ?_, Or.inl ⟨S2, T2, p2, rfl, c2, c3, c4⟩⟩
        show fX2_readInto_L48 (nI h) (nI w) (nI l) S1 T1 = _
        rw [toJ]
        unfold fX2_readInto_J74
        rw [rs, Option.bind_some]
        dsimp only
        rw [if_neg (by decide), c1, Option.bind_some]
        dsimp only
        rw [if_pos rfl]
      · refine Or.inl ⟨(nI (l + 1), S2, clT T1 l a' b' c'), ?_, rfl, p2, M2, c2, by omega, fun q => absurd q (Nat.succ_ne_zero l), fun _ => ⟨c3, c8, c9⟩, c4, hT, c5, c6, c7, ?_⟩
        · show fX2_readInto_L48 (nI h) (nI w) (nI l) S1 T1 = _
          rw [toJ]
          unfold fX2_readInto_J74
          rw [rs, Option.bind_some]
          dsimp only
          rw [if_neg (by decide), c1, Option.bind_some]
          dsimp only
          rw [if_neg (by decide), nI_1]
        · intro j hj
          show ∃ a b c, upd (T1.2 2) l (nI a') j = nI a ∧ upd (T1.2 3) l (nI b') j = nI b ∧ upd (T1.2 4) l (nI c') j = nI c ∧ M2.2.1 6 j = nI a ∧ M2.2.1 7 j = nI b ∧ M2.2.1 8 j = nI c ∧ a < 5 ∧ b < 5 ∧ c < 5 ∧ (b = 0 → c = 0)
          by_cases q : j = l
          · subst q
            refine ⟨a', b', c', up_s _ _ _, up_s _ _ _, up_s _ _ _, ?_, ?_, v8l, v1, v2, v3, v4⟩
            · rw [v6, up_s]
            · rw [v7, up_s]
          · obtain ⟨a2, b2, c2, t1, t2, t3, t4, t5, t6, t7⟩ := rows j (by omega)
            refine ⟨a2, b2, c2, ?_, ?_, ?_, ?_, ?_, ?_, t7⟩
            · rw [up_n _ _ q]; exact t1
            · rw [up_n _ _ q]; exact t2
            · rw [up_n _ _ q]; exact t3
            · rw [v6, up_n _ _ q, g5]; exact t4
            · rw [v7, up_n _ _ q, g5]; exact t5
            · rw [v8 j q, g5]; exact t6
    · rw [if_neg a] at rs
      refine Or.inr ⟨.inl (0, S1, T1), ?_, Or.inl ⟨S1, T1, p, rfl, hp, hS, sg2 a⟩⟩
      show fX2_readInto_L48 (nI h) (nI w) (nI l) S1 T1 = _
      rw [toJ]
      unfold fX2_readInto_J74
      rw [rs, Option.bind_some]
      dsimp only
      rw [if_pos rfl]
  · rintro ⟨x, S1, T1⟩ ⟨e, j⟩
    dsimp only at e j
    subst e
    refine ⟨.inr (S1, T1), ?_, Or.inr ⟨S1, T1, rfl, j⟩⟩
    show fX2_readInto_L48 (nI h) (nI w) (nI (h + w)) S1 T1 = _
    unfold fX2_readInto_L48
    rw [nI_add, if_pos (Int32.le_refl _)]
def goodR (A : Ab) (M0 : OM) (T : Ob) : Prop := ∃ h w M', dg A h w ∧ 3 ≤ A.ps ∧ wF 100000 ((0 : Int32), R0 M0) = some (nI A.ps, M') ∧ pM M0 M' ∧ M'.1 2 = nI (h + w - 1) ∧ M'.1 3 = 3 ∧ (T.1 0 = nI h ∧ T.1 1 = nI w ∧ T.1 5 = 0 ∧ T.1 6 = 0 ∧ T.1 10 = 0) ∧ ∀ j, j < h + w → ∃ a b c, T.2 2 j = nI a ∧ T.2 3 j = nI b ∧ T.2 4 j = nI c ∧ M'.2.1 6 j = nI a ∧ M'.2.1 7 j = nI b ∧ M'.2.1 8 j = nI c ∧ a < 5 ∧ b < 5 ∧ c < 5 ∧ (b = 0 → c = 0)
theorem j_read {n : Nat} {A : Ab} {E : OE} {M : OM} (o : abOK n A) (es : ES A E) (ms : MS A M) : ∃ S' T' p, p ≤ A.ps ∧ pgS A S' p ∧ ((fX2_readInto (E.2 0) (E.2 3) = some (0, S', T') ∧ stopR A M p) ∨ (fX2_readInto (E.2 0) (E.2 3) = some (1, S', T') ∧ p = A.ps ∧ goodR A M T')) := by
  have hps := o.ps
  have hS0 : pgS A (va_up (E.2 0).1 2 (0 : Int32), (E.2 0).2) 0 := ⟨es.ps, rfl, es.pc⟩
  have ms0 : MS A (R0 M) := pM_s (pM_0 M) ms
  have pm0 := pM_0 M
  have r0 := rch_0 M
  obtain ⟨T6, hT6, q0, q1, q5, q6, q10⟩ : ∃ T6, fX4_forgetAll (E.2 3) = some T6 ∧ T6.1 0 = 0 ∧ T6.1 1 = 0 ∧ T6.1 5 = 0 ∧ T6.1 6 = 0 ∧ T6.1 10 = 0 := ⟨_, rfl, rfl, rfl, rfl, rfl, rfl⟩
  have n0 : fX2_readNumber (va_up (E.2 0).1 2 (0 : Int32), (E.2 0).2) (2 : Int32) (4 : Int32) = _ := pg_num (lo := 2) (hi := 4) o hS0 (Nat.zero_le _) (by decide) (by decide)
  by_cases a0 : 0 < A.ps ∧ 48 + 2 ≤ A.pc 0 ∧ A.pc 0 ≤ 48 + 4
  · rw [if_pos a0] at n0
    have g0 := c_gd o ms0 a0.1 (by decide)
    rw [iz_t (show 50 ≤ A.pc 0 ∧ A.pc 0 ≤ 52 by omega)] at g0
    have r1 := st_g o ms0 r0 a0.1 g0
    have hS1 := pg_b hS0
    have c0 : (0 : Int32) ≤ nI (A.pc 0 - 48) := by rw [show (0 : Int32) = nI 0 from rfl, nI_leI (by decide) (by omega)]; omega
    have n1 : fX2_readNumber (pgB (va_up (E.2 0).1 2 (0 : Int32), (E.2 0).2) 0) (2 : Int32) (4 : Int32) = _ := pg_num (lo := 2) (hi := 4) o hS1 (show 0 + 1 ≤ A.ps by omega) (by decide) (by decide)
    by_cases a1 : 0 + 1 < A.ps ∧ 48 + 2 ≤ A.pc (0 + 1) ∧ A.pc (0 + 1) ≤ 48 + 4
    · rw [if_pos a1] at n1
      have g1 := c_gd o ms0 a1.1 (by decide)
      rw [iz_t (show 50 ≤ A.pc (0 + 1) ∧ A.pc (0 + 1) ≤ 52 by omega)] at g1
      have r2 := st_g o ms0 r1 a1.1 g1
      have hS2 := pg_b hS1
      have c1 : (0 : Int32) ≤ nI (A.pc (0 + 1) - 48) := by rw [show (0 : Int32) = nI 0 from rfl, nI_leI (by decide) (by omega)]; omega
      have d : dg A (A.pc 0 - 48) (A.pc (0 + 1) - 48) := ⟨by omega, by omega, (by omega : A.pc (0 + 1) = 48 + (A.pc (0 + 1) - 48)), by omega, by omega, by omega, by omega⟩
      generalize A.pc 0 - 48 = h at n0 c0 d
      generalize A.pc (0 + 1) - 48 = w at n1 c1 d
      obtain ⟨d0, d1, d2, d3, d4, d5, d6⟩ := id d
      have jl : jL A M h w 0 (pgB (pgB (va_up (E.2 0).1 2 (0 : Int32), (E.2 0).2) 0) (0 + 1)) (va_up (va_up T6.1 0 (nI h)) 1 (nI w), T6.2) := ⟨0 + 1 + 1, R0 M, by omega, by omega, fun _ => rfl, fun q => absurd q (Nat.lt_irrefl 0), hS2, ⟨rfl, rfl, q5, q6, q10⟩, ms0, pm0, r2, fun j hj => absurd hj (Nat.not_lt_zero j)⟩
      obtain ⟨r, w1, w2⟩ := j_loop o d jl
      have top : fX2_readInto (E.2 0) (E.2 3) = Sum.elim (fun r => some r) (fun X => fX2_readInto_J103 X.1 X.2) r := by
        unfold fX2_readInto
        rw [hT6, Option.bind_some, n0, Option.bind_some]
        dsimp only
        rw [if_pos c0, n1, Option.bind_some]
        dsimp only
        rw [if_pos c1, w1, Option.bind_some]
      rcases w2 with ⟨S', T', p', rfl, e2, e3, e4⟩ | ⟨S', T', rfl, p, M2, e1, e2, _, e4, e5, e6, e7, e8, e9, e10⟩
      · exact ⟨S', T', p', e2, e3, Or.inl ⟨top, e4⟩⟩
      · obtain ⟨y3, y2, ym⟩ := e4 (by omega)
        have j103 : Sum.elim (fun r => some r) (fun X => fX2_readInto_J103 X.1 X.2) (Sum.inr (S', T') : (Int32 × Ob × Ob) ⊕ (Ob × Ob)) = fX2_readInto_J103 S' T' := rfl
        rw [j103] at top
        unfold fX2_readInto_J103 at top
        rw [e5.1, e5.2.1] at top
        by_cases b : p = A.ps
        · rw [if_pos (show nI p = nI A.ps by rw [b])] at top
          refine ⟨S', T', p, e1, e5, Or.inr ⟨top, b, h, w, M2, d, by omega, ?_, e8, y2, ym, e6, e10⟩⟩
          subst b
          exact rch_e e9 (by omega) (L12_e e7)
        · rw [if_neg (show ¬ nI p = nI A.ps by rw [nI_eq (by omega) (by omega)]; exact b)] at top
          refine ⟨S', T', p, e1, e5, Or.inl ⟨top, ?_⟩⟩
          obtain ⟨M3, f1, f2, _⟩ := c_g3 o e7 d (show p < A.ps by omega) y3 y2 (by omega) ym
          rw [iz_f (fun q => absurd q.1 (by omega))] at f1
          exact st_b o e7 e8 e9 (show p < A.ps by omega) f1 f2
    · rw [if_neg a1] at n1
      refine ⟨pgB (va_up (E.2 0).1 2 (0 : Int32), (E.2 0).2) 0, T6, 0 + 1, by omega, hS1, Or.inl ⟨?_, ?_⟩⟩
      · unfold fX2_readInto
        rw [hT6, Option.bind_some, n0, Option.bind_some]
        dsimp only
        rw [if_pos c0, n1, Option.bind_some]
        dsimp only
        rw [if_neg (by decide)]
      · by_cases b : 0 + 1 < A.ps
        · have g1 := c_gd o ms0 b (by decide)
          rw [iz_f (fun q => a1 ⟨b, by omega, by omega⟩)] at g1
          exact st_b o ms0 pm0 r1 b g1 pM_rfl
        · exact st_e o ms0 pm0 r1 (by omega) (Or.inl (by omega))
  · rw [if_neg a0] at n0
    refine ⟨(va_up (E.2 0).1 2 (0 : Int32), (E.2 0).2), T6, 0, Nat.zero_le _, hS0, Or.inl ⟨?_, ?_⟩⟩
    · unfold fX2_readInto
      rw [hT6, Option.bind_some, n0, Option.bind_some]
      dsimp only
      rw [if_neg (by decide)]
    · by_cases b : 0 < A.ps
      · have g0 := c_gd o ms0 b (by decide)
        rw [iz_f (fun q => a0 ⟨b, by omega, by omega⟩)] at g0
        exact st_b o ms0 pm0 r0 b g0 pM_rfl
      · exact st_e o ms0 pm0 r0 (by omega) (Or.inl (by omega))
