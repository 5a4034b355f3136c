/-! reading the page: the class -/
abbrev pgS (A : Ab) (S : Ob) (p : Nat) : Prop := S.1 1 = nI A.ps ∧ S.1 2 = nI p ∧ ∀ i, i < A.ps → S.2 0 i = nI (A.pc i)
def pgB (S : Ob) (p : Nat) : Ob := (va_up S.1 2 (nI (p + 1)), S.2)
theorem pg_b {A : Ab} {S : Ob} {p : Nat} (h : pgS A S p) : pgS A (pgB S p) (p + 1) := ⟨h.1, rfl, h.2.2⟩
theorem pg_code {n : Nat} {A : Ab} {S : Ob} {p : Nat} (o : abOK n A) (h : pgS A S p) (hp : p < A.ps) : fX2_codeAt S (nI p) = some (nI (A.pc p)) := by
  have := o.ps
  have c1 : ¬ Int32.ofNat 36 ≤ nI p := by
    show ¬ nI 36 ≤ nI p
    rw [nI_leI (by omega) (by omega)]; omega
  unfold fX2_codeAt
  rw [if_neg (nI_pos (by omega)), if_neg c1, if_pos (okI_t (show p < 36 by omega) (by decide)), nI_clamp (by omega), h.2.2 p hp]
theorem pg_num {n : Nat} {A : Ab} {S : Ob} {p lo hi : Nat} (o : abOK n A) (h : pgS A S p) (hp : p ≤ A.ps) (h1 : lo < 100) (h2 : hi < 100) : fX2_readNumber S (nI lo) (nI hi) = if p < A.ps ∧ 48 + lo ≤ A.pc p ∧ A.pc p ≤ 48 + hi then some (nI (A.pc p - 48), pgB S p) else some (-1, S) := by
  have hps := o.ps
  unfold fX2_readNumber
  rw [h.1, h.2.1]
  by_cases a : p < A.ps
  · obtain ⟨b1, b2⟩ := o.pc p a
    have e : (nI (A.pc p) - (48 : Int32)).toInt = (A.pc p : Int) - 48 := pk_sub_toInt (a := A.pc p) (b := 48) (by omega) (by decide)
    have j1 : nI (A.pc p) - (48 : Int32) < nI lo ↔ (A.pc p : Int) - 48 < lo := by rw [i_lt, e, nI_toInt (by omega)]
    have j2 : nI (A.pc p) - (48 : Int32) ≤ nI hi ↔ (A.pc p : Int) - 48 ≤ hi := by rw [i_le, e, nI_toInt (by omega)]
    rw [if_pos (show nI p < nI A.ps by rw [nI_ltI (by omega) (by omega)]; exact a), pg_code o h a, Option.bind_some]
    by_cases b : 48 + lo ≤ A.pc p
    · rw [if_neg (show ¬ nI (A.pc p) - (48 : Int32) < nI lo by rw [j1]; omega)]
      by_cases c : A.pc p ≤ 48 + hi
      · rw [if_pos (show nI (A.pc p) - (48 : Int32) ≤ nI hi by rw [j2]; omega), if_pos (show p < A.ps ∧ 48 + lo ≤ A.pc p ∧ A.pc p ≤ 48 + hi from ⟨a, b, c⟩), show (48 : Int32) = nI 48 from rfl, pk_sub (by omega), nI_1]
        rfl
      · rw [if_neg (show ¬ nI (A.pc p) - (48 : Int32) ≤ nI hi by rw [j2]; omega), if_neg (show ¬ (p < A.ps ∧ 48 + lo ≤ A.pc p ∧ A.pc p ≤ 48 + hi) from fun q => c q.2.2)]
    · rw [if_pos (show nI (A.pc p) - (48 : Int32) < nI lo by rw [j1]; omega), if_neg (show ¬ (p < A.ps ∧ 48 + lo ≤ A.pc p ∧ A.pc p ≤ 48 + hi) from fun q => b q.2.1)]
  · rw [if_neg (show ¬ nI p < nI A.ps by rw [nI_ltI (by omega) (by omega)]; exact a), if_neg (show ¬ (p < A.ps ∧ 48 + lo ≤ A.pc p ∧ A.pc p ≤ 48 + hi) from fun q => a q.1)]
theorem pg_sign {n : Nat} {A : Ab} {S : Ob} {p sg : Nat} (o : abOK n A) (h : pgS A S p) (hp : p ≤ A.ps) (h1 : sg < 100) : fX2_readSign S (nI sg) = if p < A.ps ∧ A.pc p = sg then some (1, pgB S p) else some (0, S) := by
  have hps := o.ps
  unfold fX2_readSign
  rw [h.1, h.2.1]
  by_cases a : p < A.ps
  · obtain ⟨b1, b2⟩ := o.pc p a
    have j1 : nI (A.pc p) = nI sg ↔ A.pc p = sg := nI_eq (by omega) (by omega)
    rw [if_neg (show ¬ nI A.ps ≤ nI p by rw [nI_leI (by omega) (by omega)]; omega), pg_code o h a, Option.bind_some]
    by_cases b : A.pc p = sg
    · rw [if_pos (j1.mpr b), if_pos (show p < A.ps ∧ A.pc p = sg from ⟨a, b⟩), nI_1]
      rfl
    · rw [if_neg (show ¬ nI (A.pc p) = nI sg from fun q => b (j1.mp q)), if_neg (show ¬ (p < A.ps ∧ A.pc p = sg) from fun q => b q.2)]
  · rw [if_pos (show nI A.ps ≤ nI p by rw [nI_leI (by omega) (by omega)]; omega), if_neg (show ¬ (p < A.ps ∧ A.pc p = sg) from fun q => a q.1)]
def kN (c : Nat) : Nat := if c = 99 then 0 else if c = 108 then 3 else if c = 112 then 2 else if c = 114 then 1 else if c = 116 then 4 else 5
theorem kN_1 : ((List.range 127).all fun c => decide (fJ0_indexOf_0f7a4 (((nI c).toUInt32 % 65536).toInt32) = some (if kN c < 5 then nI (kN c) else -1))) = true := by decide +kernel
theorem kN_2 : ((List.range 127).all fun c => decide (fX6_kindBy (nI c) = some (if kN c < 5 then nI (kN c) else -1))) = true := by decide +kernel
theorem pg_kind {n : Nat} {A : Ab} {S : Ob} {p : Nat} (o : abOK n A) (h : pgS A S p) (hp : p ≤ A.ps) : fX2_readKind S = if p < A.ps ∧ kN (A.pc p) < 5 then some (nI (kN (A.pc p)), pgB S p) else some (-1, S) := by
  have hps := o.ps
  unfold fX2_readKind
  rw [h.1, h.2.1]
  by_cases a : p < A.ps
  · obtain ⟨b1, b2⟩ := o.pc p a
    have k1 := la1 kN_1 (show A.pc p < 127 by omega)
    rw [if_pos (show nI p < nI A.ps by rw [nI_ltI (by omega) (by omega)]; exact a), pg_code o h a, Option.bind_some, k1, Option.bind_some]
    by_cases b : kN (A.pc p) < 5
    · rw [if_pos b, if_neg (nI_pos (by omega)), if_pos (show p < A.ps ∧ kN (A.pc p) < 5 from ⟨a, b⟩), nI_1]
      rfl
    · rw [if_neg b, if_pos (by decide), if_neg (show ¬ (p < A.ps ∧ kN (A.pc p) < 5) from fun q => b q.2)]
  · rw [if_neg (show ¬ nI p < nI A.ps by rw [nI_ltI (by omega) (by omega)]; exact a), if_neg (show ¬ (p < A.ps ∧ kN (A.pc p) < 5) from fun q => a q.1)]
def clT (T : Ob) (l a b c : Nat) : Ob := (T.1, va_up (va_up (va_up T.2 2 (upd (T.2 2) l (nI a))) 3 (upd (T.2 3) l (nI b))) 4 (upd (T.2 4) l (nI c)))
theorem pg_set {T : Ob} {h w l a b c : Nat} (t0 : T.1 0 = nI h) (t1 : T.1 1 = nI w) (hh : h ≤ 4) (hw : w ≤ 4) (hl : l < h + w) : fX4_setClue T (nI l) (nI a) (nI b) (nI c) = some (clT T l a b c) := by
  have e := a_hasLine t0 t1 hh hw (nI l)
  have q : 0 ≤ (nI l).toInt ∧ (nI l).toInt < ((h + w : Nat) : Int) := by rw [nI_toInt (by omega)]; omega
  have o1 := okI_t (show l < 8 by omega) (by decide)
  unfold fX4_setClue
  rw [e, Option.bind_some, if_neg (izn q), if_pos o1, if_pos o1, if_pos o1, nI_clamp (by omega)]
  rfl
/-! reading the page: the reference -/
def pM (M M' : OM) : Prop := mfr [2, 3, 4, 5] [6, 7, 8] M M' ∧ M'.2.2.2 = M.2.2.2
theorem pM_rfl {M : OM} : pM M M := ⟨mfr_rfl, rfl⟩
theorem pM_tr {M M1 M2 : OM} (a : pM M M1) (b : pM M1 M2) : pM M M2 := ⟨mfr_tr a.1 b.1, b.2.trans a.2⟩
theorem pM_s {A : Ab} {M M1 : OM} (a : pM M M1) (s : MS A M) : MS A M1 := MS_fr s (mfr_mono a.1 (by decide) (by decide))
theorem pM_c {A : Ab} {M M1 : OM} (a : pM M M1) (k : MC A M) : MC A M1 := by
  intro q
  have k1 := k ((a.1.1 20 (by decide)).symm.trans q)
  refine ⟨(a.1.1 22 (by decide)).trans k1.n, ?_, (a.1.1 9 (by decide)).trans k1.wk.1, (a.1.1 10 (by decide)).trans k1.wk.2.1, k1.wk.2.2.1, ?_⟩
  · rw [a.1.2.1 23 (by decide)]; exact k1.b
  · rw [a.2]; exact k1.wk.2.2.2
theorem pM_f (M : OM) (f : Nat → Int32) (g : Nat → Nat → Int32) (hf : fr1 [2, 3, 4, 5] M.1 f) (hg : fr1 [6, 7, 8] M.2.1 g) : pM M (f, g, M.2.2.1, M.2.2.2) := ⟨⟨hf, hg, rfl⟩, rfl⟩
abbrev dg (A : Ab) (h w : Nat) : Prop := 2 ≤ A.ps ∧ A.pc 0 = 48 + h ∧ A.pc 1 = 48 + w ∧ 2 ≤ h ∧ h ≤ 4 ∧ 2 ≤ w ∧ w ≤ 4
theorem z_clamp : (0 : Int32).toNatClampNeg = 0 := rfl
theorem o_clamp : (1 : Int32).toNatClampNeg = 1 := rfl
theorem c_dig {A : Ab} {M : OM} {h w : Nat} (ms : MS A M) (d : dg A h w) : M.2.1 0 0 - (48 : Int32) = nI h ∧ M.2.1 0 1 - (48 : Int32) = nI w := by
  obtain ⟨d0, d1, d2, _⟩ := d
  rw [ms.pc 0 (by omega), ms.pc 1 (by omega), d1, d2, show (48 : Int32) = nI 48 from rfl, pk_sub (by omega), pk_sub (by omega), Nat.add_sub_cancel_left, Nat.add_sub_cancel_left]
  exact ⟨rfl, rfl⟩
theorem c_high {A : Ab} {M : OM} {h w : Nat} (ms : MS A M) (d : dg A h w) : fX6_readHigh M = some (nI h) := by
  unfold fX6_readHigh
  rw [if_pos (by decide), z_clamp, (c_dig ms d).1]
theorem c_lines {A : Ab} {M : OM} {h w : Nat} (ms : MS A M) (d : dg A h w) : fX6_readLines M = some (nI (h + w)) := by
  have e0 := (c_dig ms d).1
  obtain ⟨d0, d1, d2, _⟩ := d
  unfold fX6_readLines
  rw [if_pos (by decide), if_pos (by decide), z_clamp, o_clamp, e0, ms.pc 1 (by omega), d2, nI_add, show (48 : Int32) = nI 48 from rfl, pk_sub (by omega), show h + (48 + w) - 48 = h + w by omega]
theorem c_cells {A : Ab} {M : OM} {h w l : Nat} (ms : MS A M) (d : dg A h w) (m2 : M.1 2 = nI l) (hl : l < 8) : fX6_readCells M = some (nI (lenN h w l)) := by
  have e1 := c_dig ms d
  have e2 := c_high ms d
  obtain ⟨d0, d1, d2, d3, d4, d5, d6⟩ := d
  unfold fX6_readCells
  rw [e2, Option.bind_some, m2]
  unfold lenN
  by_cases a : l < h
  · rw [if_neg (show ¬ nI h ≤ nI l by rw [nI_leI (by omega) (by omega)]; omega), if_pos (by decide), o_clamp, e1.2, if_pos a]
  · rw [if_pos (show nI h ≤ nI l by rw [nI_leI (by omega) (by omega)]; omega), if_pos (by decide), z_clamp, e1.1, if_neg a]
theorem L12_g {n : Nat} {A : Ab} {M M' : OM} {p : Nat} (o : abOK n A) (ms : MS A M) (hp : p < A.ps) (h : fX6_isGood M (nI p) = some (1, M')) : fX6_faultOf_L12 (nI p) M = some (.inl (nI (p + 1), M')) := by
  have := o.ps
  unfold fX6_faultOf_L12
  rw [ms.ps, if_neg (show ¬ nI A.ps ≤ nI p by rw [nI_leI (by omega) (by omega)]; omega), h, Option.bind_some]
  dsimp only
  rw [if_neg (by decide), nI_1]
theorem L12_b {n : Nat} {A : Ab} {M M' : OM} {p : Nat} (o : abOK n A) (ms : MS A M) (hp : p < A.ps) (h : fX6_isGood M (nI p) = some (0, M')) : fX6_faultOf_L12 (nI p) M = some (.inr (nI p, M')) := by
  have := o.ps
  unfold fX6_faultOf_L12
  rw [ms.ps, if_neg (show ¬ nI A.ps ≤ nI p by rw [nI_leI (by omega) (by omega)]; omega), h, Option.bind_some]
  dsimp only
  rw [if_pos rfl]
theorem L12_e {A : Ab} {M : OM} (ms : MS A M) : fX6_faultOf_L12 (nI A.ps) M = some (.inr (nI A.ps, M)) := by
  unfold fX6_faultOf_L12
  rw [ms.ps, if_pos (Int32.le_refl _)]
theorem cd_i {n : Nat} {A : Ab} (o : abOK n A) {p : Nat} (hp : p < A.ps) : (nI (A.pc p) - (48 : Int32)).toInt = (A.pc p : Int) - 48 := pk_sub_toInt (a := A.pc p) (b := 48) (by have := o.pc p hp; omega) (by decide)
theorem c_gd {n : Nat} {A : Ab} {M : OM} {p : Nat} (o : abOK n A) (ms : MS A M) (hp : p < A.ps) (h2 : p < 2) : fX6_isGood M (nI p) = some (iz (50 ≤ A.pc p ∧ A.pc p ≤ 52), M) := by
  have hps := o.ps
  have b := o.pc p hp
  have e := c_inL (nI (A.pc p)) 50 52 (a' := 50) (b' := 52) (p := 50) (q := 52) rfl rfl rfl rfl
  have e2 : iz (50 ≤ (nI (A.pc p)).toInt ∧ (nI (A.pc p)).toInt ≤ 52) = iz (50 ≤ A.pc p ∧ A.pc p ≤ 52) := iz_c (by rw [nI_toInt (by omega)]; omega)
  unfold fX6_isGood
  rw [if_pos (okI_t (show p < 36 by omega) (by decide)), if_neg (show ¬ (2 : Int32) ≤ nI p by rw [show (2 : Int32) = nI 2 from rfl, nI_leI (by omega) (by omega)]; omega), nI_clamp (by omega), ms.pc p hp, e, Option.bind_some, if_pos iz_z, e2]
theorem c_g22 {n : Nat} {A : Ab} {M : OM} (o : abOK n A) (ms : MS A M) (hp : 2 < A.ps) : ∃ M', fX6_isGood M (nI 2) = some (iz (A.pc 2 = 59), M') ∧ pM M M' ∧ M'.1 2 = nI 0 ∧ M'.1 3 = 0 ∧ M'.2.1 = M.2.1 := by
  have b := o.pc 2 hp
  refine ⟨(va_up (va_up M.1 2 (0 : Int32)) 3 (0 : Int32), M.2.1, M.2.2.1, M.2.2.2), ?_, pM_f _ _ _ (fr1_up (fr1_up fr1_rfl (by decide)) (by decide)) fr1_rfl, rfl, rfl, rfl⟩
  have j : nI (A.pc 2) = (59 : Int32) ↔ A.pc 2 = 59 := nI_eq (b := 59) (by omega) (by decide)
  unfold fX6_isGood
  rw [if_pos (okI_t (show 2 < 36 by decide) (by decide)), if_pos (show (2 : Int32) ≤ nI 2 by decide), if_pos (show nI 2 = (2 : Int32) from rfl), nI_clamp (by decide), ms.pc 2 hp]
  by_cases a : A.pc 2 = 59
  · rw [if_pos (j.mpr a), iz_t a]
  · rw [if_neg (fun q => a (j.mp q)), iz_f a]
theorem gd_3 {n : Nat} {A : Ab} {M : OM} {p : Nat} (o : abOK n A) (ms : MS A M) (hp : p < A.ps) (h3 : 3 ≤ p) {R : Option (Int32 × OM)} (h : (if (M.1 3) = 0 then ((fX6_isKindLetter M (nI (A.pc p))).bind (fun r => (fun r82 T82 => (if okZ r82 = true then some (r82, T82) else none)) r.1 r.2))
 else (if (M.1 3) = 1 then ((fX6_isFirstLetter M (nI (A.pc p))).bind (fun r => (fun r88 T88 => (if okZ r88 = true then some (r88, T88) else none)) r.1 r.2))
 else (if (M.1 3) = 2 then ((fX6_isSecondLetter M (nI (A.pc p))).bind (fun r => (fun r94 T94 => (if okZ r94 = true then some (r94, T94) else none)) r.1 r.2))
 else ((fX6_isBehindLetter M (nI (A.pc p))).bind (fun r => (fun r100 T100 => (if okZ r100 = true then some (r100, T100) else none)) r.1 r.2))))) = R) : fX6_isGood M (nI p) = R := by
  have hps := o.ps
  unfold fX6_isGood
  rw [if_pos (okI_t (show p < 36 by omega) (by decide)), if_pos (show (2 : Int32) ≤ nI p by rw [show (2 : Int32) = nI 2 from rfl, nI_leI (by omega) (by omega)]; omega), if_neg (show ¬ nI p = (2 : Int32) by rw [show (2 : Int32) = nI 2 from rfl, nI_eq (by omega) (by omega)]; omega), nI_clamp (by omega), ms.pc p hp]
  exact h
theorem c_g0 {n : Nat} {A : Ab} {M : OM} {p l : Nat} (o : abOK n A) (ms : MS A M) (hp : p < A.ps) (h3 : 3 ≤ p) (m2 : M.1 2 = nI l) (hl : l < 8) (m3 : M.1 3 = 0) : ∃ M', fX6_isGood M (nI p) = some (iz (kN (A.pc p) < 5), M') ∧ pM M M' ∧ (kN (A.pc p) < 5 → M'.1 2 = nI l ∧ M'.1 3 = 1 ∧ M'.1 4 = nI (kN (A.pc p)) ∧ M'.2.1 6 = upd (M.2.1 6) l (nI (kN (A.pc p))) ∧ M'.2.1 7 = M.2.1 7 ∧ M'.2.1 8 = upd (M.2.1 8) l 0) := by
  have b := o.pc p hp
  have k2 := la1 kN_2 (show A.pc p < 127 by omega)
  have o1 := okI_t hl (by decide)
  by_cases a : kN (A.pc p) < 5
  · rw [if_pos a] at k2
    refine ⟨(va_up (va_up M.1 3 (1 : Int32)) 4 (nI (kN (A.pc p))), va_up (va_up M.2.1 6 (upd (M.2.1 6) l (nI (kN (A.pc p))))) 8 (upd (M.2.1 8) l (0 : Int32)), M.2.2.1, M.2.2.2), gd_3 o ms hp h3 ?_, pM_f _ _ _ (fr1_up (fr1_up fr1_rfl (by decide)) (by decide)) (fr1_up (fr1_up fr1_rfl (by decide)) (by decide)), fun _ => ⟨m2, rfl, rfl, rfl, rfl, rfl⟩⟩
    rw [if_pos m3]
    unfold fX6_isKindLetter
    rw [k2, Option.bind_some, if_neg (nI_ne1 (by omega)), m2, if_pos o1, if_pos o1, nI_clamp (by omega)]
    unfold fX6_isKindLetter_J44
    dsimp only
    rw [if_neg (show ¬ va_up (va_up M.1 3 (1 : Int32)) 4 (nI (kN (A.pc p))) 4 = (-1 : Int32) by rw [vu_s]; exact nI_ne1 (by omega)), Option.bind_some, iz_t a]
    rfl
  · rw [if_neg a] at k2
    refine ⟨(va_up (va_up M.1 3 (1 : Int32)) 4 (-1 : Int32), M.2.1, M.2.2.1, M.2.2.2), gd_3 o ms hp h3 ?_, pM_f _ _ _ (fr1_up (fr1_up fr1_rfl (by decide)) (by decide)) fr1_rfl, fun q => absurd q a⟩
    rw [if_pos m3]
    unfold fX6_isKindLetter
    rw [k2, Option.bind_some, if_pos rfl]
    unfold fX6_isKindLetter_J44
    dsimp only
    rw [if_pos (show va_up (va_up M.1 3 (1 : Int32)) 4 (-1 : Int32) 4 = (-1 : Int32) by rw [vu_s]), Option.bind_some, iz_f a]
    rfl
theorem c_J37 {n : Nat} {A : Ab} {M : OM} {h w l p : Nat} (o : abOK n A) (ms : MS A M) (d : dg A h w) (hp : p < A.ps) (m2 : M.1 2 = nI l) (hl : l < 8) (m5 : M.1 5 = nI (A.pc p) - (48 : Int32)) {s0 : Int32} : fX6_isFirstLetter_J37 s0 M = some (iz (48 ≤ A.pc p ∧ A.pc p ≤ 48 + lenN h w l), (va_up M.1 3 s0, M.2.1, M.2.2.1, M.2.2.2)) := by
  have hlen := lenN_le (l := l) d.2.2.2.2.1 d.2.2.2.2.2.2
  have p1 : pM M (va_up M.1 3 s0, M.2.1, M.2.2.1, M.2.2.2) := pM_f _ _ _ (fr1_up fr1_rfl (by decide)) fr1_rfl
  have e1 : fX6_readCells (va_up M.1 3 s0, M.2.1, M.2.2.1, M.2.2.2) = some (nI (lenN h w l)) := c_cells (pM_s p1 ms) d m2 hl
  have e2 := c_inL (nI (A.pc p) - (48 : Int32)) 0 (nI (lenN h w l)) (a' := 0) (b' := (nI (lenN h w l)).toInt64) (p := 0) (q := lenN h w l) rfl rfl rfl (nI_toInt (by omega))
  have e3 : iz (0 ≤ (nI (A.pc p) - (48 : Int32)).toInt ∧ (nI (A.pc p) - (48 : Int32)).toInt ≤ (lenN h w l : Nat)) = iz (48 ≤ A.pc p ∧ A.pc p ≤ 48 + lenN h w l) := iz_c (by rw [cd_i o hp]; omega)
  unfold fX6_isFirstLetter_J37
  rw [e1, Option.bind_some, m5, e2, Option.bind_some, if_pos iz_z, e3]
theorem c_g1 {n : Nat} {A : Ab} {M : OM} {h w p l k : Nat} (o : abOK n A) (ms : MS A M) (d : dg A h w) (hp : p < A.ps) (h3 : 3 ≤ p) (m2 : M.1 2 = nI l) (hl : l < 8) (m3 : M.1 3 = 1) (m4 : M.1 4 = nI k) (hk : k < 5) : ∃ M', fX6_isGood M (nI p) = some (iz (48 ≤ A.pc p ∧ A.pc p ≤ 48 + lenN h w l), M') ∧ pM M M' ∧ M'.1 2 = nI l ∧ M'.1 3 = (if dbN k = true then 2 else 3) ∧ M'.1 5 = nI (A.pc p) - (48 : Int32) ∧ M'.2.1 6 = M.2.1 6 ∧ M'.2.1 7 = upd (M.2.1 7) l (nI (A.pc p) - (48 : Int32)) ∧ M'.2.1 8 = M.2.1 8 := by
  have o1 := okI_t hl (by decide)
  obtain ⟨_, d2⟩ := la1 db_1 hk
  have p1 : pM M (va_up M.1 5 (nI (A.pc p) - (48 : Int32)), va_up M.2.1 7 (upd (M.2.1 7) l (nI (A.pc p) - (48 : Int32))), M.2.2.1, M.2.2.2) := pM_f _ _ _ (fr1_up fr1_rfl (by decide)) (fr1_up fr1_rfl (by decide))
  have jj := fun s0 => c_J37 (s0 := s0) o (pM_s p1 ms) d hp m2 hl rfl
  refine ⟨(va_up (va_up M.1 5 (nI (A.pc p) - (48 : Int32))) 3 (if dbN k = true then 2 else 3), va_up M.2.1 7 (upd (M.2.1 7) l (nI (A.pc p) - (48 : Int32))), M.2.2.1, M.2.2.2), gd_3 o ms hp h3 ?_, pM_f _ _ _ (fr1_up (fr1_up fr1_rfl (by decide)) (by decide)) (fr1_up fr1_rfl (by decide)), m2, rfl, rfl, rfl, rfl, rfl⟩
  rw [m3, if_neg (by decide), if_pos rfl]
  unfold fX6_isFirstLetter
  rw [m2, if_pos o1, m4, d2, Option.bind_some, nI_clamp (by omega)]
  by_cases a : dbN k = true
  · rw [a, if_neg (show ¬ nI true.toNat = 0 by decide), jj, Option.bind_some, if_pos rfl]
    dsimp only
    rw [if_pos iz_z]
  · have a : dbN k = false := by simpa using a
    rw [a, if_pos (show nI false.toNat = 0 from rfl), jj, Option.bind_some, if_neg (by decide)]
    dsimp only
    rw [if_pos iz_z]
theorem c_g2 {n : Nat} {A : Ab} {M : OM} {h w p l f : Nat} (o : abOK n A) (ms : MS A M) (d : dg A h w) (hp : p < A.ps) (h3 : 3 ≤ p) (m2 : M.1 2 = nI l) (hl : l < 8) (m3 : M.1 3 = 2) (m5 : M.1 5 = nI f) (hf : f ≤ lenN h w l) : ∃ M', fX6_isGood M (nI p) = some (iz (48 ≤ A.pc p ∧ A.pc p ≤ 48 + msN (lenN h w l) f), M') ∧ pM M M' ∧ M'.1 2 = nI l ∧ M'.1 3 = 3 ∧ M'.2.1 6 = M.2.1 6 ∧ M'.2.1 7 = M.2.1 7 ∧ M'.2.1 8 = upd (M.2.1 8) l (nI (A.pc p) - (48 : Int32)) := by
  have hlen := lenN_le (l := l) d.2.2.2.2.1 d.2.2.2.2.2.2
  have o1 := okI_t hl (by decide)
  have p1 : pM M (va_up M.1 3 (3 : Int32), va_up M.2.1 8 (upd (M.2.1 8) l (nI (A.pc p) - (48 : Int32))), M.2.2.1, M.2.2.2) := pM_f _ _ _ (fr1_up fr1_rfl (by decide)) (fr1_up fr1_rfl (by decide))
  have e1 := c_cells (pM_s p1 ms) d m2 hl
  obtain ⟨_, e4⟩ := la2 ms_1 (show lenN h w l < 5 by omega) (show f < 5 by omega) hf
  have hms : msN (lenN h w l) f < 5 := by unfold msN; split <;> omega
  have e2 := c_inL (nI (A.pc p) - (48 : Int32)) 0 (nI (msN (lenN h w l) f)) (a' := 0) (b' := (nI (msN (lenN h w l) f)).toInt64) (p := 0) (q := msN (lenN h w l) f) rfl rfl rfl (nI_toInt (by omega))
  have e3 : iz (0 ≤ (nI (A.pc p) - (48 : Int32)).toInt ∧ (nI (A.pc p) - (48 : Int32)).toInt ≤ (msN (lenN h w l) f : Nat)) = iz (48 ≤ A.pc p ∧ A.pc p ≤ 48 + msN (lenN h w l) f) := iz_c (by rw [cd_i o hp]; omega)
  refine ⟨(va_up M.1 3 (3 : Int32), va_up M.2.1 8 (upd (M.2.1 8) l (nI (A.pc p) - (48 : Int32))), M.2.2.1, M.2.2.2), gd_3 o ms hp h3 ?_, p1, m2, rfl, rfl, rfl, rfl⟩
  rw [m3, if_neg (by decide), if_neg (by decide), if_pos rfl]
  unfold fX6_isSecondLetter
  rw [m2, if_pos o1, nI_clamp (by omega), e1, Option.bind_some, m5, e4, Option.bind_some, e2, Option.bind_some, if_pos iz_z, Option.bind_some]
  dsimp only
  rw [if_pos iz_z, e3]
theorem c_g3 {n : Nat} {A : Ab} {M : OM} {h w p l : Nat} (o : abOK n A) (ms : MS A M) (d : dg A h w) (hp : p < A.ps) (h3 : 3 ≤ p) (m2 : M.1 2 = nI l) (hl : l < 8) (m3 : M.1 3 = 3) : ∃ M', fX6_isGood M (nI p) = some (iz (l + 1 < h + w ∧ A.pc p = if l + 1 = h then 59 else 44), M') ∧ pM M M' ∧ M'.1 2 = nI (l + 1) ∧ M'.1 3 = 0 ∧ M'.2.1 = M.2.1 := by
  have b := o.pc p hp
  have p1 : pM M (va_up (va_up M.1 2 (nI (l + 1))) 3 (0 : Int32), M.2.1, M.2.2.1, M.2.2.2) := pM_f _ _ _ (fr1_up (fr1_up fr1_rfl (by decide)) (by decide)) fr1_rfl
  have e1 := c_lines (pM_s p1 ms) d
  have e2 := c_high (pM_s p1 ms) d
  obtain ⟨d0, d1, d2, d3, d4, d5, d6⟩ := d
  refine ⟨(va_up (va_up M.1 2 (nI (l + 1))) 3 (0 : Int32), M.2.1, M.2.2.1, M.2.2.2), gd_3 o ms hp h3 ?_, p1, rfl, rfl, rfl⟩
  rw [m3, if_neg (by decide), if_neg (by decide), if_neg (by decide)]
  unfold fX6_isBehindLetter
  rw [m2, nI_1, e1, Option.bind_some]
  by_cases a : l + 1 < h + w
  · rw [if_neg (show ¬ nI (h + w) ≤ nI (l + 1) by rw [nI_leI (by omega) (by omega)]; omega), e2, Option.bind_some]
    have j : ∀ q, q < 100 → (nI (A.pc p) = nI q ↔ A.pc p = q) := fun q hq => nI_eq (by omega) (by omega)
    have key : ∀ q, q < 100 → (fX6_isBehindLetter_J45 (nI q) (nI (A.pc p)) (va_up (va_up M.1 2 (nI (l + 1))) 3 (0 : Int32), M.2.1, M.2.2.1, M.2.2.2)) = some (iz (A.pc p = q), (va_up (va_up M.1 2 (nI (l + 1))) 3 (0 : Int32), M.2.1, M.2.2.1, M.2.2.2)) := fun q hq => by
      unfold fX6_isBehindLetter_J45
      by_cases c : A.pc p = q
      · rw [if_pos ((j q hq).mpr c), iz_t c]
      · rw [if_neg (fun z => c ((j q hq).mp z)), iz_f c]
    by_cases c : l + 1 = h
    · rw [if_pos (show nI (l + 1) = nI h by rw [c]), show (59 : Int32) = nI 59 from rfl, key 59 (by decide), Option.bind_some]
      dsimp only
      rw [if_pos iz_z, iz_c (show A.pc p = 59 ↔ (l + 1 < h + w ∧ A.pc p = if l + 1 = h then 59 else 44) by rw [if_pos c]; exact ⟨fun q => ⟨a, q⟩, fun q => q.2⟩)]
    · rw [if_neg (show ¬ nI (l + 1) = nI h by rw [nI_eq (by omega) (by omega)]; exact c), show (44 : Int32) = nI 44 from rfl, key 44 (by decide), Option.bind_some]
      dsimp only
      rw [if_pos iz_z, iz_c (show A.pc p = 44 ↔ (l + 1 < h + w ∧ A.pc p = if l + 1 = h then 59 else 44) by rw [if_neg c]; exact ⟨fun q => ⟨a, q⟩, fun q => q.2⟩)]
  · rw [if_pos (show nI (h + w) ≤ nI (l + 1) by rw [nI_leI (by omega) (by omega)]; omega), Option.bind_some]
    dsimp only
    rw [if_pos (by decide), iz_f (fun q => a q.1)]
