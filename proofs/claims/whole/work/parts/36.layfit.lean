/-! bits of longs -/
def bitL (x : Int64) (b : Nat) : Bool := x.toBitVec.getLsbD b
theorem bl_0 (b : Nat) : bitL 0 b = false := by
  show (0#64).getLsbD b = false
  exact BitVec.getLsbD_zero
theorem bl_tp : ∀ k, k < 64 → ((1 : Int64) <<< ((nI k).toInt64 &&& 63)).toBitVec = BitVec.twoPow 64 k := by decide +kernel
theorem bl_or (x : Int64) {k : Nat} (hk : k < 64) (b : Nat) : bitL (x ||| ((1 : Int64) <<< ((nI k).toInt64 &&& 63))) b = (bitL x b || decide (k = b)) := by
  unfold bitL
  rw [Int64.toBitVec_or, BitVec.getLsbD_or, bl_tp k hk, BitVec.getLsbD_twoPow]
  simp [hk]
theorem bl_sm : ∀ k, k < 64 → (((nI k).toInt64 &&& 63).toBitVec.smod 64).toNat = k := by decide +kernel
theorem bl_sh (x : Int64) {k : Nat} (hk : k < 64) : bitL (x >>> ((nI k).toInt64 &&& 63)) 0 = bitL x k := by
  unfold bitL
  rw [Int64.toBitVec_shiftRight, BitVec.sshiftRight_eq', BitVec.getLsbD_sshiftRight, bl_sm k hk]
  simp [hk]
theorem bl_a1 (x : Int64) : (x &&& 1 = 1) ↔ bitL x 0 = true := by
  have e : (x &&& 1).toBitVec.toNat = x.toBitVec.toNat % 2 := by
    rw [Int64.toBitVec_and, BitVec.toNat_and]
    exact Nat.and_one_is_mod _
  have g : bitL x 0 = decide (x.toBitVec.toNat % 2 = 1) := by
    unfold bitL
    rw [BitVec.getLsbD, Nat.testBit_zero]
  rw [g, decide_eq_true_iff]
  constructor
  · intro h
    rw [h] at e
    exact e.symm
  · intro h
    apply Int64.toBitVec_inj.mp
    apply BitVec.eq_of_toNat_eq
    rw [e, h]
    rfl
theorem bl_z (x : Int64) : x = 0 ↔ ∀ b, b < 64 → bitL x b = false := by
  constructor
  · intro h b _
    rw [h]; exact bl_0 b
  · intro h
    apply Int64.toBitVec_inj.mp
    apply BitVec.eq_of_getLsbD_eq
    intro i hi
    rw [show x.toBitVec.getLsbD i = false from h i hi]
    exact (bl_0 i).symm
theorem lg_0 (x y : Int64) : lg_cmp x y = 0 ↔ x = y := by
  unfold lg_cmp
  by_cases a : x > y
  · rw [if_pos a]
    exact ⟨fun h => absurd h (by decide), fun h => absurd a (by rw [h]; exact fun q => Int64.lt_irrefl q)⟩
  · rw [if_neg a]
    by_cases b : x = y
    · rw [if_pos b]; exact ⟨fun _ => b, fun _ => rfl⟩
    · rw [if_neg b]; exact ⟨fun h => absurd h (by decide), fun h => absurd h b⟩
/-! zeroing -/
theorem zr_i (f : Nat → Int32) (k : Nat) : upd (fun j => if j < k then 0 else f j) k 0 = fun j => if j < k + 1 then 0 else f j := by
  funext j
  by_cases h : j = k
  · subst h; rw [up_s, if_pos (Nat.lt_succ_self _)]
  · rw [up_n _ _ h]
    have : (j < k + 1) ↔ (j < k) := by omega
    simp only [this]
theorem zr_l (f : Nat → Int64) (k : Nat) : vp_updL (fun j => if j < k then 0 else f j) k 0 = fun j => if j < k + 1 then 0 else f j := by
  funext j
  unfold vp_updL
  by_cases h : j = k
  · subst h; simp
  · have : (j < k + 1) ↔ (j < k) := by omega
    simp [h, this]
theorem zr_0 {α : Type} (f : Nat → α) (v : α) : (fun j => if j < 0 then v else f j) = f := by
  funext j
  rw [if_neg (Nat.not_lt_zero j)]
/-- how many of the first k are so; how many of them have the bit j -/
def cntF (F : Nat → Bool) : Nat → Nat
  | 0 => 0
  | k + 1 => cntF F k + (F k).toNat
def blkF (F : Nat → Bool) (j : Nat) : Nat → Nat
  | 0 => 0
  | k + 1 => blkF F j k + (if F k = true then bq k j else 0)
theorem cntF_le (F : Nat → Bool) (k : Nat) : cntF F k ≤ k := by
  induction k with
  | zero => exact Nat.le_refl _
  | succ k ih => show cntF F k + (F k).toNat ≤ k + 1; cases F k <;> simp <;> omega
theorem blkF_le (F : Nat → Bool) (j k : Nat) : blkF F j k ≤ cntF F k := by
  induction k with
  | zero => exact Nat.le_refl _
  | succ k ih =>
    show blkF F j k + _ ≤ cntF F k + (F k).toNat
    have := bq_le k j
    cases F k <;> simp <;> omega
/-- the reference's fits are those of F, of the first n -/
def fitsM (M : OM) (F : Nat → Bool) (n : Nat) : Prop := M.1 22 = nI (cntF F n) ∧ (∀ j, j < 16 → M.2.1 23 j = nI (blkF F j n)) ∧ ∀ q, q < 65536 → bitL (M.2.2.2 (q / 64)) (q % 64) = (decide (q < n) && F q)
theorem c_addBlacks (M : OM) {p : Nat} (hp : p < 2 ^ 16) (x1 x2 : Int32) : wh (σ := Int32 × OM) (ρ := OM) (fun t => fX6_layFit_L122 x1 x2 (nI p) t.1 t.2) 100000 ((0 : Int32), M) = some (M.1, va_up M.2.1 23 (fun j => if j < 16 then M.2.1 23 j + nI (bq p j) else M.2.1 23 j), M.2.2.1, M.2.2.2) := by
  refine wh_for0 (fun k => (nI k, (M.1, va_up M.2.1 23 (fun j => if j < k then M.2.1 23 j + nI (bq p j) else M.2.1 23 j), M.2.2.1, M.2.2.2))) 16 ?_ (by decide) ?_ rfl
  · have e : va_up M.2.1 23 (fun j => if j < 0 then M.2.1 23 j + nI (bq p j) else M.2.1 23 j) = M.2.1 := by
      have : (fun j => if j < 0 then M.2.1 23 j + nI (bq p j) else M.2.1 23 j) = M.2.1 23 := by
        funext j
        rw [if_neg (Nat.not_lt_zero j)]
      rw [this, vu_id]
    show ((0 : Int32), M) = (nI 0, _)
    rw [e]
    rfl
  · intro k hk
    have c1 : ¬ (16 : Int32) ≤ nI k := by rw [show (16 : Int32) = nI 16 from rfl, nI_leI (by omega) (by omega)]; omega
    have o1 := okI_t (show k < 16 from hk) (by decide)
    have cl : (nI k).toNatClampNeg = k := nI_clamp (by omega)
    have ek : nI k + (1 : Int32) = nI (k + 1) := nI_1 k
    show fX6_layFit_L122 x1 x2 (nI p) (nI k) (M.1, va_up M.2.1 23 (fun j => if j < k then M.2.1 23 j + nI (bq p j) else M.2.1 23 j), M.2.2.1, M.2.2.2) = _
    simp only [fX6_layFit_L122, c1, if_false, o1, if_true, cl, ek, vu_s, vu_u, nbit (show p < 2 ^ 31 by omega) (show k < 32 by omega), Nat.lt_irrefl]
    refine congrArg some (congrArg Sum.inl (Prod.ext rfl (Prod.ext rfl (Prod.ext ?_ rfl))))
    refine congrArg (va_up M.2.1 23) ?_
    funext j
    by_cases h : j = k
    · subst h; rw [up_s, if_pos (Nat.lt_succ_self _)]
    · rw [up_n _ _ h]
      have : (j < k + 1) ↔ (j < k) := by omega
      simp only [this]
set_option maxHeartbeats 1000000 in
theorem c_layFit {M : OM} {h w : Nat} {kd fr sc mk : Nat → Nat} {wo : Nat → Bool} (h9 : M.1 9 = nI h) (h10 : M.1 10 = nI w) (hh : h ≤ 4) (hw : w ≤ 4) (hc : cluM M (h + w) kd fr sc) (hmk : ∀ j, j < h * w → M.2.1 15 j = nI (mk j) ∧ mk j < 3) (hwo : ∀ l, l < 8 → (nI l = M.1 25 ↔ wo l = true)) :
    ∃ M', fX6_layFit M = some M' ∧ mfr [16, 17, 18, 19, 22] [23, 24] M M' ∧ fitsM M' (fitN h w (tabB (h + w) kd fr sc wo) (mskN mk 1 (h * w)) (mskN mk 2 (h * w))) (2 ^ (h * w)) := by
  have hm : h * w ≤ 16 := Nat.mul_le_mul hh hw
  have hpw : 2 ^ (h * w) ≤ 2 ^ 16 := pw_le hm
  obtain ⟨T, t1, t2, t3, t4⟩ := c_layTable h9 h10 hh hw hc hwo
  have T9 : T.1 9 = nI h := (t2.1 9 (by decide)).trans h9
  have T10 : T.1 10 = nI w := (t2.1 10 (by decide)).trans h10
  have T15 : T.2.1 15 = M.2.1 15 := t2.2.1 15 (by decide)
  -- the fits are emptied
  have z1 : wh (σ := Int32 × OM) (ρ := OM) (fun t => fX6_layFit_L6 t.1 t.2) 100000 ((0 : Int32), T) = some (T.1, T.2.1, T.2.2.1, fun j => if j < 1024 then 0 else T.2.2.2 j) := by
    refine wh_for0 (fun k => (nI k, (T.1, T.2.1, T.2.2.1, fun j => if j < k then 0 else T.2.2.2 j))) 1024 ?_ (by decide) ?_ rfl
    · rw [zr_0]; rfl
    · intro k hk
      have c1 : ¬ (1024 : Int32) ≤ nI k := by rw [show (1024 : Int32) = nI 1024 from rfl, nI_leI (by omega) (by omega)]; omega
      have o1 := okI_t (show k < 1024 from hk) (by decide)
      have cl : (nI k).toNatClampNeg = k := nI_clamp (by omega)
      have ek : nI k + (1 : Int32) = nI (k + 1) := nI_1 k
      show fX6_layFit_L6 (nI k) (T.1, T.2.1, T.2.2.1, fun j => if j < k then 0 else T.2.2.2 j) = _
      simp only [fX6_layFit_L6, c1, if_false, o1, if_true, cl, ek, zr_l]
  generalize hB : (fun j => if j < 1024 then (0 : Int64) else T.2.2.2 j) = B at z1
  have z2 : wh (σ := Int32 × OM) (ρ := OM) (fun t => fX6_layFit_L28 t.1 t.2) 100000 ((0 : Int32), (T.1, T.2.1, T.2.2.1, B)) = some (T.1, va_up T.2.1 23 (fun j => if j < 16 then 0 else T.2.1 23 j), T.2.2.1, B) := by
    refine wh_for0 (fun k => (nI k, (T.1, va_up T.2.1 23 (fun j => if j < k then 0 else T.2.1 23 j), T.2.2.1, B))) 16 ?_ (by decide) ?_ rfl
    · rw [zr_0, vu_id]; rfl
    · intro k hk
      have c1 : ¬ (16 : Int32) ≤ nI k := by rw [show (16 : Int32) = nI 16 from rfl, nI_leI (by omega) (by omega)]; omega
      have o1 := okI_t (show k < 16 from hk) (by decide)
      have cl : (nI k).toNatClampNeg = k := nI_clamp (by omega)
      have ek : nI k + (1 : Int32) = nI (k + 1) := nI_1 k
      show fX6_layFit_L28 (nI k) (T.1, va_up T.2.1 23 (fun j => if j < k then 0 else T.2.1 23 j), T.2.2.1, B) = _
      simp only [fX6_layFit_L28, c1, if_false, o1, if_true, cl, ek, vu_s, vu_u, zr_i]
  generalize hG : (fun j => if j < 16 then (0 : Int32) else T.2.1 23 j) = G at z2
  -- the walk over all pictures
  let N : OM := (va_up T.1 22 0, va_up T.2.1 23 G, T.2.2.1, B)
  have N9 : N.1 9 = nI h := T9
  have N10 : N.1 10 = nI w := T10
  have hmkN : ∀ j, j < h * w → N.2.1 15 j = nI (mk j) ∧ mk j < 3 := fun j hj => by
    show T.2.1 15 j = _ ∧ _
    rw [T15]; exact hmk j hj
  have m1 := c_marked N9 N10 hm hmkN (how := 1) (by decide)
  have m2 := c_marked N9 N10 hm hmkN (how := 2) (by decide)
  have l1 : mskN mk 1 (h * w) < 2 ^ 16 := Nat.lt_of_lt_of_le (mskN_lt _ _ _) hpw
  have l2 : mskN mk 2 (h * w) < 2 ^ 16 := Nat.lt_of_lt_of_le (mskN_lt _ _ _) hpw
  generalize mskN mk 1 (h * w) = bl at *
  generalize mskN mk 2 (h * w) = wt at *
  generalize hF : fitN h w (tabB (h + w) kd fr sc wo) bl wt = F
  have key : ∃ M', wh (σ := Int32 × OM) (ρ := OM) (fun t => fX6_layFit_L66 (nI bl) (nI wt) t.1 t.2) 100000 ((0 : Int32), N) = some M' ∧ (mfr [22] [23] N M' ∧ fitsM M' F (2 ^ (h * w))) := by
    refine wh_inv (fun k t => t.1 = nI k ∧ mfr [22] [23] N t.2 ∧ fitsM t.2 F k) _ (2 ^ (h * w)) ?_ ?_ ⟨rfl, mfr_rfl, rfl, fun j hj => ?_, fun q hq => ?_⟩ (by omega)
    · rintro k ⟨x, M1⟩ hk ⟨e1, e2, e3, e4, e5⟩
      dsimp only at e1 e2 e3 e4 e5
      subst e1
      have hk16 : k < 2 ^ 16 := by omega
      have g9 : M1.1 9 = nI h := (e2.1 9 (by decide)).trans N9
      have g10 : M1.1 10 = nI w := (e2.1 10 (by decide)).trans N10
      have g24 : M1.2.1 24 = T.2.1 24 := e2.2.1 24 (by decide)
      have c0 : (1 : Int32) <<< ((nI h * nI w) &&& 31) = nI (2 ^ (h * w)) := by rw [pk_mul]; exact sh1 (by omega)
      have c1 : ¬ nI (2 ^ (h * w)) ≤ nI k := by rw [nI_leI (by omega) (by omega)]; omega
      have fi := c_isFitting (tb := tabB (h + w) kd fr sc wo) g9 g10 hh hw (fun l hl c hc => by rw [g24]; exact t4 l (by omega) c hc) hk16 l1 l2
      rw [hF] at fi
      have ek : nI k + (1 : Int32) = nI (k + 1) := nI_1 k
      by_cases a : F k = true
      · have cd : nI k / (64 : Int32) = nI (k / 64) := pk_div (d := 64) (by omega) (by decide) (by decide)
        have cr : nI k - nI k / (64 : Int32) * (64 : Int32) = nI (k % 64) := pk_rem (d := 64) (by omega) (by decide) (by decide)
        have o1 := okI_t (show k / 64 < 1024 by omega) (by decide)
        have cl : (nI (k / 64)).toNatClampNeg = k / 64 := nI_clamp (by omega)
        have h64 : ¬ (64 : Int32) = 0 := by decide
        have n1 : ¬ (1 : Int32) = 0 := by decide
        have ec : nI (cntF F k) + (1 : Int32) = nI (cntF F k + 1) := nI_1 _
        let M2 : OM := (va_up M1.1 22 (nI (cntF F k + 1)), M1.2.1, M1.2.2.1, vp_updL M1.2.2.2 (k / 64) (M1.2.2.2 (k / 64) ||| ((1 : Int64) <<< ((nI (k % 64)).toInt64 &&& 63))))
        have ab := c_addBlacks M2 hk16 (nI bl) (nI wt)
        refine ⟨(nI (k + 1), (M2.1, va_up M2.2.1 23 (fun j => if j < 16 then M2.2.1 23 j + nI (bq k j) else M2.2.1 23 j), M2.2.2.1, M2.2.2.2)), ?_, rfl, ?_, ?_⟩
        · show fX6_layFit_L66 (nI bl) (nI wt) (nI k) M1 = _
          unfold fX6_layFit_L66
          rw [g9, g10, c0, if_neg c1, fi, iz_t a, Option.bind_some, if_neg n1, if_pos h64, cr, cd, if_pos o1, if_pos h64, if_pos o1, cl, e3, ec, ab, Option.bind_some]
          unfold fX6_layFit_J151
          rw [ek]
        · exact ⟨fr1_up e2.1 (by decide), fr1_up e2.2.1 (by decide), e2.2.2⟩
        · refine ⟨?_, fun j hj => ?_, fun q hq => ?_⟩
          · show nI (cntF F k + 1) = nI (cntF F k + (F k).toNat)
            rw [a]; rfl
          · show (if j < 16 then M1.2.1 23 j + nI (bq k j) else M1.2.1 23 j) = nI (blkF F j k + (if F k = true then bq k j else 0))
            rw [if_pos hj, if_pos a, e4 j hj, nI_add]
          · show bitL (vp_updL M1.2.2.2 (k / 64) _ (q / 64)) (q % 64) = _
            unfold vp_updL
            by_cases b : q / 64 = k / 64
            · rw [if_pos b, bl_or _ (Nat.mod_lt _ (by decide)), ← b, e5 q hq]
              by_cases d : q = k
              · subst d; simp [a]
              · have d1 : ¬ k % 64 = q % 64 := fun e => d (by omega)
                have d2 : (q < k + 1) ↔ (q < k) := by omega
                simp [d1, d2]
            · rw [if_neg b, e5 q hq]
              have d : ¬ q = k := fun e => b (by rw [e])
              have d2 : (q < k + 1) ↔ (q < k) := by omega
              simp [d2]
      · have a0 : F k = false := by simpa using a
        refine ⟨(nI (k + 1), M1), ?_, rfl, e2, ?_, fun j hj => ?_, fun q hq => ?_⟩
        · show fX6_layFit_L66 (nI bl) (nI wt) (nI k) M1 = _
          unfold fX6_layFit_L66
          rw [g9, g10, c0, if_neg c1, fi, iz_f a, Option.bind_some, if_pos rfl]
          unfold fX6_layFit_J151
          rw [ek]
        · show M1.1 22 = nI (cntF F k + (F k).toNat)
          rw [a0]; exact e3
        · show M1.2.1 23 j = nI (blkF F j k + (if F k = true then bq k j else 0))
          rw [if_neg a]; exact e4 j hj
        · show bitL (M1.2.2.2 (q / 64)) (q % 64) = _
          rw [e5 q hq]
          by_cases d : q = k
          · subst d; simp [a0]
          · have d2 : (q < k + 1) ↔ (q < k) := by omega
            simp [d2]
    · rintro ⟨x, M1⟩ ⟨e1, e2, e3⟩
      dsimp only at e1 e2 e3
      subst e1
      have g9 : M1.1 9 = nI h := (e2.1 9 (by decide)).trans N9
      have g10 : M1.1 10 = nI w := (e2.1 10 (by decide)).trans N10
      have c0 : (1 : Int32) <<< ((nI h * nI w) &&& 31) = nI (2 ^ (h * w)) := by rw [pk_mul]; exact sh1 (by omega)
      refine ⟨M1, ?_, e2, e3⟩
      show fX6_layFit_L66 (nI bl) (nI wt) (nI (2 ^ (h * w))) M1 = _
      unfold fX6_layFit_L66
      rw [g9, g10, c0, if_pos (Int32.le_refl _)]
    · show (va_up T.2.1 23 G) 23 j = nI 0
      rw [vu_s, ← hG]
      simp only [hj, if_true]
      rfl
    · show bitL (B (q / 64)) (q % 64) = _
      rw [← hB]
      simp only [show q / 64 < 1024 by omega, if_true]
      rw [bl_0]
      simp
  obtain ⟨M', k1, k2, k3⟩ := key
  refine ⟨M', ?_, ?_, k3⟩
  · unfold fX6_layFit
    rw [t1, Option.bind_some, z1, Option.bind_some]
    unfold fX6_layFit_J26
    rw [z2, Option.bind_some]
    unfold fX6_layFit_J47
    show ((fX6_marked N (nI 1)).bind _) = _
    rw [m1, Option.bind_some]
    show ((fX6_marked N (nI 2)).bind _) = _
    rw [m2, Option.bind_some, k1]
    rfl
  · refine ⟨fun j hj => ?_, fun j hj => ?_, ?_⟩
    · have q1 : j ∉ [22] := fun q => hj (by simp at q; simp [q])
      rw [k2.1 j q1]
      show va_up T.1 22 0 j = _
      rw [vu_n _ _ (fun e => hj (by simp [e]))]
      exact t2.1 j (fun q => hj (by simp at q ⊢; omega))
    · have q1 : j ∉ [23] := fun q => hj (by simp at q; simp [q])
      rw [k2.2.1 j q1]
      show va_up T.2.1 23 G j = _
      rw [vu_n _ _ (fun e => hj (by simp [e]))]
      exact t2.2.1 j (fun q => hj (by simp at q ⊢; omega))
    · rw [k2.2.2]; exact t2.2.2
