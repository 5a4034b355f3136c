def fX6_in  (x0 : Int64) (x2 : Int64) (x4 : Int64) : Option (Int32) :=
  (if (lg_cmp x0 x2) < 0 then some (0 : Int32)
 else (if 0 < (lg_cmp x0 x4) then some (0 : Int32)
 else some (1 : Int32)))
set_option maxHeartbeats 4000000 in
set_option maxRecDepth 100000 in
theorem kX6_in (l : Launch) (D : va_G) (cC cI cJ cZ : ClassId)  (x0 : Int64) (x2 : Int64) (x4 : Int64) (r : Int32) (h : fX6_in x0 x2 x4 = some r) : gMi l yX6_in cX6_in 6 (some .boolean) (gR 1) D (tysG cC cI cJ cZ) [.long x0, .long x2, .long x4] ([]) r ([]) := by
  refine gMi_of (by decide) (Nat.le_of_ble_eq_true rfl) rfl ?_
  intro p e s m args below meth c A Q C hQ
  unfold fX6_in at h
  refine g_lload_n C dX6_in_0 rfl 0 rfl ?_
  refine g_lload_n C dX6_in_1 rfl 1 rfl ?_
  refine g_lcmp C dX6_in_2 ?_
  refine g_if_lt (tgt := 17) C dX6_in_3 (by decide) (fun c3 => ?_) (fun c3 => ?_)
  · have h := ifp h c3
    refine g_iconst (v := (0 : Int32)) C dX6_in_17 (by decide) ?_
    cases sinj h
    exact g_zret C dX6_in_18 rfl rfl rfl hQ
  · have h := ifn h c3
    refine g_lload_n C dX6_in_6 rfl 0 rfl ?_
    refine g_lload C dX6_in_7 2 rfl ?_
    refine g_lcmp C dX6_in_9 ?_
    refine g_if_gt (tgt := 17) C dX6_in_10 (by decide) (fun c10 => ?_) (fun c10 => ?_)
    · have h := ifp h c10
      refine g_iconst (v := (0 : Int32)) C dX6_in_17 (by decide) ?_
      cases sinj h
      exact g_zret C dX6_in_18 rfl rfl rfl hQ
    · have h := ifn h c10
      refine g_iconst (v := (1 : Int32)) C dX6_in_13 (by decide) ?_
      refine g_goto (tgt := 18) C dX6_in_14 (by decide) ?_
      cases sinj h
      exact g_zret C dX6_in_18 rfl rfl rfl hQ
def fX6_copy_L2 (n1 : Nat) (n2 : Nat) (f1 : Nat → Int32) (x2_L2 : Int32) (f2_L2 : Nat → Int32) : Option ((Int32 × (Nat → Int32)) ⊕ ((Nat → Int32))) :=
  (if (Int32.ofNat n1) ≤ x2_L2 then some (.inr f2_L2)
 else (if okI x2_L2 n1 = true then (if okI x2_L2 n2 = true then some (.inl ((x2_L2 + (1 : Int32)), (upd f2_L2 x2_L2.toNatClampNeg (f1 x2_L2.toNatClampNeg)))) else none) else none))
def fX6_copy_J20 (n1 : Nat) (n2 : Nat) (f1 : Nat → Int32) (f2_J20 : Nat → Int32) : Option ((Nat → Int32)) :=
  some f2_J20
def fX6_copy (n1 : Nat) (n2 : Nat) (f1 : Nat → Int32) (f2 : Nat → Int32)  : Option ((Nat → Int32)) :=
  ((wh (σ := Int32 × (Nat → Int32)) (ρ := (Nat → Int32)) (fun t => fX6_copy_L2 n1 n2 f1 t.1 t.2) 100000 ((0 : Int32), f2)).bind (fun f2_E2 => fX6_copy_J20 n1 n2 f1 f2_E2))
set_option maxHeartbeats 4000000 in
set_option maxRecDepth 100000 in
theorem kX6_copy (l : Launch) (D : va_G) (cC cI cJ cZ : ClassId) (b1 : Nat) (b2 : Nat) (n1 : Nat) (n2 : Nat) (f1 : Nat → Int32) (f2 : Nat → Int32)  (f2' : Nat → Int32) (h : fX6_copy n1 n2 f1 f2 = some f2') : gMv l yX6_copy cX6_copy 3 none (gR 1) D (tysG cC cI cJ cZ) [.ref b1, .ref b2] (wArr cI n1 b1 f1 ++ wArr cI n2 b2 f2) (wArr cI n1 b1 f1 ++ wArr cI n2 b2 f2') := by
  refine gMv_of (by decide) (Nat.le_of_ble_eq_true rfl) rfl ?_
  intro p e s m args below meth c A Q C hQ
  have j20 : ∀ (f2_J20 : Nat → Int32), fX6_copy_J20 n1 n2 f1 f2_J20 = some f2' → gG p l e (gR 1) s m args below meth c 3 D A 0 0 Q 20 [] [] (wArr cI n1 b1 f1 ++ wArr cI n2 b2 f2_J20) := by
    intro f2_J20 h
    unfold fX6_copy_J20 at h
    cases sinj h
    exact g_vret C dX6_copy_20 rfl hQ
  unfold fX6_copy at h
  refine g_iconst (v := (0 : Int32)) C dX6_copy_0 (by decide) ?_
  refine g_istore_n (lv' := [(2, .int (0 : Int32)), (0, .ref b1), (1, .ref b2)]) C dX6_copy_1 rfl (by decide) rfl ?_
  obtain ⟨X2, hW2, hK2⟩ := obd h
  have l2 : ∀ (fu2 : Nat) (x2_L2 : Int32) (f2_L2 : Nat → Int32), wh (σ := Int32 × (Nat → Int32)) (ρ := (Nat → Int32)) (fun t => fX6_copy_L2 n1 n2 f1 t.1 t.2) fu2 (x2_L2, f2_L2) = some X2 → gG p l e (gR 1) s m args below meth c 3 D A 0 0 Q 2 [(0, .ref b1), (1, .ref b2), (2, .int x2_L2)] [] (wArr cI n1 b1 f1 ++ wArr cI n2 b2 f2_L2) := by
    intro fu2
    induction fu2 with
    | zero => intro x2_L2 f2_L2 hW; exact (wh_0 hW).elim
    | succ fu2 ih2 =>
      intro x2_L2 f2_L2 hW
      obtain ⟨z2, h, hw2⟩ := wh_s hW
      replace h : fX6_copy_L2 n1 n2 f1 x2_L2 f2_L2 = some z2 := h
      unfold fX6_copy_L2 at h
      refine g_iload_n C dX6_copy_2 rfl 2 rfl ?_
      refine g_aload_n C dX6_copy_3 rfl 0 rfl ?_
      refine g_alen (v := (Int32.ofNat n1)) C dX6_copy_4 0 0 rfl rfl rfl ?_
      refine g_icmp_ge (tgt := 20) C dX6_copy_5 (by decide) (fun c5 => ?_) (fun c5 => ?_)
      · have h := ifp h c5
        obtain rfl := sinj h
        obtain rfl := wk_r hw2
        have h := hK2
        refine g_lv [] rfl ?_
        exact j20 f2_L2 h
      · have h := ifn h c5
        refine g_aload_n C dX6_copy_8 rfl 1 rfl ?_
        refine g_iload_n C dX6_copy_9 rfl 2 rfl ?_
        refine g_aload_n C dX6_copy_10 rfl 0 rfl ?_
        refine g_iload_n C dX6_copy_11 rfl 2 rfl ?_
        obtain ⟨hg12, h⟩ := ifg h
        refine g_iald (f := f1) C dX6_copy_12 0 0 rfl rfl hg12 ?_
        obtain ⟨hg13, h⟩ := ifg h
        refine g_iast (f := f2_L2) (ws2 := wArr cI n1 b1 f1 ++ wArr cI n2 b2 (upd f2_L2 x2_L2.toNatClampNeg (f1 x2_L2.toNatClampNeg))) C dX6_copy_13 1 0 rfl rfl hg13 rfl ?_
        refine g_iinc (j := 2) (v := (x2_L2 + (1 : Int32))) (lv' := [(2, .int (x2_L2 + (1 : Int32))), (0, .ref b1), (1, .ref b2)]) C dX6_copy_14 rfl rfl (by decide) rfl ?_
        refine g_goto (tgt := 2) C dX6_copy_17 (by decide) ?_
        obtain rfl := sinj h
        refine g_lv [1, 2, 0] rfl ?_
        exact ih2 (x2_L2 + (1 : Int32)) (upd f2_L2 x2_L2.toNatClampNeg (f1 x2_L2.toNatClampNeg)) hw2
  refine g_lv [1, 2, 0] rfl ?_
  exact l2 100000 (0 : Int32) f2 hW2
def fX6_ones_L4 (x0_L4 : Int32) (x1_L4 : Int32) (x2_L4 : Int32) : Option ((Int32 × Int32) ⊕ (Int32)) :=
  (if (16 : Int32) ≤ x2_L4 then some (.inr x1_L4)
 else some (.inl ((x1_L4 + ((x0_L4 >>> (x2_L4 &&& 31)) &&& (1 : Int32))), (x2_L4 + (1 : Int32)))))
def fX6_ones_J24 (x1_J24 : Int32) : Option (Int32) :=
  some x1_J24
def fX6_ones  (x0 : Int32) : Option (Int32) :=
  ((wh (σ := Int32 × Int32) (ρ := Int32) (fun t => fX6_ones_L4 x0 t.1 t.2) 100000 ((0 : Int32), (0 : Int32))).bind (fun e1_L4 => fX6_ones_J24 e1_L4))
set_option maxHeartbeats 4000000 in
set_option maxRecDepth 100000 in
theorem kX6_ones (l : Launch) (D : va_G) (cC cI cJ cZ : ClassId)  (x0 : Int32) (r : Int32) (h : fX6_ones x0 = some r) : gMi l yX6_ones cX6_ones 3 (some .int) (gR 1) D (tysG cC cI cJ cZ) [.int x0] ([]) r ([]) := by
  refine gMi_of (by decide) (Nat.le_of_ble_eq_true rfl) rfl ?_
  intro p e s m args below meth c A Q C hQ
  have j24 : ∀ (x1_J24 : Int32), fX6_ones_J24 x1_J24 = some r → gG p l e (gR 1) s m args below meth c 3 D A 0 0 Q 24 [(1, .int x1_J24)] [] ([]) := by
    intro x1_J24 h
    unfold fX6_ones_J24 at h
    refine g_iload_n C dX6_ones_24 rfl 0 rfl ?_
    cases sinj h
    exact g_iret C dX6_ones_25 rfl rfl hQ
  unfold fX6_ones at h
  refine g_iconst (v := (0 : Int32)) C dX6_ones_0 (by decide) ?_
  refine g_istore_n (lv' := [(1, .int (0 : Int32)), (0, .int x0)]) C dX6_ones_1 rfl (by decide) rfl ?_
  refine g_iconst (v := (0 : Int32)) C dX6_ones_2 (by decide) ?_
  refine g_istore_n (lv' := [(2, .int (0 : Int32)), (1, .int (0 : Int32)), (0, .int x0)]) C dX6_ones_3 rfl (by decide) rfl ?_
  obtain ⟨X4, hW4, hK4⟩ := obd h
  have l4 : ∀ (fu4 : Nat) (x1_L4 : Int32) (x2_L4 : Int32), wh (σ := Int32 × Int32) (ρ := Int32) (fun t => fX6_ones_L4 x0 t.1 t.2) fu4 (x1_L4, x2_L4) = some X4 → gG p l e (gR 1) s m args below meth c 3 D A 0 0 Q 4 [(0, .int x0), (1, .int x1_L4), (2, .int x2_L4)] [] ([]) := by
    intro fu4
    induction fu4 with
    | zero => intro x1_L4 x2_L4 hW; exact (wh_0 hW).elim
    | succ fu4 ih4 =>
      intro x1_L4 x2_L4 hW
      obtain ⟨z4, h, hw4⟩ := wh_s hW
      replace h : fX6_ones_L4 x0 x1_L4 x2_L4 = some z4 := h
      unfold fX6_ones_L4 at h
      refine g_iload_n C dX6_ones_4 rfl 2 rfl ?_
      refine g_bipush (v := (16 : Int32)) C dX6_ones_5 (by decide) ?_
      refine g_icmp_ge (tgt := 24) C dX6_ones_7 (by decide) (fun c7 => ?_) (fun c7 => ?_)
      · have h := ifp h c7
        obtain rfl := sinj h
        obtain rfl := wk_r hw4
        have h := hK4
        refine g_lv [1] rfl ?_
        exact j24 x1_L4 h
      · have h := ifn h c7
        refine g_iload_n C dX6_ones_10 rfl 1 rfl ?_
        refine g_iload_n C dX6_ones_11 rfl 0 rfl ?_
        refine g_iload_n C dX6_ones_12 rfl 2 rfl ?_
        refine g_ishr C dX6_ones_13 ?_
        refine g_iconst (v := (1 : Int32)) C dX6_ones_14 (by decide) ?_
        refine g_iand C dX6_ones_15 ?_
        refine g_iadd C dX6_ones_16 ?_
        refine g_istore_n (lv' := [(1, .int (x1_L4 + ((x0 >>> (x2_L4 &&& 31)) &&& (1 : Int32)))), (0, .int x0), (2, .int x2_L4)]) C dX6_ones_17 rfl (by decide) rfl ?_
        refine g_iinc (j := 2) (v := (x2_L4 + (1 : Int32))) (lv' := [(2, .int (x2_L4 + (1 : Int32))), (1, .int (x1_L4 + ((x0 >>> (x2_L4 &&& 31)) &&& (1 : Int32)))), (0, .int x0)]) C dX6_ones_18 rfl rfl (by decide) rfl ?_
        refine g_goto (tgt := 4) C dX6_ones_21 (by decide) ?_
        obtain rfl := sinj h
        refine g_lv [2, 1, 0] rfl ?_
        exact ih4 (x1_L4 + ((x0 >>> (x2_L4 &&& 31)) &&& (1 : Int32))) (x2_L4 + (1 : Int32)) hw4
  refine g_lv [2, 1, 0] rfl ?_
  exact l4 100000 (0 : Int32) (0 : Int32) hW4
def fX6_letter (M : OM) (x1 : Int32) : Option (Int32 × OM) :=
  ((fX6_in x1.toInt64 (1 : Int64) (126 : Int64)).bind (fun r6 => (if r6 = 0 then some ((-102 : Int32), M)
 else (if (M.1 1) = (36 : Int32) then some ((-104 : Int32), M)
 else (if okI (M.1 1) 36 = true then some (((M.1 1) + (1 : Int32)), ((va_up M.1 1 ((M.1 1) + (1 : Int32))), (va_up M.2.1 0 (upd (M.2.1 0) (M.1 1).toNatClampNeg x1)), M.2.2.1, M.2.2.2)) else none)))))
set_option maxHeartbeats 4000000 in
set_option maxRecDepth 100000 in
theorem kX6_letter (l : Launch) (D : va_G) (cC cI cJ cZ : ClassId) (o : Nat) (a : Nat → Nat) (M : OM) (x1 : Int32) (r : Int32) (M' : OM) (h : fX6_letter M x1 = some (r, M')) : gMi l yX6_letter cX6_letter 2 (some .int) (gR 2) D (tysG cC cI cJ cZ) [.ref o, .int x1] (wMod cI cJ o a M) r (wMod cI cJ o a M') := by
  refine gMi_of (by decide) (Nat.le_of_ble_eq_true rfl) rfl ?_
  intro p e s m args below meth c A Q C hQ
  unfold fX6_letter at h
  refine g_iload_n C dX6_letter_0 rfl 1 rfl ?_
  refine g_i2l C dX6_letter_1 ?_
  refine g_lconst (v := (1 : Int64)) C dX6_letter_2 (by decide) ?_
  refine g_ldc2 C dX6_letter_3 ck_X6_76 ?_
  obtain ⟨r6, h6, h⟩ := obd h
  refine g_callSi (st := []) (ws2 := wMod cI cJ o a M) C ys_X6_in ml_X6_78 dX6_letter_6 (kX6_in l D cC cI cJ cZ x1.toInt64 (1 : Int64) (126 : Int64) r6 h6) gCut_nil ⟨by decide, by decide⟩ ⟨rfl, rfl⟩ ⟨Nat.zero_le _, Nat.zero_le _⟩ rfl rfl (Nat.le_of_ble_eq_true rfl) ?_
  refine g_if_ne (tgt := 15) C dX6_letter_9 (by decide) (fun c9 => ?_) (fun c9 => ?_)
  · have h := ifn h c9
    refine g_aload_n C dX6_letter_15 rfl 0 rfl ?_
    refine g_get (v := .int (M.1 1)) C fl_X6_82 dX6_letter_16 0 rfl rfl ?_
    refine g_bipush (v := (36 : Int32)) C dX6_letter_19 (by decide) ?_
    refine g_icmp_ne (tgt := 27) C dX6_letter_21 (by decide) (fun c21 => ?_) (fun c21 => ?_)
    · have h := ifn h c21
      refine g_aload_n C dX6_letter_27 rfl 0 rfl ?_
      refine g_get (v := .ref (a 0)) C fl_X6_7 dX6_letter_28 0 rfl rfl ?_
      refine g_aload_n C dX6_letter_31 rfl 0 rfl ?_
      refine g_get (v := .int (M.1 1)) C fl_X6_82 dX6_letter_32 0 rfl rfl ?_
      refine g_iload_n C dX6_letter_35 rfl 1 rfl ?_
      obtain ⟨hg36, h⟩ := ifg h
      refine g_iast (f := (M.2.1 0)) (ws2 := wMod cI cJ o a (M.1, (va_up M.2.1 0 (upd (M.2.1 0) (M.1 1).toNatClampNeg x1)), M.2.2.1, M.2.2.2)) C dX6_letter_36 1 0 rfl rfl hg36 rfl ?_
      refine g_aload_n C dX6_letter_37 rfl 0 rfl ?_
      refine g_dup C dX6_letter_38 rfl ?_
      refine g_get (v := .int (M.1 1)) C fl_X6_82 dX6_letter_39 0 rfl rfl ?_
      refine g_iconst (v := (1 : Int32)) C dX6_letter_42 (by decide) ?_
      refine g_iadd C dX6_letter_43 ?_
      refine g_put (ws2 := wMod cI cJ o a ((va_up M.1 1 ((M.1 1) + (1 : Int32))), (va_up M.2.1 0 (upd (M.2.1 0) (M.1 1).toNatClampNeg x1)), M.2.2.1, M.2.2.2)) C fp_X6_82 dX6_letter_44 0 rfl rfl rfl (Nat.le_of_ble_eq_true rfl) rfl ?_
      refine g_aload_n C dX6_letter_47 rfl 0 rfl ?_
      refine g_get (v := .int ((M.1 1) + (1 : Int32))) C fl_X6_82 dX6_letter_48 0 rfl rfl ?_
      cases sinj h
      exact g_iret C dX6_letter_51 rfl rfl hQ
    · have h := ifp h c21
      refine g_bipush (v := (-104 : Int32)) C dX6_letter_24 (by decide) ?_
      cases sinj h
      exact g_iret C dX6_letter_26 rfl rfl hQ
  · have h := ifp h c9
    refine g_bipush (v := (-102 : Int32)) C dX6_letter_12 (by decide) ?_
    cases sinj h
    exact g_iret C dX6_letter_14 rfl rfl hQ
def fX6_blank (M : OM)  : Option (Int32 × OM) :=
  some ((M.1 1), ((va_up M.1 1 (0 : Int32)), M.2.1, M.2.2.1, M.2.2.2))
set_option maxHeartbeats 4000000 in
set_option maxRecDepth 100000 in
theorem kX6_blank (l : Launch) (D : va_G) (cC cI cJ cZ : ClassId) (o : Nat) (a : Nat → Nat) (M : OM)  (r : Int32) (M' : OM) (h : fX6_blank M = some (r, M')) : gMi l yX6_blank cX6_blank 2 (some .int) (gR 1) D (tysG cC cI cJ cZ) [.ref o] (wMod cI cJ o a M) r (wMod cI cJ o a M') := by
  refine gMi_of (by decide) (Nat.le_of_ble_eq_true rfl) rfl ?_
  intro p e s m args below meth c A Q C hQ
  unfold fX6_blank at h
  refine g_aload_n C dX6_blank_0 rfl 0 rfl ?_
  refine g_get (v := .int (M.1 1)) C fl_X6_82 dX6_blank_1 0 rfl rfl ?_
  refine g_istore_n (lv' := [(1, .int (M.1 1)), (0, .ref o)]) C dX6_blank_4 rfl (by decide) rfl ?_
  refine g_aload_n C dX6_blank_5 rfl 1 rfl ?_
  refine g_iconst (v := (0 : Int32)) C dX6_blank_6 (by decide) ?_
  refine g_put (ws2 := wMod cI cJ o a ((va_up M.1 1 (0 : Int32)), M.2.1, M.2.2.1, M.2.2.2)) C fp_X6_82 dX6_blank_7 0 rfl rfl rfl (Nat.le_of_ble_eq_true rfl) rfl ?_
  refine g_iload_n C dX6_blank_10 rfl 0 rfl ?_
  cases sinj h
  exact g_iret C dX6_blank_11 rfl rfl hQ
def fX6_kindBy  (x0 : Int32) : Option (Int32) :=
  (if x0 = 99 then some (0 : Int32)
 else (if x0 = 108 then some (3 : Int32)
 else (if x0 = 112 then some (2 : Int32)
 else (if x0 = 114 then some (1 : Int32)
 else (if x0 = 116 then some (4 : Int32)
 else some (-1 : Int32))))))
set_option maxHeartbeats 4000000 in
set_option maxRecDepth 100000 in
theorem kX6_kindBy (l : Launch) (D : va_G) (cC cI cJ cZ : ClassId)  (x0 : Int32) (r : Int32) (h : fX6_kindBy x0 = some r) : gMi l yX6_kindBy cX6_kindBy 1 (some .int) (gR 1) D (tysG cC cI cJ cZ) [.int x0] ([]) r ([]) := by
  refine gMi_of (by decide) (Nat.le_of_ble_eq_true rfl) rfl ?_
  intro p e s m args below meth c A Q C hQ
  unfold fX6_kindBy at h
  refine g_iload_n C dX6_kindBy_0 rfl 0 rfl ?_
  by_cases c1_99 : x0 = 99
  · have h := ifp h c1_99
    refine g_lookup (off := 51) (tgt := 52) C dX6_kindBy_1 (by decide) (by rw [c1_99]; decide) (by decide) ?_
    refine g_iconst (v := (0 : Int32)) C dX6_kindBy_52 (by decide) ?_
    cases sinj h
    exact g_iret C dX6_kindBy_53 rfl rfl hQ
  · have h := ifn h c1_99
    by_cases c1_108 : x0 = 108
    · have h := ifp h c1_108
      refine g_lookup (off := 57) (tgt := 58) C dX6_kindBy_1 (by decide) (by rw [c1_108]; decide) (by decide) ?_
      refine g_iconst (v := (3 : Int32)) C dX6_kindBy_58 (by decide) ?_
      cases sinj h
      exact g_iret C dX6_kindBy_59 rfl rfl hQ
    · have h := ifn h c1_108
      by_cases c1_112 : x0 = 112
      · have h := ifp h c1_112
        refine g_lookup (off := 55) (tgt := 56) C dX6_kindBy_1 (by decide) (by rw [c1_112]; decide) (by decide) ?_
        refine g_iconst (v := (2 : Int32)) C dX6_kindBy_56 (by decide) ?_
        cases sinj h
        exact g_iret C dX6_kindBy_57 rfl rfl hQ
      · have h := ifn h c1_112
        by_cases c1_114 : x0 = 114
        · have h := ifp h c1_114
          refine g_lookup (off := 53) (tgt := 54) C dX6_kindBy_1 (by decide) (by rw [c1_114]; decide) (by decide) ?_
          refine g_iconst (v := (1 : Int32)) C dX6_kindBy_54 (by decide) ?_
          cases sinj h
          exact g_iret C dX6_kindBy_55 rfl rfl hQ
        · have h := ifn h c1_114
          by_cases c1_116 : x0 = 116
          · have h := ifp h c1_116
            refine g_lookup (off := 59) (tgt := 60) C dX6_kindBy_1 (by decide) (by rw [c1_116]; decide) (by decide) ?_
            refine g_iconst (v := (4 : Int32)) C dX6_kindBy_60 (by decide) ?_
            cases sinj h
            exact g_iret C dX6_kindBy_61 rfl rfl hQ
          · have h := ifn h c1_116
            refine g_lookup (off := 61) (tgt := 62) C dX6_kindBy_1 (by decide) (by rw [lv_osw (a := 99) c1_99 (by decide), lv_osw (a := 108) c1_108 (by decide), lv_osw (a := 112) c1_112 (by decide), lv_osw (a := 114) c1_114 (by decide), lv_osw (a := 116) c1_116 (by decide)]; rfl) (by decide) ?_
            refine g_iconst (v := (-1 : Int32)) C dX6_kindBy_62 (by decide) ?_
            cases sinj h
            exact g_iret C dX6_kindBy_63 rfl rfl hQ
def fX6_isDouble  (x0 : Int32) : Option (Int32) :=
  (if x0 = (1 : Int32) then some (1 : Int32)
 else (if x0 = (4 : Int32) then some (1 : Int32)
 else some (0 : Int32)))
set_option maxHeartbeats 4000000 in
set_option maxRecDepth 100000 in
theorem kX6_isDouble (l : Launch) (D : va_G) (cC cI cJ cZ : ClassId)  (x0 : Int32) (r : Int32) (h : fX6_isDouble x0 = some r) : gMi l yX6_isDouble cX6_isDouble 1 (some .boolean) (gR 1) D (tysG cC cI cJ cZ) [.int x0] ([]) r ([]) := by
  refine gMi_of (by decide) (Nat.le_of_ble_eq_true rfl) rfl ?_
  intro p e s m args below meth c A Q C hQ
  unfold fX6_isDouble at h
  refine g_iload_n C dX6_isDouble_0 rfl 0 rfl ?_
  refine g_iconst (v := (1 : Int32)) C dX6_isDouble_1 (by decide) ?_
  refine g_icmp_eq (tgt := 10) C dX6_isDouble_2 (by decide) (fun c2 => ?_) (fun c2 => ?_)
  · have h := ifp h c2
    refine g_iconst (v := (1 : Int32)) C dX6_isDouble_10 (by decide) ?_
    refine g_goto (tgt := 15) C dX6_isDouble_11 (by decide) ?_
    cases sinj h
    exact g_zret C dX6_isDouble_15 rfl rfl rfl hQ
  · have h := ifn h c2
    refine g_iload_n C dX6_isDouble_5 rfl 0 rfl ?_
    refine g_iconst (v := (4 : Int32)) C dX6_isDouble_6 (by decide) ?_
    refine g_icmp_ne (tgt := 14) C dX6_isDouble_7 (by decide) (fun c7 => ?_) (fun c7 => ?_)
    · have h := ifn h c7
      refine g_iconst (v := (0 : Int32)) C dX6_isDouble_14 (by decide) ?_
      cases sinj h
      exact g_zret C dX6_isDouble_15 rfl rfl rfl hQ
    · have h := ifp h c7
      refine g_iconst (v := (1 : Int32)) C dX6_isDouble_10 (by decide) ?_
      refine g_goto (tgt := 15) C dX6_isDouble_11 (by decide) ?_
      cases sinj h
      exact g_zret C dX6_isDouble_15 rfl rfl rfl hQ
def fX6_mostSecond  (x0 : Int32) (x1 : Int32) : Option (Int32) :=
  (if x0 = 0 then some (0 : Int32)
 else (if (x0 + (1 : Int32)) ≤ x1 then some ((x1 - x0) - (1 : Int32))
 else some (0 : Int32)))
set_option maxHeartbeats 4000000 in
set_option maxRecDepth 100000 in
theorem kX6_mostSecond (l : Launch) (D : va_G) (cC cI cJ cZ : ClassId)  (x0 : Int32) (x1 : Int32) (r : Int32) (h : fX6_mostSecond x0 x1 = some r) : gMi l yX6_mostSecond cX6_mostSecond 2 (some .int) (gR 1) D (tysG cC cI cJ cZ) [.int x0, .int x1] ([]) r ([]) := by
  refine gMi_of (by decide) (Nat.le_of_ble_eq_true rfl) rfl ?_
  intro p e s m args below meth c A Q C hQ
  unfold fX6_mostSecond at h
  refine g_iload_n C dX6_mostSecond_0 rfl 0 rfl ?_
  refine g_if_eq (tgt := 11) C dX6_mostSecond_1 (by decide) (fun c1 => ?_) (fun c1 => ?_)
  · have h := ifp h c1
    refine g_iconst (v := (0 : Int32)) C dX6_mostSecond_11 (by decide) ?_
    refine g_goto (tgt := 20) C dX6_mostSecond_12 (by decide) ?_
    cases sinj h
    exact g_iret C dX6_mostSecond_20 rfl rfl hQ
  · have h := ifn h c1
    refine g_iload_n C dX6_mostSecond_4 rfl 0 rfl ?_
    refine g_iconst (v := (1 : Int32)) C dX6_mostSecond_5 (by decide) ?_
    refine g_iadd C dX6_mostSecond_6 ?_
    refine g_iload_n C dX6_mostSecond_7 rfl 1 rfl ?_
    refine g_icmp_le (tgt := 15) C dX6_mostSecond_8 (by decide) (fun c8 => ?_) (fun c8 => ?_)
    · have h := ifp h c8
      refine g_iload_n C dX6_mostSecond_15 rfl 1 rfl ?_
      refine g_iload_n C dX6_mostSecond_16 rfl 0 rfl ?_
      refine g_isub C dX6_mostSecond_17 ?_
      refine g_iconst (v := (1 : Int32)) C dX6_mostSecond_18 (by decide) ?_
      refine g_isub C dX6_mostSecond_19 ?_
      cases sinj h
      exact g_iret C dX6_mostSecond_20 rfl rfl hQ
    · have h := ifn h c8
      refine g_iconst (v := (0 : Int32)) C dX6_mostSecond_11 (by decide) ?_
      refine g_goto (tgt := 20) C dX6_mostSecond_12 (by decide) ?_
      cases sinj h
      exact g_iret C dX6_mostSecond_20 rfl rfl hQ
def fX6_readHigh (M : OM)  : Option (Int32) :=
  (if okI (0 : Int32) 36 = true then some (((M.2.1 0) (0 : Int32).toNatClampNeg) - (48 : Int32)) else none)
set_option maxHeartbeats 4000000 in
set_option maxRecDepth 100000 in
theorem kX6_readHigh (l : Launch) (D : va_G) (cC cI cJ cZ : ClassId) (o : Nat) (a : Nat → Nat) (M : OM)  (r : Int32) (h : fX6_readHigh M = some r) : gMi l yX6_readHigh cX6_readHigh 1 (some .int) (gR 1) D (tysG cC cI cJ cZ) [.ref o] (wMod cI cJ o a M) r (wMod cI cJ o a M) := by
  refine gMi_of (by decide) (Nat.le_of_ble_eq_true rfl) rfl ?_
  intro p e s m args below meth c A Q C hQ
  unfold fX6_readHigh at h
  refine g_aload_n C dX6_readHigh_0 rfl 0 rfl ?_
  refine g_get (v := .ref (a 0)) C fl_X6_7 dX6_readHigh_1 0 rfl rfl ?_
  refine g_iconst (v := (0 : Int32)) C dX6_readHigh_4 (by decide) ?_
  obtain ⟨hg5, h⟩ := ifg h
  refine g_iald (f := (M.2.1 0)) C dX6_readHigh_5 1 0 rfl rfl hg5 ?_
  refine g_bipush (v := (48 : Int32)) C dX6_readHigh_6 (by decide) ?_
  refine g_isub C dX6_readHigh_8 ?_
  cases sinj h
  exact g_iret C dX6_readHigh_9 rfl rfl hQ
def fX6_readLines (M : OM)  : Option (Int32) :=
  (if okI (0 : Int32) 36 = true then (if okI (1 : Int32) 36 = true then some (((((M.2.1 0) (0 : Int32).toNatClampNeg) - (48 : Int32)) + ((M.2.1 0) (1 : Int32).toNatClampNeg)) - (48 : Int32)) else none) else none)
set_option maxHeartbeats 4000000 in
set_option maxRecDepth 100000 in
theorem kX6_readLines (l : Launch) (D : va_G) (cC cI cJ cZ : ClassId) (o : Nat) (a : Nat → Nat) (M : OM)  (r : Int32) (h : fX6_readLines M = some r) : gMi l yX6_readLines cX6_readLines 1 (some .int) (gR 1) D (tysG cC cI cJ cZ) [.ref o] (wMod cI cJ o a M) r (wMod cI cJ o a M) := by
  refine gMi_of (by decide) (Nat.le_of_ble_eq_true rfl) rfl ?_
  intro p e s m args below meth c A Q C hQ
  unfold fX6_readLines at h
  refine g_aload_n C dX6_readLines_0 rfl 0 rfl ?_
  refine g_get (v := .ref (a 0)) C fl_X6_7 dX6_readLines_1 0 rfl rfl ?_
  refine g_iconst (v := (0 : Int32)) C dX6_readLines_4 (by decide) ?_
  obtain ⟨hg5, h⟩ := ifg h
  refine g_iald (f := (M.2.1 0)) C dX6_readLines_5 1 0 rfl rfl hg5 ?_
  refine g_bipush (v := (48 : Int32)) C dX6_readLines_6 (by decide) ?_
  refine g_isub C dX6_readLines_8 ?_
  refine g_aload_n C dX6_readLines_9 rfl 0 rfl ?_
  refine g_get (v := .ref (a 0)) C fl_X6_7 dX6_readLines_10 0 rfl rfl ?_
  refine g_iconst (v := (1 : Int32)) C dX6_readLines_13 (by decide) ?_
  obtain ⟨hg14, h⟩ := ifg h
  refine g_iald (f := (M.2.1 0)) C dX6_readLines_14 1 0 rfl rfl hg14 ?_
  refine g_iadd C dX6_readLines_15 ?_
  refine g_bipush (v := (48 : Int32)) C dX6_readLines_16 (by decide) ?_
  refine g_isub C dX6_readLines_18 ?_
  cases sinj h
  exact g_iret C dX6_readLines_19 rfl rfl hQ
def fX6_readCells (M : OM)  : Option (Int32) :=
  ((fX6_readHigh M).bind (fun r5 => (if r5 ≤ (M.1 2) then (if okI (0 : Int32) 36 = true then some (((M.2.1 0) (0 : Int32).toNatClampNeg) - (48 : Int32)) else none)
 else (if okI (1 : Int32) 36 = true then some (((M.2.1 0) (1 : Int32).toNatClampNeg) - (48 : Int32)) else none))))
set_option maxHeartbeats 4000000 in
set_option maxRecDepth 100000 in
theorem kX6_readCells (l : Launch) (D : va_G) (cC cI cJ cZ : ClassId) (o : Nat) (a : Nat → Nat) (M : OM)  (r : Int32) (h : fX6_readCells M = some r) : gMi l yX6_readCells cX6_readCells 1 (some .int) (gR 2) D (tysG cC cI cJ cZ) [.ref o] (wMod cI cJ o a M) r (wMod cI cJ o a M) := by
  refine gMi_of (by decide) (Nat.le_of_ble_eq_true rfl) rfl ?_
  intro p e s m args below meth c A Q C hQ
  unfold fX6_readCells at h
  refine g_aload_n C dX6_readCells_0 rfl 0 rfl ?_
  refine g_get (v := .int (M.1 2)) C fl_X6_85 dX6_readCells_1 0 rfl rfl ?_
  refine g_aload_n C dX6_readCells_4 rfl 0 rfl ?_
  obtain ⟨r5, h5, h⟩ := obd h
  refine g_callVi (st := [.int (M.1 2)]) (ws2 := wMod cI cJ o a M) C yv_X6_readHigh ml_X6_88 dX6_readCells_5 (kX6_readHigh l D cC cI cJ cZ o a M r5 h5) gCut_all ⟨by decide, by decide⟩ ⟨rfl, rfl⟩ ⟨Nat.zero_le _, Nat.zero_le _⟩ rfl rfl (Nat.le_of_ble_eq_true rfl) 5 0 rfl rfl rfl ?_
  refine g_icmp_ge (tgt := 23) C dX6_readCells_8 (by decide) (fun c8 => ?_) (fun c8 => ?_)
  · have h := ifp h c8
    refine g_aload_n C dX6_readCells_23 rfl 0 rfl ?_
    refine g_get (v := .ref (a 0)) C fl_X6_7 dX6_readCells_24 0 rfl rfl ?_
    refine g_iconst (v := (0 : Int32)) C dX6_readCells_27 (by decide) ?_
    obtain ⟨hg28, h⟩ := ifg h
    refine g_iald (f := (M.2.1 0)) C dX6_readCells_28 1 0 rfl rfl hg28 ?_
    refine g_bipush (v := (48 : Int32)) C dX6_readCells_29 (by decide) ?_
    refine g_isub C dX6_readCells_31 ?_
    cases sinj h
    exact g_iret C dX6_readCells_32 rfl rfl hQ
  · have h := ifn h c8
    refine g_aload_n C dX6_readCells_11 rfl 0 rfl ?_
    refine g_get (v := .ref (a 0)) C fl_X6_7 dX6_readCells_12 0 rfl rfl ?_
    refine g_iconst (v := (1 : Int32)) C dX6_readCells_15 (by decide) ?_
    obtain ⟨hg16, h⟩ := ifg h
    refine g_iald (f := (M.2.1 0)) C dX6_readCells_16 1 0 rfl rfl hg16 ?_
    refine g_bipush (v := (48 : Int32)) C dX6_readCells_17 (by decide) ?_
    refine g_isub C dX6_readCells_19 ?_
    refine g_goto (tgt := 32) C dX6_readCells_20 (by decide) ?_
    cases sinj h
    exact g_iret C dX6_readCells_32 rfl rfl hQ
def fX6_isKindLetter_J44 (M_J44 : OM) : Option (Int32 × OM) :=
  (if (M_J44.1 4) = (-1 : Int32) then some ((0 : Int32), M_J44)
 else some ((1 : Int32), M_J44))
def fX6_isKindLetter (M : OM) (x1 : Int32) : Option (Int32 × OM) :=
  ((fX6_kindBy x1).bind (fun r2 => (if r2 = (-1 : Int32) then fX6_isKindLetter_J44 ((va_up (va_up M.1 3 (1 : Int32)) 4 r2), M.2.1, M.2.2.1, M.2.2.2)
 else (if okI (M.1 2) 8 = true then (if okI (M.1 2) 8 = true then fX6_isKindLetter_J44 ((va_up (va_up M.1 3 (1 : Int32)) 4 r2), (va_up (va_up M.2.1 6 (upd (M.2.1 6) (M.1 2).toNatClampNeg r2)) 8 (upd (M.2.1 8) (M.1 2).toNatClampNeg (0 : Int32))), M.2.2.1, M.2.2.2) else none) else none))))
set_option maxHeartbeats 4000000 in
set_option maxRecDepth 100000 in
theorem kX6_isKindLetter (l : Launch) (D : va_G) (cC cI cJ cZ : ClassId) (o : Nat) (a : Nat → Nat) (M : OM) (x1 : Int32) (r : Int32) (M' : OM) (h : fX6_isKindLetter M x1 = some (r, M')) : gMi l yX6_isKindLetter cX6_isKindLetter 2 (some .boolean) (gR 2) D (tysG cC cI cJ cZ) [.ref o, .int x1] (wMod cI cJ o a M) r (wMod cI cJ o a M') := by
  refine gMi_of (by decide) (Nat.le_of_ble_eq_true rfl) rfl ?_
  intro p e s m args below meth c A Q C hQ
  have j44 : ∀ (M_J44 : OM), fX6_isKindLetter_J44 M_J44 = some (r, M') → gG p l e (gR 2) s m args below meth c 2 D A 0 0 Q 44 [(0, .ref o)] [] (wMod cI cJ o a M_J44) := by
    intro M_J44 h
    unfold fX6_isKindLetter_J44 at h
    refine g_aload_n C dX6_isKindLetter_44 rfl 0 rfl ?_
    refine g_get (v := .int (M_J44.1 4)) C fl_X6_96 dX6_isKindLetter_45 0 rfl rfl ?_
    refine g_iconst (v := (-1 : Int32)) C dX6_isKindLetter_48 (by decide) ?_
    refine g_icmp_eq (tgt := 56) C dX6_isKindLetter_49 (by decide) (fun c49 => ?_) (fun c49 => ?_)
    · have h := ifp h c49
      refine g_iconst (v := (0 : Int32)) C dX6_isKindLetter_56 (by decide) ?_
      cases sinj h
      exact g_zret C dX6_isKindLetter_57 rfl rfl rfl hQ
    · have h := ifn h c49
      refine g_iconst (v := (1 : Int32)) C dX6_isKindLetter_52 (by decide) ?_
      refine g_goto (tgt := 57) C dX6_isKindLetter_53 (by decide) ?_
      cases sinj h
      exact g_zret C dX6_isKindLetter_57 rfl rfl rfl hQ
  unfold fX6_isKindLetter at h
  refine g_aload_n C dX6_isKindLetter_0 rfl 0 rfl ?_
  refine g_iload_n C dX6_isKindLetter_1 rfl 1 rfl ?_
  obtain ⟨r2, h2, h⟩ := obd h
  refine g_callSi (st := [.ref o]) (ws2 := wMod cI cJ o a M) C ys_X6_kindBy ml_X6_92 dX6_isKindLetter_2 (kX6_kindBy l D cC cI cJ cZ x1 r2 h2) gCut_nil ⟨by decide, by decide⟩ ⟨rfl, rfl⟩ ⟨Nat.zero_le _, Nat.zero_le _⟩ rfl rfl (Nat.le_of_ble_eq_true rfl) ?_
  refine g_put (ws2 := wMod cI cJ o a ((va_up M.1 4 r2), M.2.1, M.2.2.1, M.2.2.2)) C fp_X6_96 dX6_isKindLetter_5 0 rfl rfl rfl (Nat.le_of_ble_eq_true rfl) rfl ?_
  refine g_aload_n C dX6_isKindLetter_8 rfl 0 rfl ?_
  refine g_iconst (v := (1 : Int32)) C dX6_isKindLetter_9 (by decide) ?_
  refine g_put (ws2 := wMod cI cJ o a ((va_up (va_up M.1 3 (1 : Int32)) 4 r2), M.2.1, M.2.2.1, M.2.2.2)) C fp_X6_99 dX6_isKindLetter_10 0 rfl rfl rfl (Nat.le_of_ble_eq_true rfl) rfl ?_
  refine g_aload_n C dX6_isKindLetter_13 rfl 0 rfl ?_
  refine g_get (v := .int r2) C fl_X6_96 dX6_isKindLetter_14 0 rfl rfl ?_
  refine g_iconst (v := (-1 : Int32)) C dX6_isKindLetter_17 (by decide) ?_
  refine g_icmp_eq (tgt := 44) C dX6_isKindLetter_18 (by decide) (fun c18 => ?_) (fun c18 => ?_)
  · have h := ifp h c18
    refine g_lv [0] rfl ?_
    exact j44 ((va_up (va_up M.1 3 (1 : Int32)) 4 r2), M.2.1, M.2.2.1, M.2.2.2) h
  · have h := ifn h c18
    refine g_aload_n C dX6_isKindLetter_21 rfl 0 rfl ?_
    refine g_get (v := .ref (a 6)) C fl_X6_13 dX6_isKindLetter_22 0 rfl rfl ?_
    refine g_aload_n C dX6_isKindLetter_25 rfl 0 rfl ?_
    refine g_get (v := .int (M.1 2)) C fl_X6_85 dX6_isKindLetter_26 0 rfl rfl ?_
    refine g_aload_n C dX6_isKindLetter_29 rfl 0 rfl ?_
    refine g_get (v := .int r2) C fl_X6_96 dX6_isKindLetter_30 0 rfl rfl ?_
    obtain ⟨hg33, h⟩ := ifg h
    refine g_iast (f := (M.2.1 6)) (ws2 := wMod cI cJ o a ((va_up (va_up M.1 3 (1 : Int32)) 4 r2), (va_up M.2.1 6 (upd (M.2.1 6) (M.1 2).toNatClampNeg r2)), M.2.2.1, M.2.2.2)) C dX6_isKindLetter_33 2 0 rfl rfl hg33 rfl ?_
    refine g_aload_n C dX6_isKindLetter_34 rfl 0 rfl ?_
    refine g_get (v := .ref (a 8)) C fl_X6_19 dX6_isKindLetter_35 0 rfl rfl ?_
    refine g_aload_n C dX6_isKindLetter_38 rfl 0 rfl ?_
    refine g_get (v := .int (M.1 2)) C fl_X6_85 dX6_isKindLetter_39 0 rfl rfl ?_
    refine g_iconst (v := (0 : Int32)) C dX6_isKindLetter_42 (by decide) ?_
    obtain ⟨hg43, h⟩ := ifg h
    refine g_iast (f := (M.2.1 8)) (ws2 := wMod cI cJ o a ((va_up (va_up M.1 3 (1 : Int32)) 4 r2), (va_up (va_up M.2.1 6 (upd (M.2.1 6) (M.1 2).toNatClampNeg r2)) 8 (upd (M.2.1 8) (M.1 2).toNatClampNeg (0 : Int32))), M.2.2.1, M.2.2.2)) C dX6_isKindLetter_43 4 0 rfl rfl hg43 rfl ?_
    refine g_lv [0] rfl ?_
    exact j44 ((va_up (va_up M.1 3 (1 : Int32)) 4 r2), (va_up (va_up M.2.1 6 (upd (M.2.1 6) (M.1 2).toNatClampNeg r2)) 8 (upd (M.2.1 8) (M.1 2).toNatClampNeg (0 : Int32))), M.2.2.1, M.2.2.2) h
def fX6_isFirstLetter_J37 (s0_J37 : Int32) (M_J37 : OM) : Option (Int32 × OM) :=
  ((fX6_readCells ((va_up M_J37.1 3 s0_J37), M_J37.2.1, M_J37.2.2.1, M_J37.2.2.2)).bind (fun r47 => ((fX6_in ((M_J37.1 5).toInt64) (0 : Int64) r47.toInt64).bind (fun r51 => (if okZ r51 = true then some (r51, ((va_up M_J37.1 3 s0_J37), M_J37.2.1, M_J37.2.2.1, M_J37.2.2.2)) else none)))))
def fX6_isFirstLetter (M : OM) (x1 : Int32) : Option (Int32 × OM) :=
  (if okI (M.1 2) 8 = true then ((fX6_isDouble (M.1 4)).bind (fun r26 => (if r26 = 0 then fX6_isFirstLetter_J37 (3 : Int32) ((va_up M.1 5 (x1 - (48 : Int32))), (va_up M.2.1 7 (upd (M.2.1 7) (M.1 2).toNatClampNeg (x1 - (48 : Int32)))), M.2.2.1, M.2.2.2)
 else fX6_isFirstLetter_J37 (2 : Int32) ((va_up M.1 5 (x1 - (48 : Int32))), (va_up M.2.1 7 (upd (M.2.1 7) (M.1 2).toNatClampNeg (x1 - (48 : Int32)))), M.2.2.1, M.2.2.2)))) else none)
set_option maxHeartbeats 4000000 in
set_option maxRecDepth 100000 in
theorem kX6_isFirstLetter (l : Launch) (D : va_G) (cC cI cJ cZ : ClassId) (o : Nat) (a : Nat → Nat) (M : OM) (x1 : Int32) (r : Int32) (M' : OM) (h : fX6_isFirstLetter M x1 = some (r, M')) : gMi l yX6_isFirstLetter cX6_isFirstLetter 2 (some .boolean) (gR 3) D (tysG cC cI cJ cZ) [.ref o, .int x1] (wMod cI cJ o a M) r (wMod cI cJ o a M') := by
  refine gMi_of (by decide) (Nat.le_of_ble_eq_true rfl) rfl ?_
  intro p e s m args below meth c A Q C hQ
  have j37 : ∀ (s0_J37 : Int32) (M_J37 : OM), fX6_isFirstLetter_J37 s0_J37 M_J37 = some (r, M') → gG p l e (gR 3) s m args below meth c 2 D A 0 0 Q 37 [(0, .ref o)] [.int s0_J37, .ref o] (wMod cI cJ o a M_J37) := by
    intro s0_J37 M_J37 h
    unfold fX6_isFirstLetter_J37 at h
    refine g_put (ws2 := wMod cI cJ o a ((va_up M_J37.1 3 s0_J37), M_J37.2.1, M_J37.2.2.1, M_J37.2.2.2)) C fp_X6_99 dX6_isFirstLetter_37 0 rfl rfl rfl (Nat.le_of_ble_eq_true rfl) rfl ?_
    refine g_aload_n C dX6_isFirstLetter_40 rfl 0 rfl ?_
    refine g_get (v := .int (M_J37.1 5)) C fl_X6_102 dX6_isFirstLetter_41 0 rfl rfl ?_
    refine g_i2l C dX6_isFirstLetter_44 ?_
    refine g_lconst (v := (0 : Int64)) C dX6_isFirstLetter_45 (by decide) ?_
    refine g_aload_n C dX6_isFirstLetter_46 rfl 0 rfl ?_
    obtain ⟨r47, h47, h⟩ := obd h
    refine g_callVi (st := [.long (0 : Int64), .long ((M_J37.1 5).toInt64)]) (ws2 := wMod cI cJ o a ((va_up M_J37.1 3 s0_J37), M_J37.2.1, M_J37.2.2.1, M_J37.2.2.2)) C yv_X6_readCells ml_X6_109 dX6_isFirstLetter_47 (kX6_readCells l D cC cI cJ cZ o a ((va_up M_J37.1 3 s0_J37), M_J37.2.1, M_J37.2.2.1, M_J37.2.2.2) r47 h47) gCut_all ⟨by decide, by decide⟩ ⟨rfl, rfl⟩ ⟨Nat.zero_le _, Nat.zero_le _⟩ rfl rfl (Nat.le_of_ble_eq_true rfl) 5 0 rfl rfl rfl ?_
    refine g_i2l C dX6_isFirstLetter_50 ?_
    obtain ⟨r51, h51, h⟩ := obd h
    refine g_callSi (st := []) (ws2 := wMod cI cJ o a ((va_up M_J37.1 3 s0_J37), M_J37.2.1, M_J37.2.2.1, M_J37.2.2.2)) C ys_X6_in ml_X6_78 dX6_isFirstLetter_51 (kX6_in l D cC cI cJ cZ ((M_J37.1 5).toInt64) (0 : Int64) r47.toInt64 r51 h51) gCut_nil ⟨by decide, by decide⟩ ⟨rfl, rfl⟩ ⟨Nat.zero_le _, Nat.zero_le _⟩ rfl rfl (Nat.le_of_ble_eq_true rfl) ?_
    obtain ⟨hz54, h⟩ := ifg h
    cases sinj h
    exact g_zret C dX6_isFirstLetter_54 (okZ_n hz54) rfl rfl hQ
  unfold fX6_isFirstLetter at h
  refine g_aload_n C dX6_isFirstLetter_0 rfl 0 rfl ?_
  refine g_iload_n C dX6_isFirstLetter_1 rfl 1 rfl ?_
  refine g_bipush (v := (48 : Int32)) C dX6_isFirstLetter_2 (by decide) ?_
  refine g_isub C dX6_isFirstLetter_4 ?_
  refine g_put (ws2 := wMod cI cJ o a ((va_up M.1 5 (x1 - (48 : Int32))), M.2.1, M.2.2.1, M.2.2.2)) C fp_X6_102 dX6_isFirstLetter_5 0 rfl rfl rfl (Nat.le_of_ble_eq_true rfl) rfl ?_
  refine g_aload_n C dX6_isFirstLetter_8 rfl 0 rfl ?_
  refine g_get (v := .ref (a 7)) C fl_X6_16 dX6_isFirstLetter_9 0 rfl rfl ?_
  refine g_aload_n C dX6_isFirstLetter_12 rfl 0 rfl ?_
  refine g_get (v := .int (M.1 2)) C fl_X6_85 dX6_isFirstLetter_13 0 rfl rfl ?_
  refine g_aload_n C dX6_isFirstLetter_16 rfl 0 rfl ?_
  refine g_get (v := .int (x1 - (48 : Int32))) C fl_X6_102 dX6_isFirstLetter_17 0 rfl rfl ?_
  obtain ⟨hg20, h⟩ := ifg h
  refine g_iast (f := (M.2.1 7)) (ws2 := wMod cI cJ o a ((va_up M.1 5 (x1 - (48 : Int32))), (va_up M.2.1 7 (upd (M.2.1 7) (M.1 2).toNatClampNeg (x1 - (48 : Int32)))), M.2.2.1, M.2.2.2)) C dX6_isFirstLetter_20 3 0 rfl rfl hg20 rfl ?_
  refine g_aload_n C dX6_isFirstLetter_21 rfl 0 rfl ?_
  refine g_aload_n C dX6_isFirstLetter_22 rfl 0 rfl ?_
  refine g_get (v := .int (M.1 4)) C fl_X6_96 dX6_isFirstLetter_23 0 rfl rfl ?_
  obtain ⟨r26, h26, h⟩ := obd h
  refine g_callSi (st := [.ref o]) (ws2 := wMod cI cJ o a ((va_up M.1 5 (x1 - (48 : Int32))), (va_up M.2.1 7 (upd (M.2.1 7) (M.1 2).toNatClampNeg (x1 - (48 : Int32)))), M.2.2.1, M.2.2.2)) C ys_X6_isDouble ml_X6_105 dX6_isFirstLetter_26 (kX6_isDouble l D cC cI cJ cZ (M.1 4) r26 h26) gCut_nil ⟨by decide, by decide⟩ ⟨rfl, rfl⟩ ⟨Nat.zero_le _, Nat.zero_le _⟩ rfl rfl (Nat.le_of_ble_eq_true rfl) ?_
  refine g_if_eq (tgt := 36) C dX6_isFirstLetter_29 (by decide) (fun c29 => ?_) (fun c29 => ?_)
  · have h := ifp h c29
    refine g_iconst (v := (3 : Int32)) C dX6_isFirstLetter_36 (by decide) ?_
    refine g_lv [0] rfl ?_
    exact j37 (3 : Int32) ((va_up M.1 5 (x1 - (48 : Int32))), (va_up M.2.1 7 (upd (M.2.1 7) (M.1 2).toNatClampNeg (x1 - (48 : Int32)))), M.2.2.1, M.2.2.2) h
  · have h := ifn h c29
    refine g_iconst (v := (2 : Int32)) C dX6_isFirstLetter_32 (by decide) ?_
    refine g_goto (tgt := 37) C dX6_isFirstLetter_33 (by decide) ?_
    refine g_lv [0] rfl ?_
    exact j37 (2 : Int32) ((va_up M.1 5 (x1 - (48 : Int32))), (va_up M.2.1 7 (upd (M.2.1 7) (M.1 2).toNatClampNeg (x1 - (48 : Int32)))), M.2.2.1, M.2.2.2) h
def fX6_isSecondLetter (M : OM) (x1 : Int32) : Option (Int32 × OM) :=
  (if okI (M.1 2) 8 = true then ((fX6_readCells ((va_up M.1 3 (3 : Int32)), (va_up M.2.1 8 (upd (M.2.1 8) (M.1 2).toNatClampNeg (x1 - (48 : Int32)))), M.2.2.1, M.2.2.2)).bind (fun r29 => ((fX6_mostSecond (M.1 5) r29).bind (fun r32 => ((fX6_in ((x1 - (48 : Int32)).toInt64) (0 : Int64) r32.toInt64).bind (fun r36 => (if okZ r36 = true then some (r36, ((va_up M.1 3 (3 : Int32)), (va_up M.2.1 8 (upd (M.2.1 8) (M.1 2).toNatClampNeg (x1 - (48 : Int32)))), M.2.2.1, M.2.2.2)) else none))))))) else none)
set_option maxHeartbeats 4000000 in
set_option maxRecDepth 100000 in
theorem kX6_isSecondLetter (l : Launch) (D : va_G) (cC cI cJ cZ : ClassId) (o : Nat) (a : Nat → Nat) (M : OM) (x1 : Int32) (r : Int32) (M' : OM) (h : fX6_isSecondLetter M x1 = some (r, M')) : gMi l yX6_isSecondLetter cX6_isSecondLetter 2 (some .boolean) (gR 3) D (tysG cC cI cJ cZ) [.ref o, .int x1] (wMod cI cJ o a M) r (wMod cI cJ o a M') := by
  refine gMi_of (by decide) (Nat.le_of_ble_eq_true rfl) rfl ?_
  intro p e s m args below meth c A Q C hQ
  unfold fX6_isSecondLetter at h
  refine g_aload_n C dX6_isSecondLetter_0 rfl 0 rfl ?_
  refine g_get (v := .ref (a 8)) C fl_X6_19 dX6_isSecondLetter_1 0 rfl rfl ?_
  refine g_aload_n C dX6_isSecondLetter_4 rfl 0 rfl ?_
  refine g_get (v := .int (M.1 2)) C fl_X6_85 dX6_isSecondLetter_5 0 rfl rfl ?_
  refine g_iload_n C dX6_isSecondLetter_8 rfl 1 rfl ?_
  refine g_bipush (v := (48 : Int32)) C dX6_isSecondLetter_9 (by decide) ?_
  refine g_isub C dX6_isSecondLetter_11 ?_
  obtain ⟨hg12, h⟩ := ifg h
  refine g_iast (f := (M.2.1 8)) (ws2 := wMod cI cJ o a (M.1, (va_up M.2.1 8 (upd (M.2.1 8) (M.1 2).toNatClampNeg (x1 - (48 : Int32)))), M.2.2.1, M.2.2.2)) C dX6_isSecondLetter_12 4 0 rfl rfl hg12 rfl ?_
  refine g_aload_n C dX6_isSecondLetter_13 rfl 0 rfl ?_
  refine g_iconst (v := (3 : Int32)) C dX6_isSecondLetter_14 (by decide) ?_
  refine g_put (ws2 := wMod cI cJ o a ((va_up M.1 3 (3 : Int32)), (va_up M.2.1 8 (upd (M.2.1 8) (M.1 2).toNatClampNeg (x1 - (48 : Int32)))), M.2.2.1, M.2.2.2)) C fp_X6_99 dX6_isSecondLetter_15 0 rfl rfl rfl (Nat.le_of_ble_eq_true rfl) rfl ?_
  refine g_iload_n C dX6_isSecondLetter_18 rfl 1 rfl ?_
  refine g_bipush (v := (48 : Int32)) C dX6_isSecondLetter_19 (by decide) ?_
  refine g_isub C dX6_isSecondLetter_21 ?_
  refine g_i2l C dX6_isSecondLetter_22 ?_
  refine g_lconst (v := (0 : Int64)) C dX6_isSecondLetter_23 (by decide) ?_
  refine g_aload_n C dX6_isSecondLetter_24 rfl 0 rfl ?_
  refine g_get (v := .int (M.1 5)) C fl_X6_102 dX6_isSecondLetter_25 0 rfl rfl ?_
  refine g_aload_n C dX6_isSecondLetter_28 rfl 0 rfl ?_
  obtain ⟨r29, h29, h⟩ := obd h
  refine g_callVi (st := [.int (M.1 5), .long (0 : Int64), .long ((x1 - (48 : Int32)).toInt64)]) (ws2 := wMod cI cJ o a ((va_up M.1 3 (3 : Int32)), (va_up M.2.1 8 (upd (M.2.1 8) (M.1 2).toNatClampNeg (x1 - (48 : Int32)))), M.2.2.1, M.2.2.2)) C yv_X6_readCells ml_X6_109 dX6_isSecondLetter_29 (kX6_readCells l D cC cI cJ cZ o a ((va_up M.1 3 (3 : Int32)), (va_up M.2.1 8 (upd (M.2.1 8) (M.1 2).toNatClampNeg (x1 - (48 : Int32)))), M.2.2.1, M.2.2.2) r29 h29) gCut_all ⟨by decide, by decide⟩ ⟨rfl, rfl⟩ ⟨Nat.zero_le _, Nat.zero_le _⟩ rfl rfl (Nat.le_of_ble_eq_true rfl) 5 0 rfl rfl rfl ?_
  obtain ⟨r32, h32, h⟩ := obd h
  refine g_callSi (st := [.long (0 : Int64), .long ((x1 - (48 : Int32)).toInt64)]) (ws2 := wMod cI cJ o a ((va_up M.1 3 (3 : Int32)), (va_up M.2.1 8 (upd (M.2.1 8) (M.1 2).toNatClampNeg (x1 - (48 : Int32)))), M.2.2.1, M.2.2.2)) C ys_X6_mostSecond ml_X6_112 dX6_isSecondLetter_32 (kX6_mostSecond l D cC cI cJ cZ (M.1 5) r29 r32 h32) gCut_nil ⟨by decide, by decide⟩ ⟨rfl, rfl⟩ ⟨Nat.zero_le _, Nat.zero_le _⟩ rfl rfl (Nat.le_of_ble_eq_true rfl) ?_
  refine g_i2l C dX6_isSecondLetter_35 ?_
  obtain ⟨r36, h36, h⟩ := obd h
  refine g_callSi (st := []) (ws2 := wMod cI cJ o a ((va_up M.1 3 (3 : Int32)), (va_up M.2.1 8 (upd (M.2.1 8) (M.1 2).toNatClampNeg (x1 - (48 : Int32)))), M.2.2.1, M.2.2.2)) C ys_X6_in ml_X6_78 dX6_isSecondLetter_36 (kX6_in l D cC cI cJ cZ ((x1 - (48 : Int32)).toInt64) (0 : Int64) r32.toInt64 r36 h36) gCut_nil ⟨by decide, by decide⟩ ⟨rfl, rfl⟩ ⟨Nat.zero_le _, Nat.zero_le _⟩ rfl rfl (Nat.le_of_ble_eq_true rfl) ?_
  obtain ⟨hz39, h⟩ := ifg h
  cases sinj h
  exact g_zret C dX6_isSecondLetter_39 (okZ_n hz39) rfl rfl hQ
def fX6_isBehindLetter_J45 (s0_J45 : Int32) (s1_J45 : Int32) (M_J45 : OM) : Option (Int32 × OM) :=
  (if s1_J45 = s0_J45 then some ((1 : Int32), M_J45)
 else some ((0 : Int32), M_J45))
def fX6_isBehindLetter (M : OM) (x1 : Int32) : Option (Int32 × OM) :=
  ((fX6_readLines ((va_up (va_up M.1 2 ((M.1 2) + (1 : Int32))) 3 (0 : Int32)), M.2.1, M.2.2.1, M.2.2.2)).bind (fun r20 => (if r20 ≤ ((M.1 2) + (1 : Int32)) then some ((0 : Int32), ((va_up (va_up M.1 2 ((M.1 2) + (1 : Int32))) 3 (0 : Int32)), M.2.1, M.2.2.1, M.2.2.2))
 else ((fX6_readHigh ((va_up (va_up M.1 2 ((M.1 2) + (1 : Int32))) 3 (0 : Int32)), M.2.1, M.2.2.1, M.2.2.2)).bind (fun r32 => (if ((M.1 2) + (1 : Int32)) = r32 then fX6_isBehindLetter_J45 (59 : Int32) x1 ((va_up (va_up M.1 2 ((M.1 2) + (1 : Int32))) 3 (0 : Int32)), M.2.1, M.2.2.1, M.2.2.2)
 else fX6_isBehindLetter_J45 (44 : Int32) x1 ((va_up (va_up M.1 2 ((M.1 2) + (1 : Int32))) 3 (0 : Int32)), M.2.1, M.2.2.1, M.2.2.2)))))))
set_option maxHeartbeats 4000000 in
set_option maxRecDepth 100000 in
theorem kX6_isBehindLetter (l : Launch) (D : va_G) (cC cI cJ cZ : ClassId) (o : Nat) (a : Nat → Nat) (M : OM) (x1 : Int32) (r : Int32) (M' : OM) (h : fX6_isBehindLetter M x1 = some (r, M')) : gMi l yX6_isBehindLetter cX6_isBehindLetter 2 (some .boolean) (gR 2) D (tysG cC cI cJ cZ) [.ref o, .int x1] (wMod cI cJ o a M) r (wMod cI cJ o a M') := by
  refine gMi_of (by decide) (Nat.le_of_ble_eq_true rfl) rfl ?_
  intro p e s m args below meth c A Q C hQ
  have j45 : ∀ (s0_J45 : Int32) (s1_J45 : Int32) (M_J45 : OM), fX6_isBehindLetter_J45 s0_J45 s1_J45 M_J45 = some (r, M') → gG p l e (gR 2) s m args below meth c 2 D A 0 0 Q 45 [] [.int s0_J45, .int s1_J45] (wMod cI cJ o a M_J45) := by
    intro s0_J45 s1_J45 M_J45 h
    unfold fX6_isBehindLetter_J45 at h
    refine g_icmp_ne (tgt := 52) C dX6_isBehindLetter_45 (by decide) (fun c45 => ?_) (fun c45 => ?_)
    · have h := ifn h c45
      refine g_iconst (v := (0 : Int32)) C dX6_isBehindLetter_52 (by decide) ?_
      cases sinj h
      exact g_zret C dX6_isBehindLetter_53 rfl rfl rfl hQ
    · have h := ifp h c45
      refine g_iconst (v := (1 : Int32)) C dX6_isBehindLetter_48 (by decide) ?_
      refine g_goto (tgt := 53) C dX6_isBehindLetter_49 (by decide) ?_
      cases sinj h
      exact g_zret C dX6_isBehindLetter_53 rfl rfl rfl hQ
  unfold fX6_isBehindLetter at h
  refine g_aload_n C dX6_isBehindLetter_0 rfl 0 rfl ?_
  refine g_dup C dX6_isBehindLetter_1 rfl ?_
  refine g_get (v := .int (M.1 2)) C fl_X6_85 dX6_isBehindLetter_2 0 rfl rfl ?_
  refine g_iconst (v := (1 : Int32)) C dX6_isBehindLetter_5 (by decide) ?_
  refine g_iadd C dX6_isBehindLetter_6 ?_
  refine g_put (ws2 := wMod cI cJ o a ((va_up M.1 2 ((M.1 2) + (1 : Int32))), M.2.1, M.2.2.1, M.2.2.2)) C fp_X6_85 dX6_isBehindLetter_7 0 rfl rfl rfl (Nat.le_of_ble_eq_true rfl) rfl ?_
  refine g_aload_n C dX6_isBehindLetter_10 rfl 0 rfl ?_
  refine g_iconst (v := (0 : Int32)) C dX6_isBehindLetter_11 (by decide) ?_
  refine g_put (ws2 := wMod cI cJ o a ((va_up (va_up M.1 2 ((M.1 2) + (1 : Int32))) 3 (0 : Int32)), M.2.1, M.2.2.1, M.2.2.2)) C fp_X6_99 dX6_isBehindLetter_12 0 rfl rfl rfl (Nat.le_of_ble_eq_true rfl) rfl ?_
  refine g_aload_n C dX6_isBehindLetter_15 rfl 0 rfl ?_
  refine g_get (v := .int ((M.1 2) + (1 : Int32))) C fl_X6_85 dX6_isBehindLetter_16 0 rfl rfl ?_
  refine g_aload_n C dX6_isBehindLetter_19 rfl 0 rfl ?_
  obtain ⟨r20, h20, h⟩ := obd h
  refine g_callVi (st := [.int ((M.1 2) + (1 : Int32))]) (ws2 := wMod cI cJ o a ((va_up (va_up M.1 2 ((M.1 2) + (1 : Int32))) 3 (0 : Int32)), M.2.1, M.2.2.1, M.2.2.2)) C yv_X6_readLines ml_X6_116 dX6_isBehindLetter_20 (kX6_readLines l D cC cI cJ cZ o a ((va_up (va_up M.1 2 ((M.1 2) + (1 : Int32))) 3 (0 : Int32)), M.2.1, M.2.2.1, M.2.2.2) r20 h20) gCut_all ⟨by decide, by decide⟩ ⟨rfl, rfl⟩ ⟨Nat.zero_le _, Nat.zero_le _⟩ rfl rfl (Nat.le_of_ble_eq_true rfl) 5 0 rfl rfl rfl ?_
  refine g_icmp_ge (tgt := 52) C dX6_isBehindLetter_23 (by decide) (fun c23 => ?_) (fun c23 => ?_)
  · have h := ifp h c23
    refine g_iconst (v := (0 : Int32)) C dX6_isBehindLetter_52 (by decide) ?_
    cases sinj h
    exact g_zret C dX6_isBehindLetter_53 rfl rfl rfl hQ
  · have h := ifn h c23
    refine g_iload_n C dX6_isBehindLetter_26 rfl 1 rfl ?_
    refine g_aload_n C dX6_isBehindLetter_27 rfl 0 rfl ?_
    refine g_get (v := .int ((M.1 2) + (1 : Int32))) C fl_X6_85 dX6_isBehindLetter_28 0 rfl rfl ?_
    refine g_aload_n C dX6_isBehindLetter_31 rfl 0 rfl ?_
    obtain ⟨r32, h32, h⟩ := obd h
    refine g_callVi (st := [.int ((M.1 2) + (1 : Int32)), .int x1]) (ws2 := wMod cI cJ o a ((va_up (va_up M.1 2 ((M.1 2) + (1 : Int32))) 3 (0 : Int32)), M.2.1, M.2.2.1, M.2.2.2)) C yv_X6_readHigh ml_X6_88 dX6_isBehindLetter_32 (kX6_readHigh l D cC cI cJ cZ o a ((va_up (va_up M.1 2 ((M.1 2) + (1 : Int32))) 3 (0 : Int32)), M.2.1, M.2.2.1, M.2.2.2) r32 h32) gCut_all ⟨by decide, by decide⟩ ⟨rfl, rfl⟩ ⟨Nat.zero_le _, Nat.zero_le _⟩ rfl rfl (Nat.le_of_ble_eq_true rfl) 5 0 rfl rfl rfl ?_
    refine g_icmp_ne (tgt := 43) C dX6_isBehindLetter_35 (by decide) (fun c35 => ?_) (fun c35 => ?_)
    · have h := ifn h c35
      refine g_bipush (v := (44 : Int32)) C dX6_isBehindLetter_43 (by decide) ?_
      refine g_lv [] rfl ?_
      exact j45 (44 : Int32) x1 ((va_up (va_up M.1 2 ((M.1 2) + (1 : Int32))) 3 (0 : Int32)), M.2.1, M.2.2.1, M.2.2.2) h
    · have h := ifp h c35
      refine g_bipush (v := (59 : Int32)) C dX6_isBehindLetter_38 (by decide) ?_
      refine g_goto (tgt := 45) C dX6_isBehindLetter_40 (by decide) ?_
      refine g_lv [] rfl ?_
      exact j45 (59 : Int32) x1 ((va_up (va_up M.1 2 ((M.1 2) + (1 : Int32))) 3 (0 : Int32)), M.2.1, M.2.2.1, M.2.2.2) h
def fX6_isGood (M : OM) (x1 : Int32) : Option (Int32 × OM) :=
  (if okI x1 36 = true then (if (2 : Int32) ≤ x1 then (if x1 = (2 : Int32) then (if ((M.2.1 0) x1.toNatClampNeg) = (59 : Int32) then some ((1 : Int32), ((va_up (va_up M.1 2 (0 : Int32)) 3 (0 : Int32)), M.2.1, M.2.2.1, M.2.2.2))
 else some ((0 : Int32), ((va_up (va_up M.1 2 (0 : Int32)) 3 (0 : Int32)), M.2.1, M.2.2.1, M.2.2.2)))
 else (if (M.1 3) = 0 then ((fX6_isKindLetter M ((M.2.1 0) x1.toNatClampNeg)).bind (fun r => (fun r82 T82 => (if okZ r82 = true then some (r82, T82) else none)) r.1 r.2))
 else (if (M.1 3) = 1 then ((fX6_isFirstLetter M ((M.2.1 0) x1.toNatClampNeg)).bind (fun r => (fun r88 T88 => (if okZ r88 = true then some (r88, T88) else none)) r.1 r.2))
 else (if (M.1 3) = 2 then ((fX6_isSecondLetter M ((M.2.1 0) x1.toNatClampNeg)).bind (fun r => (fun r94 T94 => (if okZ r94 = true then some (r94, T94) else none)) r.1 r.2))
 else ((fX6_isBehindLetter M ((M.2.1 0) x1.toNatClampNeg)).bind (fun r => (fun r100 T100 => (if okZ r100 = true then some (r100, T100) else none)) r.1 r.2))))))
 else ((fX6_in (((M.2.1 0) x1.toNatClampNeg).toInt64) (50 : Int64) (52 : Int64)).bind (fun r20 => (if okZ r20 = true then some (r20, M) else none)))) else none)
set_option maxHeartbeats 4000000 in
set_option maxRecDepth 100000 in
theorem kX6_isGood (l : Launch) (D : va_G) (cC cI cJ cZ : ClassId) (o : Nat) (a : Nat → Nat) (M : OM) (x1 : Int32) (r : Int32) (M' : OM) (h : fX6_isGood M x1 = some (r, M')) : gMi l yX6_isGood cX6_isGood 3 (some .boolean) (gR 4) D (tysG cC cI cJ cZ) [.ref o, .int x1] (wMod cI cJ o a M) r (wMod cI cJ o a M') := by
  refine gMi_of (by decide) (Nat.le_of_ble_eq_true rfl) rfl ?_
  intro p e s m args below meth c A Q C hQ
  unfold fX6_isGood at h
  refine g_aload_n C dX6_isGood_0 rfl 0 rfl ?_
  refine g_get (v := .ref (a 0)) C fl_X6_7 dX6_isGood_1 0 rfl rfl ?_
  refine g_iload_n C dX6_isGood_4 rfl 1 rfl ?_
  obtain ⟨hg5, h⟩ := ifg h
  refine g_iald (f := (M.2.1 0)) C dX6_isGood_5 1 0 rfl rfl hg5 ?_
  refine g_istore_n (lv' := [(2, .int ((M.2.1 0) x1.toNatClampNeg)), (0, .ref o), (1, .int x1)]) C dX6_isGood_6 rfl (by decide) rfl ?_
  refine g_iload_n C dX6_isGood_7 rfl 2 rfl ?_
  refine g_iconst (v := (2 : Int32)) C dX6_isGood_8 (by decide) ?_
  refine g_icmp_ge (tgt := 24) C dX6_isGood_9 (by decide) (fun c9 => ?_) (fun c9 => ?_)
  · have h := ifp h c9
    refine g_iload_n C dX6_isGood_24 rfl 2 rfl ?_
    refine g_iconst (v := (2 : Int32)) C dX6_isGood_25 (by decide) ?_
    refine g_icmp_ne (tgt := 51) C dX6_isGood_26 (by decide) (fun c26 => ?_) (fun c26 => ?_)
    · have h := ifn h c26
      refine g_aload_n C dX6_isGood_51 rfl 1 rfl ?_
      refine g_get (v := .int (M.1 3)) C fl_X6_99 dX6_isGood_52 0 rfl rfl ?_
      by_cases c55_0 : (M.1 3) = 0
      · have h := ifp h c55_0
        refine g_tableAt (v := 0) (off := 25) (tgt := 80) C dX6_isGood_55 c55_0 (by decide) (by decide) rfl (by decide) ?_
        refine g_aload_n C dX6_isGood_80 rfl 1 rfl ?_
        refine g_iload_n C dX6_isGood_81 rfl 0 rfl ?_
        obtain ⟨⟨r82, T82⟩, h82, h⟩ := obd h
        refine g_callVi (st := []) (ws2 := wMod cI cJ o a T82) C yv_X6_isKindLetter ml_X6_123 dX6_isGood_82 (kX6_isKindLetter l D cC cI cJ cZ o a M ((M.2.1 0) x1.toNatClampNeg) r82 T82 h82) gCut_all ⟨by decide, by decide⟩ ⟨rfl, rfl⟩ ⟨Nat.zero_le _, Nat.zero_le _⟩ rfl rfl (Nat.le_of_ble_eq_true rfl) 5 0 rfl rfl rfl ?_
        obtain ⟨hz85, h⟩ := ifg h
        cases sinj h
        exact g_zret C dX6_isGood_85 (okZ_n hz85) rfl rfl hQ
      · have h := ifn h c55_0
        by_cases c55_1 : (M.1 3) = 1
        · have h := ifp h c55_1
          refine g_tableAt (v := 1) (off := 31) (tgt := 86) C dX6_isGood_55 c55_1 (by decide) (by decide) rfl (by decide) ?_
          refine g_aload_n C dX6_isGood_86 rfl 1 rfl ?_
          refine g_iload_n C dX6_isGood_87 rfl 0 rfl ?_
          obtain ⟨⟨r88, T88⟩, h88, h⟩ := obd h
          refine g_callVi (st := []) (ws2 := wMod cI cJ o a T88) C yv_X6_isFirstLetter ml_X6_126 dX6_isGood_88 (kX6_isFirstLetter l D cC cI cJ cZ o a M ((M.2.1 0) x1.toNatClampNeg) r88 T88 h88) gCut_all ⟨by decide, by decide⟩ ⟨rfl, rfl⟩ ⟨Nat.zero_le _, Nat.zero_le _⟩ rfl rfl (Nat.le_of_ble_eq_true rfl) 5 0 rfl rfl rfl ?_
          obtain ⟨hz91, h⟩ := ifg h
          cases sinj h
          exact g_zret C dX6_isGood_91 (okZ_n hz91) rfl rfl hQ
        · have h := ifn h c55_1
          by_cases c55_2 : (M.1 3) = 2
          · have h := ifp h c55_2
            refine g_tableAt (v := 2) (off := 37) (tgt := 92) C dX6_isGood_55 c55_2 (by decide) (by decide) rfl (by decide) ?_
            refine g_aload_n C dX6_isGood_92 rfl 1 rfl ?_
            refine g_iload_n C dX6_isGood_93 rfl 0 rfl ?_
            obtain ⟨⟨r94, T94⟩, h94, h⟩ := obd h
            refine g_callVi (st := []) (ws2 := wMod cI cJ o a T94) C yv_X6_isSecondLetter ml_X6_129 dX6_isGood_94 (kX6_isSecondLetter l D cC cI cJ cZ o a M ((M.2.1 0) x1.toNatClampNeg) r94 T94 h94) gCut_all ⟨by decide, by decide⟩ ⟨rfl, rfl⟩ ⟨Nat.zero_le _, Nat.zero_le _⟩ rfl rfl (Nat.le_of_ble_eq_true rfl) 5 0 rfl rfl rfl ?_
            obtain ⟨hz97, h⟩ := ifg h
            cases sinj h
            exact g_zret C dX6_isGood_97 (okZ_n hz97) rfl rfl hQ
          · have h := ifn h c55_2
            refine g_tableOut (tgt := 98) C dX6_isGood_55 (by have q0 := lv_neT (a := 0) c55_0 (by decide); have q1 := lv_neT (a := 1) c55_1 (by decide); have q2 := lv_neT (a := 2) c55_2 (by decide); omega) (by decide) ?_
            refine g_aload_n C dX6_isGood_98 rfl 1 rfl ?_
            refine g_iload_n C dX6_isGood_99 rfl 0 rfl ?_
            obtain ⟨⟨r100, T100⟩, h100, h⟩ := obd h
            refine g_callVi (st := []) (ws2 := wMod cI cJ o a T100) C yv_X6_isBehindLetter ml_X6_132 dX6_isGood_100 (kX6_isBehindLetter l D cC cI cJ cZ o a M ((M.2.1 0) x1.toNatClampNeg) r100 T100 h100) gCut_all ⟨by decide, by decide⟩ ⟨rfl, rfl⟩ ⟨Nat.zero_le _, Nat.zero_le _⟩ rfl rfl (Nat.le_of_ble_eq_true rfl) 5 0 rfl rfl rfl ?_
            obtain ⟨hz103, h⟩ := ifg h
            cases sinj h
            exact g_zret C dX6_isGood_103 (okZ_n hz103) rfl rfl hQ
    · have h := ifp h c26
      refine g_aload_n C dX6_isGood_29 rfl 1 rfl ?_
      refine g_iconst (v := (0 : Int32)) C dX6_isGood_30 (by decide) ?_
      refine g_put (ws2 := wMod cI cJ o a ((va_up M.1 2 (0 : Int32)), M.2.1, M.2.2.1, M.2.2.2)) C fp_X6_85 dX6_isGood_31 0 rfl rfl rfl (Nat.le_of_ble_eq_true rfl) rfl ?_
      refine g_aload_n C dX6_isGood_34 rfl 1 rfl ?_
      refine g_iconst (v := (0 : Int32)) C dX6_isGood_35 (by decide) ?_
      refine g_put (ws2 := wMod cI cJ o a ((va_up (va_up M.1 2 (0 : Int32)) 3 (0 : Int32)), M.2.1, M.2.2.1, M.2.2.2)) C fp_X6_99 dX6_isGood_36 0 rfl rfl rfl (Nat.le_of_ble_eq_true rfl) rfl ?_
      refine g_iload_n C dX6_isGood_39 rfl 0 rfl ?_
      refine g_bipush (v := (59 : Int32)) C dX6_isGood_40 (by decide) ?_
      refine g_icmp_ne (tgt := 49) C dX6_isGood_42 (by decide) (fun c42 => ?_) (fun c42 => ?_)
      · have h := ifn h c42
        refine g_iconst (v := (0 : Int32)) C dX6_isGood_49 (by decide) ?_
        cases sinj h
        exact g_zret C dX6_isGood_50 rfl rfl rfl hQ
      · have h := ifp h c42
        refine g_iconst (v := (1 : Int32)) C dX6_isGood_45 (by decide) ?_
        refine g_goto (tgt := 50) C dX6_isGood_46 (by decide) ?_
        cases sinj h
        exact g_zret C dX6_isGood_50 rfl rfl rfl hQ
  · have h := ifn h c9
    refine g_iload_n C dX6_isGood_12 rfl 0 rfl ?_
    refine g_i2l C dX6_isGood_13 ?_
    refine g_ldc2 C dX6_isGood_14 ck_X6_119 ?_
    refine g_ldc2 C dX6_isGood_17 ck_X6_121 ?_
    obtain ⟨r20, h20, h⟩ := obd h
    refine g_callSi (st := []) (ws2 := wMod cI cJ o a M) C ys_X6_in ml_X6_78 dX6_isGood_20 (kX6_in l D cC cI cJ cZ (((M.2.1 0) x1.toNatClampNeg).toInt64) (50 : Int64) (52 : Int64) r20 h20) gCut_nil ⟨by decide, by decide⟩ ⟨rfl, rfl⟩ ⟨Nat.zero_le _, Nat.zero_le _⟩ rfl rfl (Nat.le_of_ble_eq_true rfl) ?_
    obtain ⟨hz23, h⟩ := ifg h
    cases sinj h
    exact g_zret C dX6_isGood_23 (okZ_n hz23) rfl rfl hQ
def fX6_faultOf_L12 (x1_L12 : Int32) (M_L12 : OM) : Option ((Int32 × OM) ⊕ (Int32 × OM)) :=
  (if (M_L12.1 1) ≤ x1_L12 then some (.inr (x1_L12, M_L12))
 else ((fX6_isGood M_L12 x1_L12).bind (fun r => (fun r22 T22 => (if r22 = 0 then some (.inr (x1_L12, T22))
 else some (.inl ((x1_L12 + (1 : Int32)), T22)))) r.1 r.2)))
def fX6_faultOf_J34 (x1_J34 : Int32) (M_J34 : OM) : Option (Int32 × OM) :=
  some (x1_J34, M_J34)
def fX6_faultOf (M : OM)  : Option (Int32 × OM) :=
  ((wh (σ := Int32 × OM) (ρ := Int32 × OM) (fun t => fX6_faultOf_L12 t.1 t.2) 100000 ((0 : Int32), ((va_up (va_up M.1 2 (0 : Int32)) 3 (0 : Int32)), M.2.1, M.2.2.1, M.2.2.2))).bind (fun X => (fun e1_L12 M_E12 => fX6_faultOf_J34 e1_L12 M_E12) X.1 X.2))
set_option maxHeartbeats 4000000 in
set_option maxRecDepth 100000 in
theorem kX6_faultOf (l : Launch) (D : va_G) (cC cI cJ cZ : ClassId) (o : Nat) (a : Nat → Nat) (M : OM)  (r : Int32) (M' : OM) (h : fX6_faultOf M = some (r, M')) : gMi l yX6_faultOf cX6_faultOf 2 (some .int) (gR 5) D (tysG cC cI cJ cZ) [.ref o] (wMod cI cJ o a M) r (wMod cI cJ o a M') := by
  refine gMi_of (by decide) (Nat.le_of_ble_eq_true rfl) rfl ?_
  intro p e s m args below meth c A Q C hQ
  have j34 : ∀ (x1_J34 : Int32) (M_J34 : OM), fX6_faultOf_J34 x1_J34 M_J34 = some (r, M') → gG p l e (gR 5) s m args below meth c 2 D A 0 0 Q 34 [(1, .int x1_J34)] [] (wMod cI cJ o a M_J34) := by
    intro x1_J34 M_J34 h
    unfold fX6_faultOf_J34 at h
    refine g_iload_n C dX6_faultOf_34 rfl 0 rfl ?_
    cases sinj h
    exact g_iret C dX6_faultOf_35 rfl rfl hQ
  unfold fX6_faultOf at h
  refine g_aload_n C dX6_faultOf_0 rfl 0 rfl ?_
  refine g_iconst (v := (0 : Int32)) C dX6_faultOf_1 (by decide) ?_
  refine g_put (ws2 := wMod cI cJ o a ((va_up M.1 2 (0 : Int32)), M.2.1, M.2.2.1, M.2.2.2)) C fp_X6_85 dX6_faultOf_2 0 rfl rfl rfl (Nat.le_of_ble_eq_true rfl) rfl ?_
  refine g_aload_n C dX6_faultOf_5 rfl 0 rfl ?_
  refine g_iconst (v := (0 : Int32)) C dX6_faultOf_6 (by decide) ?_
  refine g_put (ws2 := wMod cI cJ o a ((va_up (va_up M.1 2 (0 : Int32)) 3 (0 : Int32)), M.2.1, M.2.2.1, M.2.2.2)) C fp_X6_99 dX6_faultOf_7 0 rfl rfl rfl (Nat.le_of_ble_eq_true rfl) rfl ?_
  refine g_iconst (v := (0 : Int32)) C dX6_faultOf_10 (by decide) ?_
  refine g_istore_n (lv' := [(1, .int (0 : Int32)), (0, .ref o)]) C dX6_faultOf_11 rfl (by decide) rfl ?_
  obtain ⟨X12, hW12, hK12⟩ := obd h
  have l12 : ∀ (fu12 : Nat) (x1_L12 : Int32) (M_L12 : OM), wh (σ := Int32 × OM) (ρ := Int32 × OM) (fun t => fX6_faultOf_L12 t.1 t.2) fu12 (x1_L12, M_L12) = some X12 → gG p l e (gR 5) s m args below meth c 2 D A 0 0 Q 12 [(0, .ref o), (1, .int x1_L12)] [] (wMod cI cJ o a M_L12) := by
    intro fu12
    induction fu12 with
    | zero => intro x1_L12 M_L12 hW; exact (wh_0 hW).elim
    | succ fu12 ih12 =>
      intro x1_L12 M_L12 hW
      obtain ⟨z12, h, hw12⟩ := wh_s hW
      replace h : fX6_faultOf_L12 x1_L12 M_L12 = some z12 := h
      unfold fX6_faultOf_L12 at h
      refine g_iload_n C dX6_faultOf_12 rfl 1 rfl ?_
      refine g_aload_n C dX6_faultOf_13 rfl 0 rfl ?_
      refine g_get (v := .int (M_L12.1 1)) C fl_X6_82 dX6_faultOf_14 0 rfl rfl ?_
      refine g_icmp_ge (tgt := 34) C dX6_faultOf_17 (by decide) (fun c17 => ?_) (fun c17 => ?_)
      · have h := ifp h c17
        obtain rfl := sinj h
        obtain rfl := wk_r hw12
        have h := hK12
        refine g_lv [1] rfl ?_
        exact j34 x1_L12 M_L12 h
      · have h := ifn h c17
        refine g_aload_n C dX6_faultOf_20 rfl 0 rfl ?_
        refine g_iload_n C dX6_faultOf_21 rfl 1 rfl ?_
        obtain ⟨⟨r22, T22⟩, h22, h⟩ := obd h
        refine g_callVi (st := []) (ws2 := wMod cI cJ o a T22) C yv_X6_isGood ml_X6_135 dX6_faultOf_22 (kX6_isGood l D cC cI cJ cZ o a M_L12 x1_L12 r22 T22 h22) gCut_all ⟨by decide, by decide⟩ ⟨rfl, rfl⟩ ⟨Nat.zero_le _, Nat.zero_le _⟩ rfl rfl (Nat.le_of_ble_eq_true rfl) 5 0 rfl rfl rfl ?_
        refine g_if_eq (tgt := 34) C dX6_faultOf_25 (by decide) (fun c25 => ?_) (fun c25 => ?_)
        · have h := ifp h c25
          obtain rfl := sinj h
          obtain rfl := wk_r hw12
          have h := hK12
          refine g_lv [1] rfl ?_
          exact j34 x1_L12 T22 h
        · have h := ifn h c25
          refine g_iinc (j := 1) (v := (x1_L12 + (1 : Int32))) (lv' := [(1, .int (x1_L12 + (1 : Int32))), (0, .ref o)]) C dX6_faultOf_28 rfl rfl (by decide) rfl ?_
          refine g_goto (tgt := 12) C dX6_faultOf_31 (by decide) ?_
          obtain rfl := sinj h
          refine g_lv [1, 0] rfl ?_
          exact ih12 (x1_L12 + (1 : Int32)) T22 hw12
  refine g_lv [1, 0] rfl ?_
  exact l12 100000 (0 : Int32) ((va_up (va_up M.1 2 (0 : Int32)) 3 (0 : Int32)), M.2.1, M.2.2.1, M.2.2.2) hW12
def fX6_fault (M : OM)  : Option (Int32 × OM) :=
  ((fX6_faultOf M).bind (fun r => (fun r1 T1 => some (r1, T1)) r.1 r.2))
set_option maxHeartbeats 4000000 in
set_option maxRecDepth 100000 in
theorem kX6_fault (l : Launch) (D : va_G) (cC cI cJ cZ : ClassId) (o : Nat) (a : Nat → Nat) (M : OM)  (r : Int32) (M' : OM) (h : fX6_fault M = some (r, M')) : gMi l yX6_fault cX6_fault 1 (some .int) (gR 6) D (tysG cC cI cJ cZ) [.ref o] (wMod cI cJ o a M) r (wMod cI cJ o a M') := by
  refine gMi_of (by decide) (Nat.le_of_ble_eq_true rfl) rfl ?_
  intro p e s m args below meth c A Q C hQ
  unfold fX6_fault at h
  refine g_aload_n C dX6_fault_0 rfl 0 rfl ?_
  obtain ⟨⟨r1, T1⟩, h1, h⟩ := obd h
  refine g_callVi (st := []) (ws2 := wMod cI cJ o a T1) C yv_X6_faultOf ml_X6_138 dX6_fault_1 (kX6_faultOf l D cC cI cJ cZ o a M r1 T1 h1) gCut_all ⟨by decide, by decide⟩ ⟨rfl, rfl⟩ ⟨Nat.zero_le _, Nat.zero_le _⟩ rfl rfl (Nat.le_of_ble_eq_true rfl) 5 0 rfl rfl rfl ?_
  cases sinj h
  exact g_iret C dX6_fault_4 rfl rfl hQ
def fX6_board_L104 (x1_L104 : Int32) (M_L104 : OM) : Option ((Int32 × OM) ⊕ (OM)) :=
  (if (16 : Int32) ≤ x1_L104 then some (.inr M_L104)
 else (if okI x1_L104 16 = true then some (.inl ((x1_L104 + (1 : Int32)), (M_L104.1, (va_up M_L104.2.1 15 (upd (M_L104.2.1 15) x1_L104.toNatClampNeg (0 : Int32))), M_L104.2.2.1, M_L104.2.2.2))) else none))
def fX6_board_J123 (M_J123 : OM) : Option (Int32 × OM) :=
  some (((M_J123.1 9) * (M_J123.1 10)), ((va_up (va_up (va_up (va_up M_J123.1 1 (0 : Int32)) 11 ((M_J123.1 11) + (1 : Int32))) 20 (1 : Int32)) 28 (0 : Int32)), M_J123.2.1, M_J123.2.2.1, M_J123.2.2.2))
def fX6_board (M : OM)  : Option (Int32 × OM) :=
  (if (M.1 1) < (3 : Int32) then some ((-103 : Int32), M)
 else ((fX6_faultOf M).bind (fun r => (fun r9 T9 => (if r9 < (T9.1 1) then some ((-103 : Int32), T9)
 else (if (T9.1 3) = (3 : Int32) then ((fX6_readLines T9).bind (fun r32 => (if (T9.1 2) = (r32 - (1 : Int32)) then (if okI (0 : Int32) 36 = true then (if okI (1 : Int32) 36 = true then ((fX6_copy 8 8 (T9.2.1 6) (T9.2.1 12)).bind (fun T77 => ((fX6_copy 8 8 (T9.2.1 7) (T9.2.1 13)).bind (fun T88 => ((fX6_copy 8 8 (T9.2.1 8) (T9.2.1 14)).bind (fun T99 => ((wh (σ := Int32 × OM) (ρ := OM) (fun t => fX6_board_L104 t.1 t.2) 100000 ((0 : Int32), ((va_up (va_up T9.1 9 (((T9.2.1 0) (0 : Int32).toNatClampNeg) - (48 : Int32))) 10 (((T9.2.1 0) (1 : Int32).toNatClampNeg) - (48 : Int32))), (va_up (va_up (va_up T9.2.1 12 T77) 13 T88) 14 T99), T9.2.2.1, T9.2.2.2))).bind (fun M_E104 => fX6_board_J123 M_E104)))))))) else none) else none)
 else some ((-103 : Int32), T9))))
 else some ((-103 : Int32), T9)))) r.1 r.2)))
set_option maxHeartbeats 4000000 in
set_option maxRecDepth 100000 in
theorem kX6_board (l : Launch) (D : va_G) (cC cI cJ cZ : ClassId) (o : Nat) (a : Nat → Nat) (M : OM)  (r : Int32) (M' : OM) (h : fX6_board M = some (r, M')) : gMi l yX6_board cX6_board 2 (some .int) (gR 6) D (tysG cC cI cJ cZ) [.ref o] (wMod cI cJ o a M) r (wMod cI cJ o a M') := by
  refine gMi_of (by decide) (Nat.le_of_ble_eq_true rfl) rfl ?_
  intro p e s m args below meth c A Q C hQ
  have j123 : ∀ (M_J123 : OM), fX6_board_J123 M_J123 = some (r, M') → gG p l e (gR 6) s m args below meth c 2 D A 0 0 Q 123 [(0, .ref o)] [] (wMod cI cJ o a M_J123) := by
    intro M_J123 h
    unfold fX6_board_J123 at h
    refine g_aload_n C dX6_board_123 rfl 0 rfl ?_
    refine g_iconst (v := (0 : Int32)) C dX6_board_124 (by decide) ?_
    refine g_put (ws2 := wMod cI cJ o a ((va_up M_J123.1 28 (0 : Int32)), M_J123.2.1, M_J123.2.2.1, M_J123.2.2.2)) C fp_X6_151 dX6_board_125 0 rfl rfl rfl (Nat.le_of_ble_eq_true rfl) rfl ?_
    refine g_aload_n C dX6_board_128 rfl 0 rfl ?_
    refine g_dup C dX6_board_129 rfl ?_
    refine g_get (v := .int (M_J123.1 11)) C fl_X6_154 dX6_board_130 0 rfl rfl ?_
    refine g_iconst (v := (1 : Int32)) C dX6_board_133 (by decide) ?_
    refine g_iadd C dX6_board_134 ?_
    refine g_put (ws2 := wMod cI cJ o a ((va_up (va_up M_J123.1 11 ((M_J123.1 11) + (1 : Int32))) 28 (0 : Int32)), M_J123.2.1, M_J123.2.2.1, M_J123.2.2.2)) C fp_X6_154 dX6_board_135 0 rfl rfl rfl (Nat.le_of_ble_eq_true rfl) rfl ?_
    refine g_aload_n C dX6_board_138 rfl 0 rfl ?_
    refine g_iconst (v := (0 : Int32)) C dX6_board_139 (by decide) ?_
    refine g_put (ws2 := wMod cI cJ o a ((va_up (va_up (va_up M_J123.1 1 (0 : Int32)) 11 ((M_J123.1 11) + (1 : Int32))) 28 (0 : Int32)), M_J123.2.1, M_J123.2.2.1, M_J123.2.2.2)) C fp_X6_82 dX6_board_140 0 rfl rfl rfl (Nat.le_of_ble_eq_true rfl) rfl ?_
    refine g_aload_n C dX6_board_143 rfl 0 rfl ?_
    refine g_iconst (v := (1 : Int32)) C dX6_board_144 (by decide) ?_
    refine g_put (ws2 := wMod cI cJ o a ((va_up (va_up (va_up (va_up M_J123.1 1 (0 : Int32)) 11 ((M_J123.1 11) + (1 : Int32))) 20 (1 : Int32)) 28 (0 : Int32)), M_J123.2.1, M_J123.2.2.1, M_J123.2.2.2)) C fp_X6_72 dX6_board_145 0 rfl rfl rfl (Nat.le_of_ble_eq_true rfl) rfl ?_
    refine g_aload_n C dX6_board_148 rfl 0 rfl ?_
    refine g_get (v := .int (M_J123.1 9)) C fl_X6_141 dX6_board_149 0 rfl rfl ?_
    refine g_aload_n C dX6_board_152 rfl 0 rfl ?_
    refine g_get (v := .int (M_J123.1 10)) C fl_X6_144 dX6_board_153 0 rfl rfl ?_
    refine g_imul C dX6_board_156 ?_
    cases sinj h
    exact g_iret C dX6_board_157 rfl rfl hQ
  unfold fX6_board at h
  refine g_aload_n C dX6_board_0 rfl 0 rfl ?_
  refine g_get (v := .int (M.1 1)) C fl_X6_82 dX6_board_1 0 rfl rfl ?_
  refine g_iconst (v := (3 : Int32)) C dX6_board_4 (by decide) ?_
  refine g_icmp_lt (tgt := 40) C dX6_board_5 (by decide) (fun c5 => ?_) (fun c5 => ?_)
  · have h := ifp h c5
    refine g_bipush (v := (-103 : Int32)) C dX6_board_40 (by decide) ?_
    cases sinj h
    exact g_iret C dX6_board_42 rfl rfl hQ
  · have h := ifn h c5
    refine g_aload_n C dX6_board_8 rfl 0 rfl ?_
    obtain ⟨⟨r9, T9⟩, h9, h⟩ := obd h
    refine g_callVi (st := []) (ws2 := wMod cI cJ o a T9) C yv_X6_faultOf ml_X6_138 dX6_board_9 (kX6_faultOf l D cC cI cJ cZ o a M r9 T9 h9) gCut_all ⟨by decide, by decide⟩ ⟨rfl, rfl⟩ ⟨Nat.zero_le _, Nat.zero_le _⟩ rfl rfl (Nat.le_of_ble_eq_true rfl) 5 0 rfl rfl rfl ?_
    refine g_aload_n C dX6_board_12 rfl 0 rfl ?_
    refine g_get (v := .int (T9.1 1)) C fl_X6_82 dX6_board_13 0 rfl rfl ?_
    refine g_icmp_lt (tgt := 40) C dX6_board_16 (by decide) (fun c16 => ?_) (fun c16 => ?_)
    · have h := ifp h c16
      refine g_bipush (v := (-103 : Int32)) C dX6_board_40 (by decide) ?_
      cases sinj h
      exact g_iret C dX6_board_42 rfl rfl hQ
    · have h := ifn h c16
      refine g_aload_n C dX6_board_19 rfl 0 rfl ?_
      refine g_get (v := .int (T9.1 3)) C fl_X6_99 dX6_board_20 0 rfl rfl ?_
      refine g_iconst (v := (3 : Int32)) C dX6_board_23 (by decide) ?_
      refine g_icmp_ne (tgt := 40) C dX6_board_24 (by decide) (fun c24 => ?_) (fun c24 => ?_)
      · have h := ifn h c24
        refine g_bipush (v := (-103 : Int32)) C dX6_board_40 (by decide) ?_
        cases sinj h
        exact g_iret C dX6_board_42 rfl rfl hQ
      · have h := ifp h c24
        refine g_aload_n C dX6_board_27 rfl 0 rfl ?_
        refine g_get (v := .int (T9.1 2)) C fl_X6_85 dX6_board_28 0 rfl rfl ?_
        refine g_aload_n C dX6_board_31 rfl 0 rfl ?_
        obtain ⟨r32, h32, h⟩ := obd h
        refine g_callVi (st := [.int (T9.1 2)]) (ws2 := wMod cI cJ o a T9) C yv_X6_readLines ml_X6_116 dX6_board_32 (kX6_readLines l D cC cI cJ cZ o a T9 r32 h32) gCut_all ⟨by decide, by decide⟩ ⟨rfl, rfl⟩ ⟨Nat.zero_le _, Nat.zero_le _⟩ rfl rfl (Nat.le_of_ble_eq_true rfl) 5 0 rfl rfl rfl ?_
        refine g_iconst (v := (1 : Int32)) C dX6_board_35 (by decide) ?_
        refine g_isub C dX6_board_36 ?_
        refine g_icmp_eq (tgt := 43) C dX6_board_37 (by decide) (fun c37 => ?_) (fun c37 => ?_)
        · have h := ifp h c37
          refine g_aload_n C dX6_board_43 rfl 0 rfl ?_
          refine g_aload_n C dX6_board_44 rfl 0 rfl ?_
          refine g_get (v := .ref (a 0)) C fl_X6_7 dX6_board_45 0 rfl rfl ?_
          refine g_iconst (v := (0 : Int32)) C dX6_board_48 (by decide) ?_
          obtain ⟨hg49, h⟩ := ifg h
          refine g_iald (f := (T9.2.1 0)) C dX6_board_49 1 0 rfl rfl hg49 ?_
          refine g_bipush (v := (48 : Int32)) C dX6_board_50 (by decide) ?_
          refine g_isub C dX6_board_52 ?_
          refine g_put (ws2 := wMod cI cJ o a ((va_up T9.1 9 (((T9.2.1 0) (0 : Int32).toNatClampNeg) - (48 : Int32))), T9.2.1, T9.2.2.1, T9.2.2.2)) C fp_X6_141 dX6_board_53 0 rfl rfl rfl (Nat.le_of_ble_eq_true rfl) rfl ?_
          refine g_aload_n C dX6_board_56 rfl 0 rfl ?_
          refine g_aload_n C dX6_board_57 rfl 0 rfl ?_
          refine g_get (v := .ref (a 0)) C fl_X6_7 dX6_board_58 0 rfl rfl ?_
          refine g_iconst (v := (1 : Int32)) C dX6_board_61 (by decide) ?_
          obtain ⟨hg62, h⟩ := ifg h
          refine g_iald (f := (T9.2.1 0)) C dX6_board_62 1 0 rfl rfl hg62 ?_
          refine g_bipush (v := (48 : Int32)) C dX6_board_63 (by decide) ?_
          refine g_isub C dX6_board_65 ?_
          refine g_put (ws2 := wMod cI cJ o a ((va_up (va_up T9.1 9 (((T9.2.1 0) (0 : Int32).toNatClampNeg) - (48 : Int32))) 10 (((T9.2.1 0) (1 : Int32).toNatClampNeg) - (48 : Int32))), T9.2.1, T9.2.2.1, T9.2.2.2)) C fp_X6_144 dX6_board_66 0 rfl rfl rfl (Nat.le_of_ble_eq_true rfl) rfl ?_
          refine g_aload_n C dX6_board_69 rfl 0 rfl ?_
          refine g_get (v := .ref (a 6)) C fl_X6_13 dX6_board_70 0 rfl rfl ?_
          refine g_aload_n C dX6_board_73 rfl 0 rfl ?_
          refine g_get (v := .ref (a 12)) C fl_X6_22 dX6_board_74 0 rfl rfl ?_
          obtain ⟨T77, h77, h⟩ := obd h
          refine g_callSv (st := []) (ws2 := wMod cI cJ o a ((va_up (va_up T9.1 9 (((T9.2.1 0) (0 : Int32).toNatClampNeg) - (48 : Int32))) 10 (((T9.2.1 0) (1 : Int32).toNatClampNeg) - (48 : Int32))), (va_up T9.2.1 12 T77), T9.2.2.1, T9.2.2.2)) C ys_X6_copy ml_X6_147 dX6_board_77 (kX6_copy l D cC cI cJ cZ (a 6) (a 12) 8 8 (T9.2.1 6) (T9.2.1 12) T77 h77) (gCut_at [2, 5] [0, 1, 3, 4, 6, 7, 8, 9, 10, 11, 12, 13, 14, 15, 16, 17, 18, 19] [0, 1, 18, 2, 3, 19, 4, 5, 6, 7, 8, 9, 10, 11, 12, 13, 14, 15, 16, 17] rfl rfl rfl rfl (by decide) rfl rfl) ⟨by decide, by decide⟩ ⟨rfl, rfl⟩ ⟨Nat.zero_le _, Nat.zero_le _⟩ rfl rfl (Nat.le_of_ble_eq_true rfl) ?_
          refine g_aload_n C dX6_board_80 rfl 0 rfl ?_
          refine g_get (v := .ref (a 7)) C fl_X6_16 dX6_board_81 0 rfl rfl ?_
          refine g_aload_n C dX6_board_84 rfl 0 rfl ?_
          refine g_get (v := .ref (a 13)) C fl_X6_25 dX6_board_85 0 rfl rfl ?_
          obtain ⟨T88, h88, h⟩ := obd h
          refine g_callSv (st := []) (ws2 := wMod cI cJ o a ((va_up (va_up T9.1 9 (((T9.2.1 0) (0 : Int32).toNatClampNeg) - (48 : Int32))) 10 (((T9.2.1 0) (1 : Int32).toNatClampNeg) - (48 : Int32))), (va_up (va_up T9.2.1 12 T77) 13 T88), T9.2.2.1, T9.2.2.2)) C ys_X6_copy ml_X6_147 dX6_board_88 (kX6_copy l D cC cI cJ cZ (a 7) (a 13) 8 8 (T9.2.1 7) (T9.2.1 13) T88 h88) (gCut_at [3, 6] [0, 1, 2, 4, 5, 7, 8, 9, 10, 11, 12, 13, 14, 15, 16, 17, 18, 19] [0, 1, 2, 18, 3, 4, 19, 5, 6, 7, 8, 9, 10, 11, 12, 13, 14, 15, 16, 17] rfl rfl rfl rfl (by decide) rfl rfl) ⟨by decide, by decide⟩ ⟨rfl, rfl⟩ ⟨Nat.zero_le _, Nat.zero_le _⟩ rfl rfl (Nat.le_of_ble_eq_true rfl) ?_
          refine g_aload_n C dX6_board_91 rfl 0 rfl ?_
          refine g_get (v := .ref (a 8)) C fl_X6_19 dX6_board_92 0 rfl rfl ?_
          refine g_aload_n C dX6_board_95 rfl 0 rfl ?_
          refine g_get (v := .ref (a 14)) C fl_X6_28 dX6_board_96 0 rfl rfl ?_
          obtain ⟨T99, h99, h⟩ := obd h
          refine g_callSv (st := []) (ws2 := wMod cI cJ o a ((va_up (va_up T9.1 9 (((T9.2.1 0) (0 : Int32).toNatClampNeg) - (48 : Int32))) 10 (((T9.2.1 0) (1 : Int32).toNatClampNeg) - (48 : Int32))), (va_up (va_up (va_up T9.2.1 12 T77) 13 T88) 14 T99), T9.2.2.1, T9.2.2.2)) C ys_X6_copy ml_X6_147 dX6_board_99 (kX6_copy l D cC cI cJ cZ (a 8) (a 14) 8 8 (T9.2.1 8) (T9.2.1 14) T99 h99) (gCut_at [4, 7] [0, 1, 2, 3, 5, 6, 8, 9, 10, 11, 12, 13, 14, 15, 16, 17, 18, 19] [0, 1, 2, 3, 18, 4, 5, 19, 6, 7, 8, 9, 10, 11, 12, 13, 14, 15, 16, 17] rfl rfl rfl rfl (by decide) rfl rfl) ⟨by decide, by decide⟩ ⟨rfl, rfl⟩ ⟨Nat.zero_le _, Nat.zero_le _⟩ rfl rfl (Nat.le_of_ble_eq_true rfl) ?_
          refine g_iconst (v := (0 : Int32)) C dX6_board_102 (by decide) ?_
          refine g_istore_n (lv' := [(1, .int (0 : Int32)), (0, .ref o)]) C dX6_board_103 rfl (by decide) rfl ?_
          obtain ⟨X104, hW104, hK104⟩ := obd h
          have l104 : ∀ (fu104 : Nat) (x1_L104 : Int32) (M_L104 : OM), wh (σ := Int32 × OM) (ρ := OM) (fun t => fX6_board_L104 t.1 t.2) fu104 (x1_L104, M_L104) = some X104 → gG p l e (gR 6) s m args below meth c 2 D A 0 0 Q 104 [(0, .ref o), (1, .int x1_L104)] [] (wMod cI cJ o a M_L104) := by
            intro fu104
            induction fu104 with
            | zero => intro x1_L104 M_L104 hW; exact (wh_0 hW).elim
            | succ fu104 ih104 =>
              intro x1_L104 M_L104 hW
              obtain ⟨z104, h, hw104⟩ := wh_s hW
              replace h : fX6_board_L104 x1_L104 M_L104 = some z104 := h
              unfold fX6_board_L104 at h
              refine g_iload_n C dX6_board_104 rfl 1 rfl ?_
              refine g_bipush (v := (16 : Int32)) C dX6_board_105 (by decide) ?_
              refine g_icmp_ge (tgt := 123) C dX6_board_107 (by decide) (fun c107 => ?_) (fun c107 => ?_)
              · have h := ifp h c107
                obtain rfl := sinj h
                obtain rfl := wk_r hw104
                have h := hK104
                refine g_lv [0] rfl ?_
                exact j123 M_L104 h
              · have h := ifn h c107
                refine g_aload_n C dX6_board_110 rfl 0 rfl ?_
                refine g_get (v := .ref (a 15)) C fl_X6_31 dX6_board_111 0 rfl rfl ?_
                refine g_iload_n C dX6_board_114 rfl 1 rfl ?_
                refine g_iconst (v := (0 : Int32)) C dX6_board_115 (by decide) ?_
                obtain ⟨hg116, h⟩ := ifg h
                refine g_iast (f := (M_L104.2.1 15)) (ws2 := wMod cI cJ o a (M_L104.1, (va_up M_L104.2.1 15 (upd (M_L104.2.1 15) x1_L104.toNatClampNeg (0 : Int32))), M_L104.2.2.1, M_L104.2.2.2)) C dX6_board_116 8 0 rfl rfl hg116 rfl ?_
                refine g_iinc (j := 1) (v := (x1_L104 + (1 : Int32))) (lv' := [(1, .int (x1_L104 + (1 : Int32))), (0, .ref o)]) C dX6_board_117 rfl rfl (by decide) rfl ?_
                refine g_goto (tgt := 104) C dX6_board_120 (by decide) ?_
                obtain rfl := sinj h
                refine g_lv [1, 0] rfl ?_
                exact ih104 (x1_L104 + (1 : Int32)) (M_L104.1, (va_up M_L104.2.1 15 (upd (M_L104.2.1 15) x1_L104.toNatClampNeg (0 : Int32))), M_L104.2.2.1, M_L104.2.2.2) hw104
          refine g_lv [1, 0] rfl ?_
          exact l104 100000 (0 : Int32) ((va_up (va_up T9.1 9 (((T9.2.1 0) (0 : Int32).toNatClampNeg) - (48 : Int32))) 10 (((T9.2.1 0) (1 : Int32).toNatClampNeg) - (48 : Int32))), (va_up (va_up (va_up T9.2.1 12 T77) 13 T88) 14 T99), T9.2.2.1, T9.2.2.2) hW104
        · have h := ifn h c37
          refine g_bipush (v := (-103 : Int32)) C dX6_board_40 (by decide) ?_
          cases sinj h
          exact g_iret C dX6_board_42 rfl rfl hQ
def fX6_lacks (M : OM)  : Option (Int32) :=
  (if (M.1 9) = 0 then some (1 : Int32)
 else some (0 : Int32))
set_option maxHeartbeats 4000000 in
set_option maxRecDepth 100000 in
theorem kX6_lacks (l : Launch) (D : va_G) (cC cI cJ cZ : ClassId) (o : Nat) (a : Nat → Nat) (M : OM)  (r : Int32) (h : fX6_lacks M = some r) : gMi l yX6_lacks cX6_lacks 1 (some .boolean) (gR 1) D (tysG cC cI cJ cZ) [.ref o] (wMod cI cJ o a M) r (wMod cI cJ o a M) := by
  refine gMi_of (by decide) (Nat.le_of_ble_eq_true rfl) rfl ?_
  intro p e s m args below meth c A Q C hQ
  unfold fX6_lacks at h
  refine g_aload_n C dX6_lacks_0 rfl 0 rfl ?_
  refine g_get (v := .int (M.1 9)) C fl_X6_141 dX6_lacks_1 0 rfl rfl ?_
  refine g_if_ne (tgt := 11) C dX6_lacks_4 (by decide) (fun c4 => ?_) (fun c4 => ?_)
  · have h := ifn h c4
    refine g_iconst (v := (0 : Int32)) C dX6_lacks_11 (by decide) ?_
    cases sinj h
    exact g_zret C dX6_lacks_12 rfl rfl rfl hQ
  · have h := ifp h c4
    refine g_iconst (v := (1 : Int32)) C dX6_lacks_7 (by decide) ?_
    refine g_goto (tgt := 12) C dX6_lacks_8 (by decide) ?_
    cases sinj h
    exact g_zret C dX6_lacks_12 rfl rfl rfl hQ
def fX6_isLine (M : OM) (x1 : Int32) : Option (Int32) :=
  ((fX6_in x1.toInt64 (0 : Int64) ((((M.1 9) + (M.1 10)) - (1 : Int32)).toInt64)).bind (fun r15 => (if okZ r15 = true then some r15 else none)))
set_option maxHeartbeats 4000000 in
set_option maxRecDepth 100000 in
theorem kX6_isLine (l : Launch) (D : va_G) (cC cI cJ cZ : ClassId) (o : Nat) (a : Nat → Nat) (M : OM) (x1 : Int32) (r : Int32) (h : fX6_isLine M x1 = some r) : gMi l yX6_isLine cX6_isLine 2 (some .boolean) (gR 2) D (tysG cC cI cJ cZ) [.ref o, .int x1] (wMod cI cJ o a M) r (wMod cI cJ o a M) := by
  refine gMi_of (by decide) (Nat.le_of_ble_eq_true rfl) rfl ?_
  intro p e s m args below meth c A Q C hQ
  unfold fX6_isLine at h
  refine g_iload_n C dX6_isLine_0 rfl 1 rfl ?_
  refine g_i2l C dX6_isLine_1 ?_
  refine g_lconst (v := (0 : Int64)) C dX6_isLine_2 (by decide) ?_
  refine g_aload_n C dX6_isLine_3 rfl 0 rfl ?_
  refine g_get (v := .int (M.1 9)) C fl_X6_141 dX6_isLine_4 0 rfl rfl ?_
  refine g_aload_n C dX6_isLine_7 rfl 0 rfl ?_
  refine g_get (v := .int (M.1 10)) C fl_X6_144 dX6_isLine_8 0 rfl rfl ?_
  refine g_iadd C dX6_isLine_11 ?_
  refine g_iconst (v := (1 : Int32)) C dX6_isLine_12 (by decide) ?_
  refine g_isub C dX6_isLine_13 ?_
  refine g_i2l C dX6_isLine_14 ?_
  obtain ⟨r15, h15, h⟩ := obd h
  refine g_callSi (st := []) (ws2 := wMod cI cJ o a M) C ys_X6_in ml_X6_78 dX6_isLine_15 (kX6_in l D cC cI cJ cZ x1.toInt64 (0 : Int64) ((((M.1 9) + (M.1 10)) - (1 : Int32)).toInt64) r15 h15) gCut_nil ⟨by decide, by decide⟩ ⟨rfl, rfl⟩ ⟨Nat.zero_le _, Nat.zero_le _⟩ rfl rfl (Nat.le_of_ble_eq_true rfl) ?_
  obtain ⟨hz18, h⟩ := ifg h
  cases sinj h
  exact g_zret C dX6_isLine_18 (okZ_n hz18) rfl rfl hQ
