def fX2_add (S : Ob) (x1 : Int32) : Option (Ob) :=
  (if (S.1 1) < (Int32.ofNat 36) then (if okI (S.1 1) 36 = true then some ((va_up S.1 1 ((S.1 1) + (1 : Int32))), (va_up S.2 0 (upd (S.2 0) (S.1 1).toNatClampNeg (vp_nar .char ((x1.toUInt32 % 65536).toInt32))))) else none)
 else some S)
set_option maxHeartbeats 4000000 in
set_option maxRecDepth 100000 in
theorem kX2_add (l : Launch) (D : va_G) (cC cI cJ cZ : ClassId) (o : Nat) (a : Nat → Nat) (S : Ob) (x1 : Int32) (S' : Ob) (h : fX2_add S x1 = some S') : gMv l yX2_add cX2_add 2 none (gR 1) D (tysG cC cI cJ cZ) [.ref o, .int x1] (wPage cC o a S) (wPage cC o a S') := by
  refine gMv_of (by decide) (Nat.le_of_ble_eq_true rfl) rfl ?_
  intro p e s m args below meth c A Q C hQ
  unfold fX2_add at h
  refine g_aload_n C dX2_add_0 rfl 0 rfl ?_
  refine g_get (v := .int (S.1 1)) C fl_X2_15 dX2_add_1 0 rfl rfl ?_
  refine g_aload_n C dX2_add_4 rfl 0 rfl ?_
  refine g_get (v := .ref (a 0)) C fl_X2_9 dX2_add_5 0 rfl rfl ?_
  refine g_alen (v := (Int32.ofNat 36)) C dX2_add_8 1 1 rfl rfl rfl ?_
  refine g_icmp_lt (tgt := 13) C dX2_add_9 (by decide) (fun c9 => ?_) (fun c9 => ?_)
  · have h := ifp h c9
    refine g_aload_n C dX2_add_13 rfl 0 rfl ?_
    refine g_get (v := .ref (a 0)) C fl_X2_9 dX2_add_14 0 rfl rfl ?_
    refine g_aload_n C dX2_add_17 rfl 0 rfl ?_
    refine g_get (v := .int (S.1 1)) C fl_X2_15 dX2_add_18 0 rfl rfl ?_
    refine g_iload_n C dX2_add_21 rfl 1 rfl ?_
    refine g_i2c C dX2_add_22 ?_
    obtain ⟨hg23, h⟩ := ifg h
    refine g_cast (f := (S.2 0)) (ws2 := wPage cC o a (S.1, (va_up S.2 0 (upd (S.2 0) (S.1 1).toNatClampNeg (vp_nar .char ((x1.toUInt32 % 65536).toInt32)))))) C dX2_add_23 1 1 rfl rfl hg23 rfl ?_
    refine g_aload_n C dX2_add_24 rfl 0 rfl ?_
    refine g_dup C dX2_add_25 rfl ?_
    refine g_get (v := .int (S.1 1)) C fl_X2_15 dX2_add_26 0 rfl rfl ?_
    refine g_iconst (v := (1 : Int32)) C dX2_add_29 (by decide) ?_
    refine g_iadd C dX2_add_30 ?_
    refine g_put (ws2 := wPage cC o a ((va_up S.1 1 ((S.1 1) + (1 : Int32))), (va_up S.2 0 (upd (S.2 0) (S.1 1).toNatClampNeg (vp_nar .char ((x1.toUInt32 % 65536).toInt32)))))) C fp_X2_15 dX2_add_31 0 rfl rfl rfl (Nat.le_of_ble_eq_true rfl) rfl ?_
    cases sinj h
    exact g_vret C dX2_add_34 rfl hQ
  · have h := ifn h c9
    cases sinj h
    exact g_vret C dX2_add_12 rfl hQ
def fX2_codeAt (S : Ob) (x1 : Int32) : Option (Int32) :=
  (if x1 < 0 then some (0 : Int32)
 else (if (Int32.ofNat 36) ≤ x1 then some (0 : Int32)
 else (if okI x1 36 = true then some ((S.2 0) x1.toNatClampNeg) else none)))
set_option maxHeartbeats 4000000 in
set_option maxRecDepth 100000 in
theorem kX2_codeAt (l : Launch) (D : va_G) (cC cI cJ cZ : ClassId) (o : Nat) (a : Nat → Nat) (S : Ob) (x1 : Int32) (r : Int32) (h : fX2_codeAt S x1 = some r) : gMi l yX2_codeAt cX2_codeAt 2 (some .int) (gR 1) D (tysG cC cI cJ cZ) [.ref o, .int x1] (wPage cC o a S) r (wPage cC o a S) := by
  refine gMi_of (by decide) (Nat.le_of_ble_eq_true rfl) rfl ?_
  intro p e s m args below meth c A Q C hQ
  unfold fX2_codeAt at h
  refine g_iload_n C dX2_codeAt_0 rfl 1 rfl ?_
  refine g_if_lt (tgt := 22) C dX2_codeAt_1 (by decide) (fun c1 => ?_) (fun c1 => ?_)
  · have h := ifp h c1
    refine g_iconst (v := (0 : Int32)) C dX2_codeAt_22 (by decide) ?_
    cases sinj h
    exact g_iret C dX2_codeAt_23 rfl rfl hQ
  · have h := ifn h c1
    refine g_iload_n C dX2_codeAt_4 rfl 1 rfl ?_
    refine g_aload_n C dX2_codeAt_5 rfl 0 rfl ?_
    refine g_get (v := .ref (a 0)) C fl_X2_9 dX2_codeAt_6 0 rfl rfl ?_
    refine g_alen (v := (Int32.ofNat 36)) C dX2_codeAt_9 1 1 rfl rfl rfl ?_
    refine g_icmp_ge (tgt := 22) C dX2_codeAt_10 (by decide) (fun c10 => ?_) (fun c10 => ?_)
    · have h := ifp h c10
      refine g_iconst (v := (0 : Int32)) C dX2_codeAt_22 (by decide) ?_
      cases sinj h
      exact g_iret C dX2_codeAt_23 rfl rfl hQ
    · have h := ifn h c10
      refine g_aload_n C dX2_codeAt_13 rfl 0 rfl ?_
      refine g_get (v := .ref (a 0)) C fl_X2_9 dX2_codeAt_14 0 rfl rfl ?_
      refine g_iload_n C dX2_codeAt_17 rfl 1 rfl ?_
      obtain ⟨hg18, h⟩ := ifg h
      refine g_cald (f := (S.2 0)) C dX2_codeAt_18 1 1 rfl rfl hg18 ?_
      refine g_goto (tgt := 23) C dX2_codeAt_19 (by decide) ?_
      cases sinj h
      exact g_iret C dX2_codeAt_23 rfl rfl hQ
def fX2_readNumber (S : Ob) (x1 : Int32) (x2 : Int32) : Option (Int32 × Ob) :=
  (if (S.1 2) < (S.1 1) then ((fX2_codeAt S (S.1 2)).bind (fun r18 => (if (r18 - (48 : Int32)) < x1 then some ((-1 : Int32), S)
 else (if (r18 - (48 : Int32)) ≤ x2 then some ((r18 - (48 : Int32)), ((va_up S.1 2 ((S.1 2) + (1 : Int32))), S.2))
 else some ((-1 : Int32), S)))))
 else some ((-1 : Int32), S))
set_option maxHeartbeats 4000000 in
set_option maxRecDepth 100000 in
theorem kX2_readNumber (l : Launch) (D : va_G) (cC cI cJ cZ : ClassId) (o : Nat) (a : Nat → Nat) (S : Ob) (x1 : Int32) (x2 : Int32) (r : Int32) (S' : Ob) (h : fX2_readNumber S x1 x2 = some (r, S')) : gMi l yX2_readNumber cX2_readNumber 4 (some .int) (gR 2) D (tysG cC cI cJ cZ) [.ref o, .int x1, .int x2] (wPage cC o a S) r (wPage cC o a S') := by
  refine gMi_of (by decide) (Nat.le_of_ble_eq_true rfl) rfl ?_
  intro p e s m args below meth c A Q C hQ
  unfold fX2_readNumber at h
  refine g_aload_n C dX2_readNumber_0 rfl 0 rfl ?_
  refine g_get (v := .int (S.1 2)) C fl_X2_19 dX2_readNumber_1 0 rfl rfl ?_
  refine g_aload_n C dX2_readNumber_4 rfl 0 rfl ?_
  refine g_get (v := .int (S.1 1)) C fl_X2_15 dX2_readNumber_5 0 rfl rfl ?_
  refine g_icmp_lt (tgt := 13) C dX2_readNumber_8 (by decide) (fun c8 => ?_) (fun c8 => ?_)
  · have h := ifp h c8
    refine g_aload_n C dX2_readNumber_13 rfl 0 rfl ?_
    refine g_aload_n C dX2_readNumber_14 rfl 0 rfl ?_
    refine g_get (v := .int (S.1 2)) C fl_X2_19 dX2_readNumber_15 0 rfl rfl ?_
    obtain ⟨r18, h18, h⟩ := obd h
    refine g_callVi (st := []) (ws2 := wPage cC o a S) C yv_X2_codeAt ml_X2_66 dX2_readNumber_18 (kX2_codeAt l D cC cI cJ cZ o a S (S.1 2) r18 h18) gCut_all ⟨by decide, by decide⟩ ⟨rfl, rfl⟩ ⟨Nat.zero_le _, Nat.zero_le _⟩ rfl rfl (Nat.le_of_ble_eq_true rfl) 1 0 rfl rfl rfl ?_
    refine g_bipush (v := (48 : Int32)) C dX2_readNumber_21 (by decide) ?_
    refine g_isub C dX2_readNumber_23 ?_
    refine g_istore_n (lv' := [(3, .int (r18 - (48 : Int32))), (0, .ref o), (1, .int x1), (2, .int x2)]) C dX2_readNumber_24 rfl (by decide) rfl ?_
    refine g_iload_n C dX2_readNumber_25 rfl 0 rfl ?_
    refine g_iload_n C dX2_readNumber_26 rfl 2 rfl ?_
    refine g_icmp_lt (tgt := 35) C dX2_readNumber_27 (by decide) (fun c27 => ?_) (fun c27 => ?_)
    · have h := ifp h c27
      refine g_iconst (v := (-1 : Int32)) C dX2_readNumber_35 (by decide) ?_
      cases sinj h
      exact g_iret C dX2_readNumber_36 rfl rfl hQ
    · have h := ifn h c27
      refine g_iload_n C dX2_readNumber_30 rfl 0 rfl ?_
      refine g_iload_n C dX2_readNumber_31 rfl 3 rfl ?_
      refine g_icmp_le (tgt := 37) C dX2_readNumber_32 (by decide) (fun c32 => ?_) (fun c32 => ?_)
      · have h := ifp h c32
        refine g_aload_n C dX2_readNumber_37 rfl 1 rfl ?_
        refine g_dup C dX2_readNumber_38 rfl ?_
        refine g_get (v := .int (S.1 2)) C fl_X2_19 dX2_readNumber_39 0 rfl rfl ?_
        refine g_iconst (v := (1 : Int32)) C dX2_readNumber_42 (by decide) ?_
        refine g_iadd C dX2_readNumber_43 ?_
        refine g_put (ws2 := wPage cC o a ((va_up S.1 2 ((S.1 2) + (1 : Int32))), S.2)) C fp_X2_19 dX2_readNumber_44 0 rfl rfl rfl (Nat.le_of_ble_eq_true rfl) rfl ?_
        refine g_iload_n C dX2_readNumber_47 rfl 0 rfl ?_
        cases sinj h
        exact g_iret C dX2_readNumber_48 rfl rfl hQ
      · have h := ifn h c32
        refine g_iconst (v := (-1 : Int32)) C dX2_readNumber_35 (by decide) ?_
        cases sinj h
        exact g_iret C dX2_readNumber_36 rfl rfl hQ
  · have h := ifn h c8
    refine g_iconst (v := (-1 : Int32)) C dX2_readNumber_11 (by decide) ?_
    cases sinj h
    exact g_iret C dX2_readNumber_12 rfl rfl hQ
def fX2_readSign (S : Ob) (x1 : Int32) : Option (Int32 × Ob) :=
  (if (S.1 1) ≤ (S.1 2) then some ((0 : Int32), S)
 else ((fX2_codeAt S (S.1 2)).bind (fun r16 => (if r16 = x1 then some ((1 : Int32), ((va_up S.1 2 ((S.1 2) + (1 : Int32))), S.2))
 else some ((0 : Int32), S)))))
set_option maxHeartbeats 4000000 in
set_option maxRecDepth 100000 in
theorem kX2_readSign (l : Launch) (D : va_G) (cC cI cJ cZ : ClassId) (o : Nat) (a : Nat → Nat) (S : Ob) (x1 : Int32) (r : Int32) (S' : Ob) (h : fX2_readSign S x1 = some (r, S')) : gMi l yX2_readSign cX2_readSign 2 (some .boolean) (gR 2) D (tysG cC cI cJ cZ) [.ref o, .int x1] (wPage cC o a S) r (wPage cC o a S') := by
  refine gMi_of (by decide) (Nat.le_of_ble_eq_true rfl) rfl ?_
  intro p e s m args below meth c A Q C hQ
  unfold fX2_readSign at h
  refine g_aload_n C dX2_readSign_0 rfl 0 rfl ?_
  refine g_get (v := .int (S.1 2)) C fl_X2_19 dX2_readSign_1 0 rfl rfl ?_
  refine g_aload_n C dX2_readSign_4 rfl 0 rfl ?_
  refine g_get (v := .int (S.1 1)) C fl_X2_15 dX2_readSign_5 0 rfl rfl ?_
  refine g_icmp_ge (tgt := 23) C dX2_readSign_8 (by decide) (fun c8 => ?_) (fun c8 => ?_)
  · have h := ifp h c8
    refine g_iconst (v := (0 : Int32)) C dX2_readSign_23 (by decide) ?_
    cases sinj h
    exact g_zret C dX2_readSign_24 rfl rfl rfl hQ
  · have h := ifn h c8
    refine g_aload_n C dX2_readSign_11 rfl 0 rfl ?_
    refine g_aload_n C dX2_readSign_12 rfl 0 rfl ?_
    refine g_get (v := .int (S.1 2)) C fl_X2_19 dX2_readSign_13 0 rfl rfl ?_
    obtain ⟨r16, h16, h⟩ := obd h
    refine g_callVi (st := []) (ws2 := wPage cC o a S) C yv_X2_codeAt ml_X2_66 dX2_readSign_16 (kX2_codeAt l D cC cI cJ cZ o a S (S.1 2) r16 h16) gCut_all ⟨by decide, by decide⟩ ⟨rfl, rfl⟩ ⟨Nat.zero_le _, Nat.zero_le _⟩ rfl rfl (Nat.le_of_ble_eq_true rfl) 1 0 rfl rfl rfl ?_
    refine g_iload_n C dX2_readSign_19 rfl 1 rfl ?_
    refine g_icmp_eq (tgt := 25) C dX2_readSign_20 (by decide) (fun c20 => ?_) (fun c20 => ?_)
    · have h := ifp h c20
      refine g_aload_n C dX2_readSign_25 rfl 0 rfl ?_
      refine g_dup C dX2_readSign_26 rfl ?_
      refine g_get (v := .int (S.1 2)) C fl_X2_19 dX2_readSign_27 0 rfl rfl ?_
      refine g_iconst (v := (1 : Int32)) C dX2_readSign_30 (by decide) ?_
      refine g_iadd C dX2_readSign_31 ?_
      refine g_put (ws2 := wPage cC o a ((va_up S.1 2 ((S.1 2) + (1 : Int32))), S.2)) C fp_X2_19 dX2_readSign_32 0 rfl rfl rfl (Nat.le_of_ble_eq_true rfl) rfl ?_
      refine g_iconst (v := (1 : Int32)) C dX2_readSign_35 (by decide) ?_
      cases sinj h
      exact g_zret C dX2_readSign_36 rfl rfl rfl hQ
    · have h := ifn h c20
      refine g_iconst (v := (0 : Int32)) C dX2_readSign_23 (by decide) ?_
      cases sinj h
      exact g_zret C dX2_readSign_24 rfl rfl rfl hQ
def fX2_readKind (S : Ob)  : Option (Int32 × Ob) :=
  (if (S.1 2) < (S.1 1) then ((fX2_codeAt S (S.1 2)).bind (fun r20 => ((fJ0_indexOf_0f7a4 ((r20.toUInt32 % 65536).toInt32)).bind (fun r24 => (if r24 < 0 then some (r24, S)
 else some (r24, ((va_up S.1 2 ((S.1 2) + (1 : Int32))), S.2)))))))
 else some ((-1 : Int32), S))
set_option maxHeartbeats 4000000 in
set_option maxRecDepth 100000 in
theorem kX2_readKind (l : Launch) (D : va_G) (cC cI cJ cZ : ClassId) (o : Nat) (a : Nat → Nat) (S : Ob)  (r : Int32) (S' : Ob) (h : fX2_readKind S = some (r, S')) : gMi l yX2_readKind cX2_readKind 2 (some .int) (gR 5) D (tysG cC cI cJ cZ) [.ref o] (wPage cC o a S) r (wPage cC o a S') := by
  refine gMi_of (by decide) (Nat.le_of_ble_eq_true rfl) rfl ?_
  intro p e s m args below meth c A Q C hQ
  unfold fX2_readKind at h
  refine g_aload_n C dX2_readKind_0 rfl 0 rfl ?_
  refine g_get (v := .int (S.1 2)) C fl_X2_19 dX2_readKind_1 0 rfl rfl ?_
  refine g_aload_n C dX2_readKind_4 rfl 0 rfl ?_
  refine g_get (v := .int (S.1 1)) C fl_X2_15 dX2_readKind_5 0 rfl rfl ?_
  refine g_icmp_lt (tgt := 13) C dX2_readKind_8 (by decide) (fun c8 => ?_) (fun c8 => ?_)
  · have h := ifp h c8
    refine g_ldcS C dX2_readKind_13 ?_
    refine g_aload_n C dX2_readKind_15 rfl 0 rfl ?_
    refine g_aload_n C dX2_readKind_16 rfl 0 rfl ?_
    refine g_get (v := .int (S.1 2)) C fl_X2_19 dX2_readKind_17 0 rfl rfl ?_
    obtain ⟨r20, h20, h⟩ := obd h
    refine g_callVi (st := [.ref (D.2 77 0)]) (ws2 := wPage cC o a S) C yv_X2_codeAt ml_X2_66 dX2_readKind_20 (kX2_codeAt l D cC cI cJ cZ o a S (S.1 2) r20 h20) gCut_all ⟨by decide, by decide⟩ ⟨rfl, rfl⟩ ⟨Nat.zero_le _, Nat.zero_le _⟩ rfl rfl (Nat.le_of_ble_eq_true rfl) 1 0 rfl rfl rfl ?_
    refine g_i2c C dX2_readKind_23 ?_
    obtain ⟨r24, h24, h⟩ := obd h
    refine g_callKi (st := []) (ws2 := wPage cC o a S) C yv_J0_indexOf_0f7a4 ml_X2_71 dX2_readKind_24 (kJ0_indexOf_0f7a4 l D cC cI cJ cZ ((r20.toUInt32 % 65536).toInt32) r24 h24) gCut_nil ⟨by decide, by decide⟩ ⟨rfl, rfl⟩ ⟨Nat.zero_le _, Nat.zero_le _⟩ rfl rfl (Nat.le_of_ble_eq_true rfl) rfl ?_
    refine g_istore_n (lv' := [(1, .int r24), (0, .ref o)]) C dX2_readKind_27 rfl (by decide) rfl ?_
    refine g_iload_n C dX2_readKind_28 rfl 0 rfl ?_
    refine g_if_lt (tgt := 42) C dX2_readKind_29 (by decide) (fun c29 => ?_) (fun c29 => ?_)
    · have h := ifp h c29
      refine g_iload_n C dX2_readKind_42 rfl 0 rfl ?_
      cases sinj h
      exact g_iret C dX2_readKind_43 rfl rfl hQ
    · have h := ifn h c29
      refine g_aload_n C dX2_readKind_32 rfl 1 rfl ?_
      refine g_dup C dX2_readKind_33 rfl ?_
      refine g_get (v := .int (S.1 2)) C fl_X2_19 dX2_readKind_34 0 rfl rfl ?_
      refine g_iconst (v := (1 : Int32)) C dX2_readKind_37 (by decide) ?_
      refine g_iadd C dX2_readKind_38 ?_
      refine g_put (ws2 := wPage cC o a ((va_up S.1 2 ((S.1 2) + (1 : Int32))), S.2)) C fp_X2_19 dX2_readKind_39 0 rfl rfl rfl (Nat.le_of_ble_eq_true rfl) rfl ?_
      refine g_iload_n C dX2_readKind_42 rfl 0 rfl ?_
      cases sinj h
      exact g_iret C dX2_readKind_43 rfl rfl hQ
  · have h := ifn h c8
    refine g_iconst (v := (-1 : Int32)) C dX2_readKind_11 (by decide) ?_
    cases sinj h
    exact g_iret C dX2_readKind_12 rfl rfl hQ
def fX2_readClue_J58 (x2_J58 : Int32) (x4_J58 : Int32) (x5_J58 : Int32) (x6_J58 : Int32) (S_J58 : Ob) (S2_J58 : Ob) : Option (Int32 × Ob × Ob) :=
  (if 0 ≤ x6_J58 then ((fX4_setClue S2_J58 x2_J58 x4_J58 x5_J58 x6_J58).bind (fun T73 => some ((1 : Int32), S_J58, T73)))
 else some ((0 : Int32), S_J58, S2_J58))
def fX2_readClue (S : Ob) (S2 : Ob) (x2 : Int32) : Option (Int32 × Ob × Ob) :=
  ((fX4_length S2 x2).bind (fun r2 => ((fX2_readKind S).bind (fun r => (fun r7 T7 => (if 0 ≤ r7 then ((fX2_readNumber T7 (0 : Int32) r2).bind (fun r => (fun r22 T22 => (if 0 ≤ r22 then ((fX1_hasSecond r7).bind (fun r39 => (if r39 = 0 then fX2_readClue_J58 x2 r7 r22 (0 : Int32) T22 S2
 else ((fX1_mostSecond r2 r22).bind (fun r50 => ((fX2_readNumber T22 (0 : Int32) r50).bind (fun r => (fun r53 T53 => fX2_readClue_J58 x2 r7 r22 r53 T53 S2) r.1 r.2)))))))
 else some ((0 : Int32), T22, S2))) r.1 r.2))
 else some ((0 : Int32), T7, S2))) r.1 r.2))))
set_option maxHeartbeats 4000000 in
set_option maxRecDepth 100000 in
theorem kX2_readClue (l : Launch) (D : va_G) (cC cI cJ cZ : ClassId) (o : Nat) (a : Nat → Nat) (o2 : Nat) (a2 : Nat → Nat) (S : Ob) (S2 : Ob) (x2 : Int32) (r : Int32) (S' : Ob) (S2' : Ob) (h : fX2_readClue S S2 x2 = some (r, S', S2')) : gMi l yX2_readClue cX2_readClue 7 (some .boolean) (gR 6) D (tysG cC cI cJ cZ) [.ref o, .ref o2, .int x2] (wPage cC o a S ++ wTab cI cZ o2 a2 S2) r (wPage cC o a S' ++ wTab cI cZ o2 a2 S2') := by
  refine gMi_of (by decide) (Nat.le_of_ble_eq_true rfl) rfl ?_
  intro p e s m args below meth c A Q C hQ
  have j58 : ∀ (x2_J58 : Int32) (x4_J58 : Int32) (x5_J58 : Int32) (x6_J58 : Int32) (S_J58 : Ob) (S2_J58 : Ob), fX2_readClue_J58 x2_J58 x4_J58 x5_J58 x6_J58 S_J58 S2_J58 = some (r, S', S2') → gG p l e (gR 6) s m args below meth c 7 D A 0 0 Q 58 [(1, .ref o2), (2, .int x2_J58), (4, .int x4_J58), (5, .int x5_J58), (6, .int x6_J58)] [] (wPage cC o a S_J58 ++ wTab cI cZ o2 a2 S2_J58) := by
    intro x2_J58 x4_J58 x5_J58 x6_J58 S_J58 S2_J58 h
    unfold fX2_readClue_J58 at h
    refine g_iload C dX2_readClue_58 4 rfl ?_
    refine g_if_ge (tgt := 65) C dX2_readClue_60 (by decide) (fun c60 => ?_) (fun c60 => ?_)
    · have h := ifp h c60
      refine g_aload_n C dX2_readClue_65 rfl 0 rfl ?_
      refine g_iload_n C dX2_readClue_66 rfl 1 rfl ?_
      refine g_iload C dX2_readClue_67 2 rfl ?_
      refine g_iload C dX2_readClue_69 3 rfl ?_
      refine g_iload C dX2_readClue_71 4 rfl ?_
      obtain ⟨T73, h73, h⟩ := obd h
      refine g_callVv (st := []) (ws2 := wPage cC o a S_J58 ++ wTab cI cZ o2 a2 T73) C yv_X4_setClue ml_X2_62 dX2_readClue_73 (kX4_setClue l D cC cI cJ cZ o2 a2 S2_J58 x2_J58 x4_J58 x5_J58 x6_J58 T73 h73) (gCut_at [2, 3, 4, 5, 6, 7, 8] [0, 1] [0, 1, 2, 3, 4, 5, 6, 7, 8] rfl rfl rfl rfl (by decide) rfl rfl) ⟨by decide, by decide⟩ ⟨rfl, rfl⟩ ⟨Nat.zero_le _, Nat.zero_le _⟩ rfl rfl (Nat.le_of_ble_eq_true rfl) 3 2 rfl rfl rfl ?_
      refine g_iconst (v := (1 : Int32)) C dX2_readClue_76 (by decide) ?_
      cases sinj h
      exact g_zret C dX2_readClue_77 rfl rfl rfl hQ
    · have h := ifn h c60
      refine g_iconst (v := (0 : Int32)) C dX2_readClue_63 (by decide) ?_
      cases sinj h
      exact g_zret C dX2_readClue_64 rfl rfl rfl hQ
  unfold fX2_readClue at h
  refine g_aload_n C dX2_readClue_0 rfl 1 rfl ?_
  refine g_iload_n C dX2_readClue_1 rfl 2 rfl ?_
  obtain ⟨r2, h2, h⟩ := obd h
  refine g_callVi (st := []) (ws2 := wPage cC o a S ++ wTab cI cZ o2 a2 S2) C yv_X4_length ml_X2_45 dX2_readClue_2 (kX4_length l D cC cI cJ cZ o2 a2 S2 x2 r2 h2) (gCut_at [2, 3, 4, 5, 6, 7, 8] [0, 1] [0, 1, 2, 3, 4, 5, 6, 7, 8] rfl rfl rfl rfl (by decide) rfl rfl) ⟨by decide, by decide⟩ ⟨rfl, rfl⟩ ⟨Nat.zero_le _, Nat.zero_le _⟩ rfl rfl (Nat.le_of_ble_eq_true rfl) 3 2 rfl rfl rfl ?_
  refine g_istore_n (lv' := [(3, .int r2), (0, .ref o), (1, .ref o2), (2, .int x2)]) C dX2_readClue_5 rfl (by decide) rfl ?_
  refine g_aload_n C dX2_readClue_6 rfl 1 rfl ?_
  obtain ⟨⟨r7, T7⟩, h7, h⟩ := obd h
  refine g_callVi (st := []) (ws2 := wPage cC o a T7 ++ wTab cI cZ o2 a2 S2) C yv_X2_readKind ml_X2_49 dX2_readClue_7 (kX2_readKind l D cC cI cJ cZ o a S r7 T7 h7) (gCut_at [0, 1] [2, 3, 4, 5, 6, 7, 8] [7, 8, 0, 1, 2, 3, 4, 5, 6] rfl rfl rfl rfl (by decide) rfl rfl) ⟨by decide, by decide⟩ ⟨rfl, rfl⟩ ⟨Nat.zero_le _, Nat.zero_le _⟩ rfl rfl (Nat.le_of_ble_eq_true rfl) 1 0 rfl rfl rfl ?_
  refine g_istore (lv' := [(4, .int r7), (3, .int r2), (0, .ref o), (1, .ref o2), (2, .int x2)]) C dX2_readClue_10 (by decide) rfl ?_
  refine g_iload C dX2_readClue_12 0 rfl ?_
  refine g_if_ge (tgt := 19) C dX2_readClue_14 (by decide) (fun c14 => ?_) (fun c14 => ?_)
  · have h := ifp h c14
    refine g_aload_n C dX2_readClue_19 rfl 2 rfl ?_
    refine g_iconst (v := (0 : Int32)) C dX2_readClue_20 (by decide) ?_
    refine g_iload_n C dX2_readClue_21 rfl 1 rfl ?_
    obtain ⟨⟨r22, T22⟩, h22, h⟩ := obd h
    refine g_callVi (st := []) (ws2 := wPage cC o a T22 ++ wTab cI cZ o2 a2 S2) C yv_X2_readNumber ml_X2_27 dX2_readClue_22 (kX2_readNumber l D cC cI cJ cZ o a T7 (0 : Int32) r2 r22 T22 h22) (gCut_at [0, 1] [2, 3, 4, 5, 6, 7, 8] [7, 8, 0, 1, 2, 3, 4, 5, 6] rfl rfl rfl rfl (by decide) rfl rfl) ⟨by decide, by decide⟩ ⟨rfl, rfl⟩ ⟨Nat.zero_le _, Nat.zero_le _⟩ rfl rfl (Nat.le_of_ble_eq_true rfl) 1 0 rfl rfl rfl ?_
    refine g_istore (lv' := [(5, .int r22), (4, .int r7), (3, .int r2), (0, .ref o), (1, .ref o2), (2, .int x2)]) C dX2_readClue_25 (by decide) rfl ?_
    refine g_iload C dX2_readClue_27 0 rfl ?_
    refine g_if_ge (tgt := 34) C dX2_readClue_29 (by decide) (fun c29 => ?_) (fun c29 => ?_)
    · have h := ifp h c29
      refine g_iconst (v := (0 : Int32)) C dX2_readClue_34 (by decide) ?_
      refine g_istore (lv' := [(6, .int (0 : Int32)), (5, .int r22), (4, .int r7), (3, .int r2), (0, .ref o), (1, .ref o2), (2, .int x2)]) C dX2_readClue_35 (by decide) rfl ?_
      refine g_iload C dX2_readClue_37 2 rfl ?_
      obtain ⟨r39, h39, h⟩ := obd h
      refine g_callSi (st := []) (ws2 := wPage cC o a T22 ++ wTab cI cZ o2 a2 S2) C ys_X1_hasSecond ml_X2_53 dX2_readClue_39 (kX1_hasSecond l D cC cI cJ cZ r7 r39 h39) gCut_nil ⟨by decide, by decide⟩ ⟨rfl, rfl⟩ ⟨Nat.zero_le _, Nat.zero_le _⟩ rfl rfl (Nat.le_of_ble_eq_true rfl) ?_
      refine g_if_eq (tgt := 58) C dX2_readClue_42 (by decide) (fun c42 => ?_) (fun c42 => ?_)
      · have h := ifp h c42
        refine g_lv [5, 6, 2, 1, 0] rfl ?_
        exact j58 x2 r7 r22 (0 : Int32) T22 S2 h
      · have h := ifn h c42
        refine g_aload_n C dX2_readClue_45 rfl 4 rfl ?_
        refine g_iconst (v := (0 : Int32)) C dX2_readClue_46 (by decide) ?_
        refine g_iload_n C dX2_readClue_47 rfl 3 rfl ?_
        refine g_iload C dX2_readClue_48 1 rfl ?_
        obtain ⟨r50, h50, h⟩ := obd h
        refine g_callSi (st := [.int (0 : Int32), .ref o]) (ws2 := wPage cC o a T22 ++ wTab cI cZ o2 a2 S2) C ys_X1_mostSecond ml_X2_59 dX2_readClue_50 (kX1_mostSecond l D cC cI cJ cZ r2 r22 r50 h50) gCut_nil ⟨by decide, by decide⟩ ⟨rfl, rfl⟩ ⟨Nat.zero_le _, Nat.zero_le _⟩ rfl rfl (Nat.le_of_ble_eq_true rfl) ?_
        obtain ⟨⟨r53, T53⟩, h53, h⟩ := obd h
        refine g_callVi (st := []) (ws2 := wPage cC o a T53 ++ wTab cI cZ o2 a2 S2) C yv_X2_readNumber ml_X2_27 dX2_readClue_53 (kX2_readNumber l D cC cI cJ cZ o a T22 (0 : Int32) r50 r53 T53 h53) (gCut_at [0, 1] [2, 3, 4, 5, 6, 7, 8] [7, 8, 0, 1, 2, 3, 4, 5, 6] rfl rfl rfl rfl (by decide) rfl rfl) ⟨by decide, by decide⟩ ⟨rfl, rfl⟩ ⟨Nat.zero_le _, Nat.zero_le _⟩ rfl rfl (Nat.le_of_ble_eq_true rfl) 1 0 rfl rfl rfl ?_
        refine g_istore (lv' := [(6, .int r53), (5, .int r22), (4, .int r7), (3, .int r2), (0, .ref o), (1, .ref o2), (2, .int x2)]) C dX2_readClue_56 (by decide) rfl ?_
        refine g_lv [5, 6, 2, 1, 0] rfl ?_
        exact j58 x2 r7 r22 r53 T53 S2 h
    · have h := ifn h c29
      refine g_iconst (v := (0 : Int32)) C dX2_readClue_32 (by decide) ?_
      cases sinj h
      exact g_zret C dX2_readClue_33 rfl rfl rfl hQ
  · have h := ifn h c14
    refine g_iconst (v := (0 : Int32)) C dX2_readClue_17 (by decide) ?_
    cases sinj h
    exact g_zret C dX2_readClue_18 rfl rfl rfl hQ
def fX2_readInto_J74 (x2_L48 : Int32) (x3_L48 : Int32) (x4_J74 : Int32) (s0_J74 : Int32) (S_J74 : Ob) (S2_J74 : Ob) : Option ((Int32 × Ob × Ob) ⊕ ((Int32 × Ob × Ob) ⊕ (Ob × Ob))) :=
  ((fX2_readSign S_J74 s0_J74).bind (fun r => (fun r79 T79 => (if r79 = 0 then some (.inr (.inl ((0 : Int32), T79, S2_J74)))
 else ((fX2_readClue T79 S2_J74 x4_J74).bind (fun r => (fun r89 T89_0 T89_1 => (if r89 = 0 then some (.inr (.inl ((0 : Int32), T89_0, T89_1)))
 else some (.inl ((x4_J74 + (1 : Int32)), T89_0, T89_1)))) r.1 r.2.1 r.2.2)))) r.1 r.2))
def fX2_readInto_J67 (x2_L48 : Int32) (x3_L48 : Int32) (x4_J67 : Int32) (S_J67 : Ob) (S2_J67 : Ob) : Option ((Int32 × Ob × Ob) ⊕ ((Int32 × Ob × Ob) ⊕ (Ob × Ob))) :=
  fX2_readInto_J74 x2_L48 x3_L48 x4_J67 (59 : Int32) S_J67 S2_J67
def fX2_readInto_L48 (x2_L48 : Int32) (x3_L48 : Int32) (x4_L48 : Int32) (S_L48 : Ob) (S2_L48 : Ob) : Option ((Int32 × Ob × Ob) ⊕ ((Int32 × Ob × Ob) ⊕ (Ob × Ob))) :=
  (if (x2_L48 + x3_L48) ≤ x4_L48 then some (.inr (.inr (S_L48, S2_L48)))
 else (if x4_L48 = 0 then fX2_readInto_J67 x2_L48 x3_L48 x4_L48 S_L48 S2_L48
 else (if x4_L48 = x2_L48 then fX2_readInto_J67 x2_L48 x3_L48 x4_L48 S_L48 S2_L48
 else fX2_readInto_J74 x2_L48 x3_L48 x4_L48 (44 : Int32) S_L48 S2_L48)))
def fX2_readInto_J103 (S_J103 : Ob) (S2_J103 : Ob) : Option (Int32 × Ob × Ob) :=
  (if (S_J103.1 2) = (S_J103.1 1) then some ((1 : Int32), S_J103, S2_J103)
 else some ((0 : Int32), S_J103, S2_J103))
def fX2_readInto (S : Ob) (S2 : Ob)  : Option (Int32 × Ob × Ob) :=
  ((fX4_forgetAll S2).bind (fun T6 => ((fX2_readNumber ((va_up S.1 2 (0 : Int32)), S.2) (2 : Int32) (4 : Int32)).bind (fun r => (fun r12 T12 => (if 0 ≤ r12 then ((fX2_readNumber T12 (2 : Int32) (4 : Int32)).bind (fun r => (fun r25 T25 => (if 0 ≤ r25 then ((wh (σ := Int32 × Ob × Ob) (ρ := (Int32 × Ob × Ob) ⊕ (Ob × Ob)) (fun t => fX2_readInto_L48 r12 r25 t.1 t.2.1 t.2.2) 100000 ((0 : Int32), T25, ((va_up (va_up T6.1 0 r12) 1 r25), T6.2))).bind (fun X => Sum.elim (fun r => some r) (fun X => (fun S_E48 S2_E48 => fX2_readInto_J103 S_E48 S2_E48) X.1 X.2) X))
 else some ((0 : Int32), T25, T6))) r.1 r.2))
 else some ((0 : Int32), T12, T6))) r.1 r.2))))
set_option maxHeartbeats 4000000 in
set_option maxRecDepth 100000 in
theorem kX2_readInto (l : Launch) (D : va_G) (cC cI cJ cZ : ClassId) (o : Nat) (a : Nat → Nat) (o2 : Nat) (a2 : Nat → Nat) (S : Ob) (S2 : Ob)  (r : Int32) (S' : Ob) (S2' : Ob) (h : fX2_readInto S S2 = some (r, S', S2')) : gMi l yX2_readInto cX2_readInto 6 (some .boolean) (gR 7) D (tysG cC cI cJ cZ) [.ref o, .ref o2] (wPage cC o a S ++ wTab cI cZ o2 a2 S2) r (wPage cC o a S' ++ wTab cI cZ o2 a2 S2') := by
  refine gMi_of (by decide) (Nat.le_of_ble_eq_true rfl) rfl ?_
  intro p e s m args below meth c A Q C hQ
  have j103 : ∀ (S_J103 : Ob) (S2_J103 : Ob), fX2_readInto_J103 S_J103 S2_J103 = some (r, S', S2') → gG p l e (gR 7) s m args below meth c 6 D A 0 0 Q 103 [(0, .ref o)] [] (wPage cC o a S_J103 ++ wTab cI cZ o2 a2 S2_J103) := by
    intro S_J103 S2_J103 h
    unfold fX2_readInto_J103 at h
    refine g_aload_n C dX2_readInto_103 rfl 0 rfl ?_
    refine g_get (v := .int (S_J103.1 2)) C fl_X2_19 dX2_readInto_104 0 rfl rfl ?_
    refine g_aload_n C dX2_readInto_107 rfl 0 rfl ?_
    refine g_get (v := .int (S_J103.1 1)) C fl_X2_15 dX2_readInto_108 0 rfl rfl ?_
    refine g_icmp_ne (tgt := 118) C dX2_readInto_111 (by decide) (fun c111 => ?_) (fun c111 => ?_)
    · have h := ifn h c111
      refine g_iconst (v := (0 : Int32)) C dX2_readInto_118 (by decide) ?_
      cases sinj h
      exact g_zret C dX2_readInto_119 rfl rfl rfl hQ
    · have h := ifp h c111
      refine g_iconst (v := (1 : Int32)) C dX2_readInto_114 (by decide) ?_
      refine g_goto (tgt := 119) C dX2_readInto_115 (by decide) ?_
      cases sinj h
      exact g_zret C dX2_readInto_119 rfl rfl rfl hQ
  unfold fX2_readInto at h
  refine g_aload_n C dX2_readInto_0 rfl 0 rfl ?_
  refine g_iconst (v := (0 : Int32)) C dX2_readInto_1 (by decide) ?_
  refine g_put (ws2 := wPage cC o a ((va_up S.1 2 (0 : Int32)), S.2) ++ wTab cI cZ o2 a2 S2) C fp_X2_19 dX2_readInto_2 0 rfl rfl rfl (Nat.le_of_ble_eq_true rfl) rfl ?_
  refine g_aload_n C dX2_readInto_5 rfl 1 rfl ?_
  obtain ⟨T6, h6, h⟩ := obd h
  refine g_callVv (st := []) (ws2 := wPage cC o a ((va_up S.1 2 (0 : Int32)), S.2) ++ wTab cI cZ o2 a2 T6) C yv_X4_forgetAll ml_X2_22 dX2_readInto_6 (kX4_forgetAll l D cC cI cJ cZ o2 a2 S2 T6 h6) (gCut_at [2, 3, 4, 5, 6, 7, 8] [0, 1] [0, 1, 2, 3, 4, 5, 6, 7, 8] rfl rfl rfl rfl (by decide) rfl rfl) ⟨by decide, by decide⟩ ⟨rfl, rfl⟩ ⟨Nat.zero_le _, Nat.zero_le _⟩ rfl rfl (Nat.le_of_ble_eq_true rfl) 3 2 rfl rfl rfl ?_
  refine g_aload_n C dX2_readInto_9 rfl 0 rfl ?_
  refine g_iconst (v := (2 : Int32)) C dX2_readInto_10 (by decide) ?_
  refine g_iconst (v := (4 : Int32)) C dX2_readInto_11 (by decide) ?_
  obtain ⟨⟨r12, T12⟩, h12, h⟩ := obd h
  refine g_callVi (st := []) (ws2 := wPage cC o a T12 ++ wTab cI cZ o2 a2 T6) C yv_X2_readNumber ml_X2_27 dX2_readInto_12 (kX2_readNumber l D cC cI cJ cZ o a ((va_up S.1 2 (0 : Int32)), S.2) (2 : Int32) (4 : Int32) r12 T12 h12) (gCut_at [0, 1] [2, 3, 4, 5, 6, 7, 8] [7, 8, 0, 1, 2, 3, 4, 5, 6] rfl rfl rfl rfl (by decide) rfl rfl) ⟨by decide, by decide⟩ ⟨rfl, rfl⟩ ⟨Nat.zero_le _, Nat.zero_le _⟩ rfl rfl (Nat.le_of_ble_eq_true rfl) 1 0 rfl rfl rfl ?_
  refine g_istore_n (lv' := [(2, .int r12), (0, .ref o), (1, .ref o2)]) C dX2_readInto_15 rfl (by decide) rfl ?_
  refine g_iload_n C dX2_readInto_16 rfl 0 rfl ?_
  refine g_if_ge (tgt := 22) C dX2_readInto_17 (by decide) (fun c17 => ?_) (fun c17 => ?_)
  · have h := ifp h c17
    refine g_aload_n C dX2_readInto_22 rfl 1 rfl ?_
    refine g_iconst (v := (2 : Int32)) C dX2_readInto_23 (by decide) ?_
    refine g_iconst (v := (4 : Int32)) C dX2_readInto_24 (by decide) ?_
    obtain ⟨⟨r25, T25⟩, h25, h⟩ := obd h
    refine g_callVi (st := []) (ws2 := wPage cC o a T25 ++ wTab cI cZ o2 a2 T6) C yv_X2_readNumber ml_X2_27 dX2_readInto_25 (kX2_readNumber l D cC cI cJ cZ o a T12 (2 : Int32) (4 : Int32) r25 T25 h25) (gCut_at [0, 1] [2, 3, 4, 5, 6, 7, 8] [7, 8, 0, 1, 2, 3, 4, 5, 6] rfl rfl rfl rfl (by decide) rfl rfl) ⟨by decide, by decide⟩ ⟨rfl, rfl⟩ ⟨Nat.zero_le _, Nat.zero_le _⟩ rfl rfl (Nat.le_of_ble_eq_true rfl) 1 0 rfl rfl rfl ?_
    refine g_istore_n (lv' := [(3, .int r25), (2, .int r12), (0, .ref o), (1, .ref o2)]) C dX2_readInto_28 rfl (by decide) rfl ?_
    refine g_iload_n C dX2_readInto_29 rfl 0 rfl ?_
    refine g_if_ge (tgt := 35) C dX2_readInto_30 (by decide) (fun c30 => ?_) (fun c30 => ?_)
    · have h := ifp h c30
      refine g_aload_n C dX2_readInto_35 rfl 3 rfl ?_
      refine g_iload_n C dX2_readInto_36 rfl 1 rfl ?_
      refine g_put (ws2 := wPage cC o a T25 ++ wTab cI cZ o2 a2 ((va_up T6.1 0 r12), T6.2)) C fp_X2_31 dX2_readInto_37 2 rfl rfl rfl (Nat.le_of_ble_eq_true rfl) rfl ?_
      refine g_aload_n C dX2_readInto_40 rfl 3 rfl ?_
      refine g_iload_n C dX2_readInto_41 rfl 0 rfl ?_
      refine g_put (ws2 := wPage cC o a T25 ++ wTab cI cZ o2 a2 ((va_up (va_up T6.1 0 r12) 1 r25), T6.2)) C fp_X2_34 dX2_readInto_42 2 rfl rfl rfl (Nat.le_of_ble_eq_true rfl) rfl ?_
      refine g_iconst (v := (0 : Int32)) C dX2_readInto_45 (by decide) ?_
      refine g_istore (lv' := [(4, .int (0 : Int32)), (3, .int r25), (2, .int r12), (0, .ref o), (1, .ref o2)]) C dX2_readInto_46 (by decide) rfl ?_
      obtain ⟨X48, hW48, hK48⟩ := obd h
      have l48 : ∀ (fu48 : Nat) (x4_L48 : Int32) (S_L48 : Ob) (S2_L48 : Ob), wh (σ := Int32 × Ob × Ob) (ρ := (Int32 × Ob × Ob) ⊕ (Ob × Ob)) (fun t => fX2_readInto_L48 r12 r25 t.1 t.2.1 t.2.2) fu48 (x4_L48, S_L48, S2_L48) = some X48 → gG p l e (gR 7) s m args below meth c 6 D A 0 0 Q 48 [(0, .ref o), (1, .ref o2), (2, .int r12), (3, .int r25), (4, .int x4_L48)] [] (wPage cC o a S_L48 ++ wTab cI cZ o2 a2 S2_L48) := by
        intro fu48
        induction fu48 with
        | zero => intro x4_L48 S_L48 S2_L48 hW; exact (wh_0 hW).elim
        | succ fu48 ih48 =>
          intro x4_L48 S_L48 S2_L48 hW
          obtain ⟨z48, h, hw48⟩ := wh_s hW
          have j74 : ∀ (x4_J74 : Int32) (s0_J74 : Int32) (S_J74 : Ob) (S2_J74 : Ob) (z48 : (Int32 × Ob × Ob) ⊕ ((Int32 × Ob × Ob) ⊕ (Ob × Ob))), fX2_readInto_J74 r12 r25 x4_J74 s0_J74 S_J74 S2_J74 = some z48 → wk (fun t => fX2_readInto_L48 r12 r25 t.1 t.2.1 t.2.2) fu48 z48 = some X48 → gG p l e (gR 7) s m args below meth c 6 D A 0 0 Q 74 [(0, .ref o), (1, .ref o2), (2, .int r12), (3, .int r25), (4, .int x4_J74)] [.int s0_J74] (wPage cC o a S_J74 ++ wTab cI cZ o2 a2 S2_J74) := by
            intro x4_J74 s0_J74 S_J74 S2_J74 z48 h hw48
            unfold fX2_readInto_J74 at h
            refine g_istore (lv' := [(5, .int s0_J74), (0, .ref o), (1, .ref o2), (2, .int r12), (3, .int r25), (4, .int x4_J74)]) C dX2_readInto_74 (by decide) rfl ?_
            refine g_aload_n C dX2_readInto_76 rfl 1 rfl ?_
            refine g_iload C dX2_readInto_77 0 rfl ?_
            obtain ⟨⟨r79, T79⟩, h79, h⟩ := obd h
            refine g_callVi (st := []) (ws2 := wPage cC o a T79 ++ wTab cI cZ o2 a2 S2_J74) C yv_X2_readSign ml_X2_37 dX2_readInto_79 (kX2_readSign l D cC cI cJ cZ o a S_J74 s0_J74 r79 T79 h79) (gCut_at [0, 1] [2, 3, 4, 5, 6, 7, 8] [7, 8, 0, 1, 2, 3, 4, 5, 6] rfl rfl rfl rfl (by decide) rfl rfl) ⟨by decide, by decide⟩ ⟨rfl, rfl⟩ ⟨Nat.zero_le _, Nat.zero_le _⟩ rfl rfl (Nat.le_of_ble_eq_true rfl) 1 0 rfl rfl rfl ?_
            refine g_if_eq (tgt := 95) C dX2_readInto_82 (by decide) (fun c82 => ?_) (fun c82 => ?_)
            · have h := ifp h c82
              refine g_iconst (v := (0 : Int32)) C dX2_readInto_95 (by decide) ?_
              obtain rfl := sinj h
              obtain rfl := wk_r hw48
              have h := sel hK48
              cases sinj h
              exact g_zret C dX2_readInto_96 rfl rfl rfl hQ
            · have h := ifn h c82
              refine g_aload_n C dX2_readInto_85 rfl 1 rfl ?_
              refine g_aload_n C dX2_readInto_86 rfl 2 rfl ?_
              refine g_iload C dX2_readInto_87 5 rfl ?_
              obtain ⟨⟨r89, T89_0, T89_1⟩, h89, h⟩ := obd h
              refine g_callVi (st := []) (ws2 := wPage cC o a T89_0 ++ wTab cI cZ o2 a2 T89_1) C yv_X2_readClue ml_X2_41 dX2_readInto_89 (kX2_readClue l D cC cI cJ cZ o a o2 a2 T79 S2_J74 x4_J74 r89 T89_0 T89_1 h89) gCut_all ⟨by decide, by decide⟩ ⟨rfl, rfl⟩ ⟨Nat.zero_le _, Nat.zero_le _⟩ rfl rfl (Nat.le_of_ble_eq_true rfl) 1 0 rfl rfl rfl ?_
              refine g_if_ne (tgt := 97) C dX2_readInto_92 (by decide) (fun c92 => ?_) (fun c92 => ?_)
              · have h := ifn h c92
                refine g_iinc (j := 5) (v := (x4_J74 + (1 : Int32))) (lv' := [(4, .int (x4_J74 + (1 : Int32))), (5, .int s0_J74), (0, .ref o), (1, .ref o2), (2, .int r12), (3, .int r25)]) C dX2_readInto_97 rfl rfl (by decide) rfl ?_
                refine g_goto (tgt := 48) C dX2_readInto_100 (by decide) ?_
                obtain rfl := sinj h
                refine g_lv [2, 3, 4, 5, 0] rfl ?_
                exact ih48 (x4_J74 + (1 : Int32)) T89_0 T89_1 hw48
              · have h := ifp h c92
                refine g_iconst (v := (0 : Int32)) C dX2_readInto_95 (by decide) ?_
                obtain rfl := sinj h
                obtain rfl := wk_r hw48
                have h := sel hK48
                cases sinj h
                exact g_zret C dX2_readInto_96 rfl rfl rfl hQ
          have j67 : ∀ (x4_J67 : Int32) (S_J67 : Ob) (S2_J67 : Ob) (z48 : (Int32 × Ob × Ob) ⊕ ((Int32 × Ob × Ob) ⊕ (Ob × Ob))), fX2_readInto_J67 r12 r25 x4_J67 S_J67 S2_J67 = some z48 → wk (fun t => fX2_readInto_L48 r12 r25 t.1 t.2.1 t.2.2) fu48 z48 = some X48 → gG p l e (gR 7) s m args below meth c 6 D A 0 0 Q 67 [(0, .ref o), (1, .ref o2), (2, .int r12), (3, .int r25), (4, .int x4_J67)] [] (wPage cC o a S_J67 ++ wTab cI cZ o2 a2 S2_J67) := by
            intro x4_J67 S_J67 S2_J67 z48 h hw48
            unfold fX2_readInto_J67 at h
            refine g_bipush (v := (59 : Int32)) C dX2_readInto_67 (by decide) ?_
            refine g_goto (tgt := 74) C dX2_readInto_69 (by decide) ?_
            refine g_lv [0, 1, 2, 3, 4] rfl ?_
            exact j74 x4_J67 (59 : Int32) S_J67 S2_J67 _ h hw48
          replace h : fX2_readInto_L48 r12 r25 x4_L48 S_L48 S2_L48 = some z48 := h
          unfold fX2_readInto_L48 at h
          refine g_iload C dX2_readInto_48 4 rfl ?_
          refine g_iload_n C dX2_readInto_50 rfl 2 rfl ?_
          refine g_iload_n C dX2_readInto_51 rfl 3 rfl ?_
          refine g_iadd C dX2_readInto_52 ?_
          refine g_icmp_ge (tgt := 103) C dX2_readInto_53 (by decide) (fun c53 => ?_) (fun c53 => ?_)
          · have h := ifp h c53
            obtain rfl := sinj h
            obtain rfl := wk_r hw48
            have h := ser hK48
            refine g_lv [0] rfl ?_
            exact j103 S_L48 S2_L48 h
          · have h := ifn h c53
            refine g_iload C dX2_readInto_56 4 rfl ?_
            refine g_if_eq (tgt := 67) C dX2_readInto_58 (by decide) (fun c58 => ?_) (fun c58 => ?_)
            · have h := ifp h c58
              refine g_lv [0, 1, 2, 3, 4] rfl ?_
              exact j67 x4_L48 S_L48 S2_L48 _ h hw48
            · have h := ifn h c58
              refine g_iload C dX2_readInto_61 4 rfl ?_
              refine g_iload_n C dX2_readInto_63 rfl 2 rfl ?_
              refine g_icmp_ne (tgt := 72) C dX2_readInto_64 (by decide) (fun c64 => ?_) (fun c64 => ?_)
              · have h := ifn h c64
                refine g_bipush (v := (44 : Int32)) C dX2_readInto_72 (by decide) ?_
                refine g_lv [0, 1, 2, 3, 4] rfl ?_
                exact j74 x4_L48 (44 : Int32) S_L48 S2_L48 _ h hw48
              · have h := ifp h c64
                refine g_lv [0, 1, 2, 3, 4] rfl ?_
                exact j67 x4_L48 S_L48 S2_L48 _ h hw48
      refine g_lv [3, 4, 2, 1, 0] rfl ?_
      exact l48 100000 (0 : Int32) T25 ((va_up (va_up T6.1 0 r12) 1 r25), T6.2) hW48
    · have h := ifn h c30
      refine g_iconst (v := (0 : Int32)) C dX2_readInto_33 (by decide) ?_
      cases sinj h
      exact g_zret C dX2_readInto_34 rfl rfl rfl hQ
  · have h := ifn h c17
    refine g_iconst (v := (0 : Int32)) C dX2_readInto_20 (by decide) ?_
    cases sinj h
    exact g_zret C dX2_readInto_21 rfl rfl rfl hQ
