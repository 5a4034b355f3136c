def fX5_clear (E : OE)  : Option (Int32 × OE) :=
  ((fX4_markedCells (E.2 1)).bind (fun r4 => ((fX4_unmarkAll (E.2 1)).bind (fun T12 => some (r4, ((va_up E.1 7 (1 : Int32)), (va_up E.2 1 T12)))))))
set_option maxHeartbeats 4000000 in
set_option maxRecDepth 100000 in
theorem kX5_clear (l : Launch) (D : va_G) (cC cI cJ cZ : ClassId) (o : Nat) (so : Nat → Nat) (sa : Nat → Nat → Nat) (E : OE)  (r : Int32) (E' : OE) (h : fX5_clear E = some (r, E')) : gMi l yX5_clear cX5_clear 2 (some .int) (gR 3) D (tysG cC cI cJ cZ) [.ref o] (wEP cC cI cZ o so sa E) r (wEP cC cI cZ o so sa E') := by
  refine gMi_of (by decide) (Nat.le_of_ble_eq_true rfl) rfl ?_
  intro p e s m args below meth c A Q C hQ
  unfold fX5_clear at h
  refine g_aload_n C dX5_clear_0 rfl 0 rfl ?_
  refine g_get (v := .ref (so 1)) C fl_X5_19 dX5_clear_1 0 rfl rfl ?_
  obtain ⟨r4, h4, h⟩ := obd h
  refine g_callVi (st := []) (ws2 := wEP cC cI cZ o so sa E) C yv_X4_markedCells ml_X5_143 dX5_clear_4 (kX4_markedCells l D cC cI cJ cZ (so 1) (sa 1) (E.2 1) r4 h4) (gCut_at [3, 4, 5, 6, 7, 8, 9] [0, 1, 2, 10, 11, 12, 13, 14, 15, 16, 17, 18, 19, 20, 21, 22, 23, 24, 25, 26, 27, 28, 29, 30, 31, 32] [0, 1, 2, 26, 27, 28, 29, 30, 31, 32, 3, 4, 5, 6, 7, 8, 9, 10, 11, 12, 13, 14, 15, 16, 17, 18, 19, 20, 21, 22, 23, 24, 25] rfl rfl rfl rfl (by decide) rfl rfl) ⟨by decide, by decide⟩ ⟨rfl, rfl⟩ ⟨Nat.zero_le _, Nat.zero_le _⟩ rfl rfl (Nat.le_of_ble_eq_true rfl) 3 3 rfl rfl rfl ?_
  refine g_istore_n (lv' := [(1, .int r4), (0, .ref o)]) C dX5_clear_7 rfl (by decide) rfl ?_
  refine g_aload_n C dX5_clear_8 rfl 1 rfl ?_
  refine g_get (v := .ref (so 1)) C fl_X5_19 dX5_clear_9 0 rfl rfl ?_
  obtain ⟨T12, h12, h⟩ := obd h
  refine g_callVv (st := []) (ws2 := wEP cC cI cZ o so sa (E.1, (va_up E.2 1 T12))) C yv_X4_unmarkAll ml_X5_146 dX5_clear_12 (kX4_unmarkAll l D cC cI cJ cZ (so 1) (sa 1) (E.2 1) T12 h12) (gCut_at [3, 4, 5, 6, 7, 8, 9] [0, 1, 2, 10, 11, 12, 13, 14, 15, 16, 17, 18, 19, 20, 21, 22, 23, 24, 25, 26, 27, 28, 29, 30, 31, 32] [0, 1, 2, 26, 27, 28, 29, 30, 31, 32, 3, 4, 5, 6, 7, 8, 9, 10, 11, 12, 13, 14, 15, 16, 17, 18, 19, 20, 21, 22, 23, 24, 25] rfl rfl rfl rfl (by decide) rfl rfl) ⟨by decide, by decide⟩ ⟨rfl, rfl⟩ ⟨Nat.zero_le _, Nat.zero_le _⟩ rfl rfl (Nat.le_of_ble_eq_true rfl) 3 3 rfl rfl rfl ?_
  refine g_aload_n C dX5_clear_15 rfl 1 rfl ?_
  refine g_iconst (v := (1 : Int32)) C dX5_clear_16 (by decide) ?_
  refine g_put (ws2 := wEP cC cI cZ o so sa ((va_up E.1 7 (1 : Int32)), (va_up E.2 1 T12))) C fp_X5_73 dX5_clear_17 0 rfl rfl rfl (Nat.le_of_ble_eq_true rfl) rfl ?_
  refine g_iload_n C dX5_clear_20 rfl 0 rfl ?_
  cases sinj h
  exact g_iret C dX5_clear_21 rfl rfl hQ
def fX5_clue (E : OE) (x1 : Int32) (x2 : Int32) (x3 : Int32) (x4 : Int32) : Option (Int32 × OE) :=
  ((fX4_hasLine (E.2 1) x1).bind (fun r5 => (if r5 = 0 then some ((-101 : Int32), E)
 else ((fX4_length (E.2 1) x1).bind (fun r19 => ((fX1_allows r19 x2 x3 x4).bind (fun r26 => (if r26 = 0 then some ((-102 : Int32), E)
 else (if okI x1 8 = true then ((fX4_setClue (E.2 1) x1 x2 x3 x4).bind (fun T55 => some ((((E.2 1).2 2) x1.toNatClampNeg), ((va_up E.1 7 (1 : Int32)), (va_up E.2 1 T55))))) else none)))))))))
set_option maxHeartbeats 4000000 in
set_option maxRecDepth 100000 in
theorem kX5_clue (l : Launch) (D : va_G) (cC cI cJ cZ : ClassId) (o : Nat) (so : Nat → Nat) (sa : Nat → Nat → Nat) (E : OE) (x1 : Int32) (x2 : Int32) (x3 : Int32) (x4 : Int32) (r : Int32) (E' : OE) (h : fX5_clue E x1 x2 x3 x4 = some (r, E')) : gMi l yX5_clue cX5_clue 6 (some .int) (gR 4) D (tysG cC cI cJ cZ) [.ref o, .int x1, .int x2, .int x3, .int x4] (wEP cC cI cZ o so sa E) r (wEP cC cI cZ o so sa E') := by
  refine gMi_of (by decide) (Nat.le_of_ble_eq_true rfl) rfl ?_
  intro p e s m args below meth c A Q C hQ
  unfold fX5_clue at h
  refine g_aload_n C dX5_clue_0 rfl 0 rfl ?_
  refine g_get (v := .ref (so 1)) C fl_X5_19 dX5_clue_1 0 rfl rfl ?_
  refine g_iload_n C dX5_clue_4 rfl 1 rfl ?_
  obtain ⟨r5, h5, h⟩ := obd h
  refine g_callVi (st := []) (ws2 := wEP cC cI cZ o so sa E) C yv_X4_hasLine ml_X5_80 dX5_clue_5 (kX4_hasLine l D cC cI cJ cZ (so 1) (sa 1) (E.2 1) x1 r5 h5) (gCut_at [3, 4, 5, 6, 7, 8, 9] [0, 1, 2, 10, 11, 12, 13, 14, 15, 16, 17, 18, 19, 20, 21, 22, 23, 24, 25, 26, 27, 28, 29, 30, 31, 32] [0, 1, 2, 26, 27, 28, 29, 30, 31, 32, 3, 4, 5, 6, 7, 8, 9, 10, 11, 12, 13, 14, 15, 16, 17, 18, 19, 20, 21, 22, 23, 24, 25] rfl rfl rfl rfl (by decide) rfl rfl) ⟨by decide, by decide⟩ ⟨rfl, rfl⟩ ⟨Nat.zero_le _, Nat.zero_le _⟩ rfl rfl (Nat.le_of_ble_eq_true rfl) 3 3 rfl rfl rfl ?_
  refine g_if_ne (tgt := 14) C dX5_clue_8 (by decide) (fun c8 => ?_) (fun c8 => ?_)
  · have h := ifn h c8
    refine g_aload_n C dX5_clue_14 rfl 0 rfl ?_
    refine g_get (v := .ref (so 1)) C fl_X5_19 dX5_clue_15 0 rfl rfl ?_
    refine g_iload_n C dX5_clue_18 rfl 1 rfl ?_
    obtain ⟨r19, h19, h⟩ := obd h
    refine g_callVi (st := []) (ws2 := wEP cC cI cZ o so sa E) C yv_X4_length ml_X5_94 dX5_clue_19 (kX4_length l D cC cI cJ cZ (so 1) (sa 1) (E.2 1) x1 r19 h19) (gCut_at [3, 4, 5, 6, 7, 8, 9] [0, 1, 2, 10, 11, 12, 13, 14, 15, 16, 17, 18, 19, 20, 21, 22, 23, 24, 25, 26, 27, 28, 29, 30, 31, 32] [0, 1, 2, 26, 27, 28, 29, 30, 31, 32, 3, 4, 5, 6, 7, 8, 9, 10, 11, 12, 13, 14, 15, 16, 17, 18, 19, 20, 21, 22, 23, 24, 25] rfl rfl rfl rfl (by decide) rfl rfl) ⟨by decide, by decide⟩ ⟨rfl, rfl⟩ ⟨Nat.zero_le _, Nat.zero_le _⟩ rfl rfl (Nat.le_of_ble_eq_true rfl) 3 3 rfl rfl rfl ?_
    refine g_iload_n C dX5_clue_22 rfl 2 rfl ?_
    refine g_iload_n C dX5_clue_23 rfl 3 rfl ?_
    refine g_iload C dX5_clue_24 4 rfl ?_
    obtain ⟨r26, h26, h⟩ := obd h
    refine g_callSi (st := []) (ws2 := wEP cC cI cZ o so sa E) C ys_X1_allows ml_X5_149 dX5_clue_26 (kX1_allows l D cC cI cJ cZ r19 x2 x3 x4 r26 h26) gCut_nil ⟨by decide, by decide⟩ ⟨rfl, rfl⟩ ⟨Nat.zero_le _, Nat.zero_le _⟩ rfl rfl (Nat.le_of_ble_eq_true rfl) ?_
    refine g_if_ne (tgt := 35) C dX5_clue_29 (by decide) (fun c29 => ?_) (fun c29 => ?_)
    · have h := ifn h c29
      refine g_aload_n C dX5_clue_35 rfl 0 rfl ?_
      refine g_get (v := .ref (so 1)) C fl_X5_19 dX5_clue_36 0 rfl rfl ?_
      refine g_get (v := .ref (sa 1 2)) C fl_X5_84 dX5_clue_39 3 rfl rfl ?_
      refine g_iload_n C dX5_clue_42 rfl 1 rfl ?_
      obtain ⟨hg43, h⟩ := ifg h
      refine g_iald (f := ((E.2 1).2 2)) C dX5_clue_43 4 0 rfl rfl hg43 ?_
      refine g_istore (lv' := [(5, .int (((E.2 1).2 2) x1.toNatClampNeg)), (0, .ref o), (1, .int x1), (2, .int x2), (3, .int x3), (4, .int x4)]) C dX5_clue_44 (by decide) rfl ?_
      refine g_aload_n C dX5_clue_46 rfl 1 rfl ?_
      refine g_get (v := .ref (so 1)) C fl_X5_19 dX5_clue_47 0 rfl rfl ?_
      refine g_iload_n C dX5_clue_50 rfl 2 rfl ?_
      refine g_iload_n C dX5_clue_51 rfl 3 rfl ?_
      refine g_iload_n C dX5_clue_52 rfl 4 rfl ?_
      refine g_iload C dX5_clue_53 5 rfl ?_
      obtain ⟨T55, h55, h⟩ := obd h
      refine g_callVv (st := []) (ws2 := wEP cC cI cZ o so sa (E.1, (va_up E.2 1 T55))) C yv_X4_setClue ml_X5_152 dX5_clue_55 (kX4_setClue l D cC cI cJ cZ (so 1) (sa 1) (E.2 1) x1 x2 x3 x4 T55 h55) (gCut_at [3, 4, 5, 6, 7, 8, 9] [0, 1, 2, 10, 11, 12, 13, 14, 15, 16, 17, 18, 19, 20, 21, 22, 23, 24, 25, 26, 27, 28, 29, 30, 31, 32] [0, 1, 2, 26, 27, 28, 29, 30, 31, 32, 3, 4, 5, 6, 7, 8, 9, 10, 11, 12, 13, 14, 15, 16, 17, 18, 19, 20, 21, 22, 23, 24, 25] rfl rfl rfl rfl (by decide) rfl rfl) ⟨by decide, by decide⟩ ⟨rfl, rfl⟩ ⟨Nat.zero_le _, Nat.zero_le _⟩ rfl rfl (Nat.le_of_ble_eq_true rfl) 3 3 rfl rfl rfl ?_
      refine g_aload_n C dX5_clue_58 rfl 1 rfl ?_
      refine g_iconst (v := (1 : Int32)) C dX5_clue_59 (by decide) ?_
      refine g_put (ws2 := wEP cC cI cZ o so sa ((va_up E.1 7 (1 : Int32)), (va_up E.2 1 T55))) C fp_X5_73 dX5_clue_60 0 rfl rfl rfl (Nat.le_of_ble_eq_true rfl) rfl ?_
      refine g_iload C dX5_clue_63 0 rfl ?_
      cases sinj h
      exact g_iret C dX5_clue_65 rfl rfl hQ
    · have h := ifp h c29
      refine g_bipush (v := (-102 : Int32)) C dX5_clue_32 (by decide) ?_
      cases sinj h
      exact g_iret C dX5_clue_34 rfl rfl hQ
  · have h := ifp h c8
    refine g_bipush (v := (-101 : Int32)) C dX5_clue_11 (by decide) ?_
    cases sinj h
    exact g_iret C dX5_clue_13 rfl rfl hQ
def fX5_left (E : OE)  : Option (Int32 × OE) :=
  ((fX4_isBoard (E.2 1)).bind (fun r4 => (if r4 = 0 then some ((-103 : Int32), E)
 else ((fX5_settled E).bind (fun T14 => some (((T14.2 5).1 2), T14))))))
set_option maxHeartbeats 4000000 in
set_option maxRecDepth 100000 in
theorem kX5_left (l : Launch) (D : va_G) (cC cI cJ cZ : ClassId) (o : Nat) (so : Nat → Nat) (sa : Nat → Nat → Nat) (E : OE)  (r : Int32) (E' : OE) (h : fX5_left E = some (r, E')) : gMi l yX5_left cX5_left 1 (some .int) (gR 11) D (tysG cC cI cJ cZ) [.ref o] (wEP cC cI cZ o so sa E) r (wEP cC cI cZ o so sa E') := by
  refine gMi_of (by decide) (Nat.le_of_ble_eq_true rfl) rfl ?_
  intro p e s m args below meth c A Q C hQ
  unfold fX5_left at h
  refine g_aload_n C dX5_left_0 rfl 0 rfl ?_
  refine g_get (v := .ref (so 1)) C fl_X5_19 dX5_left_1 0 rfl rfl ?_
  obtain ⟨r4, h4, h⟩ := obd h
  refine g_callVi (st := []) (ws2 := wEP cC cI cZ o so sa E) C yv_X4_isBoard ml_X5_156 dX5_left_4 (kX4_isBoard l D cC cI cJ cZ (so 1) (sa 1) (E.2 1) r4 h4) (gCut_at [3, 4, 5, 6, 7, 8, 9] [0, 1, 2, 10, 11, 12, 13, 14, 15, 16, 17, 18, 19, 20, 21, 22, 23, 24, 25, 26, 27, 28, 29, 30, 31, 32] [0, 1, 2, 26, 27, 28, 29, 30, 31, 32, 3, 4, 5, 6, 7, 8, 9, 10, 11, 12, 13, 14, 15, 16, 17, 18, 19, 20, 21, 22, 23, 24, 25] rfl rfl rfl rfl (by decide) rfl rfl) ⟨by decide, by decide⟩ ⟨rfl, rfl⟩ ⟨Nat.zero_le _, Nat.zero_le _⟩ rfl rfl (Nat.le_of_ble_eq_true rfl) 3 3 rfl rfl rfl ?_
  refine g_if_ne (tgt := 13) C dX5_left_7 (by decide) (fun c7 => ?_) (fun c7 => ?_)
  · have h := ifn h c7
    refine g_aload_n C dX5_left_13 rfl 0 rfl ?_
    obtain ⟨T14, h14, h⟩ := obd h
    refine g_callVr (st := []) (ws2 := wEP cC cI cZ o so sa T14) C yv_X5_settled ml_X5_122 dX5_left_14 (kX5_settled l D cC cI cJ cZ o so sa E T14 h14) gCut_all ⟨by decide, by decide⟩ ⟨rfl, rfl⟩ ⟨Nat.zero_le _, Nat.zero_le _⟩ rfl rfl (Nat.le_of_ble_eq_true rfl) 4 0 rfl rfl rfl ?_
    refine g_get (v := .int ((T14.2 5).1 2)) C fl_X5_160 dX5_left_17 27 rfl rfl ?_
    cases sinj h
    exact g_iret C dX5_left_20 rfl rfl hQ
  · have h := ifp h c7
    refine g_bipush (v := (-103 : Int32)) C dX5_left_10 (by decide) ?_
    cases sinj h
    exact g_iret C dX5_left_12 rfl rfl hQ
def fX5_picture (E : OE) (x1 : Int32) : Option (Int32 × OE) :=
  (if 0 ≤ x1 then ((fX4_isBoard (E.2 1)).bind (fun r11 => (if r11 = 0 then some ((-103 : Int32), E)
 else ((fX5_settled E).bind (fun T21 => ((fX0_at 1690 (T21.2 5) x1).bind (fun r25 => some (r25, T21))))))))
 else some ((-102 : Int32), E))
set_option maxHeartbeats 4000000 in
set_option maxRecDepth 100000 in
theorem kX5_picture (l : Launch) (D : va_G) (cC cI cJ cZ : ClassId) (o : Nat) (so : Nat → Nat) (sa : Nat → Nat → Nat) (E : OE) (x1 : Int32) (r : Int32) (E' : OE) (h : fX5_picture E x1 = some (r, E')) : gMi l yX5_picture cX5_picture 2 (some .int) (gR 11) D (tysG cC cI cJ cZ) [.ref o, .int x1] (wEP cC cI cZ o so sa E) r (wEP cC cI cZ o so sa E') := by
  refine gMi_of (by decide) (Nat.le_of_ble_eq_true rfl) rfl ?_
  intro p e s m args below meth c A Q C hQ
  unfold fX5_picture at h
  refine g_iload_n C dX5_picture_0 rfl 1 rfl ?_
  refine g_if_ge (tgt := 7) C dX5_picture_1 (by decide) (fun c1 => ?_) (fun c1 => ?_)
  · have h := ifp h c1
    refine g_aload_n C dX5_picture_7 rfl 0 rfl ?_
    refine g_get (v := .ref (so 1)) C fl_X5_19 dX5_picture_8 0 rfl rfl ?_
    obtain ⟨r11, h11, h⟩ := obd h
    refine g_callVi (st := []) (ws2 := wEP cC cI cZ o so sa E) C yv_X4_isBoard ml_X5_156 dX5_picture_11 (kX4_isBoard l D cC cI cJ cZ (so 1) (sa 1) (E.2 1) r11 h11) (gCut_at [3, 4, 5, 6, 7, 8, 9] [0, 1, 2, 10, 11, 12, 13, 14, 15, 16, 17, 18, 19, 20, 21, 22, 23, 24, 25, 26, 27, 28, 29, 30, 31, 32] [0, 1, 2, 26, 27, 28, 29, 30, 31, 32, 3, 4, 5, 6, 7, 8, 9, 10, 11, 12, 13, 14, 15, 16, 17, 18, 19, 20, 21, 22, 23, 24, 25] rfl rfl rfl rfl (by decide) rfl rfl) ⟨by decide, by decide⟩ ⟨rfl, rfl⟩ ⟨Nat.zero_le _, Nat.zero_le _⟩ rfl rfl (Nat.le_of_ble_eq_true rfl) 3 3 rfl rfl rfl ?_
    refine g_if_ne (tgt := 20) C dX5_picture_14 (by decide) (fun c14 => ?_) (fun c14 => ?_)
    · have h := ifn h c14
      refine g_aload_n C dX5_picture_20 rfl 0 rfl ?_
      obtain ⟨T21, h21, h⟩ := obd h
      refine g_callVr (st := []) (ws2 := wEP cC cI cZ o so sa T21) C yv_X5_settled ml_X5_122 dX5_picture_21 (kX5_settled l D cC cI cJ cZ o so sa E T21 h21) gCut_all ⟨by decide, by decide⟩ ⟨rfl, rfl⟩ ⟨Nat.zero_le _, Nat.zero_le _⟩ rfl rfl (Nat.le_of_ble_eq_true rfl) 4 0 rfl rfl rfl ?_
      refine g_iload_n C dX5_picture_24 rfl 1 rfl ?_
      obtain ⟨r25, h25, h⟩ := obd h
      refine g_callVi (st := []) (ws2 := wEP cC cI cZ o so sa T21) C yv_X0_at ml_X5_161 dX5_picture_25 (kX0_at l D cC cI cJ cZ (so 5) (sa 5) 1690 (T21.2 5) x1 r25 h25) (gCut_at [27, 28, 29] [0, 1, 2, 3, 4, 5, 6, 7, 8, 9, 10, 11, 12, 13, 14, 15, 16, 17, 18, 19, 20, 21, 22, 23, 24, 25, 26, 30, 31, 32] [0, 1, 2, 3, 4, 5, 6, 7, 8, 9, 10, 11, 12, 13, 14, 15, 16, 17, 18, 19, 20, 21, 22, 23, 24, 25, 26, 30, 31, 32, 27, 28, 29] rfl rfl rfl rfl (by decide) rfl rfl) ⟨by decide, by decide⟩ ⟨rfl, rfl⟩ ⟨Nat.zero_le _, Nat.zero_le _⟩ rfl rfl (Nat.le_of_ble_eq_true rfl) 0 27 rfl rfl rfl ?_
      cases sinj h
      exact g_iret C dX5_picture_28 rfl rfl hQ
    · have h := ifp h c14
      refine g_bipush (v := (-103 : Int32)) C dX5_picture_17 (by decide) ?_
      cases sinj h
      exact g_iret C dX5_picture_19 rfl rfl hQ
  · have h := ifn h c1
    refine g_bipush (v := (-102 : Int32)) C dX5_picture_4 (by decide) ?_
    cases sinj h
    exact g_iret C dX5_picture_6 rfl rfl hQ
def fX5_look (E : OE)  : Option (Int32 × OE) :=
  ((fX4_isBoard (E.2 1)).bind (fun r4 => (if r4 = 0 then some ((-103 : Int32), E)
 else ((fX5_settled E).bind (fun T14 => ((fX4_cells (T14.2 1)).bind (fun r21 => ((fX4_marked (T14.2 1)).bind (fun r28 => ((fX0_bestLook 1690 (T14.2 5) r21 r28).bind (fun r31 => some (r31, T14))))))))))))
set_option maxHeartbeats 4000000 in
set_option maxRecDepth 100000 in
theorem kX5_look (l : Launch) (D : va_G) (cC cI cJ cZ : ClassId) (o : Nat) (so : Nat → Nat) (sa : Nat → Nat → Nat) (E : OE)  (r : Int32) (E' : OE) (h : fX5_look E = some (r, E')) : gMi l yX5_look cX5_look 1 (some .int) (gR 11) D (tysG cC cI cJ cZ) [.ref o] (wEP cC cI cZ o so sa E) r (wEP cC cI cZ o so sa E') := by
  refine gMi_of (by decide) (Nat.le_of_ble_eq_true rfl) rfl ?_
  intro p e s m args below meth c A Q C hQ
  unfold fX5_look at h
  refine g_aload_n C dX5_look_0 rfl 0 rfl ?_
  refine g_get (v := .ref (so 1)) C fl_X5_19 dX5_look_1 0 rfl rfl ?_
  obtain ⟨r4, h4, h⟩ := obd h
  refine g_callVi (st := []) (ws2 := wEP cC cI cZ o so sa E) C yv_X4_isBoard ml_X5_156 dX5_look_4 (kX4_isBoard l D cC cI cJ cZ (so 1) (sa 1) (E.2 1) r4 h4) (gCut_at [3, 4, 5, 6, 7, 8, 9] [0, 1, 2, 10, 11, 12, 13, 14, 15, 16, 17, 18, 19, 20, 21, 22, 23, 24, 25, 26, 27, 28, 29, 30, 31, 32] [0, 1, 2, 26, 27, 28, 29, 30, 31, 32, 3, 4, 5, 6, 7, 8, 9, 10, 11, 12, 13, 14, 15, 16, 17, 18, 19, 20, 21, 22, 23, 24, 25] rfl rfl rfl rfl (by decide) rfl rfl) ⟨by decide, by decide⟩ ⟨rfl, rfl⟩ ⟨Nat.zero_le _, Nat.zero_le _⟩ rfl rfl (Nat.le_of_ble_eq_true rfl) 3 3 rfl rfl rfl ?_
  refine g_if_ne (tgt := 13) C dX5_look_7 (by decide) (fun c7 => ?_) (fun c7 => ?_)
  · have h := ifn h c7
    refine g_aload_n C dX5_look_13 rfl 0 rfl ?_
    obtain ⟨T14, h14, h⟩ := obd h
    refine g_callVr (st := []) (ws2 := wEP cC cI cZ o so sa T14) C yv_X5_settled ml_X5_122 dX5_look_14 (kX5_settled l D cC cI cJ cZ o so sa E T14 h14) gCut_all ⟨by decide, by decide⟩ ⟨rfl, rfl⟩ ⟨Nat.zero_le _, Nat.zero_le _⟩ rfl rfl (Nat.le_of_ble_eq_true rfl) 4 0 rfl rfl rfl ?_
    refine g_aload_n C dX5_look_17 rfl 0 rfl ?_
    refine g_get (v := .ref (so 1)) C fl_X5_19 dX5_look_18 0 rfl rfl ?_
    obtain ⟨r21, h21, h⟩ := obd h
    refine g_callVi (st := [.ref (so 5)]) (ws2 := wEP cC cI cZ o so sa T14) C yv_X4_cells ml_X5_76 dX5_look_21 (kX4_cells l D cC cI cJ cZ (so 1) (sa 1) (T14.2 1) r21 h21) (gCut_at [3, 4, 5, 6, 7, 8, 9] [0, 1, 2, 10, 11, 12, 13, 14, 15, 16, 17, 18, 19, 20, 21, 22, 23, 24, 25, 26, 27, 28, 29, 30, 31, 32] [0, 1, 2, 26, 27, 28, 29, 30, 31, 32, 3, 4, 5, 6, 7, 8, 9, 10, 11, 12, 13, 14, 15, 16, 17, 18, 19, 20, 21, 22, 23, 24, 25] rfl rfl rfl rfl (by decide) rfl rfl) ⟨by decide, by decide⟩ ⟨rfl, rfl⟩ ⟨Nat.zero_le _, Nat.zero_le _⟩ rfl rfl (Nat.le_of_ble_eq_true rfl) 3 3 rfl rfl rfl ?_
    refine g_aload_n C dX5_look_24 rfl 0 rfl ?_
    refine g_get (v := .ref (so 1)) C fl_X5_19 dX5_look_25 0 rfl rfl ?_
    obtain ⟨r28, h28, h⟩ := obd h
    refine g_callVi (st := [.int r21, .ref (so 5)]) (ws2 := wEP cC cI cZ o so sa T14) C yv_X4_marked ml_X5_164 dX5_look_28 (kX4_marked l D cC cI cJ cZ (so 1) (sa 1) (T14.2 1) r28 h28) (gCut_at [3, 4, 5, 6, 7, 8, 9] [0, 1, 2, 10, 11, 12, 13, 14, 15, 16, 17, 18, 19, 20, 21, 22, 23, 24, 25, 26, 27, 28, 29, 30, 31, 32] [0, 1, 2, 26, 27, 28, 29, 30, 31, 32, 3, 4, 5, 6, 7, 8, 9, 10, 11, 12, 13, 14, 15, 16, 17, 18, 19, 20, 21, 22, 23, 24, 25] rfl rfl rfl rfl (by decide) rfl rfl) ⟨by decide, by decide⟩ ⟨rfl, rfl⟩ ⟨Nat.zero_le _, Nat.zero_le _⟩ rfl rfl (Nat.le_of_ble_eq_true rfl) 3 3 rfl rfl rfl ?_
    obtain ⟨r31, h31, h⟩ := obd h
    refine g_callVi (st := []) (ws2 := wEP cC cI cZ o so sa T14) C yv_X0_bestLook ml_X5_167 dX5_look_31 (kX0_bestLook l D cC cI cJ cZ (so 5) (sa 5) 1690 (T14.2 5) r21 r28 r31 h31) (gCut_at [27, 28, 29] [0, 1, 2, 3, 4, 5, 6, 7, 8, 9, 10, 11, 12, 13, 14, 15, 16, 17, 18, 19, 20, 21, 22, 23, 24, 25, 26, 30, 31, 32] [0, 1, 2, 3, 4, 5, 6, 7, 8, 9, 10, 11, 12, 13, 14, 15, 16, 17, 18, 19, 20, 21, 22, 23, 24, 25, 26, 30, 31, 32, 27, 28, 29] rfl rfl rfl rfl (by decide) rfl rfl) ⟨by decide, by decide⟩ ⟨rfl, rfl⟩ ⟨Nat.zero_le _, Nat.zero_le _⟩ rfl rfl (Nat.le_of_ble_eq_true rfl) 0 27 rfl rfl rfl ?_
    cases sinj h
    exact g_iret C dX5_look_34 rfl rfl hQ
  · have h := ifp h c7
    refine g_bipush (v := (-103 : Int32)) C dX5_look_10 (by decide) ?_
    cases sinj h
    exact g_iret C dX5_look_12 rfl rfl hQ
def fX5_commonDivisor_L7 (x2_L7 : Int32) (x3_L7 : Int32) (x4_L7 : Int32) : Option ((Int32 × Int32 × Int32) ⊕ (Int32)) :=
  (if (64 : Int32) ≤ x4_L7 then some (.inr x2_L7)
 else (if x3_L7 = 0 then some (.inr x2_L7)
 else (if ¬ x3_L7 = 0 then some (.inl (x3_L7, (x2_L7 - x2_L7 / x3_L7 * x3_L7), (x4_L7 + (1 : Int32)))) else none)))
def fX5_commonDivisor_J34 (x2_J34 : Int32) : Option (Int32) :=
  some x2_J34
def fX5_commonDivisor  (x0 : Int32) (x1 : Int32) : Option (Int32) :=
  ((wh (σ := Int32 × Int32 × Int32) (ρ := Int32) (fun t => fX5_commonDivisor_L7 t.1 t.2.1 t.2.2) 100000 (x1, x0, (0 : Int32))).bind (fun e2_L7 => fX5_commonDivisor_J34 e2_L7))
set_option maxHeartbeats 4000000 in
set_option maxRecDepth 100000 in
theorem kX5_commonDivisor (l : Launch) (D : va_G) (cC cI cJ cZ : ClassId)  (x0 : Int32) (x1 : Int32) (r : Int32) (h : fX5_commonDivisor x0 x1 = some r) : gMi l yX5_commonDivisor cX5_commonDivisor 6 (some .int) (gR 1) D (tysG cC cI cJ cZ) [.int x0, .int x1] ([]) r ([]) := by
  refine gMi_of (by decide) (Nat.le_of_ble_eq_true rfl) rfl ?_
  intro p e s m args below meth c A Q C hQ
  have j34 : ∀ (x2_J34 : Int32), fX5_commonDivisor_J34 x2_J34 = some r → gG p l e (gR 1) s m args below meth c 6 D A 0 0 Q 34 [(2, .int x2_J34)] [] ([]) := by
    intro x2_J34 h
    unfold fX5_commonDivisor_J34 at h
    refine g_iload_n C dX5_commonDivisor_34 rfl 0 rfl ?_
    cases sinj h
    exact g_iret C dX5_commonDivisor_35 rfl rfl hQ
  unfold fX5_commonDivisor at h
  refine g_iload_n C dX5_commonDivisor_0 rfl 1 rfl ?_
  refine g_istore_n (lv' := [(2, .int x1), (0, .int x0), (1, .int x1)]) C dX5_commonDivisor_1 rfl (by decide) rfl ?_
  refine g_iload_n C dX5_commonDivisor_2 rfl 1 rfl ?_
  refine g_istore_n (lv' := [(3, .int x0), (2, .int x1), (0, .int x0), (1, .int x1)]) C dX5_commonDivisor_3 rfl (by decide) rfl ?_
  refine g_iconst (v := (0 : Int32)) C dX5_commonDivisor_4 (by decide) ?_
  refine g_istore (lv' := [(4, .int (0 : Int32)), (3, .int x0), (2, .int x1), (0, .int x0), (1, .int x1)]) C dX5_commonDivisor_5 (by decide) rfl ?_
  obtain ⟨X7, hW7, hK7⟩ := obd h
  have l7 : ∀ (fu7 : Nat) (x2_L7 : Int32) (x3_L7 : Int32) (x4_L7 : Int32), wh (σ := Int32 × Int32 × Int32) (ρ := Int32) (fun t => fX5_commonDivisor_L7 t.1 t.2.1 t.2.2) fu7 (x2_L7, x3_L7, x4_L7) = some X7 → gG p l e (gR 1) s m args below meth c 6 D A 0 0 Q 7 [(2, .int x2_L7), (3, .int x3_L7), (4, .int x4_L7)] [] ([]) := by
    intro fu7
    induction fu7 with
    | zero => intro x2_L7 x3_L7 x4_L7 hW; exact (wh_0 hW).elim
    | succ fu7 ih7 =>
      intro x2_L7 x3_L7 x4_L7 hW
      obtain ⟨z7, h, hw7⟩ := wh_s hW
      replace h : fX5_commonDivisor_L7 x2_L7 x3_L7 x4_L7 = some z7 := h
      unfold fX5_commonDivisor_L7 at h
      refine g_iload C dX5_commonDivisor_7 2 rfl ?_
      refine g_bipush (v := (64 : Int32)) C dX5_commonDivisor_9 (by decide) ?_
      refine g_icmp_ge (tgt := 34) C dX5_commonDivisor_11 (by decide) (fun c11 => ?_) (fun c11 => ?_)
      · have h := ifp h c11
        obtain rfl := sinj h
        obtain rfl := wk_r hw7
        have h := hK7
        refine g_lv [0] rfl ?_
        exact j34 x2_L7 h
      · have h := ifn h c11
        refine g_iload_n C dX5_commonDivisor_14 rfl 1 rfl ?_
        refine g_if_eq (tgt := 34) C dX5_commonDivisor_15 (by decide) (fun c15 => ?_) (fun c15 => ?_)
        · have h := ifp h c15
          obtain rfl := sinj h
          obtain rfl := wk_r hw7
          have h := hK7
          refine g_lv [0] rfl ?_
          exact j34 x2_L7 h
        · have h := ifn h c15
          refine g_iload_n C dX5_commonDivisor_18 rfl 0 rfl ?_
          refine g_iload_n C dX5_commonDivisor_19 rfl 1 rfl ?_
          obtain ⟨hg20, h⟩ := ifg h
          refine g_irem C dX5_commonDivisor_20 hg20 ?_
          refine g_istore (lv' := [(5, .int (x2_L7 - x2_L7 / x3_L7 * x3_L7)), (2, .int x2_L7), (3, .int x3_L7), (4, .int x4_L7)]) C dX5_commonDivisor_21 (by decide) rfl ?_
          refine g_iload_n C dX5_commonDivisor_23 rfl 2 rfl ?_
          refine g_istore_n (lv' := [(2, .int x3_L7), (5, .int (x2_L7 - x2_L7 / x3_L7 * x3_L7)), (3, .int x3_L7), (4, .int x4_L7)]) C dX5_commonDivisor_24 rfl (by decide) rfl ?_
          refine g_iload C dX5_commonDivisor_25 1 rfl ?_
          refine g_istore_n (lv' := [(3, .int (x2_L7 - x2_L7 / x3_L7 * x3_L7)), (2, .int x3_L7), (5, .int (x2_L7 - x2_L7 / x3_L7 * x3_L7)), (4, .int x4_L7)]) C dX5_commonDivisor_27 rfl (by decide) rfl ?_
          refine g_iinc (j := 3) (v := (x4_L7 + (1 : Int32))) (lv' := [(4, .int (x4_L7 + (1 : Int32))), (3, .int (x2_L7 - x2_L7 / x3_L7 * x3_L7)), (2, .int x3_L7), (5, .int (x2_L7 - x2_L7 / x3_L7 * x3_L7))]) C dX5_commonDivisor_28 rfl rfl (by decide) rfl ?_
          refine g_goto (tgt := 7) C dX5_commonDivisor_31 (by decide) ?_
          obtain rfl := sinj h
          refine g_lv [2, 1, 0] rfl ?_
          exact ih7 x3_L7 (x2_L7 - x2_L7 / x3_L7 * x3_L7) (x4_L7 + (1 : Int32)) hw7
  refine g_lv [2, 1, 0] rfl ?_
  exact l7 100000 x1 x0 (0 : Int32) hW7
def fX5_odds (E : OE) (x1 : Int32) (x2 : Int32) : Option (Int32 × OE) :=
  ((fX4_hasCell (E.2 1) x1).bind (fun r5 => (if r5 = 0 then some ((-101 : Int32), E)
 else (if x2 < 0 then some ((-102 : Int32), E)
 else (if x2 ≤ (1 : Int32) then ((fX5_settled E).bind (fun T27 => ((fX0_blackIn 1690 (T27.2 5) x1).bind (fun r31 => ((fX5_commonDivisor r31 ((T27.2 5).1 2)).bind (fun r47 => (if (1 : Int32) ≤ r47 then (if x2 = 0 then (if ¬ r47 = 0 then some ((r31 / r47), T27) else none)
 else (if ¬ r47 = 0 then some ((((T27.2 5).1 2) / r47), T27) else none))
 else (if x2 = 0 then some ((0 : Int32), T27)
 else some ((1 : Int32), T27)))))))))
 else some ((-102 : Int32), E))))))
set_option maxHeartbeats 4000000 in
set_option maxRecDepth 100000 in
theorem kX5_odds (l : Launch) (D : va_G) (cC cI cJ cZ : ClassId) (o : Nat) (so : Nat → Nat) (sa : Nat → Nat → Nat) (E : OE) (x1 : Int32) (x2 : Int32) (r : Int32) (E' : OE) (h : fX5_odds E x1 x2 = some (r, E')) : gMi l yX5_odds cX5_odds 6 (some .int) (gR 11) D (tysG cC cI cJ cZ) [.ref o, .int x1, .int x2] (wEP cC cI cZ o so sa E) r (wEP cC cI cZ o so sa E') := by
  refine gMi_of (by decide) (Nat.le_of_ble_eq_true rfl) rfl ?_
  intro p e s m args below meth c A Q C hQ
  unfold fX5_odds at h
  refine g_aload_n C dX5_odds_0 rfl 0 rfl ?_
  refine g_get (v := .ref (so 1)) C fl_X5_19 dX5_odds_1 0 rfl rfl ?_
  refine g_iload_n C dX5_odds_4 rfl 1 rfl ?_
  obtain ⟨r5, h5, h⟩ := obd h
  refine g_callVi (st := []) (ws2 := wEP cC cI cZ o so sa E) C yv_X4_hasCell ml_X5_116 dX5_odds_5 (kX4_hasCell l D cC cI cJ cZ (so 1) (sa 1) (E.2 1) x1 r5 h5) (gCut_at [3, 4, 5, 6, 7, 8, 9] [0, 1, 2, 10, 11, 12, 13, 14, 15, 16, 17, 18, 19, 20, 21, 22, 23, 24, 25, 26, 27, 28, 29, 30, 31, 32] [0, 1, 2, 26, 27, 28, 29, 30, 31, 32, 3, 4, 5, 6, 7, 8, 9, 10, 11, 12, 13, 14, 15, 16, 17, 18, 19, 20, 21, 22, 23, 24, 25] rfl rfl rfl rfl (by decide) rfl rfl) ⟨by decide, by decide⟩ ⟨rfl, rfl⟩ ⟨Nat.zero_le _, Nat.zero_le _⟩ rfl rfl (Nat.le_of_ble_eq_true rfl) 3 3 rfl rfl rfl ?_
  refine g_if_ne (tgt := 14) C dX5_odds_8 (by decide) (fun c8 => ?_) (fun c8 => ?_)
  · have h := ifn h c8
    refine g_iload_n C dX5_odds_14 rfl 2 rfl ?_
    refine g_if_lt (tgt := 23) C dX5_odds_15 (by decide) (fun c15 => ?_) (fun c15 => ?_)
    · have h := ifp h c15
      refine g_bipush (v := (-102 : Int32)) C dX5_odds_23 (by decide) ?_
      cases sinj h
      exact g_iret C dX5_odds_25 rfl rfl hQ
    · have h := ifn h c15
      refine g_iload_n C dX5_odds_18 rfl 2 rfl ?_
      refine g_iconst (v := (1 : Int32)) C dX5_odds_19 (by decide) ?_
      refine g_icmp_le (tgt := 26) C dX5_odds_20 (by decide) (fun c20 => ?_) (fun c20 => ?_)
      · have h := ifp h c20
        refine g_aload_n C dX5_odds_26 rfl 0 rfl ?_
        obtain ⟨T27, h27, h⟩ := obd h
        refine g_callVr (st := []) (ws2 := wEP cC cI cZ o so sa T27) C yv_X5_settled ml_X5_122 dX5_odds_27 (kX5_settled l D cC cI cJ cZ o so sa E T27 h27) gCut_all ⟨by decide, by decide⟩ ⟨rfl, rfl⟩ ⟨Nat.zero_le _, Nat.zero_le _⟩ rfl rfl (Nat.le_of_ble_eq_true rfl) 4 0 rfl rfl rfl ?_
        refine g_iload_n C dX5_odds_30 rfl 1 rfl ?_
        obtain ⟨r31, h31, h⟩ := obd h
        refine g_callVi (st := []) (ws2 := wEP cC cI cZ o so sa T27) C yv_X0_blackIn ml_X5_126 dX5_odds_31 (kX0_blackIn l D cC cI cJ cZ (so 5) (sa 5) 1690 (T27.2 5) x1 r31 h31) (gCut_at [27, 28, 29] [0, 1, 2, 3, 4, 5, 6, 7, 8, 9, 10, 11, 12, 13, 14, 15, 16, 17, 18, 19, 20, 21, 22, 23, 24, 25, 26, 30, 31, 32] [0, 1, 2, 3, 4, 5, 6, 7, 8, 9, 10, 11, 12, 13, 14, 15, 16, 17, 18, 19, 20, 21, 22, 23, 24, 25, 26, 30, 31, 32, 27, 28, 29] rfl rfl rfl rfl (by decide) rfl rfl) ⟨by decide, by decide⟩ ⟨rfl, rfl⟩ ⟨Nat.zero_le _, Nat.zero_le _⟩ rfl rfl (Nat.le_of_ble_eq_true rfl) 0 27 rfl rfl rfl ?_
        refine g_istore_n (lv' := [(3, .int r31), (0, .ref o), (1, .int x1), (2, .int x2)]) C dX5_odds_34 rfl (by decide) rfl ?_
        refine g_aload_n C dX5_odds_35 rfl 1 rfl ?_
        refine g_get (v := .ref (so 5)) C fl_X5_41 dX5_odds_36 0 rfl rfl ?_
        refine g_get (v := .int ((T27.2 5).1 2)) C fl_X5_160 dX5_odds_39 27 rfl rfl ?_
        refine g_istore (lv' := [(4, .int ((T27.2 5).1 2)), (3, .int r31), (0, .ref o), (1, .int x1), (2, .int x2)]) C dX5_odds_42 (by decide) rfl ?_
        refine g_iload_n C dX5_odds_44 rfl 1 rfl ?_
        refine g_iload C dX5_odds_45 0 rfl ?_
        obtain ⟨r47, h47, h⟩ := obd h
        refine g_callSi (st := []) (ws2 := wEP cC cI cZ o so sa T27) C ys_X5_commonDivisor ml_X5_171 dX5_odds_47 (kX5_commonDivisor l D cC cI cJ cZ r31 ((T27.2 5).1 2) r47 h47) gCut_nil ⟨by decide, by decide⟩ ⟨rfl, rfl⟩ ⟨Nat.zero_le _, Nat.zero_le _⟩ rfl rfl (Nat.le_of_ble_eq_true rfl) ?_
        refine g_istore (lv' := [(5, .int r47), (4, .int ((T27.2 5).1 2)), (3, .int r31), (0, .ref o), (1, .int x1), (2, .int x2)]) C dX5_odds_50 (by decide) rfl ?_
        refine g_iload C dX5_odds_52 0 rfl ?_
        refine g_iconst (v := (1 : Int32)) C dX5_odds_54 (by decide) ?_
        refine g_icmp_ge (tgt := 68) C dX5_odds_55 (by decide) (fun c55 => ?_) (fun c55 => ?_)
        · have h := ifp h c55
          refine g_iload_n C dX5_odds_68 rfl 5 rfl ?_
          refine g_if_ne (tgt := 76) C dX5_odds_69 (by decide) (fun c69 => ?_) (fun c69 => ?_)
          · have h := ifn h c69
            refine g_iload C dX5_odds_76 1 rfl ?_
            refine g_iload C dX5_odds_78 0 rfl ?_
            obtain ⟨hg80, h⟩ := ifg h
            refine g_idiv C dX5_odds_80 hg80 ?_
            cases sinj h
            exact g_iret C dX5_odds_81 rfl rfl hQ
          · have h := ifp h c69
            refine g_iload_n C dX5_odds_72 rfl 2 rfl ?_
            refine g_goto (tgt := 78) C dX5_odds_73 (by decide) ?_
            refine g_iload C dX5_odds_78 0 rfl ?_
            obtain ⟨hg80, h⟩ := ifg h
            refine g_idiv C dX5_odds_80 hg80 ?_
            cases sinj h
            exact g_iret C dX5_odds_81 rfl rfl hQ
        · have h := ifn h c55
          refine g_iload_n C dX5_odds_58 rfl 5 rfl ?_
          refine g_if_ne (tgt := 66) C dX5_odds_59 (by decide) (fun c59 => ?_) (fun c59 => ?_)
          · have h := ifn h c59
            refine g_iconst (v := (1 : Int32)) C dX5_odds_66 (by decide) ?_
            cases sinj h
            exact g_iret C dX5_odds_67 rfl rfl hQ
          · have h := ifp h c59
            refine g_iconst (v := (0 : Int32)) C dX5_odds_62 (by decide) ?_
            refine g_goto (tgt := 67) C dX5_odds_63 (by decide) ?_
            cases sinj h
            exact g_iret C dX5_odds_67 rfl rfl hQ
      · have h := ifn h c20
        refine g_bipush (v := (-102 : Int32)) C dX5_odds_23 (by decide) ?_
        cases sinj h
        exact g_iret C dX5_odds_25 rfl rfl hQ
  · have h := ifp h c8
    refine g_bipush (v := (-101 : Int32)) C dX5_odds_11 (by decide) ?_
    cases sinj h
    exact g_iret C dX5_odds_13 rfl rfl hQ
def fX5_growHints_L35 (rec_ : OE → Int32 → Int32 → Int32 → Int32 → Option (Int32)) (E : OE) (x1_L35 : Int32) (x2_L35 : Int32) (x4_L35 : Int32) (x5_L35 : Int32) : Option ((Int32) ⊕ ((Int32) ⊕ (Unit))) :=
  ((fX4_cells (E.2 1)).bind (fun r41 => (if r41 ≤ x5_L35 then some (.inr (.inr ()))
 else ((fX4_howMarked (E.2 1) x5_L35).bind (fun r53 => (if r53 = 0 then ((rec_ E x1_L35 (x2_L35 ||| ((1 : Int32) <<< (x5_L35 &&& 31))) (x5_L35 + (1 : Int32)) (x4_L35 - (1 : Int32))).bind (fun r78 => (if r78 = (-1 : Int32) then some (.inl (x5_L35 + (1 : Int32)))
 else some (.inr (.inl r78)))))
 else some (.inl (x5_L35 + (1 : Int32)))))))))
def fX5_growHints_J98 (rec_ : OE → Int32 → Int32 → Int32 → Int32 → Option (Int32)) (E : OE) : Option (Int32) :=
  some (-1 : Int32)
def fX5_growHints_B (rec_ : OE → Int32 → Int32 → Int32 → Int32 → Option (Int32)) (E : OE) (x1 : Int32) (x2 : Int32) (x3 : Int32) (x4 : Int32) : Option (Int32) :=
  (if x4 ≤ (3 : Int32) then (if (1 : Int32) ≤ x4 then ((wh (σ := Int32) (ρ := (Int32) ⊕ (Unit)) (fun t => fX5_growHints_L35 rec_ E x1 x2 x4 t) 100000 x3).bind (fun X => Sum.elim (fun r => some r) (fun _ => fX5_growHints_J98 rec_ E) X))
 else ((fX0_tells 1690 (E.2 5) x1 x2).bind (fun r20 => (if r20 = 0 then some (-1 : Int32)
 else some x2))))
 else some (-1 : Int32))
def fX5_growHints : Nat → OE → Int32 → Int32 → Int32 → Int32 → Option (Int32)
  | 0 => fun _ _ _ _ _ => none
  | d + 1 => fun E x1 x2 x3 x4 => fX5_growHints_B (fX5_growHints d) E x1 x2 x3 x4
set_option maxHeartbeats 4000000 in
set_option maxRecDepth 100000 in
theorem kX5_growHints (l : Launch) (D : va_G) (cC cI cJ cZ : ClassId) (o : Nat) (so : Nat → Nat) (sa : Nat → Nat → Nat) : ∀ (d : Nat) (E : OE) (x1 : Int32) (x2 : Int32) (x3 : Int32) (x4 : Int32) (r : Int32), fX5_growHints d E x1 x2 x3 x4 = some r → gMi l yX5_growHints cX5_growHints 7 (some .int) (gR (3 + d)) D (tysG cC cI cJ cZ) [.ref o, .int x1, .int x2, .int x3, .int x4] (wEP cC cI cZ o so sa E) r (wEP cC cI cZ o so sa E) := by
  intro d
  induction d with
  | zero => intro E x1 x2 x3 x4 r h; cases h
  | succ d ihd =>
    intro E x1 x2 x3 x4 r h
    refine gMi_of (by decide) (Nat.le_of_ble_eq_true rfl) rfl ?_
    intro p e s m args below meth c A Q C hQ
    replace h : fX5_growHints_B (fX5_growHints d) E x1 x2 x3 x4 = some r := h
    generalize fX5_growHints d = rec_ at h ihd
    have j98 : fX5_growHints_J98 rec_ E = some r → gG p l e (gR (3 + (d + 1))) s m args below meth c 7 D A 0 0 Q 98 [] [] (wEP cC cI cZ o so sa E) := by
      intro h
      unfold fX5_growHints_J98 at h
      refine g_iconst (v := (-1 : Int32)) C dX5_growHints_98 (by decide) ?_
      cases sinj h
      exact g_iret C dX5_growHints_99 rfl rfl hQ
    unfold fX5_growHints_B at h
    refine g_iload C dX5_growHints_0 4 rfl ?_
    refine g_iconst (v := (3 : Int32)) C dX5_growHints_2 (by decide) ?_
    refine g_icmp_le (tgt := 8) C dX5_growHints_3 (by decide) (fun c3 => ?_) (fun c3 => ?_)
    · have h := ifp h c3
      refine g_iload C dX5_growHints_8 4 rfl ?_
      refine g_iconst (v := (1 : Int32)) C dX5_growHints_10 (by decide) ?_
      refine g_icmp_ge (tgt := 32) C dX5_growHints_11 (by decide) (fun c11 => ?_) (fun c11 => ?_)
      · have h := ifp h c11
        refine g_iload_n C dX5_growHints_32 rfl 3 rfl ?_
        refine g_istore (lv' := [(5, .int x3), (0, .ref o), (1, .int x1), (2, .int x2), (3, .int x3), (4, .int x4)]) C dX5_growHints_33 (by decide) rfl ?_
        obtain ⟨X35, hW35, hK35⟩ := obd h
        have l35 : ∀ (fu35 : Nat) (x5_L35 : Int32), wh (σ := Int32) (ρ := (Int32) ⊕ (Unit)) (fun t => fX5_growHints_L35 rec_ E x1 x2 x4 t) fu35 x5_L35 = some X35 → gG p l e (gR (3 + (d + 1))) s m args below meth c 7 D A 0 0 Q 35 [(0, .ref o), (1, .int x1), (2, .int x2), (4, .int x4), (5, .int x5_L35)] [] (wEP cC cI cZ o so sa E) := by
          intro fu35
          induction fu35 with
          | zero => intro x5_L35 hW; exact (wh_0 hW).elim
          | succ fu35 ih35 =>
            intro x5_L35 hW
            obtain ⟨z35, h, hw35⟩ := wh_s hW
            replace h : fX5_growHints_L35 rec_ E x1 x2 x4 x5_L35 = some z35 := h
            unfold fX5_growHints_L35 at h
            refine g_iload C dX5_growHints_35 4 rfl ?_
            refine g_aload_n C dX5_growHints_37 rfl 0 rfl ?_
            refine g_get (v := .ref (so 1)) C fl_X5_19 dX5_growHints_38 0 rfl rfl ?_
            obtain ⟨r41, h41, h⟩ := obd h
            refine g_callVi (st := [.int x5_L35]) (ws2 := wEP cC cI cZ o so sa E) C yv_X4_cells ml_X5_76 dX5_growHints_41 (kX4_cells l D cC cI cJ cZ (so 1) (sa 1) (E.2 1) r41 h41) (gCut_at [3, 4, 5, 6, 7, 8, 9] [0, 1, 2, 10, 11, 12, 13, 14, 15, 16, 17, 18, 19, 20, 21, 22, 23, 24, 25, 26, 27, 28, 29, 30, 31, 32] [0, 1, 2, 26, 27, 28, 29, 30, 31, 32, 3, 4, 5, 6, 7, 8, 9, 10, 11, 12, 13, 14, 15, 16, 17, 18, 19, 20, 21, 22, 23, 24, 25] rfl rfl rfl rfl (by decide) rfl rfl) ⟨by show 1 + 1 + 1 ≤ 3 + (d + 1) + 1; omega, by show 8 + (1 + 11) + 40 * (1 + 1) ≤ 40 * (3 + (d + 1) + 1); omega⟩ ⟨rfl, rfl⟩ ⟨Nat.zero_le _, Nat.zero_le _⟩ rfl rfl (Nat.le_of_ble_eq_true rfl) 3 3 rfl rfl rfl ?_
            refine g_icmp_ge (tgt := 98) C dX5_growHints_44 (by decide) (fun c44 => ?_) (fun c44 => ?_)
            · have h := ifp h c44
              obtain rfl := sinj h
              obtain rfl := wk_r hw35
              have h := ser hK35
              refine g_lv [] rfl ?_
              exact j98  h
            · have h := ifn h c44
              refine g_aload_n C dX5_growHints_47 rfl 0 rfl ?_
              refine g_get (v := .ref (so 1)) C fl_X5_19 dX5_growHints_48 0 rfl rfl ?_
              refine g_iload C dX5_growHints_51 4 rfl ?_
              obtain ⟨r53, h53, h⟩ := obd h
              refine g_callVi (st := []) (ws2 := wEP cC cI cZ o so sa E) C yv_X4_howMarked ml_X5_119 dX5_growHints_53 (kX4_howMarked l D cC cI cJ cZ (so 1) (sa 1) (E.2 1) x5_L35 r53 h53) (gCut_at [3, 4, 5, 6, 7, 8, 9] [0, 1, 2, 10, 11, 12, 13, 14, 15, 16, 17, 18, 19, 20, 21, 22, 23, 24, 25, 26, 27, 28, 29, 30, 31, 32] [0, 1, 2, 26, 27, 28, 29, 30, 31, 32, 3, 4, 5, 6, 7, 8, 9, 10, 11, 12, 13, 14, 15, 16, 17, 18, 19, 20, 21, 22, 23, 24, 25] rfl rfl rfl rfl (by decide) rfl rfl) ⟨by show 1 + 1 + 1 ≤ 3 + (d + 1) + 1; omega, by show 8 + (2 + 11) + 40 * (1 + 1) ≤ 40 * (3 + (d + 1) + 1); omega⟩ ⟨rfl, rfl⟩ ⟨Nat.zero_le _, Nat.zero_le _⟩ rfl rfl (Nat.le_of_ble_eq_true rfl) 3 3 rfl rfl rfl ?_
              refine g_if_eq (tgt := 62) C dX5_growHints_56 (by decide) (fun c56 => ?_) (fun c56 => ?_)
              · have h := ifp h c56
                refine g_aload_n C dX5_growHints_62 rfl 0 rfl ?_
                refine g_iload_n C dX5_growHints_63 rfl 1 rfl ?_
                refine g_iload_n C dX5_growHints_64 rfl 2 rfl ?_
                refine g_iconst (v := (1 : Int32)) C dX5_growHints_65 (by decide) ?_
                refine g_iload C dX5_growHints_66 4 rfl ?_
                refine g_ishl C dX5_growHints_68 ?_
                refine g_ior C dX5_growHints_69 ?_
                refine g_iload C dX5_growHints_70 4 rfl ?_
                refine g_iconst (v := (1 : Int32)) C dX5_growHints_72 (by decide) ?_
                refine g_iadd C dX5_growHints_73 ?_
                refine g_iload C dX5_growHints_74 3 rfl ?_
                refine g_iconst (v := (1 : Int32)) C dX5_growHints_76 (by decide) ?_
                refine g_isub C dX5_growHints_77 ?_
                obtain ⟨r78, h78, h⟩ := obd h
                refine g_callVi (st := []) (ws2 := wEP cC cI cZ o so sa E) C yv_X5_growHints ml_X5_273 dX5_growHints_78 (ihd E x1 (x2 ||| ((1 : Int32) <<< (x5_L35 &&& 31))) (x5_L35 + (1 : Int32)) (x4 - (1 : Int32)) r78 h78) gCut_all ⟨by show (3 + d) + 1 + 1 ≤ 3 + (d + 1) + 1; omega, by show 8 + (7 + 11) + 40 * ((3 + d) + 1) ≤ 40 * (3 + (d + 1) + 1); omega⟩ ⟨rfl, rfl⟩ ⟨Nat.zero_le _, Nat.zero_le _⟩ rfl rfl (Nat.le_of_ble_eq_true rfl) 4 0 rfl rfl rfl ?_
                refine g_istore (lv' := [(6, .int r78), (0, .ref o), (1, .int x1), (2, .int x2), (4, .int x4), (5, .int x5_L35)]) C dX5_growHints_81 (by decide) rfl ?_
                refine g_iload C dX5_growHints_83 0 rfl ?_
                refine g_iconst (v := (-1 : Int32)) C dX5_growHints_85 (by decide) ?_
                refine g_icmp_eq (tgt := 92) C dX5_growHints_86 (by decide) (fun c86 => ?_) (fun c86 => ?_)
                · have h := ifp h c86
                  refine g_iinc (j := 5) (v := (x5_L35 + (1 : Int32))) (lv' := [(5, .int (x5_L35 + (1 : Int32))), (6, .int r78), (0, .ref o), (1, .int x1), (2, .int x2), (4, .int x4)]) C dX5_growHints_92 rfl rfl (by decide) rfl ?_
                  refine g_goto (tgt := 35) C dX5_growHints_95 (by decide) ?_
                  obtain rfl := sinj h
                  refine g_lv [2, 3, 4, 5, 0] rfl ?_
                  exact ih35 (x5_L35 + (1 : Int32)) hw35
                · have h := ifn h c86
                  refine g_iload C dX5_growHints_89 0 rfl ?_
                  obtain rfl := sinj h
                  obtain rfl := wk_r hw35
                  have h := sel hK35
                  cases sinj h
                  exact g_iret C dX5_growHints_91 rfl rfl hQ
              · have h := ifn h c56
                refine g_goto (tgt := 92) C dX5_growHints_59 (by decide) ?_
                refine g_iinc (j := 4) (v := (x5_L35 + (1 : Int32))) (lv' := [(5, .int (x5_L35 + (1 : Int32))), (0, .ref o), (1, .int x1), (2, .int x2), (4, .int x4)]) C dX5_growHints_92 rfl rfl (by decide) rfl ?_
                refine g_goto (tgt := 35) C dX5_growHints_95 (by decide) ?_
                obtain rfl := sinj h
                refine g_lv [1, 2, 3, 4, 0] rfl ?_
                exact ih35 (x5_L35 + (1 : Int32)) hw35
        refine g_lv [1, 2, 3, 5, 0] rfl ?_
        exact l35 100000 x3 hW35
      · have h := ifn h c11
        refine g_aload_n C dX5_growHints_14 rfl 0 rfl ?_
        refine g_get (v := .ref (so 5)) C fl_X5_41 dX5_growHints_15 0 rfl rfl ?_
        refine g_iload_n C dX5_growHints_18 rfl 1 rfl ?_
        refine g_iload_n C dX5_growHints_19 rfl 2 rfl ?_
        obtain ⟨r20, h20, h⟩ := obd h
        refine g_callVi (st := []) (ws2 := wEP cC cI cZ o so sa E) C yv_X0_tells ml_X5_277 dX5_growHints_20 (kX0_tells l D cC cI cJ cZ (so 5) (sa 5) 1690 (E.2 5) x1 x2 r20 h20) (gCut_at [27, 28, 29] [0, 1, 2, 3, 4, 5, 6, 7, 8, 9, 10, 11, 12, 13, 14, 15, 16, 17, 18, 19, 20, 21, 22, 23, 24, 25, 26, 30, 31, 32] [0, 1, 2, 3, 4, 5, 6, 7, 8, 9, 10, 11, 12, 13, 14, 15, 16, 17, 18, 19, 20, 21, 22, 23, 24, 25, 26, 30, 31, 32, 27, 28, 29] rfl rfl rfl rfl (by decide) rfl rfl) ⟨by show 2 + 1 + 1 ≤ 3 + (d + 1) + 1; omega, by show 8 + (5 + 11) + 40 * (2 + 1) ≤ 40 * (3 + (d + 1) + 1); omega⟩ ⟨rfl, rfl⟩ ⟨Nat.zero_le _, Nat.zero_le _⟩ rfl rfl (Nat.le_of_ble_eq_true rfl) 0 27 rfl rfl rfl ?_
        refine g_if_eq (tgt := 30) C dX5_growHints_23 (by decide) (fun c23 => ?_) (fun c23 => ?_)
        · have h := ifp h c23
          refine g_iconst (v := (-1 : Int32)) C dX5_growHints_30 (by decide) ?_
          cases sinj h
          exact g_iret C dX5_growHints_31 rfl rfl hQ
        · have h := ifn h c23
          refine g_iload_n C dX5_growHints_26 rfl 2 rfl ?_
          refine g_goto (tgt := 31) C dX5_growHints_27 (by decide) ?_
          cases sinj h
          exact g_iret C dX5_growHints_31 rfl rfl hQ
    · have h := ifn h c3
      refine g_iconst (v := (-1 : Int32)) C dX5_growHints_6 (by decide) ?_
      cases sinj h
      exact g_iret C dX5_growHints_7 rfl rfl hQ
def fX5_fewestHints_L2 (E : OE) (x1_L2 : Int32) (x2_L2 : Int32) : Option ((Int32) ⊕ ((Int32) ⊕ (Unit))) :=
  (if (3 : Int32) < x2_L2 then some (.inr (.inr ()))
 else ((fX5_growHints 6 E x1_L2 (0 : Int32) (0 : Int32) x2_L2).bind (fun r12 => (if r12 = (-1 : Int32) then some (.inl (x2_L2 + (1 : Int32)))
 else some (.inr (.inl r12))))))
def fX5_fewestHints_J29 (E : OE) : Option (Int32) :=
  some (-1 : Int32)
def fX5_fewestHints (E : OE) (x1 : Int32) : Option (Int32) :=
  ((wh (σ := Int32) (ρ := (Int32) ⊕ (Unit)) (fun t => fX5_fewestHints_L2 E x1 t) 100000 (0 : Int32)).bind (fun X => Sum.elim (fun r => some r) (fun _ => fX5_fewestHints_J29 E) X))
set_option maxHeartbeats 4000000 in
set_option maxRecDepth 100000 in
theorem kX5_fewestHints (l : Launch) (D : va_G) (cC cI cJ cZ : ClassId) (o : Nat) (so : Nat → Nat) (sa : Nat → Nat → Nat) (E : OE) (x1 : Int32) (r : Int32) (h : fX5_fewestHints E x1 = some r) : gMi l yX5_fewestHints cX5_fewestHints 4 (some .int) (gR 10) D (tysG cC cI cJ cZ) [.ref o, .int x1] (wEP cC cI cZ o so sa E) r (wEP cC cI cZ o so sa E) := by
  refine gMi_of (by decide) (Nat.le_of_ble_eq_true rfl) rfl ?_
  intro p e s m args below meth c A Q C hQ
  have j29 : fX5_fewestHints_J29 E = some r → gG p l e (gR 10) s m args below meth c 4 D A 0 0 Q 29 [] [] (wEP cC cI cZ o so sa E) := by
    intro h
    unfold fX5_fewestHints_J29 at h
    refine g_iconst (v := (-1 : Int32)) C dX5_fewestHints_29 (by decide) ?_
    cases sinj h
    exact g_iret C dX5_fewestHints_30 rfl rfl hQ
  unfold fX5_fewestHints at h
  refine g_iconst (v := (0 : Int32)) C dX5_fewestHints_0 (by decide) ?_
  refine g_istore_n (lv' := [(2, .int (0 : Int32)), (0, .ref o), (1, .int x1)]) C dX5_fewestHints_1 rfl (by decide) rfl ?_
  obtain ⟨X2, hW2, hK2⟩ := obd h
  have l2 : ∀ (fu2 : Nat) (x2_L2 : Int32), wh (σ := Int32) (ρ := (Int32) ⊕ (Unit)) (fun t => fX5_fewestHints_L2 E x1 t) fu2 x2_L2 = some X2 → gG p l e (gR 10) s m args below meth c 4 D A 0 0 Q 2 [(0, .ref o), (1, .int x1), (2, .int x2_L2)] [] (wEP cC cI cZ o so sa E) := by
    intro fu2
    induction fu2 with
    | zero => intro x2_L2 hW; exact (wh_0 hW).elim
    | succ fu2 ih2 =>
      intro x2_L2 hW
      obtain ⟨z2, h, hw2⟩ := wh_s hW
      replace h : fX5_fewestHints_L2 E x1 x2_L2 = some z2 := h
      unfold fX5_fewestHints_L2 at h
      refine g_iload_n C dX5_fewestHints_2 rfl 2 rfl ?_
      refine g_iconst (v := (3 : Int32)) C dX5_fewestHints_3 (by decide) ?_
      refine g_icmp_gt (tgt := 29) C dX5_fewestHints_4 (by decide) (fun c4 => ?_) (fun c4 => ?_)
      · have h := ifp h c4
        obtain rfl := sinj h
        obtain rfl := wk_r hw2
        have h := ser hK2
        refine g_lv [] rfl ?_
        exact j29  h
      · have h := ifn h c4
        refine g_aload_n C dX5_fewestHints_7 rfl 0 rfl ?_
        refine g_iload_n C dX5_fewestHints_8 rfl 1 rfl ?_
        refine g_iconst (v := (0 : Int32)) C dX5_fewestHints_9 (by decide) ?_
        refine g_iconst (v := (0 : Int32)) C dX5_fewestHints_10 (by decide) ?_
        refine g_iload_n C dX5_fewestHints_11 rfl 2 rfl ?_
        obtain ⟨r12, h12, h⟩ := obd h
        refine g_callVi (st := []) (ws2 := wEP cC cI cZ o so sa E) C yv_X5_growHints ml_X5_273 dX5_fewestHints_12 (kX5_growHints l D cC cI cJ cZ o so sa 6 E x1 (0 : Int32) (0 : Int32) x2_L2 r12 h12) gCut_all ⟨by decide, by decide⟩ ⟨rfl, rfl⟩ ⟨Nat.zero_le _, Nat.zero_le _⟩ rfl rfl (Nat.le_of_ble_eq_true rfl) 4 0 rfl rfl rfl ?_
        refine g_istore_n (lv' := [(3, .int r12), (0, .ref o), (1, .int x1), (2, .int x2_L2)]) C dX5_fewestHints_15 rfl (by decide) rfl ?_
        refine g_iload_n C dX5_fewestHints_16 rfl 0 rfl ?_
        refine g_iconst (v := (-1 : Int32)) C dX5_fewestHints_17 (by decide) ?_
        refine g_icmp_eq (tgt := 23) C dX5_fewestHints_18 (by decide) (fun c18 => ?_) (fun c18 => ?_)
        · have h := ifp h c18
          refine g_iinc (j := 3) (v := (x2_L2 + (1 : Int32))) (lv' := [(2, .int (x2_L2 + (1 : Int32))), (3, .int r12), (0, .ref o), (1, .int x1)]) C dX5_fewestHints_23 rfl rfl (by decide) rfl ?_
          refine g_goto (tgt := 2) C dX5_fewestHints_26 (by decide) ?_
          obtain rfl := sinj h
          refine g_lv [2, 3, 0] rfl ?_
          exact ih2 (x2_L2 + (1 : Int32)) hw2
        · have h := ifn h c18
          refine g_iload_n C dX5_fewestHints_21 rfl 0 rfl ?_
          obtain rfl := sinj h
          obtain rfl := wk_r hw2
          have h := sel hK2
          cases sinj h
          exact g_iret C dX5_fewestHints_22 rfl rfl hQ
  refine g_lv [1, 2, 0] rfl ?_
  exact l2 100000 (0 : Int32) hW2
def fX5_cellAt_J21 (x0_L4 : Int32) (x1_L4 : Int32) (x2_J21 : Int32) (x3_J21 : Int32) : Option ((Int32 × Int32) ⊕ ((Int32) ⊕ (Unit))) :=
  (if x2_J21 = x1_L4 then some (.inr (.inl x3_J21))
 else some (.inl (x2_J21, (x3_J21 + (1 : Int32)))))
def fX5_cellAt_L4 (x0_L4 : Int32) (x1_L4 : Int32) (x2_L4 : Int32) (x3_L4 : Int32) : Option ((Int32 × Int32) ⊕ ((Int32) ⊕ (Unit))) :=
  (if (16 : Int32) ≤ x3_L4 then some (.inr (.inr ()))
 else (if ((x0_L4 >>> (x3_L4 &&& 31)) &&& (1 : Int32)) = 0 then fX5_cellAt_J21 x0_L4 x1_L4 x2_L4 x3_L4
 else fX5_cellAt_J21 x0_L4 x1_L4 (x2_L4 + (1 : Int32)) x3_L4))
def fX5_cellAt_J34 : Option (Int32) :=
  some (-1 : Int32)
def fX5_cellAt  (x0 : Int32) (x1 : Int32) : Option (Int32) :=
  ((wh (σ := Int32 × Int32) (ρ := (Int32) ⊕ (Unit)) (fun t => fX5_cellAt_L4 x0 x1 t.1 t.2) 100000 ((0 : Int32), (0 : Int32))).bind (fun X => Sum.elim (fun r => some r) (fun _ => fX5_cellAt_J34) X))
set_option maxHeartbeats 4000000 in
set_option maxRecDepth 100000 in
theorem kX5_cellAt (l : Launch) (D : va_G) (cC cI cJ cZ : ClassId)  (x0 : Int32) (x1 : Int32) (r : Int32) (h : fX5_cellAt x0 x1 = some r) : gMi l yX5_cellAt cX5_cellAt 4 (some .int) (gR 1) D (tysG cC cI cJ cZ) [.int x0, .int x1] ([]) r ([]) := by
  refine gMi_of (by decide) (Nat.le_of_ble_eq_true rfl) rfl ?_
  intro p e s m args below meth c A Q C hQ
  have j34 : fX5_cellAt_J34 = some r → gG p l e (gR 1) s m args below meth c 4 D A 0 0 Q 34 [] [] ([]) := by
    intro h
    unfold fX5_cellAt_J34 at h
    refine g_iconst (v := (-1 : Int32)) C dX5_cellAt_34 (by decide) ?_
    cases sinj h
    exact g_iret C dX5_cellAt_35 rfl rfl hQ
  unfold fX5_cellAt at h
  refine g_iconst (v := (0 : Int32)) C dX5_cellAt_0 (by decide) ?_
  refine g_istore_n (lv' := [(2, .int (0 : Int32)), (0, .int x0), (1, .int x1)]) C dX5_cellAt_1 rfl (by decide) rfl ?_
  refine g_iconst (v := (0 : Int32)) C dX5_cellAt_2 (by decide) ?_
  refine g_istore_n (lv' := [(3, .int (0 : Int32)), (2, .int (0 : Int32)), (0, .int x0), (1, .int x1)]) C dX5_cellAt_3 rfl (by decide) rfl ?_
  obtain ⟨X4, hW4, hK4⟩ := obd h
  have l4 : ∀ (fu4 : Nat) (x2_L4 : Int32) (x3_L4 : Int32), wh (σ := Int32 × Int32) (ρ := (Int32) ⊕ (Unit)) (fun t => fX5_cellAt_L4 x0 x1 t.1 t.2) fu4 (x2_L4, x3_L4) = some X4 → gG p l e (gR 1) s m args below meth c 4 D A 0 0 Q 4 [(0, .int x0), (1, .int x1), (2, .int x2_L4), (3, .int x3_L4)] [] ([]) := by
    intro fu4
    induction fu4 with
    | zero => intro x2_L4 x3_L4 hW; exact (wh_0 hW).elim
    | succ fu4 ih4 =>
      intro x2_L4 x3_L4 hW
      obtain ⟨z4, h, hw4⟩ := wh_s hW
      have j21 : ∀ (x2_J21 : Int32) (x3_J21 : Int32) (z4 : (Int32 × Int32) ⊕ ((Int32) ⊕ (Unit))), fX5_cellAt_J21 x0 x1 x2_J21 x3_J21 = some z4 → wk (fun t => fX5_cellAt_L4 x0 x1 t.1 t.2) fu4 z4 = some X4 → gG p l e (gR 1) s m args below meth c 4 D A 0 0 Q 21 [(0, .int x0), (1, .int x1), (2, .int x2_J21), (3, .int x3_J21)] [] ([]) := by
        intro x2_J21 x3_J21 z4 h hw4
        unfold fX5_cellAt_J21 at h
        refine g_iload_n C dX5_cellAt_21 rfl 2 rfl ?_
        refine g_iload_n C dX5_cellAt_22 rfl 1 rfl ?_
        refine g_icmp_ne (tgt := 28) C dX5_cellAt_23 (by decide) (fun c23 => ?_) (fun c23 => ?_)
        · have h := ifn h c23
          refine g_iinc (j := 3) (v := (x3_J21 + (1 : Int32))) (lv' := [(3, .int (x3_J21 + (1 : Int32))), (0, .int x0), (1, .int x1), (2, .int x2_J21)]) C dX5_cellAt_28 rfl rfl (by decide) rfl ?_
          refine g_goto (tgt := 4) C dX5_cellAt_31 (by decide) ?_
          obtain rfl := sinj h
          refine g_lv [1, 2, 3, 0] rfl ?_
          exact ih4 x2_J21 (x3_J21 + (1 : Int32)) hw4
        · have h := ifp h c23
          refine g_iload_n C dX5_cellAt_26 rfl 3 rfl ?_
          obtain rfl := sinj h
          obtain rfl := wk_r hw4
          have h := sel hK4
          cases sinj h
          exact g_iret C dX5_cellAt_27 rfl rfl hQ
      replace h : fX5_cellAt_L4 x0 x1 x2_L4 x3_L4 = some z4 := h
      unfold fX5_cellAt_L4 at h
      refine g_iload_n C dX5_cellAt_4 rfl 3 rfl ?_
      refine g_bipush (v := (16 : Int32)) C dX5_cellAt_5 (by decide) ?_
      refine g_icmp_ge (tgt := 34) C dX5_cellAt_7 (by decide) (fun c7 => ?_) (fun c7 => ?_)
      · have h := ifp h c7
        obtain rfl := sinj h
        obtain rfl := wk_r hw4
        have h := ser hK4
        refine g_lv [] rfl ?_
        exact j34  h
      · have h := ifn h c7
        refine g_iload_n C dX5_cellAt_10 rfl 0 rfl ?_
        refine g_iload_n C dX5_cellAt_11 rfl 3 rfl ?_
        refine g_ishr C dX5_cellAt_12 ?_
        refine g_iconst (v := (1 : Int32)) C dX5_cellAt_13 (by decide) ?_
        refine g_iand C dX5_cellAt_14 ?_
        refine g_if_eq (tgt := 21) C dX5_cellAt_15 (by decide) (fun c15 => ?_) (fun c15 => ?_)
        · have h := ifp h c15
          refine g_lv [0, 1, 2, 3] rfl ?_
          exact j21 x2_L4 x3_L4 _ h hw4
        · have h := ifn h c15
          refine g_iinc (j := 2) (v := (x2_L4 + (1 : Int32))) (lv' := [(2, .int (x2_L4 + (1 : Int32))), (0, .int x0), (1, .int x1), (3, .int x3_L4)]) C dX5_cellAt_18 rfl rfl (by decide) rfl ?_
          refine g_lv [1, 2, 0, 3] rfl ?_
          exact j21 (x2_L4 + (1 : Int32)) x3_L4 _ h hw4
  refine g_lv [2, 3, 1, 0] rfl ?_
  exact l4 100000 (0 : Int32) (0 : Int32) hW4
def fX5_hints (E : OE) (x1 : Int32) (x2 : Int32) : Option (Int32 × OE) :=
  ((fX4_isBoard (E.2 1)).bind (fun r4 => (if r4 = 0 then some ((-101 : Int32), E)
 else ((fX5_settled E).bind (fun T11 => ((fX0_holds 1690 (T11.2 5) x1).bind (fun r15 => (if r15 = 0 then some ((-101 : Int32), T11)
 else (if x2 < 0 then some ((-102 : Int32), T11)
 else (if x2 ≤ (3 : Int32) then (if (T11.1 10) < (12 : Int32) then ((fX5_fewestHints ((va_up T11.1 10 ((T11.1 10) + (1 : Int32))), T11.2) x1).bind (fun r60 => (if r60 = (-1 : Int32) then some ((-1 : Int32), ((va_up T11.1 10 ((T11.1 10) + (1 : Int32))), T11.2))
 else (if x2 = 0 then ((fbitCount r60).bind (fun r76 => some (r76, ((va_up T11.1 10 ((T11.1 10) + (1 : Int32))), T11.2))))
 else ((fX5_cellAt r60 x2).bind (fun r84 => some (r84, ((va_up T11.1 10 ((T11.1 10) + (1 : Int32))), T11.2))))))))
 else some ((-103 : Int32), T11))
 else some ((-102 : Int32), T11)))))))))))
set_option maxHeartbeats 4000000 in
set_option maxRecDepth 100000 in
theorem kX5_hints (l : Launch) (D : va_G) (cC cI cJ cZ : ClassId) (o : Nat) (so : Nat → Nat) (sa : Nat → Nat → Nat) (E : OE) (x1 : Int32) (x2 : Int32) (r : Int32) (E' : OE) (h : fX5_hints E x1 x2 = some (r, E')) : gMi l yX5_hints cX5_hints 4 (some .int) (gR 11) D (tysG cC cI cJ cZ) [.ref o, .int x1, .int x2] (wEP cC cI cZ o so sa E) r (wEP cC cI cZ o so sa E') := by
  refine gMi_of (by decide) (Nat.le_of_ble_eq_true rfl) rfl ?_
  intro p e s m args below meth c A Q C hQ
  unfold fX5_hints at h
  refine g_aload_n C dX5_hints_0 rfl 0 rfl ?_
  refine g_get (v := .ref (so 1)) C fl_X5_19 dX5_hints_1 0 rfl rfl ?_
  obtain ⟨r4, h4, h⟩ := obd h
  refine g_callVi (st := []) (ws2 := wEP cC cI cZ o so sa E) C yv_X4_isBoard ml_X5_156 dX5_hints_4 (kX4_isBoard l D cC cI cJ cZ (so 1) (sa 1) (E.2 1) r4 h4) (gCut_at [3, 4, 5, 6, 7, 8, 9] [0, 1, 2, 10, 11, 12, 13, 14, 15, 16, 17, 18, 19, 20, 21, 22, 23, 24, 25, 26, 27, 28, 29, 30, 31, 32] [0, 1, 2, 26, 27, 28, 29, 30, 31, 32, 3, 4, 5, 6, 7, 8, 9, 10, 11, 12, 13, 14, 15, 16, 17, 18, 19, 20, 21, 22, 23, 24, 25] rfl rfl rfl rfl (by decide) rfl rfl) ⟨by decide, by decide⟩ ⟨rfl, rfl⟩ ⟨Nat.zero_le _, Nat.zero_le _⟩ rfl rfl (Nat.le_of_ble_eq_true rfl) 3 3 rfl rfl rfl ?_
  refine g_if_eq (tgt := 21) C dX5_hints_7 (by decide) (fun c7 => ?_) (fun c7 => ?_)
  · have h := ifp h c7
    refine g_bipush (v := (-101 : Int32)) C dX5_hints_21 (by decide) ?_
    cases sinj h
    exact g_iret C dX5_hints_23 rfl rfl hQ
  · have h := ifn h c7
    refine g_aload_n C dX5_hints_10 rfl 0 rfl ?_
    obtain ⟨T11, h11, h⟩ := obd h
    refine g_callVr (st := []) (ws2 := wEP cC cI cZ o so sa T11) C yv_X5_settled ml_X5_122 dX5_hints_11 (kX5_settled l D cC cI cJ cZ o so sa E T11 h11) gCut_all ⟨by decide, by decide⟩ ⟨rfl, rfl⟩ ⟨Nat.zero_le _, Nat.zero_le _⟩ rfl rfl (Nat.le_of_ble_eq_true rfl) 4 0 rfl rfl rfl ?_
    refine g_iload_n C dX5_hints_14 rfl 1 rfl ?_
    obtain ⟨r15, h15, h⟩ := obd h
    refine g_callVi (st := []) (ws2 := wEP cC cI cZ o so sa T11) C yv_X0_holds ml_X5_174 dX5_hints_15 (kX0_holds l D cC cI cJ cZ (so 5) (sa 5) 1690 (T11.2 5) x1 r15 h15) (gCut_at [27, 28, 29] [0, 1, 2, 3, 4, 5, 6, 7, 8, 9, 10, 11, 12, 13, 14, 15, 16, 17, 18, 19, 20, 21, 22, 23, 24, 25, 26, 30, 31, 32] [0, 1, 2, 3, 4, 5, 6, 7, 8, 9, 10, 11, 12, 13, 14, 15, 16, 17, 18, 19, 20, 21, 22, 23, 24, 25, 26, 30, 31, 32, 27, 28, 29] rfl rfl rfl rfl (by decide) rfl rfl) ⟨by decide, by decide⟩ ⟨rfl, rfl⟩ ⟨Nat.zero_le _, Nat.zero_le _⟩ rfl rfl (Nat.le_of_ble_eq_true rfl) 0 27 rfl rfl rfl ?_
    refine g_if_ne (tgt := 24) C dX5_hints_18 (by decide) (fun c18 => ?_) (fun c18 => ?_)
    · have h := ifn h c18
      refine g_iload_n C dX5_hints_24 rfl 2 rfl ?_
      refine g_if_lt (tgt := 33) C dX5_hints_25 (by decide) (fun c25 => ?_) (fun c25 => ?_)
      · have h := ifp h c25
        refine g_bipush (v := (-102 : Int32)) C dX5_hints_33 (by decide) ?_
        cases sinj h
        exact g_iret C dX5_hints_35 rfl rfl hQ
      · have h := ifn h c25
        refine g_iload_n C dX5_hints_28 rfl 2 rfl ?_
        refine g_iconst (v := (3 : Int32)) C dX5_hints_29 (by decide) ?_
        refine g_icmp_le (tgt := 36) C dX5_hints_30 (by decide) (fun c30 => ?_) (fun c30 => ?_)
        · have h := ifp h c30
          refine g_aload_n C dX5_hints_36 rfl 0 rfl ?_
          refine g_get (v := .int (T11.1 10)) C fl_X5_177 dX5_hints_37 0 rfl rfl ?_
          refine g_bipush (v := (12 : Int32)) C dX5_hints_40 (by decide) ?_
          refine g_icmp_lt (tgt := 48) C dX5_hints_42 (by decide) (fun c42 => ?_) (fun c42 => ?_)
          · have h := ifp h c42
            refine g_aload_n C dX5_hints_48 rfl 0 rfl ?_
            refine g_dup C dX5_hints_49 rfl ?_
            refine g_get (v := .int (T11.1 10)) C fl_X5_177 dX5_hints_50 0 rfl rfl ?_
            refine g_iconst (v := (1 : Int32)) C dX5_hints_53 (by decide) ?_
            refine g_iadd C dX5_hints_54 ?_
            refine g_put (ws2 := wEP cC cI cZ o so sa ((va_up T11.1 10 ((T11.1 10) + (1 : Int32))), T11.2)) C fp_X5_177 dX5_hints_55 0 rfl rfl rfl (Nat.le_of_ble_eq_true rfl) rfl ?_
            refine g_aload_n C dX5_hints_58 rfl 0 rfl ?_
            refine g_iload_n C dX5_hints_59 rfl 1 rfl ?_
            obtain ⟨r60, h60, h⟩ := obd h
            refine g_callVi (st := []) (ws2 := wEP cC cI cZ o so sa ((va_up T11.1 10 ((T11.1 10) + (1 : Int32))), T11.2)) C yv_X5_fewestHints ml_X5_180 dX5_hints_60 (kX5_fewestHints l D cC cI cJ cZ o so sa ((va_up T11.1 10 ((T11.1 10) + (1 : Int32))), T11.2) x1 r60 h60) gCut_all ⟨by decide, by decide⟩ ⟨rfl, rfl⟩ ⟨Nat.zero_le _, Nat.zero_le _⟩ rfl rfl (Nat.le_of_ble_eq_true rfl) 4 0 rfl rfl rfl ?_
            refine g_istore_n (lv' := [(3, .int r60), (0, .ref o), (1, .int x1), (2, .int x2)]) C dX5_hints_63 rfl (by decide) rfl ?_
            refine g_iload_n C dX5_hints_64 rfl 0 rfl ?_
            refine g_iconst (v := (-1 : Int32)) C dX5_hints_65 (by decide) ?_
            refine g_icmp_ne (tgt := 71) C dX5_hints_66 (by decide) (fun c66 => ?_) (fun c66 => ?_)
            · have h := ifn h c66
              refine g_iload_n C dX5_hints_71 rfl 3 rfl ?_
              refine g_if_ne (tgt := 82) C dX5_hints_72 (by decide) (fun c72 => ?_) (fun c72 => ?_)
              · have h := ifn h c72
                refine g_iload_n C dX5_hints_82 rfl 0 rfl ?_
                refine g_iload_n C dX5_hints_83 rfl 3 rfl ?_
                obtain ⟨r84, h84, h⟩ := obd h
                refine g_callSi (st := []) (ws2 := wEP cC cI cZ o so sa ((va_up T11.1 10 ((T11.1 10) + (1 : Int32))), T11.2)) C ys_X5_cellAt ml_X5_188 dX5_hints_84 (kX5_cellAt l D cC cI cJ cZ r60 x2 r84 h84) gCut_nil ⟨by decide, by decide⟩ ⟨rfl, rfl⟩ ⟨Nat.zero_le _, Nat.zero_le _⟩ rfl rfl (Nat.le_of_ble_eq_true rfl) ?_
                cases sinj h
                exact g_iret C dX5_hints_87 rfl rfl hQ
              · have h := ifp h c72
                refine g_iload_n C dX5_hints_75 rfl 0 rfl ?_
                obtain ⟨r76, h76, h⟩ := obd h
                refine g_callSi (st := []) (ws2 := wEP cC cI cZ o so sa ((va_up T11.1 10 ((T11.1 10) + (1 : Int32))), T11.2)) C ys_J6_bitCount_0f7a4 ml_X5_183 dX5_hints_76 (kbitCount l D cC cI cJ cZ r60 r76 h76) gCut_nil ⟨by decide, by decide⟩ ⟨rfl, rfl⟩ ⟨Nat.zero_le _, Nat.zero_le _⟩ rfl rfl (Nat.le_of_ble_eq_true rfl) ?_
                refine g_goto (tgt := 87) C dX5_hints_79 (by decide) ?_
                cases sinj h
                exact g_iret C dX5_hints_87 rfl rfl hQ
            · have h := ifp h c66
              refine g_iconst (v := (-1 : Int32)) C dX5_hints_69 (by decide) ?_
              cases sinj h
              exact g_iret C dX5_hints_70 rfl rfl hQ
          · have h := ifn h c42
            refine g_bipush (v := (-103 : Int32)) C dX5_hints_45 (by decide) ?_
            cases sinj h
            exact g_iret C dX5_hints_47 rfl rfl hQ
        · have h := ifn h c30
          refine g_bipush (v := (-102 : Int32)) C dX5_hints_33 (by decide) ?_
          cases sinj h
          exact g_iret C dX5_hints_35 rfl rfl hQ
    · have h := ifp h c18
      refine g_bipush (v := (-101 : Int32)) C dX5_hints_21 (by decide) ?_
      cases sinj h
      exact g_iret C dX5_hints_23 rfl rfl hQ
def fX5_leavesOne (E : OE) (x1 : Int32) (x2 : Int32) (x3 : Int32) (x4 : Int32) : Option (Int32 × OE) :=
  ((fX4_length (E.2 1) x1).bind (fun r5 => ((fX1_keeping r5 x2 x3 x4).bind (fun r12 => ((fX3_countWith (E.2 4) x1 r12 (2 : Int32)).bind (fun r => (fun r25 T25 => (if r25 = (1 : Int32) then some ((1 : Int32), (E.1, (va_up E.2 4 T25)))
 else some ((0 : Int32), (E.1, (va_up E.2 4 T25))))) r.1 r.2))))))
set_option maxHeartbeats 4000000 in
set_option maxRecDepth 100000 in
theorem kX5_leavesOne (l : Launch) (D : va_G) (cC cI cJ cZ : ClassId) (o : Nat) (so : Nat → Nat) (sa : Nat → Nat → Nat) (E : OE) (x1 : Int32) (x2 : Int32) (x3 : Int32) (x4 : Int32) (r : Int32) (E' : OE) (h : fX5_leavesOne E x1 x2 x3 x4 = some (r, E')) : gMi l yX5_leavesOne cX5_leavesOne 6 (some .boolean) (gR 11) D (tysG cC cI cJ cZ) [.ref o, .int x1, .int x2, .int x3, .int x4] (wEP cC cI cZ o so sa E) r (wEP cC cI cZ o so sa E') := by
  refine gMi_of (by decide) (Nat.le_of_ble_eq_true rfl) rfl ?_
  intro p e s m args below meth c A Q C hQ
  unfold fX5_leavesOne at h
  refine g_aload_n C dX5_leavesOne_0 rfl 0 rfl ?_
  refine g_get (v := .ref (so 1)) C fl_X5_19 dX5_leavesOne_1 0 rfl rfl ?_
  refine g_iload_n C dX5_leavesOne_4 rfl 1 rfl ?_
  obtain ⟨r5, h5, h⟩ := obd h
  refine g_callVi (st := []) (ws2 := wEP cC cI cZ o so sa E) C yv_X4_length ml_X5_94 dX5_leavesOne_5 (kX4_length l D cC cI cJ cZ (so 1) (sa 1) (E.2 1) x1 r5 h5) (gCut_at [3, 4, 5, 6, 7, 8, 9] [0, 1, 2, 10, 11, 12, 13, 14, 15, 16, 17, 18, 19, 20, 21, 22, 23, 24, 25, 26, 27, 28, 29, 30, 31, 32] [0, 1, 2, 26, 27, 28, 29, 30, 31, 32, 3, 4, 5, 6, 7, 8, 9, 10, 11, 12, 13, 14, 15, 16, 17, 18, 19, 20, 21, 22, 23, 24, 25] rfl rfl rfl rfl (by decide) rfl rfl) ⟨by decide, by decide⟩ ⟨rfl, rfl⟩ ⟨Nat.zero_le _, Nat.zero_le _⟩ rfl rfl (Nat.le_of_ble_eq_true rfl) 3 3 rfl rfl rfl ?_
  refine g_iload_n C dX5_leavesOne_8 rfl 2 rfl ?_
  refine g_iload_n C dX5_leavesOne_9 rfl 3 rfl ?_
  refine g_iload C dX5_leavesOne_10 4 rfl ?_
  obtain ⟨r12, h12, h⟩ := obd h
  refine g_callSi (st := []) (ws2 := wEP cC cI cZ o so sa E) C ys_X1_keeping ml_X5_289 dX5_leavesOne_12 (kX1_keeping l D cC cI cJ cZ r5 x2 x3 x4 r12 h12) gCut_nil ⟨by decide, by decide⟩ ⟨rfl, rfl⟩ ⟨Nat.zero_le _, Nat.zero_le _⟩ rfl rfl (Nat.le_of_ble_eq_true rfl) ?_
  refine g_istore (lv' := [(5, .int r12), (0, .ref o), (1, .int x1), (2, .int x2), (3, .int x3), (4, .int x4)]) C dX5_leavesOne_15 (by decide) rfl ?_
  refine g_aload_n C dX5_leavesOne_17 rfl 1 rfl ?_
  refine g_get (v := .ref (so 4)) C fl_X5_32 dX5_leavesOne_18 0 rfl rfl ?_
  refine g_iload_n C dX5_leavesOne_21 rfl 2 rfl ?_
  refine g_iload C dX5_leavesOne_22 0 rfl ?_
  refine g_iconst (v := (2 : Int32)) C dX5_leavesOne_24 (by decide) ?_
  obtain ⟨⟨r25, T25⟩, h25, h⟩ := obd h
  refine g_callVi (st := []) (ws2 := wEP cC cI cZ o so sa (E.1, (va_up E.2 4 T25))) C yv_X3_countWith ml_X5_269 dX5_leavesOne_25 (kX3_countWith l D cC cI cJ cZ (so 4) (sa 4) (E.2 4) x1 r12 (2 : Int32) r25 T25 h25) (gCut_at [24, 25, 26] [0, 1, 2, 3, 4, 5, 6, 7, 8, 9, 10, 11, 12, 13, 14, 15, 16, 17, 18, 19, 20, 21, 22, 23, 27, 28, 29, 30, 31, 32] [0, 1, 2, 3, 4, 5, 6, 7, 8, 9, 10, 11, 12, 13, 14, 15, 16, 17, 18, 19, 20, 21, 22, 23, 30, 31, 32, 24, 25, 26, 27, 28, 29] rfl rfl rfl rfl (by decide) rfl rfl) ⟨by decide, by decide⟩ ⟨rfl, rfl⟩ ⟨Nat.zero_le _, Nat.zero_le _⟩ rfl rfl (Nat.le_of_ble_eq_true rfl) 2 24 rfl rfl rfl ?_
  refine g_iconst (v := (1 : Int32)) C dX5_leavesOne_28 (by decide) ?_
  refine g_icmp_ne (tgt := 36) C dX5_leavesOne_29 (by decide) (fun c29 => ?_) (fun c29 => ?_)
  · have h := ifn h c29
    refine g_iconst (v := (0 : Int32)) C dX5_leavesOne_36 (by decide) ?_
    cases sinj h
    exact g_zret C dX5_leavesOne_37 rfl rfl rfl hQ
  · have h := ifp h c29
    refine g_iconst (v := (1 : Int32)) C dX5_leavesOne_32 (by decide) ?_
    refine g_goto (tgt := 37) C dX5_leavesOne_33 (by decide) ?_
    cases sinj h
    exact g_zret C dX5_leavesOne_37 rfl rfl rfl hQ
