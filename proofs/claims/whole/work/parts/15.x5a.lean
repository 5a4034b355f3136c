def fX5_letter (E : OE) (x1 : Int32) : Option (Int32 × OE) :=
  (if x1 < (1 : Int32) then some ((-102 : Int32), E)
 else (if x1 ≤ (126 : Int32) then (if ((E.2 0).1 1) < (36 : Int32) then ((fX2_add (E.2 0) x1).bind (fun T34 => some ((T34.1 1), (E.1, (va_up E.2 0 T34)))))
 else some ((-104 : Int32), E))
 else some ((-102 : Int32), E)))
set_option maxHeartbeats 4000000 in
set_option maxRecDepth 100000 in
theorem kX5_letter (l : Launch) (D : va_G) (cC cI cJ cZ : ClassId) (o : Nat) (so : Nat → Nat) (sa : Nat → Nat → Nat) (E : OE) (x1 : Int32) (r : Int32) (E' : OE) (h : fX5_letter E x1 = some (r, E')) : gMi l yX5_letter cX5_letter 2 (some .int) (gR 2) D (tysG cC cI cJ cZ) [.ref o, .int x1] (wEP cC cI cZ o so sa E) r (wEP cC cI cZ o so sa E') := by
  refine gMi_of (by decide) (Nat.le_of_ble_eq_true rfl) rfl ?_
  intro p e s m args below meth c A Q C hQ
  unfold fX5_letter at h
  refine g_iload_n C dX5_letter_0 rfl 1 rfl ?_
  refine g_iconst (v := (1 : Int32)) C dX5_letter_1 (by decide) ?_
  refine g_icmp_lt (tgt := 11) C dX5_letter_2 (by decide) (fun c2 => ?_) (fun c2 => ?_)
  · have h := ifp h c2
    refine g_bipush (v := (-102 : Int32)) C dX5_letter_11 (by decide) ?_
    cases sinj h
    exact g_iret C dX5_letter_13 rfl rfl hQ
  · have h := ifn h c2
    refine g_iload_n C dX5_letter_5 rfl 1 rfl ?_
    refine g_bipush (v := (126 : Int32)) C dX5_letter_6 (by decide) ?_
    refine g_icmp_le (tgt := 14) C dX5_letter_8 (by decide) (fun c8 => ?_) (fun c8 => ?_)
    · have h := ifp h c8
      refine g_aload_n C dX5_letter_14 rfl 0 rfl ?_
      refine g_get (v := .ref (so 0)) C fl_X5_12 dX5_letter_15 0 rfl rfl ?_
      refine g_get (v := .int ((E.2 0).1 1)) C fl_X5_48 dX5_letter_18 1 rfl rfl ?_
      refine g_bipush (v := (36 : Int32)) C dX5_letter_21 (by decide) ?_
      refine g_icmp_lt (tgt := 29) C dX5_letter_23 (by decide) (fun c23 => ?_) (fun c23 => ?_)
      · have h := ifp h c23
        refine g_aload_n C dX5_letter_29 rfl 0 rfl ?_
        refine g_get (v := .ref (so 0)) C fl_X5_12 dX5_letter_30 0 rfl rfl ?_
        refine g_iload_n C dX5_letter_33 rfl 1 rfl ?_
        obtain ⟨T34, h34, h⟩ := obd h
        refine g_callVv (st := []) (ws2 := wEP cC cI cZ o so sa (E.1, (va_up E.2 0 T34))) C yv_X2_add ml_X5_52 dX5_letter_34 (kX2_add l D cC cI cJ cZ (so 0) (sa 0) (E.2 0) x1 T34 h34) (gCut_at [1, 2] [0, 3, 4, 5, 6, 7, 8, 9, 10, 11, 12, 13, 14, 15, 16, 17, 18, 19, 20, 21, 22, 23, 24, 25, 26, 27, 28, 29, 30, 31, 32] [0, 31, 32, 1, 2, 3, 4, 5, 6, 7, 8, 9, 10, 11, 12, 13, 14, 15, 16, 17, 18, 19, 20, 21, 22, 23, 24, 25, 26, 27, 28, 29, 30] rfl rfl rfl rfl (by decide) rfl rfl) ⟨by decide, by decide⟩ ⟨rfl, rfl⟩ ⟨Nat.zero_le _, Nat.zero_le _⟩ rfl rfl (Nat.le_of_ble_eq_true rfl) 1 1 rfl rfl rfl ?_
        refine g_aload_n C dX5_letter_37 rfl 0 rfl ?_
        refine g_get (v := .ref (so 0)) C fl_X5_12 dX5_letter_38 0 rfl rfl ?_
        refine g_get (v := .int (T34.1 1)) C fl_X5_48 dX5_letter_41 1 rfl rfl ?_
        cases sinj h
        exact g_iret C dX5_letter_44 rfl rfl hQ
      · have h := ifn h c23
        refine g_bipush (v := (-104 : Int32)) C dX5_letter_26 (by decide) ?_
        cases sinj h
        exact g_iret C dX5_letter_28 rfl rfl hQ
    · have h := ifn h c8
      refine g_bipush (v := (-102 : Int32)) C dX5_letter_11 (by decide) ?_
      cases sinj h
      exact g_iret C dX5_letter_13 rfl rfl hQ
def fX5_blank (E : OE)  : Option (Int32 × OE) :=
  some (((E.2 0).1 1), (E.1, (va_up E.2 0 ((va_up (E.2 0).1 1 (0 : Int32)), (E.2 0).2))))
set_option maxHeartbeats 4000000 in
set_option maxRecDepth 100000 in
theorem kX5_blank (l : Launch) (D : va_G) (cC cI cJ cZ : ClassId) (o : Nat) (so : Nat → Nat) (sa : Nat → Nat → Nat) (E : OE)  (r : Int32) (E' : OE) (h : fX5_blank E = some (r, E')) : gMi l yX5_blank cX5_blank 2 (some .int) (gR 1) D (tysG cC cI cJ cZ) [.ref o] (wEP cC cI cZ o so sa E) r (wEP cC cI cZ o so sa E') := by
  refine gMi_of (by decide) (Nat.le_of_ble_eq_true rfl) rfl ?_
  intro p e s m args below meth c A Q C hQ
  unfold fX5_blank at h
  refine g_aload_n C dX5_blank_0 rfl 0 rfl ?_
  refine g_get (v := .ref (so 0)) C fl_X5_12 dX5_blank_1 0 rfl rfl ?_
  refine g_get (v := .int ((E.2 0).1 1)) C fl_X5_48 dX5_blank_4 1 rfl rfl ?_
  refine g_istore_n (lv' := [(1, .int ((E.2 0).1 1)), (0, .ref o)]) C dX5_blank_7 rfl (by decide) rfl ?_
  refine g_aload_n C dX5_blank_8 rfl 1 rfl ?_
  refine g_get (v := .ref (so 0)) C fl_X5_12 dX5_blank_9 0 rfl rfl ?_
  refine g_iconst (v := (0 : Int32)) C dX5_blank_12 (by decide) ?_
  refine g_put (ws2 := wEP cC cI cZ o so sa (E.1, (va_up E.2 0 ((va_up (E.2 0).1 1 (0 : Int32)), (E.2 0).2)))) C fp_X5_48 dX5_blank_13 1 rfl rfl rfl (Nat.le_of_ble_eq_true rfl) rfl ?_
  refine g_iload_n C dX5_blank_16 rfl 0 rfl ?_
  cases sinj h
  exact g_iret C dX5_blank_17 rfl rfl hQ
def fX5_fault (E : OE)  : Option (Int32 × OE) :=
  ((fX2_readInto (E.2 0) (E.2 3)).bind (fun r => (fun r8 T8_0 T8_1 => some ((T8_0.1 2), (E.1, (va_up (va_up E.2 0 T8_0) 3 T8_1)))) r.1 r.2.1 r.2.2))
set_option maxHeartbeats 4000000 in
set_option maxRecDepth 100000 in
theorem kX5_fault (l : Launch) (D : va_G) (cC cI cJ cZ : ClassId) (o : Nat) (so : Nat → Nat) (sa : Nat → Nat → Nat) (E : OE)  (r : Int32) (E' : OE) (h : fX5_fault E = some (r, E')) : gMi l yX5_fault cX5_fault 1 (some .int) (gR 8) D (tysG cC cI cJ cZ) [.ref o] (wEP cC cI cZ o so sa E) r (wEP cC cI cZ o so sa E') := by
  refine gMi_of (by decide) (Nat.le_of_ble_eq_true rfl) rfl ?_
  intro p e s m args below meth c A Q C hQ
  unfold fX5_fault at h
  refine g_aload_n C dX5_fault_0 rfl 0 rfl ?_
  refine g_get (v := .ref (so 0)) C fl_X5_12 dX5_fault_1 0 rfl rfl ?_
  refine g_aload_n C dX5_fault_4 rfl 0 rfl ?_
  refine g_get (v := .ref (so 3)) C fl_X5_26 dX5_fault_5 0 rfl rfl ?_
  obtain ⟨⟨r8, T8_0, T8_1⟩, h8, h⟩ := obd h
  refine g_callVi (st := []) (ws2 := wEP cC cI cZ o so sa (E.1, (va_up (va_up E.2 0 T8_0) 3 T8_1))) C yv_X2_readInto ml_X5_55 dX5_fault_8 (kX2_readInto l D cC cI cJ cZ (so 0) (sa 0) (so 3) (sa 3) (E.2 0) (E.2 3) r8 T8_0 T8_1 h8) (gCut_at [1, 2, 17, 18, 19, 20, 21, 22, 23] [0, 3, 4, 5, 6, 7, 8, 9, 10, 11, 12, 13, 14, 15, 16, 24, 25, 26, 27, 28, 29, 30, 31, 32] [0, 24, 25, 1, 2, 3, 4, 5, 6, 7, 8, 9, 10, 11, 12, 13, 14, 26, 27, 28, 29, 30, 31, 32, 15, 16, 17, 18, 19, 20, 21, 22, 23] rfl rfl rfl rfl (by decide) rfl rfl) ⟨by decide, by decide⟩ ⟨rfl, rfl⟩ ⟨Nat.zero_le _, Nat.zero_le _⟩ rfl rfl (Nat.le_of_ble_eq_true rfl) 1 1 rfl rfl rfl ?_
  refine g_pop C dX5_fault_11 rfl ?_
  refine g_aload_n C dX5_fault_12 rfl 0 rfl ?_
  refine g_get (v := .ref (so 0)) C fl_X5_12 dX5_fault_13 0 rfl rfl ?_
  refine g_get (v := .int (T8_0.1 2)) C fl_X5_59 dX5_fault_16 1 rfl rfl ?_
  cases sinj h
  exact g_iret C dX5_fault_19 rfl rfl hQ
def fX5_board (E : OE)  : Option (Int32 × OE) :=
  ((fX2_readInto (E.2 0) (E.2 3)).bind (fun r => (fun r8 T8_0 T8_1 => (if r8 = 0 then some ((-103 : Int32), (E.1, (va_up (va_up E.2 0 T8_0) 3 T8_1)))
 else ((fX4_copyFrom (E.2 1) T8_1).bind (fun T25 => ((fX4_cells T25).bind (fun r60 => some (r60, ((va_up (va_up (va_up E.1 7 (1 : Int32)) 8 (0 : Int32)) 9 ((E.1 9) + (1 : Int32))), (va_up (va_up (va_up E.2 0 ((va_up T8_0.1 1 (0 : Int32)), T8_0.2)) 1 T25) 3 T8_1))))))))) r.1 r.2.1 r.2.2))
set_option maxHeartbeats 4000000 in
set_option maxRecDepth 100000 in
theorem kX5_board (l : Launch) (D : va_G) (cC cI cJ cZ : ClassId) (o : Nat) (so : Nat → Nat) (sa : Nat → Nat → Nat) (E : OE)  (r : Int32) (E' : OE) (h : fX5_board E = some (r, E')) : gMi l yX5_board cX5_board 1 (some .int) (gR 8) D (tysG cC cI cJ cZ) [.ref o] (wEP cC cI cZ o so sa E) r (wEP cC cI cZ o so sa E') := by
  refine gMi_of (by decide) (Nat.le_of_ble_eq_true rfl) rfl ?_
  intro p e s m args below meth c A Q C hQ
  unfold fX5_board at h
  refine g_aload_n C dX5_board_0 rfl 0 rfl ?_
  refine g_get (v := .ref (so 0)) C fl_X5_12 dX5_board_1 0 rfl rfl ?_
  refine g_aload_n C dX5_board_4 rfl 0 rfl ?_
  refine g_get (v := .ref (so 3)) C fl_X5_26 dX5_board_5 0 rfl rfl ?_
  obtain ⟨⟨r8, T8_0, T8_1⟩, h8, h⟩ := obd h
  refine g_callVi (st := []) (ws2 := wEP cC cI cZ o so sa (E.1, (va_up (va_up E.2 0 T8_0) 3 T8_1))) C yv_X2_readInto ml_X5_55 dX5_board_8 (kX2_readInto l D cC cI cJ cZ (so 0) (sa 0) (so 3) (sa 3) (E.2 0) (E.2 3) r8 T8_0 T8_1 h8) (gCut_at [1, 2, 17, 18, 19, 20, 21, 22, 23] [0, 3, 4, 5, 6, 7, 8, 9, 10, 11, 12, 13, 14, 15, 16, 24, 25, 26, 27, 28, 29, 30, 31, 32] [0, 24, 25, 1, 2, 3, 4, 5, 6, 7, 8, 9, 10, 11, 12, 13, 14, 26, 27, 28, 29, 30, 31, 32, 15, 16, 17, 18, 19, 20, 21, 22, 23] rfl rfl rfl rfl (by decide) rfl rfl) ⟨by decide, by decide⟩ ⟨rfl, rfl⟩ ⟨Nat.zero_le _, Nat.zero_le _⟩ rfl rfl (Nat.le_of_ble_eq_true rfl) 1 1 rfl rfl rfl ?_
  refine g_if_ne (tgt := 17) C dX5_board_11 (by decide) (fun c11 => ?_) (fun c11 => ?_)
  · have h := ifn h c11
    refine g_aload_n C dX5_board_17 rfl 0 rfl ?_
    refine g_get (v := .ref (so 1)) C fl_X5_19 dX5_board_18 0 rfl rfl ?_
    refine g_aload_n C dX5_board_21 rfl 0 rfl ?_
    refine g_get (v := .ref (so 3)) C fl_X5_26 dX5_board_22 0 rfl rfl ?_
    obtain ⟨T25, h25, h⟩ := obd h
    refine g_callVv (st := []) (ws2 := wEP cC cI cZ o so sa (E.1, (va_up (va_up (va_up E.2 0 T8_0) 1 T25) 3 T8_1))) C yv_X4_copyFrom ml_X5_62 dX5_board_25 (kX4_copyFrom l D cC cI cJ cZ (so 1) (sa 1) (so 3) (sa 3) (E.2 1) T8_1 T25 h25) (gCut_at [3, 4, 5, 6, 7, 8, 9, 17, 18, 19, 20, 21, 22, 23] [0, 1, 2, 10, 11, 12, 13, 14, 15, 16, 24, 25, 26, 27, 28, 29, 30, 31, 32] [0, 1, 2, 19, 20, 21, 22, 23, 24, 25, 3, 4, 5, 6, 7, 8, 9, 26, 27, 28, 29, 30, 31, 32, 10, 11, 12, 13, 14, 15, 16, 17, 18] rfl rfl rfl rfl (by decide) rfl rfl) ⟨by decide, by decide⟩ ⟨rfl, rfl⟩ ⟨Nat.zero_le _, Nat.zero_le _⟩ rfl rfl (Nat.le_of_ble_eq_true rfl) 3 3 rfl rfl rfl ?_
    refine g_aload_n C dX5_board_28 rfl 0 rfl ?_
    refine g_get (v := .ref (so 0)) C fl_X5_12 dX5_board_29 0 rfl rfl ?_
    refine g_iconst (v := (0 : Int32)) C dX5_board_32 (by decide) ?_
    refine g_put (ws2 := wEP cC cI cZ o so sa (E.1, (va_up (va_up (va_up E.2 0 ((va_up T8_0.1 1 (0 : Int32)), T8_0.2)) 1 T25) 3 T8_1))) C fp_X5_48 dX5_board_33 1 rfl rfl rfl (Nat.le_of_ble_eq_true rfl) rfl ?_
    refine g_aload_n C dX5_board_36 rfl 0 rfl ?_
    refine g_dup C dX5_board_37 rfl ?_
    refine g_get (v := .int (E.1 9)) C fl_X5_66 dX5_board_38 0 rfl rfl ?_
    refine g_iconst (v := (1 : Int32)) C dX5_board_41 (by decide) ?_
    refine g_iadd C dX5_board_42 ?_
    refine g_put (ws2 := wEP cC cI cZ o so sa ((va_up E.1 9 ((E.1 9) + (1 : Int32))), (va_up (va_up (va_up E.2 0 ((va_up T8_0.1 1 (0 : Int32)), T8_0.2)) 1 T25) 3 T8_1))) C fp_X5_66 dX5_board_43 0 rfl rfl rfl (Nat.le_of_ble_eq_true rfl) rfl ?_
    refine g_aload_n C dX5_board_46 rfl 0 rfl ?_
    refine g_iconst (v := (0 : Int32)) C dX5_board_47 (by decide) ?_
    refine g_put (ws2 := wEP cC cI cZ o so sa ((va_up (va_up E.1 8 (0 : Int32)) 9 ((E.1 9) + (1 : Int32))), (va_up (va_up (va_up E.2 0 ((va_up T8_0.1 1 (0 : Int32)), T8_0.2)) 1 T25) 3 T8_1))) C fp_X5_69 dX5_board_48 0 rfl rfl rfl (Nat.le_of_ble_eq_true rfl) rfl ?_
    refine g_aload_n C dX5_board_51 rfl 0 rfl ?_
    refine g_iconst (v := (1 : Int32)) C dX5_board_52 (by decide) ?_
    refine g_put (ws2 := wEP cC cI cZ o so sa ((va_up (va_up (va_up E.1 7 (1 : Int32)) 8 (0 : Int32)) 9 ((E.1 9) + (1 : Int32))), (va_up (va_up (va_up E.2 0 ((va_up T8_0.1 1 (0 : Int32)), T8_0.2)) 1 T25) 3 T8_1))) C fp_X5_73 dX5_board_53 0 rfl rfl rfl (Nat.le_of_ble_eq_true rfl) rfl ?_
    refine g_aload_n C dX5_board_56 rfl 0 rfl ?_
    refine g_get (v := .ref (so 1)) C fl_X5_19 dX5_board_57 0 rfl rfl ?_
    obtain ⟨r60, h60, h⟩ := obd h
    refine g_callVi (st := []) (ws2 := wEP cC cI cZ o so sa ((va_up (va_up (va_up E.1 7 (1 : Int32)) 8 (0 : Int32)) 9 ((E.1 9) + (1 : Int32))), (va_up (va_up (va_up E.2 0 ((va_up T8_0.1 1 (0 : Int32)), T8_0.2)) 1 T25) 3 T8_1))) C yv_X4_cells ml_X5_76 dX5_board_60 (kX4_cells l D cC cI cJ cZ (so 1) (sa 1) T25 r60 h60) (gCut_at [3, 4, 5, 6, 7, 8, 9] [0, 1, 2, 10, 11, 12, 13, 14, 15, 16, 17, 18, 19, 20, 21, 22, 23, 24, 25, 26, 27, 28, 29, 30, 31, 32] [0, 1, 2, 26, 27, 28, 29, 30, 31, 32, 3, 4, 5, 6, 7, 8, 9, 10, 11, 12, 13, 14, 15, 16, 17, 18, 19, 20, 21, 22, 23, 24, 25] rfl rfl rfl rfl (by decide) rfl rfl) ⟨by decide, by decide⟩ ⟨rfl, rfl⟩ ⟨Nat.zero_le _, Nat.zero_le _⟩ rfl rfl (Nat.le_of_ble_eq_true rfl) 3 3 rfl rfl rfl ?_
    cases sinj h
    exact g_iret C dX5_board_63 rfl rfl hQ
  · have h := ifp h c11
    refine g_bipush (v := (-103 : Int32)) C dX5_board_14 (by decide) ?_
    cases sinj h
    exact g_iret C dX5_board_16 rfl rfl hQ
def fX5_settled (E : OE)  : Option (OE) :=
  (if (E.1 7) = 0 then some E
 else ((fX3_take (E.2 4) (E.2 1)).bind (fun T15 => ((fX0_empty 1690 (E.2 5)).bind (fun T22 => ((fX3_run_f 1690 T15 T22 (1690 : Int32)).bind (fun r => (fun T36_0 T36_1 => some ((va_up E.1 7 (0 : Int32)), (va_up (va_up E.2 4 T36_0) 5 T36_1))) r.1 r.2)))))))
set_option maxHeartbeats 4000000 in
set_option maxRecDepth 100000 in
theorem kX5_settled (l : Launch) (D : va_G) (cC cI cJ cZ : ClassId) (o : Nat) (so : Nat → Nat) (sa : Nat → Nat → Nat) (E : OE)  (E' : OE) (h : fX5_settled E = some E') : gMr l yX5_settled cX5_settled 1 (some (.object "EdgePicture$Fits")) (gR 10) D (tysG cC cI cJ cZ) [.ref o] (wEP cC cI cZ o so sa E) (so 5) (wEP cC cI cZ o so sa E') := by
  refine gMr_of (by decide) (Nat.le_of_ble_eq_true rfl) rfl ?_
  intro p e s m args below meth c A Q C hQ
  unfold fX5_settled at h
  refine g_aload_n C dX5_settled_0 rfl 0 rfl ?_
  refine g_get (v := .int (E.1 7)) C fl_X5_73 dX5_settled_1 0 rfl rfl ?_
  refine g_if_eq (tgt := 44) C dX5_settled_4 (by decide) (fun c4 => ?_) (fun c4 => ?_)
  · have h := ifp h c4
    refine g_aload_n C dX5_settled_44 rfl 0 rfl ?_
    refine g_get (v := .ref (so 5)) C fl_X5_41 dX5_settled_45 0 rfl rfl ?_
    cases sinj h
    exact g_aret C dX5_settled_48 rfl rfl hQ
  · have h := ifn h c4
    refine g_aload_n C dX5_settled_7 rfl 0 rfl ?_
    refine g_get (v := .ref (so 4)) C fl_X5_32 dX5_settled_8 0 rfl rfl ?_
    refine g_aload_n C dX5_settled_11 rfl 0 rfl ?_
    refine g_get (v := .ref (so 1)) C fl_X5_19 dX5_settled_12 0 rfl rfl ?_
    obtain ⟨T15, h15, h⟩ := obd h
    refine g_callVv (st := []) (ws2 := wEP cC cI cZ o so sa (E.1, (va_up E.2 4 T15))) C yv_X3_take ml_X5_256 dX5_settled_15 (kX3_take l D cC cI cJ cZ (so 4) (sa 4) (so 1) (sa 1) (E.2 4) (E.2 1) T15 h15) (gCut_at [24, 25, 26, 3, 4, 5, 6, 7, 8, 9] [0, 1, 2, 10, 11, 12, 13, 14, 15, 16, 17, 18, 19, 20, 21, 22, 23, 27, 28, 29, 30, 31, 32] [0, 1, 2, 26, 27, 28, 29, 30, 31, 32, 3, 4, 5, 6, 7, 8, 9, 10, 11, 12, 13, 14, 15, 16, 23, 24, 25, 17, 18, 19, 20, 21, 22] rfl rfl rfl rfl (by decide) rfl rfl) ⟨by decide, by decide⟩ ⟨rfl, rfl⟩ ⟨Nat.zero_le _, Nat.zero_le _⟩ rfl rfl (Nat.le_of_ble_eq_true rfl) 2 24 rfl rfl rfl ?_
    refine g_aload_n C dX5_settled_18 rfl 0 rfl ?_
    refine g_get (v := .ref (so 5)) C fl_X5_41 dX5_settled_19 0 rfl rfl ?_
    obtain ⟨T22, h22, h⟩ := obd h
    refine g_callVv (st := []) (ws2 := wEP cC cI cZ o so sa (E.1, (va_up (va_up E.2 4 T15) 5 T22))) C yv_X0_empty ml_X5_259 dX5_settled_22 (kX0_empty l D cC cI cJ cZ (so 5) (sa 5) 1690 (E.2 5) T22 h22) (gCut_at [27, 28, 29] [0, 1, 2, 3, 4, 5, 6, 7, 8, 9, 10, 11, 12, 13, 14, 15, 16, 17, 18, 19, 20, 21, 22, 23, 24, 25, 26, 30, 31, 32] [0, 1, 2, 3, 4, 5, 6, 7, 8, 9, 10, 11, 12, 13, 14, 15, 16, 17, 18, 19, 20, 21, 22, 23, 24, 25, 26, 30, 31, 32, 27, 28, 29] rfl rfl rfl rfl (by decide) rfl rfl) ⟨by decide, by decide⟩ ⟨rfl, rfl⟩ ⟨Nat.zero_le _, Nat.zero_le _⟩ rfl rfl (Nat.le_of_ble_eq_true rfl) 0 27 rfl rfl rfl ?_
    refine g_aload_n C dX5_settled_25 rfl 0 rfl ?_
    refine g_get (v := .ref (so 4)) C fl_X5_32 dX5_settled_26 0 rfl rfl ?_
    refine g_sipush (v := (1690 : Int32)) C dX5_settled_29 (by decide) ?_
    refine g_aload_n C dX5_settled_32 rfl 0 rfl ?_
    refine g_get (v := .ref (so 5)) C fl_X5_41 dX5_settled_33 0 rfl rfl ?_
    obtain ⟨⟨T36_0, T36_1⟩, h36, h⟩ := obd h
    refine g_callVv (st := []) (ws2 := wEP cC cI cZ o so sa (E.1, (va_up (va_up E.2 4 T36_0) 5 T36_1))) C yv_X3_run ml_X5_262 dX5_settled_36 (kX3_run_f l D cC cI cJ cZ (so 4) (sa 4) (so 5) (sa 5) 1690 T15 T22 (1690 : Int32) T36_0 T36_1 h36) (gCut_at [24, 25, 26, 27, 28, 29] [0, 1, 2, 3, 4, 5, 6, 7, 8, 9, 10, 11, 12, 13, 14, 15, 16, 17, 18, 19, 20, 21, 22, 23, 30, 31, 32] [0, 1, 2, 3, 4, 5, 6, 7, 8, 9, 10, 11, 12, 13, 14, 15, 16, 17, 18, 19, 20, 21, 22, 23, 27, 28, 29, 30, 31, 32, 24, 25, 26] rfl rfl rfl rfl (by decide) rfl rfl) ⟨by decide, by decide⟩ ⟨rfl, rfl⟩ ⟨Nat.zero_le _, Nat.zero_le _⟩ rfl rfl (Nat.le_of_ble_eq_true rfl) 2 24 rfl rfl rfl ?_
    refine g_aload_n C dX5_settled_39 rfl 0 rfl ?_
    refine g_iconst (v := (0 : Int32)) C dX5_settled_40 (by decide) ?_
    refine g_put (ws2 := wEP cC cI cZ o so sa ((va_up E.1 7 (0 : Int32)), (va_up (va_up E.2 4 T36_0) 5 T36_1))) C fp_X5_73 dX5_settled_41 0 rfl rfl rfl (Nat.le_of_ble_eq_true rfl) rfl ?_
    refine g_aload_n C dX5_settled_44 rfl 0 rfl ?_
    refine g_get (v := .ref (so 5)) C fl_X5_41 dX5_settled_45 0 rfl rfl ?_
    cases sinj h
    exact g_aret C dX5_settled_48 rfl rfl hQ
def fX5_isSpare (E : OE) (x1 : Int32) : Option (Int32 × OE) :=
  ((fX5_settled E).bind (fun T1 => ((fX4_length (T1.2 1) x1).bind (fun r13 => ((fX1_anyCells r13).bind (fun r16 => ((fX3_countWith (T1.2 4) x1 r16 (((T1.2 5).1 2) + (1 : Int32))).bind (fun r => (fun r29 T29 => (if r29 = ((T1.2 5).1 2) then some ((1 : Int32), (T1.1, (va_up T1.2 4 T29)))
 else some ((0 : Int32), (T1.1, (va_up T1.2 4 T29))))) r.1 r.2))))))))
set_option maxHeartbeats 4000000 in
set_option maxRecDepth 100000 in
theorem kX5_isSpare (l : Launch) (D : va_G) (cC cI cJ cZ : ClassId) (o : Nat) (so : Nat → Nat) (sa : Nat → Nat → Nat) (E : OE) (x1 : Int32) (r : Int32) (E' : OE) (h : fX5_isSpare E x1 = some (r, E')) : gMi l yX5_isSpare cX5_isSpare 4 (some .boolean) (gR 11) D (tysG cC cI cJ cZ) [.ref o, .int x1] (wEP cC cI cZ o so sa E) r (wEP cC cI cZ o so sa E') := by
  refine gMi_of (by decide) (Nat.le_of_ble_eq_true rfl) rfl ?_
  intro p e s m args below meth c A Q C hQ
  unfold fX5_isSpare at h
  refine g_aload_n C dX5_isSpare_0 rfl 0 rfl ?_
  obtain ⟨T1, h1, h⟩ := obd h
  refine g_callVr (st := []) (ws2 := wEP cC cI cZ o so sa T1) C yv_X5_settled ml_X5_122 dX5_isSpare_1 (kX5_settled l D cC cI cJ cZ o so sa E T1 h1) gCut_all ⟨by decide, by decide⟩ ⟨rfl, rfl⟩ ⟨Nat.zero_le _, Nat.zero_le _⟩ rfl rfl (Nat.le_of_ble_eq_true rfl) 4 0 rfl rfl rfl ?_
  refine g_get (v := .int ((T1.2 5).1 2)) C fl_X5_160 dX5_isSpare_4 27 rfl rfl ?_
  refine g_istore_n (lv' := [(2, .int ((T1.2 5).1 2)), (0, .ref o), (1, .int x1)]) C dX5_isSpare_7 rfl (by decide) rfl ?_
  refine g_aload_n C dX5_isSpare_8 rfl 1 rfl ?_
  refine g_get (v := .ref (so 1)) C fl_X5_19 dX5_isSpare_9 0 rfl rfl ?_
  refine g_iload_n C dX5_isSpare_12 rfl 2 rfl ?_
  obtain ⟨r13, h13, h⟩ := obd h
  refine g_callVi (st := []) (ws2 := wEP cC cI cZ o so sa T1) C yv_X4_length ml_X5_94 dX5_isSpare_13 (kX4_length l D cC cI cJ cZ (so 1) (sa 1) (T1.2 1) x1 r13 h13) (gCut_at [3, 4, 5, 6, 7, 8, 9] [0, 1, 2, 10, 11, 12, 13, 14, 15, 16, 17, 18, 19, 20, 21, 22, 23, 24, 25, 26, 27, 28, 29, 30, 31, 32] [0, 1, 2, 26, 27, 28, 29, 30, 31, 32, 3, 4, 5, 6, 7, 8, 9, 10, 11, 12, 13, 14, 15, 16, 17, 18, 19, 20, 21, 22, 23, 24, 25] rfl rfl rfl rfl (by decide) rfl rfl) ⟨by decide, by decide⟩ ⟨rfl, rfl⟩ ⟨Nat.zero_le _, Nat.zero_le _⟩ rfl rfl (Nat.le_of_ble_eq_true rfl) 3 3 rfl rfl rfl ?_
  obtain ⟨r16, h16, h⟩ := obd h
  refine g_callSi (st := []) (ws2 := wEP cC cI cZ o so sa T1) C ys_X1_anyCells ml_X5_266 dX5_isSpare_16 (kX1_anyCells l D cC cI cJ cZ r13 r16 h16) gCut_nil ⟨by decide, by decide⟩ ⟨rfl, rfl⟩ ⟨Nat.zero_le _, Nat.zero_le _⟩ rfl rfl (Nat.le_of_ble_eq_true rfl) ?_
  refine g_istore_n (lv' := [(3, .int r16), (2, .int ((T1.2 5).1 2)), (0, .ref o), (1, .int x1)]) C dX5_isSpare_19 rfl (by decide) rfl ?_
  refine g_aload_n C dX5_isSpare_20 rfl 2 rfl ?_
  refine g_get (v := .ref (so 4)) C fl_X5_32 dX5_isSpare_21 0 rfl rfl ?_
  refine g_iload_n C dX5_isSpare_24 rfl 3 rfl ?_
  refine g_iload_n C dX5_isSpare_25 rfl 0 rfl ?_
  refine g_iload_n C dX5_isSpare_26 rfl 1 rfl ?_
  refine g_iconst (v := (1 : Int32)) C dX5_isSpare_27 (by decide) ?_
  refine g_iadd C dX5_isSpare_28 ?_
  obtain ⟨⟨r29, T29⟩, h29, h⟩ := obd h
  refine g_callVi (st := []) (ws2 := wEP cC cI cZ o so sa (T1.1, (va_up T1.2 4 T29))) C yv_X3_countWith ml_X5_269 dX5_isSpare_29 (kX3_countWith l D cC cI cJ cZ (so 4) (sa 4) (T1.2 4) x1 r16 (((T1.2 5).1 2) + (1 : Int32)) r29 T29 h29) (gCut_at [24, 25, 26] [0, 1, 2, 3, 4, 5, 6, 7, 8, 9, 10, 11, 12, 13, 14, 15, 16, 17, 18, 19, 20, 21, 22, 23, 27, 28, 29, 30, 31, 32] [0, 1, 2, 3, 4, 5, 6, 7, 8, 9, 10, 11, 12, 13, 14, 15, 16, 17, 18, 19, 20, 21, 22, 23, 30, 31, 32, 24, 25, 26, 27, 28, 29] rfl rfl rfl rfl (by decide) rfl rfl) ⟨by decide, by decide⟩ ⟨rfl, rfl⟩ ⟨Nat.zero_le _, Nat.zero_le _⟩ rfl rfl (Nat.le_of_ble_eq_true rfl) 2 24 rfl rfl rfl ?_
  refine g_iload_n C dX5_isSpare_32 rfl 1 rfl ?_
  refine g_icmp_ne (tgt := 40) C dX5_isSpare_33 (by decide) (fun c33 => ?_) (fun c33 => ?_)
  · have h := ifn h c33
    refine g_iconst (v := (0 : Int32)) C dX5_isSpare_40 (by decide) ?_
    cases sinj h
    exact g_zret C dX5_isSpare_41 rfl rfl rfl hQ
  · have h := ifp h c33
    refine g_iconst (v := (1 : Int32)) C dX5_isSpare_36 (by decide) ?_
    refine g_goto (tgt := 41) C dX5_isSpare_37 (by decide) ?_
    cases sinj h
    exact g_zret C dX5_isSpare_41 rfl rfl rfl hQ
def fX5_line (E : OE) (x1 : Int32) (x2 : Int32) : Option (Int32 × OE) :=
  ((fX4_hasLine (E.2 1) x1).bind (fun r5 => (if r5 = 0 then some ((-101 : Int32), E)
 else (if x2 = 0 then (if okI x1 8 = true then some ((((E.2 1).2 2) x1.toNatClampNeg), E) else none)
 else (if x2 = 1 then (if okI x1 8 = true then some ((((E.2 1).2 3) x1.toNatClampNeg), E) else none)
 else (if x2 = 2 then (if okI x1 8 = true then some ((((E.2 1).2 4) x1.toNatClampNeg), E) else none)
 else (if x2 = 3 then ((fX4_length (E.2 1) x1).bind (fun r91 => some (r91, E)))
 else (if x2 = 4 then ((fX5_isSpare E x1).bind (fun r => (fun r97 T97 => (if r97 = 0 then some ((0 : Int32), T97)
 else some ((1 : Int32), T97))) r.1 r.2))
 else (if x2 = 5 then ((fX4_sorts (E.2 1) x1).bind (fun r114 => some (r114, E)))
 else (if x2 = 6 then ((fX4_nextTry (E.2 1) x1).bind (fun r123 => some (r123, E)))
 else some ((-102 : Int32), E)))))))))))
set_option maxHeartbeats 4000000 in
set_option maxRecDepth 100000 in
theorem kX5_line (l : Launch) (D : va_G) (cC cI cJ cZ : ClassId) (o : Nat) (so : Nat → Nat) (sa : Nat → Nat → Nat) (E : OE) (x1 : Int32) (x2 : Int32) (r : Int32) (E' : OE) (h : fX5_line E x1 x2 = some (r, E')) : gMi l yX5_line cX5_line 3 (some .int) (gR 12) D (tysG cC cI cJ cZ) [.ref o, .int x1, .int x2] (wEP cC cI cZ o so sa E) r (wEP cC cI cZ o so sa E') := by
  refine gMi_of (by decide) (Nat.le_of_ble_eq_true rfl) rfl ?_
  intro p e s m args below meth c A Q C hQ
  unfold fX5_line at h
  refine g_aload_n C dX5_line_0 rfl 0 rfl ?_
  refine g_get (v := .ref (so 1)) C fl_X5_19 dX5_line_1 0 rfl rfl ?_
  refine g_iload_n C dX5_line_4 rfl 1 rfl ?_
  obtain ⟨r5, h5, h⟩ := obd h
  refine g_callVi (st := []) (ws2 := wEP cC cI cZ o so sa E) C yv_X4_hasLine ml_X5_80 dX5_line_5 (kX4_hasLine l D cC cI cJ cZ (so 1) (sa 1) (E.2 1) x1 r5 h5) (gCut_at [3, 4, 5, 6, 7, 8, 9] [0, 1, 2, 10, 11, 12, 13, 14, 15, 16, 17, 18, 19, 20, 21, 22, 23, 24, 25, 26, 27, 28, 29, 30, 31, 32] [0, 1, 2, 26, 27, 28, 29, 30, 31, 32, 3, 4, 5, 6, 7, 8, 9, 10, 11, 12, 13, 14, 15, 16, 17, 18, 19, 20, 21, 22, 23, 24, 25] rfl rfl rfl rfl (by decide) rfl rfl) ⟨by decide, by decide⟩ ⟨rfl, rfl⟩ ⟨Nat.zero_le _, Nat.zero_le _⟩ rfl rfl (Nat.le_of_ble_eq_true rfl) 3 3 rfl rfl rfl ?_
  refine g_if_ne (tgt := 14) C dX5_line_8 (by decide) (fun c8 => ?_) (fun c8 => ?_)
  · have h := ifn h c8
    refine g_iload_n C dX5_line_14 rfl 2 rfl ?_
    by_cases c15_0 : x2 = 0
    · have h := ifp h c15_0
      refine g_tableAt (v := 0) (off := 41) (tgt := 56) C dX5_line_15 c15_0 (by decide) (by decide) rfl (by decide) ?_
      refine g_aload_n C dX5_line_56 rfl 0 rfl ?_
      refine g_get (v := .ref (so 1)) C fl_X5_19 dX5_line_57 0 rfl rfl ?_
      refine g_get (v := .ref (sa 1 2)) C fl_X5_84 dX5_line_60 3 rfl rfl ?_
      refine g_iload_n C dX5_line_63 rfl 1 rfl ?_
      obtain ⟨hg64, h⟩ := ifg h
      refine g_iald (f := ((E.2 1).2 2)) C dX5_line_64 4 0 rfl rfl hg64 ?_
      cases sinj h
      exact g_iret C dX5_line_65 rfl rfl hQ
    · have h := ifn h c15_0
      by_cases c15_1 : x2 = 1
      · have h := ifp h c15_1
        refine g_tableAt (v := 1) (off := 51) (tgt := 66) C dX5_line_15 c15_1 (by decide) (by decide) rfl (by decide) ?_
        refine g_aload_n C dX5_line_66 rfl 0 rfl ?_
        refine g_get (v := .ref (so 1)) C fl_X5_19 dX5_line_67 0 rfl rfl ?_
        refine g_get (v := .ref (sa 1 3)) C fl_X5_88 dX5_line_70 3 rfl rfl ?_
        refine g_iload_n C dX5_line_73 rfl 1 rfl ?_
        obtain ⟨hg74, h⟩ := ifg h
        refine g_iald (f := ((E.2 1).2 3)) C dX5_line_74 5 0 rfl rfl hg74 ?_
        cases sinj h
        exact g_iret C dX5_line_75 rfl rfl hQ
      · have h := ifn h c15_1
        by_cases c15_2 : x2 = 2
        · have h := ifp h c15_2
          refine g_tableAt (v := 2) (off := 61) (tgt := 76) C dX5_line_15 c15_2 (by decide) (by decide) rfl (by decide) ?_
          refine g_aload_n C dX5_line_76 rfl 0 rfl ?_
          refine g_get (v := .ref (so 1)) C fl_X5_19 dX5_line_77 0 rfl rfl ?_
          refine g_get (v := .ref (sa 1 4)) C fl_X5_91 dX5_line_80 3 rfl rfl ?_
          refine g_iload_n C dX5_line_83 rfl 1 rfl ?_
          obtain ⟨hg84, h⟩ := ifg h
          refine g_iald (f := ((E.2 1).2 4)) C dX5_line_84 6 0 rfl rfl hg84 ?_
          cases sinj h
          exact g_iret C dX5_line_85 rfl rfl hQ
        · have h := ifn h c15_2
          by_cases c15_3 : x2 = 3
          · have h := ifp h c15_3
            refine g_tableAt (v := 3) (off := 71) (tgt := 86) C dX5_line_15 c15_3 (by decide) (by decide) rfl (by decide) ?_
            refine g_aload_n C dX5_line_86 rfl 0 rfl ?_
            refine g_get (v := .ref (so 1)) C fl_X5_19 dX5_line_87 0 rfl rfl ?_
            refine g_iload_n C dX5_line_90 rfl 1 rfl ?_
            obtain ⟨r91, h91, h⟩ := obd h
            refine g_callVi (st := []) (ws2 := wEP cC cI cZ o so sa E) C yv_X4_length ml_X5_94 dX5_line_91 (kX4_length l D cC cI cJ cZ (so 1) (sa 1) (E.2 1) x1 r91 h91) (gCut_at [3, 4, 5, 6, 7, 8, 9] [0, 1, 2, 10, 11, 12, 13, 14, 15, 16, 17, 18, 19, 20, 21, 22, 23, 24, 25, 26, 27, 28, 29, 30, 31, 32] [0, 1, 2, 26, 27, 28, 29, 30, 31, 32, 3, 4, 5, 6, 7, 8, 9, 10, 11, 12, 13, 14, 15, 16, 17, 18, 19, 20, 21, 22, 23, 24, 25] rfl rfl rfl rfl (by decide) rfl rfl) ⟨by decide, by decide⟩ ⟨rfl, rfl⟩ ⟨Nat.zero_le _, Nat.zero_le _⟩ rfl rfl (Nat.le_of_ble_eq_true rfl) 3 3 rfl rfl rfl ?_
            cases sinj h
            exact g_iret C dX5_line_94 rfl rfl hQ
          · have h := ifn h c15_3
            by_cases c15_4 : x2 = 4
            · have h := ifp h c15_4
              refine g_tableAt (v := 4) (off := 80) (tgt := 95) C dX5_line_15 c15_4 (by decide) (by decide) rfl (by decide) ?_
              refine g_aload_n C dX5_line_95 rfl 0 rfl ?_
              refine g_iload_n C dX5_line_96 rfl 1 rfl ?_
              obtain ⟨⟨r97, T97⟩, h97, h⟩ := obd h
              refine g_callVi (st := []) (ws2 := wEP cC cI cZ o so sa T97) C yv_X5_isSpare ml_X5_98 dX5_line_97 (kX5_isSpare l D cC cI cJ cZ o so sa E x1 r97 T97 h97) gCut_all ⟨by decide, by decide⟩ ⟨rfl, rfl⟩ ⟨Nat.zero_le _, Nat.zero_le _⟩ rfl rfl (Nat.le_of_ble_eq_true rfl) 4 0 rfl rfl rfl ?_
              refine g_if_eq (tgt := 107) C dX5_line_100 (by decide) (fun c100 => ?_) (fun c100 => ?_)
              · have h := ifp h c100
                refine g_iconst (v := (0 : Int32)) C dX5_line_107 (by decide) ?_
                cases sinj h
                exact g_iret C dX5_line_108 rfl rfl hQ
              · have h := ifn h c100
                refine g_iconst (v := (1 : Int32)) C dX5_line_103 (by decide) ?_
                refine g_goto (tgt := 108) C dX5_line_104 (by decide) ?_
                cases sinj h
                exact g_iret C dX5_line_108 rfl rfl hQ
            · have h := ifn h c15_4
              by_cases c15_5 : x2 = 5
              · have h := ifp h c15_5
                refine g_tableAt (v := 5) (off := 94) (tgt := 109) C dX5_line_15 c15_5 (by decide) (by decide) rfl (by decide) ?_
                refine g_aload_n C dX5_line_109 rfl 0 rfl ?_
                refine g_get (v := .ref (so 1)) C fl_X5_19 dX5_line_110 0 rfl rfl ?_
                refine g_iload_n C dX5_line_113 rfl 1 rfl ?_
                obtain ⟨r114, h114, h⟩ := obd h
                refine g_callVi (st := []) (ws2 := wEP cC cI cZ o so sa E) C yv_X4_sorts ml_X5_101 dX5_line_114 (kX4_sorts l D cC cI cJ cZ (so 1) (sa 1) (E.2 1) x1 r114 h114) (gCut_at [3, 4, 5, 6, 7, 8, 9] [0, 1, 2, 10, 11, 12, 13, 14, 15, 16, 17, 18, 19, 20, 21, 22, 23, 24, 25, 26, 27, 28, 29, 30, 31, 32] [0, 1, 2, 26, 27, 28, 29, 30, 31, 32, 3, 4, 5, 6, 7, 8, 9, 10, 11, 12, 13, 14, 15, 16, 17, 18, 19, 20, 21, 22, 23, 24, 25] rfl rfl rfl rfl (by decide) rfl rfl) ⟨by decide, by decide⟩ ⟨rfl, rfl⟩ ⟨Nat.zero_le _, Nat.zero_le _⟩ rfl rfl (Nat.le_of_ble_eq_true rfl) 3 3 rfl rfl rfl ?_
                cases sinj h
                exact g_iret C dX5_line_117 rfl rfl hQ
              · have h := ifn h c15_5
                by_cases c15_6 : x2 = 6
                · have h := ifp h c15_6
                  refine g_tableAt (v := 6) (off := 103) (tgt := 118) C dX5_line_15 c15_6 (by decide) (by decide) rfl (by decide) ?_
                  refine g_aload_n C dX5_line_118 rfl 0 rfl ?_
                  refine g_get (v := .ref (so 1)) C fl_X5_19 dX5_line_119 0 rfl rfl ?_
                  refine g_iload_n C dX5_line_122 rfl 1 rfl ?_
                  obtain ⟨r123, h123, h⟩ := obd h
                  refine g_callVi (st := []) (ws2 := wEP cC cI cZ o so sa E) C yv_X4_nextTry ml_X5_104 dX5_line_123 (kX4_nextTry l D cC cI cJ cZ (so 1) (sa 1) (E.2 1) x1 r123 h123) (gCut_at [3, 4, 5, 6, 7, 8, 9] [0, 1, 2, 10, 11, 12, 13, 14, 15, 16, 17, 18, 19, 20, 21, 22, 23, 24, 25, 26, 27, 28, 29, 30, 31, 32] [0, 1, 2, 26, 27, 28, 29, 30, 31, 32, 3, 4, 5, 6, 7, 8, 9, 10, 11, 12, 13, 14, 15, 16, 17, 18, 19, 20, 21, 22, 23, 24, 25] rfl rfl rfl rfl (by decide) rfl rfl) ⟨by decide, by decide⟩ ⟨rfl, rfl⟩ ⟨Nat.zero_le _, Nat.zero_le _⟩ rfl rfl (Nat.le_of_ble_eq_true rfl) 3 3 rfl rfl rfl ?_
                  cases sinj h
                  exact g_iret C dX5_line_126 rfl rfl hQ
                · have h := ifn h c15_6
                  refine g_tableOut (tgt := 127) C dX5_line_15 (by have q0 := lv_neT (a := 0) c15_0 (by decide); have q1 := lv_neT (a := 1) c15_1 (by decide); have q2 := lv_neT (a := 2) c15_2 (by decide); have q3 := lv_neT (a := 3) c15_3 (by decide); have q4 := lv_neT (a := 4) c15_4 (by decide); have q5 := lv_neT (a := 5) c15_5 (by decide); have q6 := lv_neT (a := 6) c15_6 (by decide); omega) (by decide) ?_
                  refine g_bipush (v := (-102 : Int32)) C dX5_line_127 (by decide) ?_
                  cases sinj h
                  exact g_iret C dX5_line_129 rfl rfl hQ
  · have h := ifp h c8
    refine g_bipush (v := (-101 : Int32)) C dX5_line_11 (by decide) ?_
    cases sinj h
    exact g_iret C dX5_line_13 rfl rfl hQ
def fX5_as (E : OE) (x1 : Int32) (x2 : Int32) : Option (Int32) :=
  ((fX4_hasLine (E.2 1) x1).bind (fun r5 => (if r5 = 0 then some (-101 : Int32)
 else ((fX1_isKind x2).bind (fun r15 => (if r15 = 0 then some (-102 : Int32)
 else (if okI x1 8 = true then ((fX1_isSuch (((E.2 1).2 2) x1.toNatClampNeg) x2).bind (fun r34 => (if r34 = 0 then some (-1 : Int32)
 else some x1))) else none)))))))
set_option maxHeartbeats 4000000 in
set_option maxRecDepth 100000 in
theorem kX5_as (l : Launch) (D : va_G) (cC cI cJ cZ : ClassId) (o : Nat) (so : Nat → Nat) (sa : Nat → Nat → Nat) (E : OE) (x1 : Int32) (x2 : Int32) (r : Int32) (h : fX5_as E x1 x2 = some r) : gMi l yX5_as cX5_as 3 (some .int) (gR 3) D (tysG cC cI cJ cZ) [.ref o, .int x1, .int x2] (wEP cC cI cZ o so sa E) r (wEP cC cI cZ o so sa E) := by
  refine gMi_of (by decide) (Nat.le_of_ble_eq_true rfl) rfl ?_
  intro p e s m args below meth c A Q C hQ
  unfold fX5_as at h
  refine g_aload_n C dX5_as_0 rfl 0 rfl ?_
  refine g_get (v := .ref (so 1)) C fl_X5_19 dX5_as_1 0 rfl rfl ?_
  refine g_iload_n C dX5_as_4 rfl 1 rfl ?_
  obtain ⟨r5, h5, h⟩ := obd h
  refine g_callVi (st := []) (ws2 := wEP cC cI cZ o so sa E) C yv_X4_hasLine ml_X5_80 dX5_as_5 (kX4_hasLine l D cC cI cJ cZ (so 1) (sa 1) (E.2 1) x1 r5 h5) (gCut_at [3, 4, 5, 6, 7, 8, 9] [0, 1, 2, 10, 11, 12, 13, 14, 15, 16, 17, 18, 19, 20, 21, 22, 23, 24, 25, 26, 27, 28, 29, 30, 31, 32] [0, 1, 2, 26, 27, 28, 29, 30, 31, 32, 3, 4, 5, 6, 7, 8, 9, 10, 11, 12, 13, 14, 15, 16, 17, 18, 19, 20, 21, 22, 23, 24, 25] rfl rfl rfl rfl (by decide) rfl rfl) ⟨by decide, by decide⟩ ⟨rfl, rfl⟩ ⟨Nat.zero_le _, Nat.zero_le _⟩ rfl rfl (Nat.le_of_ble_eq_true rfl) 3 3 rfl rfl rfl ?_
  refine g_if_ne (tgt := 14) C dX5_as_8 (by decide) (fun c8 => ?_) (fun c8 => ?_)
  · have h := ifn h c8
    refine g_iload_n C dX5_as_14 rfl 2 rfl ?_
    obtain ⟨r15, h15, h⟩ := obd h
    refine g_callSi (st := []) (ws2 := wEP cC cI cZ o so sa E) C ys_X1_isKind ml_X5_107 dX5_as_15 (kX1_isKind l D cC cI cJ cZ x2 r15 h15) gCut_nil ⟨by decide, by decide⟩ ⟨rfl, rfl⟩ ⟨Nat.zero_le _, Nat.zero_le _⟩ rfl rfl (Nat.le_of_ble_eq_true rfl) ?_
    refine g_if_ne (tgt := 24) C dX5_as_18 (by decide) (fun c18 => ?_) (fun c18 => ?_)
    · have h := ifn h c18
      refine g_aload_n C dX5_as_24 rfl 0 rfl ?_
      refine g_get (v := .ref (so 1)) C fl_X5_19 dX5_as_25 0 rfl rfl ?_
      refine g_get (v := .ref (sa 1 2)) C fl_X5_84 dX5_as_28 3 rfl rfl ?_
      refine g_iload_n C dX5_as_31 rfl 1 rfl ?_
      obtain ⟨hg32, h⟩ := ifg h
      refine g_iald (f := ((E.2 1).2 2)) C dX5_as_32 4 0 rfl rfl hg32 ?_
      refine g_iload_n C dX5_as_33 rfl 2 rfl ?_
      obtain ⟨r34, h34, h⟩ := obd h
      refine g_callSi (st := []) (ws2 := wEP cC cI cZ o so sa E) C ys_X1_isSuch ml_X5_112 dX5_as_34 (kX1_isSuch l D cC cI cJ cZ (((E.2 1).2 2) x1.toNatClampNeg) x2 r34 h34) gCut_nil ⟨by decide, by decide⟩ ⟨rfl, rfl⟩ ⟨Nat.zero_le _, Nat.zero_le _⟩ rfl rfl (Nat.le_of_ble_eq_true rfl) ?_
      refine g_if_eq (tgt := 44) C dX5_as_37 (by decide) (fun c37 => ?_) (fun c37 => ?_)
      · have h := ifp h c37
        refine g_iconst (v := (-1 : Int32)) C dX5_as_44 (by decide) ?_
        cases sinj h
        exact g_iret C dX5_as_45 rfl rfl hQ
      · have h := ifn h c37
        refine g_iload_n C dX5_as_40 rfl 1 rfl ?_
        refine g_goto (tgt := 45) C dX5_as_41 (by decide) ?_
        cases sinj h
        exact g_iret C dX5_as_45 rfl rfl hQ
    · have h := ifp h c18
      refine g_bipush (v := (-102 : Int32)) C dX5_as_21 (by decide) ?_
      cases sinj h
      exact g_iret C dX5_as_23 rfl rfl hQ
  · have h := ifp h c8
    refine g_bipush (v := (-101 : Int32)) C dX5_as_11 (by decide) ?_
    cases sinj h
    exact g_iret C dX5_as_13 rfl rfl hQ
def fX5_cell (E : OE) (x1 : Int32) (x2 : Int32) : Option (Int32 × OE) :=
  ((fX4_hasCell (E.2 1) x1).bind (fun r5 => (if r5 = 0 then some ((-101 : Int32), E)
 else (if x2 = 0 then ((fX4_howMarked (E.2 1) x1).bind (fun r45 => some (r45, E)))
 else (if x2 = 1 then ((fX5_settled E).bind (fun T50 => ((fX0_blackIn 1690 (T50.2 5) x1).bind (fun r54 => some (r54, T50)))))
 else (if x2 = 2 then ((fX5_settled E).bind (fun T59 => ((fX0_sure 1690 (T59.2 5) x1).bind (fun r63 => some (r63, T59)))))
 else some ((-102 : Int32), E)))))))
set_option maxHeartbeats 4000000 in
set_option maxRecDepth 100000 in
theorem kX5_cell (l : Launch) (D : va_G) (cC cI cJ cZ : ClassId) (o : Nat) (so : Nat → Nat) (sa : Nat → Nat → Nat) (E : OE) (x1 : Int32) (x2 : Int32) (r : Int32) (E' : OE) (h : fX5_cell E x1 x2 = some (r, E')) : gMi l yX5_cell cX5_cell 3 (some .int) (gR 11) D (tysG cC cI cJ cZ) [.ref o, .int x1, .int x2] (wEP cC cI cZ o so sa E) r (wEP cC cI cZ o so sa E') := by
  refine gMi_of (by decide) (Nat.le_of_ble_eq_true rfl) rfl ?_
  intro p e s m args below meth c A Q C hQ
  unfold fX5_cell at h
  refine g_aload_n C dX5_cell_0 rfl 0 rfl ?_
  refine g_get (v := .ref (so 1)) C fl_X5_19 dX5_cell_1 0 rfl rfl ?_
  refine g_iload_n C dX5_cell_4 rfl 1 rfl ?_
  obtain ⟨r5, h5, h⟩ := obd h
  refine g_callVi (st := []) (ws2 := wEP cC cI cZ o so sa E) C yv_X4_hasCell ml_X5_116 dX5_cell_5 (kX4_hasCell l D cC cI cJ cZ (so 1) (sa 1) (E.2 1) x1 r5 h5) (gCut_at [3, 4, 5, 6, 7, 8, 9] [0, 1, 2, 10, 11, 12, 13, 14, 15, 16, 17, 18, 19, 20, 21, 22, 23, 24, 25, 26, 27, 28, 29, 30, 31, 32] [0, 1, 2, 26, 27, 28, 29, 30, 31, 32, 3, 4, 5, 6, 7, 8, 9, 10, 11, 12, 13, 14, 15, 16, 17, 18, 19, 20, 21, 22, 23, 24, 25] rfl rfl rfl rfl (by decide) rfl rfl) ⟨by decide, by decide⟩ ⟨rfl, rfl⟩ ⟨Nat.zero_le _, Nat.zero_le _⟩ rfl rfl (Nat.le_of_ble_eq_true rfl) 3 3 rfl rfl rfl ?_
  refine g_if_ne (tgt := 14) C dX5_cell_8 (by decide) (fun c8 => ?_) (fun c8 => ?_)
  · have h := ifn h c8
    refine g_iload_n C dX5_cell_14 rfl 2 rfl ?_
    by_cases c15_0 : x2 = 0
    · have h := ifp h c15_0
      refine g_tableAt (v := 0) (off := 25) (tgt := 40) C dX5_cell_15 c15_0 (by decide) (by decide) rfl (by decide) ?_
      refine g_aload_n C dX5_cell_40 rfl 0 rfl ?_
      refine g_get (v := .ref (so 1)) C fl_X5_19 dX5_cell_41 0 rfl rfl ?_
      refine g_iload_n C dX5_cell_44 rfl 1 rfl ?_
      obtain ⟨r45, h45, h⟩ := obd h
      refine g_callVi (st := []) (ws2 := wEP cC cI cZ o so sa E) C yv_X4_howMarked ml_X5_119 dX5_cell_45 (kX4_howMarked l D cC cI cJ cZ (so 1) (sa 1) (E.2 1) x1 r45 h45) (gCut_at [3, 4, 5, 6, 7, 8, 9] [0, 1, 2, 10, 11, 12, 13, 14, 15, 16, 17, 18, 19, 20, 21, 22, 23, 24, 25, 26, 27, 28, 29, 30, 31, 32] [0, 1, 2, 26, 27, 28, 29, 30, 31, 32, 3, 4, 5, 6, 7, 8, 9, 10, 11, 12, 13, 14, 15, 16, 17, 18, 19, 20, 21, 22, 23, 24, 25] rfl rfl rfl rfl (by decide) rfl rfl) ⟨by decide, by decide⟩ ⟨rfl, rfl⟩ ⟨Nat.zero_le _, Nat.zero_le _⟩ rfl rfl (Nat.le_of_ble_eq_true rfl) 3 3 rfl rfl rfl ?_
      cases sinj h
      exact g_iret C dX5_cell_48 rfl rfl hQ
    · have h := ifn h c15_0
      by_cases c15_1 : x2 = 1
      · have h := ifp h c15_1
        refine g_tableAt (v := 1) (off := 34) (tgt := 49) C dX5_cell_15 c15_1 (by decide) (by decide) rfl (by decide) ?_
        refine g_aload_n C dX5_cell_49 rfl 0 rfl ?_
        obtain ⟨T50, h50, h⟩ := obd h
        refine g_callVr (st := []) (ws2 := wEP cC cI cZ o so sa T50) C yv_X5_settled ml_X5_122 dX5_cell_50 (kX5_settled l D cC cI cJ cZ o so sa E T50 h50) gCut_all ⟨by decide, by decide⟩ ⟨rfl, rfl⟩ ⟨Nat.zero_le _, Nat.zero_le _⟩ rfl rfl (Nat.le_of_ble_eq_true rfl) 4 0 rfl rfl rfl ?_
        refine g_iload_n C dX5_cell_53 rfl 1 rfl ?_
        obtain ⟨r54, h54, h⟩ := obd h
        refine g_callVi (st := []) (ws2 := wEP cC cI cZ o so sa T50) C yv_X0_blackIn ml_X5_126 dX5_cell_54 (kX0_blackIn l D cC cI cJ cZ (so 5) (sa 5) 1690 (T50.2 5) x1 r54 h54) (gCut_at [27, 28, 29] [0, 1, 2, 3, 4, 5, 6, 7, 8, 9, 10, 11, 12, 13, 14, 15, 16, 17, 18, 19, 20, 21, 22, 23, 24, 25, 26, 30, 31, 32] [0, 1, 2, 3, 4, 5, 6, 7, 8, 9, 10, 11, 12, 13, 14, 15, 16, 17, 18, 19, 20, 21, 22, 23, 24, 25, 26, 30, 31, 32, 27, 28, 29] rfl rfl rfl rfl (by decide) rfl rfl) ⟨by decide, by decide⟩ ⟨rfl, rfl⟩ ⟨Nat.zero_le _, Nat.zero_le _⟩ rfl rfl (Nat.le_of_ble_eq_true rfl) 0 27 rfl rfl rfl ?_
        cases sinj h
        exact g_iret C dX5_cell_57 rfl rfl hQ
      · have h := ifn h c15_1
        by_cases c15_2 : x2 = 2
        · have h := ifp h c15_2
          refine g_tableAt (v := 2) (off := 43) (tgt := 58) C dX5_cell_15 c15_2 (by decide) (by decide) rfl (by decide) ?_
          refine g_aload_n C dX5_cell_58 rfl 0 rfl ?_
          obtain ⟨T59, h59, h⟩ := obd h
          refine g_callVr (st := []) (ws2 := wEP cC cI cZ o so sa T59) C yv_X5_settled ml_X5_122 dX5_cell_59 (kX5_settled l D cC cI cJ cZ o so sa E T59 h59) gCut_all ⟨by decide, by decide⟩ ⟨rfl, rfl⟩ ⟨Nat.zero_le _, Nat.zero_le _⟩ rfl rfl (Nat.le_of_ble_eq_true rfl) 4 0 rfl rfl rfl ?_
          refine g_iload_n C dX5_cell_62 rfl 1 rfl ?_
          obtain ⟨r63, h63, h⟩ := obd h
          refine g_callVi (st := []) (ws2 := wEP cC cI cZ o so sa T59) C yv_X0_sure ml_X5_129 dX5_cell_63 (kX0_sure l D cC cI cJ cZ (so 5) (sa 5) 1690 (T59.2 5) x1 r63 h63) (gCut_at [27, 28, 29] [0, 1, 2, 3, 4, 5, 6, 7, 8, 9, 10, 11, 12, 13, 14, 15, 16, 17, 18, 19, 20, 21, 22, 23, 24, 25, 26, 30, 31, 32] [0, 1, 2, 3, 4, 5, 6, 7, 8, 9, 10, 11, 12, 13, 14, 15, 16, 17, 18, 19, 20, 21, 22, 23, 24, 25, 26, 30, 31, 32, 27, 28, 29] rfl rfl rfl rfl (by decide) rfl rfl) ⟨by decide, by decide⟩ ⟨rfl, rfl⟩ ⟨Nat.zero_le _, Nat.zero_le _⟩ rfl rfl (Nat.le_of_ble_eq_true rfl) 0 27 rfl rfl rfl ?_
          cases sinj h
          exact g_iret C dX5_cell_66 rfl rfl hQ
        · have h := ifn h c15_2
          refine g_tableOut (tgt := 67) C dX5_cell_15 (by have q0 := lv_neT (a := 0) c15_0 (by decide); have q1 := lv_neT (a := 1) c15_1 (by decide); have q2 := lv_neT (a := 2) c15_2 (by decide); omega) (by decide) ?_
          refine g_bipush (v := (-102 : Int32)) C dX5_cell_67 (by decide) ?_
          cases sinj h
          exact g_iret C dX5_cell_69 rfl rfl hQ
  · have h := ifp h c8
    refine g_bipush (v := (-101 : Int32)) C dX5_cell_11 (by decide) ?_
    cases sinj h
    exact g_iret C dX5_cell_13 rfl rfl hQ
def fX5_keeps (E : OE) (x1 : Int32) (x2 : Int32) : Option (Int32) :=
  ((fX4_hasLine (E.2 1) x1).bind (fun r5 => (if r5 = 0 then some (-101 : Int32)
 else ((fX4_hasCellsOf (E.2 1) x1 x2).bind (fun r20 => (if r20 = 0 then some (-102 : Int32)
 else (if okI x1 8 = true then (if okI x1 8 = true then (if okI x1 8 = true then ((fX1_isKept (((E.2 1).2 2) x1.toNatClampNeg) (((E.2 1).2 3) x1.toNatClampNeg) (((E.2 1).2 4) x1.toNatClampNeg) x2).bind (fun r57 => (if r57 = 0 then some (0 : Int32)
 else some (1 : Int32)))) else none) else none) else none)))))))
set_option maxHeartbeats 4000000 in
set_option maxRecDepth 100000 in
theorem kX5_keeps (l : Launch) (D : va_G) (cC cI cJ cZ : ClassId) (o : Nat) (so : Nat → Nat) (sa : Nat → Nat → Nat) (E : OE) (x1 : Int32) (x2 : Int32) (r : Int32) (h : fX5_keeps E x1 x2 = some r) : gMi l yX5_keeps cX5_keeps 3 (some .int) (gR 3) D (tysG cC cI cJ cZ) [.ref o, .int x1, .int x2] (wEP cC cI cZ o so sa E) r (wEP cC cI cZ o so sa E) := by
  refine gMi_of (by decide) (Nat.le_of_ble_eq_true rfl) rfl ?_
  intro p e s m args below meth c A Q C hQ
  unfold fX5_keeps at h
  refine g_aload_n C dX5_keeps_0 rfl 0 rfl ?_
  refine g_get (v := .ref (so 1)) C fl_X5_19 dX5_keeps_1 0 rfl rfl ?_
  refine g_iload_n C dX5_keeps_4 rfl 1 rfl ?_
  obtain ⟨r5, h5, h⟩ := obd h
  refine g_callVi (st := []) (ws2 := wEP cC cI cZ o so sa E) C yv_X4_hasLine ml_X5_80 dX5_keeps_5 (kX4_hasLine l D cC cI cJ cZ (so 1) (sa 1) (E.2 1) x1 r5 h5) (gCut_at [3, 4, 5, 6, 7, 8, 9] [0, 1, 2, 10, 11, 12, 13, 14, 15, 16, 17, 18, 19, 20, 21, 22, 23, 24, 25, 26, 27, 28, 29, 30, 31, 32] [0, 1, 2, 26, 27, 28, 29, 30, 31, 32, 3, 4, 5, 6, 7, 8, 9, 10, 11, 12, 13, 14, 15, 16, 17, 18, 19, 20, 21, 22, 23, 24, 25] rfl rfl rfl rfl (by decide) rfl rfl) ⟨by decide, by decide⟩ ⟨rfl, rfl⟩ ⟨Nat.zero_le _, Nat.zero_le _⟩ rfl rfl (Nat.le_of_ble_eq_true rfl) 3 3 rfl rfl rfl ?_
  refine g_if_ne (tgt := 14) C dX5_keeps_8 (by decide) (fun c8 => ?_) (fun c8 => ?_)
  · have h := ifn h c8
    refine g_aload_n C dX5_keeps_14 rfl 0 rfl ?_
    refine g_get (v := .ref (so 1)) C fl_X5_19 dX5_keeps_15 0 rfl rfl ?_
    refine g_iload_n C dX5_keeps_18 rfl 1 rfl ?_
    refine g_iload_n C dX5_keeps_19 rfl 2 rfl ?_
    obtain ⟨r20, h20, h⟩ := obd h
    refine g_callVi (st := []) (ws2 := wEP cC cI cZ o so sa E) C yv_X4_hasCellsOf ml_X5_132 dX5_keeps_20 (kX4_hasCellsOf l D cC cI cJ cZ (so 1) (sa 1) (E.2 1) x1 x2 r20 h20) (gCut_at [3, 4, 5, 6, 7, 8, 9] [0, 1, 2, 10, 11, 12, 13, 14, 15, 16, 17, 18, 19, 20, 21, 22, 23, 24, 25, 26, 27, 28, 29, 30, 31, 32] [0, 1, 2, 26, 27, 28, 29, 30, 31, 32, 3, 4, 5, 6, 7, 8, 9, 10, 11, 12, 13, 14, 15, 16, 17, 18, 19, 20, 21, 22, 23, 24, 25] rfl rfl rfl rfl (by decide) rfl rfl) ⟨by decide, by decide⟩ ⟨rfl, rfl⟩ ⟨Nat.zero_le _, Nat.zero_le _⟩ rfl rfl (Nat.le_of_ble_eq_true rfl) 3 3 rfl rfl rfl ?_
    refine g_if_ne (tgt := 29) C dX5_keeps_23 (by decide) (fun c23 => ?_) (fun c23 => ?_)
    · have h := ifn h c23
      refine g_aload_n C dX5_keeps_29 rfl 0 rfl ?_
      refine g_get (v := .ref (so 1)) C fl_X5_19 dX5_keeps_30 0 rfl rfl ?_
      refine g_get (v := .ref (sa 1 2)) C fl_X5_84 dX5_keeps_33 3 rfl rfl ?_
      refine g_iload_n C dX5_keeps_36 rfl 1 rfl ?_
      obtain ⟨hg37, h⟩ := ifg h
      refine g_iald (f := ((E.2 1).2 2)) C dX5_keeps_37 4 0 rfl rfl hg37 ?_
      refine g_aload_n C dX5_keeps_38 rfl 0 rfl ?_
      refine g_get (v := .ref (so 1)) C fl_X5_19 dX5_keeps_39 0 rfl rfl ?_
      refine g_get (v := .ref (sa 1 3)) C fl_X5_88 dX5_keeps_42 3 rfl rfl ?_
      refine g_iload_n C dX5_keeps_45 rfl 1 rfl ?_
      obtain ⟨hg46, h⟩ := ifg h
      refine g_iald (f := ((E.2 1).2 3)) C dX5_keeps_46 5 0 rfl rfl hg46 ?_
      refine g_aload_n C dX5_keeps_47 rfl 0 rfl ?_
      refine g_get (v := .ref (so 1)) C fl_X5_19 dX5_keeps_48 0 rfl rfl ?_
      refine g_get (v := .ref (sa 1 4)) C fl_X5_91 dX5_keeps_51 3 rfl rfl ?_
      refine g_iload_n C dX5_keeps_54 rfl 1 rfl ?_
      obtain ⟨hg55, h⟩ := ifg h
      refine g_iald (f := ((E.2 1).2 4)) C dX5_keeps_55 6 0 rfl rfl hg55 ?_
      refine g_iload_n C dX5_keeps_56 rfl 2 rfl ?_
      obtain ⟨r57, h57, h⟩ := obd h
      refine g_callSi (st := []) (ws2 := wEP cC cI cZ o so sa E) C ys_X1_isKept ml_X5_135 dX5_keeps_57 (kX1_isKept l D cC cI cJ cZ (((E.2 1).2 2) x1.toNatClampNeg) (((E.2 1).2 3) x1.toNatClampNeg) (((E.2 1).2 4) x1.toNatClampNeg) x2 r57 h57) gCut_nil ⟨by decide, by decide⟩ ⟨rfl, rfl⟩ ⟨Nat.zero_le _, Nat.zero_le _⟩ rfl rfl (Nat.le_of_ble_eq_true rfl) ?_
      refine g_if_eq (tgt := 67) C dX5_keeps_60 (by decide) (fun c60 => ?_) (fun c60 => ?_)
      · have h := ifp h c60
        refine g_iconst (v := (0 : Int32)) C dX5_keeps_67 (by decide) ?_
        cases sinj h
        exact g_iret C dX5_keeps_68 rfl rfl hQ
      · have h := ifn h c60
        refine g_iconst (v := (1 : Int32)) C dX5_keeps_63 (by decide) ?_
        refine g_goto (tgt := 68) C dX5_keeps_64 (by decide) ?_
        cases sinj h
        exact g_iret C dX5_keeps_68 rfl rfl hQ
    · have h := ifp h c23
      refine g_bipush (v := (-102 : Int32)) C dX5_keeps_26 (by decide) ?_
      cases sinj h
      exact g_iret C dX5_keeps_28 rfl rfl hQ
  · have h := ifp h c8
    refine g_bipush (v := (-101 : Int32)) C dX5_keeps_11 (by decide) ?_
    cases sinj h
    exact g_iret C dX5_keeps_13 rfl rfl hQ
def fX5_mark (E : OE) (x1 : Int32) (x2 : Int32) : Option (Int32 × OE) :=
  ((fX4_hasCell (E.2 1) x1).bind (fun r5 => (if r5 = 0 then some ((-101 : Int32), E)
 else (if x2 < 0 then some ((-102 : Int32), E)
 else (if x2 ≤ (2 : Int32) then ((fX4_howMarked (E.2 1) x1).bind (fun r31 => ((fX4_setMark (E.2 1) x1 x2).bind (fun T41 => some (r31, ((va_up E.1 7 (1 : Int32)), (va_up E.2 1 T41)))))))
 else some ((-102 : Int32), E))))))
set_option maxHeartbeats 4000000 in
set_option maxRecDepth 100000 in
theorem kX5_mark (l : Launch) (D : va_G) (cC cI cJ cZ : ClassId) (o : Nat) (so : Nat → Nat) (sa : Nat → Nat → Nat) (E : OE) (x1 : Int32) (x2 : Int32) (r : Int32) (E' : OE) (h : fX5_mark E x1 x2 = some (r, E')) : gMi l yX5_mark cX5_mark 4 (some .int) (gR 3) D (tysG cC cI cJ cZ) [.ref o, .int x1, .int x2] (wEP cC cI cZ o so sa E) r (wEP cC cI cZ o so sa E') := by
  refine gMi_of (by decide) (Nat.le_of_ble_eq_true rfl) rfl ?_
  intro p e s m args below meth c A Q C hQ
  unfold fX5_mark at h
  refine g_aload_n C dX5_mark_0 rfl 0 rfl ?_
  refine g_get (v := .ref (so 1)) C fl_X5_19 dX5_mark_1 0 rfl rfl ?_
  refine g_iload_n C dX5_mark_4 rfl 1 rfl ?_
  obtain ⟨r5, h5, h⟩ := obd h
  refine g_callVi (st := []) (ws2 := wEP cC cI cZ o so sa E) C yv_X4_hasCell ml_X5_116 dX5_mark_5 (kX4_hasCell l D cC cI cJ cZ (so 1) (sa 1) (E.2 1) x1 r5 h5) (gCut_at [3, 4, 5, 6, 7, 8, 9] [0, 1, 2, 10, 11, 12, 13, 14, 15, 16, 17, 18, 19, 20, 21, 22, 23, 24, 25, 26, 27, 28, 29, 30, 31, 32] [0, 1, 2, 26, 27, 28, 29, 30, 31, 32, 3, 4, 5, 6, 7, 8, 9, 10, 11, 12, 13, 14, 15, 16, 17, 18, 19, 20, 21, 22, 23, 24, 25] rfl rfl rfl rfl (by decide) rfl rfl) ⟨by decide, by decide⟩ ⟨rfl, rfl⟩ ⟨Nat.zero_le _, Nat.zero_le _⟩ rfl rfl (Nat.le_of_ble_eq_true rfl) 3 3 rfl rfl rfl ?_
  refine g_if_ne (tgt := 14) C dX5_mark_8 (by decide) (fun c8 => ?_) (fun c8 => ?_)
  · have h := ifn h c8
    refine g_iload_n C dX5_mark_14 rfl 2 rfl ?_
    refine g_if_lt (tgt := 23) C dX5_mark_15 (by decide) (fun c15 => ?_) (fun c15 => ?_)
    · have h := ifp h c15
      refine g_bipush (v := (-102 : Int32)) C dX5_mark_23 (by decide) ?_
      cases sinj h
      exact g_iret C dX5_mark_25 rfl rfl hQ
    · have h := ifn h c15
      refine g_iload_n C dX5_mark_18 rfl 2 rfl ?_
      refine g_iconst (v := (2 : Int32)) C dX5_mark_19 (by decide) ?_
      refine g_icmp_le (tgt := 26) C dX5_mark_20 (by decide) (fun c20 => ?_) (fun c20 => ?_)
      · have h := ifp h c20
        refine g_aload_n C dX5_mark_26 rfl 0 rfl ?_
        refine g_get (v := .ref (so 1)) C fl_X5_19 dX5_mark_27 0 rfl rfl ?_
        refine g_iload_n C dX5_mark_30 rfl 1 rfl ?_
        obtain ⟨r31, h31, h⟩ := obd h
        refine g_callVi (st := []) (ws2 := wEP cC cI cZ o so sa E) C yv_X4_howMarked ml_X5_119 dX5_mark_31 (kX4_howMarked l D cC cI cJ cZ (so 1) (sa 1) (E.2 1) x1 r31 h31) (gCut_at [3, 4, 5, 6, 7, 8, 9] [0, 1, 2, 10, 11, 12, 13, 14, 15, 16, 17, 18, 19, 20, 21, 22, 23, 24, 25, 26, 27, 28, 29, 30, 31, 32] [0, 1, 2, 26, 27, 28, 29, 30, 31, 32, 3, 4, 5, 6, 7, 8, 9, 10, 11, 12, 13, 14, 15, 16, 17, 18, 19, 20, 21, 22, 23, 24, 25] rfl rfl rfl rfl (by decide) rfl rfl) ⟨by decide, by decide⟩ ⟨rfl, rfl⟩ ⟨Nat.zero_le _, Nat.zero_le _⟩ rfl rfl (Nat.le_of_ble_eq_true rfl) 3 3 rfl rfl rfl ?_
        refine g_istore_n (lv' := [(3, .int r31), (0, .ref o), (1, .int x1), (2, .int x2)]) C dX5_mark_34 rfl (by decide) rfl ?_
        refine g_aload_n C dX5_mark_35 rfl 1 rfl ?_
        refine g_get (v := .ref (so 1)) C fl_X5_19 dX5_mark_36 0 rfl rfl ?_
        refine g_iload_n C dX5_mark_39 rfl 2 rfl ?_
        refine g_iload_n C dX5_mark_40 rfl 3 rfl ?_
        obtain ⟨T41, h41, h⟩ := obd h
        refine g_callVv (st := []) (ws2 := wEP cC cI cZ o so sa (E.1, (va_up E.2 1 T41))) C yv_X4_setMark ml_X5_139 dX5_mark_41 (kX4_setMark l D cC cI cJ cZ (so 1) (sa 1) (E.2 1) x1 x2 T41 h41) (gCut_at [3, 4, 5, 6, 7, 8, 9] [0, 1, 2, 10, 11, 12, 13, 14, 15, 16, 17, 18, 19, 20, 21, 22, 23, 24, 25, 26, 27, 28, 29, 30, 31, 32] [0, 1, 2, 26, 27, 28, 29, 30, 31, 32, 3, 4, 5, 6, 7, 8, 9, 10, 11, 12, 13, 14, 15, 16, 17, 18, 19, 20, 21, 22, 23, 24, 25] rfl rfl rfl rfl (by decide) rfl rfl) ⟨by decide, by decide⟩ ⟨rfl, rfl⟩ ⟨Nat.zero_le _, Nat.zero_le _⟩ rfl rfl (Nat.le_of_ble_eq_true rfl) 3 3 rfl rfl rfl ?_
        refine g_aload_n C dX5_mark_44 rfl 1 rfl ?_
        refine g_iconst (v := (1 : Int32)) C dX5_mark_45 (by decide) ?_
        refine g_put (ws2 := wEP cC cI cZ o so sa ((va_up E.1 7 (1 : Int32)), (va_up E.2 1 T41))) C fp_X5_73 dX5_mark_46 0 rfl rfl rfl (Nat.le_of_ble_eq_true rfl) rfl ?_
        refine g_iload_n C dX5_mark_49 rfl 0 rfl ?_
        cases sinj h
        exact g_iret C dX5_mark_50 rfl rfl hQ
      · have h := ifn h c20
        refine g_bipush (v := (-102 : Int32)) C dX5_mark_23 (by decide) ?_
        cases sinj h
        exact g_iret C dX5_mark_25 rfl rfl hQ
  · have h := ifp h c8
    refine g_bipush (v := (-101 : Int32)) C dX5_mark_11 (by decide) ?_
    cases sinj h
    exact g_iret C dX5_mark_13 rfl rfl hQ
