def fX6_blackOf (M : OM) (x1 : Int32) : Option (Int32 × OM) :=
  ((fX6_freshen M).bind (fun T1 => (if okI x1 16 = true then some (((T1.2.1 23) x1.toNatClampNeg), T1) else none)))
set_option maxHeartbeats 4000000 in
set_option maxRecDepth 100000 in
theorem kX6_blackOf (l : Launch) (D : va_G) (cC cI cJ cZ : ClassId) (o : Nat) (a : Nat → Nat) (M : OM) (x1 : Int32) (r : Int32) (M' : OM) (h : fX6_blackOf M x1 = some (r, M')) : gMi l yX6_blackOf cX6_blackOf 2 (some .int) (gR 7) D (tysG cC cI cJ cZ) [.ref o, .int x1] (wMod cI cJ o a M) r (wMod cI cJ o a M') := by
  refine gMi_of (by decide) (Nat.le_of_ble_eq_true rfl) rfl ?_
  intro p e s m args below meth c A Q C hQ
  unfold fX6_blackOf at h
  refine g_aload_n C dX6_blackOf_0 rfl 0 rfl ?_
  obtain ⟨T1, h1, h⟩ := obd h
  refine g_callVv (st := []) (ws2 := wMod cI cJ o a T1) C yv_X6_freshen ml_X6_220 dX6_blackOf_1 (kX6_freshen l D cC cI cJ cZ o a M T1 h1) gCut_all ⟨by decide, by decide⟩ ⟨rfl, rfl⟩ ⟨Nat.zero_le _, Nat.zero_le _⟩ rfl rfl (Nat.le_of_ble_eq_true rfl) 5 0 rfl rfl rfl ?_
  refine g_aload_n C dX6_blackOf_4 rfl 0 rfl ?_
  refine g_get (v := .ref (a 23)) C fl_X6_38 dX6_blackOf_5 0 rfl rfl ?_
  refine g_iload_n C dX6_blackOf_8 rfl 1 rfl ?_
  obtain ⟨hg9, h⟩ := ifg h
  refine g_iald (f := (T1.2.1 23)) C dX6_blackOf_9 10 0 rfl rfl hg9 ?_
  cases sinj h
  exact g_iret C dX6_blackOf_10 rfl rfl hQ
def fX6_tellCell (M : OM) (x1 : Int32) (x2 : Int32) : Option (Int32 × OM) :=
  (if x2 = 0 then (if okI x1 16 = true then some (((M.2.1 15) x1.toNatClampNeg), M) else none)
 else (if x2 = 1 then ((fX6_blackOf M x1).bind (fun r => (fun r37 T37 => some (r37, T37)) r.1 r.2))
 else (if x2 = 2 then ((fX6_sureOf M x1).bind (fun r => (fun r43 T43 => some (r43, T43)) r.1 r.2))
 else some ((-102 : Int32), M))))
set_option maxHeartbeats 4000000 in
set_option maxRecDepth 100000 in
theorem kX6_tellCell (l : Launch) (D : va_G) (cC cI cJ cZ : ClassId) (o : Nat) (a : Nat → Nat) (M : OM) (x1 : Int32) (x2 : Int32) (r : Int32) (M' : OM) (h : fX6_tellCell M x1 x2 = some (r, M')) : gMi l yX6_tellCell cX6_tellCell 3 (some .int) (gR 8) D (tysG cC cI cJ cZ) [.ref o, .int x1, .int x2] (wMod cI cJ o a M) r (wMod cI cJ o a M') := by
  refine gMi_of (by decide) (Nat.le_of_ble_eq_true rfl) rfl ?_
  intro p e s m args below meth c A Q C hQ
  unfold fX6_tellCell at h
  refine g_iload_n C dX6_tellCell_0 rfl 2 rfl ?_
  by_cases c1_0 : x2 = 0
  · have h := ifp h c1_0
    refine g_tableAt (v := 0) (off := 27) (tgt := 28) C dX6_tellCell_1 c1_0 (by decide) (by decide) rfl (by decide) ?_
    refine g_aload_n C dX6_tellCell_28 rfl 0 rfl ?_
    refine g_get (v := .ref (a 15)) C fl_X6_31 dX6_tellCell_29 0 rfl rfl ?_
    refine g_iload_n C dX6_tellCell_32 rfl 1 rfl ?_
    obtain ⟨hg33, h⟩ := ifg h
    refine g_iald (f := (M.2.1 15)) C dX6_tellCell_33 8 0 rfl rfl hg33 ?_
    cases sinj h
    exact g_iret C dX6_tellCell_34 rfl rfl hQ
  · have h := ifn h c1_0
    by_cases c1_1 : x2 = 1
    · have h := ifp h c1_1
      refine g_tableAt (v := 1) (off := 34) (tgt := 35) C dX6_tellCell_1 c1_1 (by decide) (by decide) rfl (by decide) ?_
      refine g_aload_n C dX6_tellCell_35 rfl 0 rfl ?_
      refine g_iload_n C dX6_tellCell_36 rfl 1 rfl ?_
      obtain ⟨⟨r37, T37⟩, h37, h⟩ := obd h
      refine g_callVi (st := []) (ws2 := wMod cI cJ o a T37) C yv_X6_blackOf ml_X6_236 dX6_tellCell_37 (kX6_blackOf l D cC cI cJ cZ o a M x1 r37 T37 h37) gCut_all ⟨by decide, by decide⟩ ⟨rfl, rfl⟩ ⟨Nat.zero_le _, Nat.zero_le _⟩ rfl rfl (Nat.le_of_ble_eq_true rfl) 5 0 rfl rfl rfl ?_
      cases sinj h
      exact g_iret C dX6_tellCell_40 rfl rfl hQ
    · have h := ifn h c1_1
      by_cases c1_2 : x2 = 2
      · have h := ifp h c1_2
        refine g_tableAt (v := 2) (off := 40) (tgt := 41) C dX6_tellCell_1 c1_2 (by decide) (by decide) rfl (by decide) ?_
        refine g_aload_n C dX6_tellCell_41 rfl 0 rfl ?_
        refine g_iload_n C dX6_tellCell_42 rfl 1 rfl ?_
        obtain ⟨⟨r43, T43⟩, h43, h⟩ := obd h
        refine g_callVi (st := []) (ws2 := wMod cI cJ o a T43) C yv_X6_sureOf ml_X6_239 dX6_tellCell_43 (kX6_sureOf l D cC cI cJ cZ o a M x1 r43 T43 h43) gCut_all ⟨by decide, by decide⟩ ⟨rfl, rfl⟩ ⟨Nat.zero_le _, Nat.zero_le _⟩ rfl rfl (Nat.le_of_ble_eq_true rfl) 5 0 rfl rfl rfl ?_
        cases sinj h
        exact g_iret C dX6_tellCell_46 rfl rfl hQ
      · have h := ifn h c1_2
        refine g_tableOut (tgt := 47) C dX6_tellCell_1 (by have q0 := lv_neT (a := 0) c1_0 (by decide); have q1 := lv_neT (a := 1) c1_1 (by decide); have q2 := lv_neT (a := 2) c1_2 (by decide); omega) (by decide) ?_
        refine g_bipush (v := (-102 : Int32)) C dX6_tellCell_47 (by decide) ?_
        cases sinj h
        exact g_iret C dX6_tellCell_49 rfl rfl hQ
def fX6_cell (M : OM) (x1 : Int32) (x2 : Int32) : Option (Int32 × OM) :=
  ((fX6_isCell M x1).bind (fun r2 => (if r2 = 0 then some ((-101 : Int32), M)
 else ((fX6_tellCell M x1 x2).bind (fun r => (fun r11 T11 => some (r11, T11)) r.1 r.2)))))
set_option maxHeartbeats 4000000 in
set_option maxRecDepth 100000 in
theorem kX6_cell (l : Launch) (D : va_G) (cC cI cJ cZ : ClassId) (o : Nat) (a : Nat → Nat) (M : OM) (x1 : Int32) (x2 : Int32) (r : Int32) (M' : OM) (h : fX6_cell M x1 x2 = some (r, M')) : gMi l yX6_cell cX6_cell 3 (some .int) (gR 9) D (tysG cC cI cJ cZ) [.ref o, .int x1, .int x2] (wMod cI cJ o a M) r (wMod cI cJ o a M') := by
  refine gMi_of (by decide) (Nat.le_of_ble_eq_true rfl) rfl ?_
  intro p e s m args below meth c A Q C hQ
  unfold fX6_cell at h
  refine g_aload_n C dX6_cell_0 rfl 0 rfl ?_
  refine g_iload_n C dX6_cell_1 rfl 1 rfl ?_
  obtain ⟨r2, h2, h⟩ := obd h
  refine g_callVi (st := []) (ws2 := wMod cI cJ o a M) C yv_X6_isCell ml_X6_242 dX6_cell_2 (kX6_isCell l D cC cI cJ cZ o a M x1 r2 h2) gCut_all ⟨by decide, by decide⟩ ⟨rfl, rfl⟩ ⟨Nat.zero_le _, Nat.zero_le _⟩ rfl rfl (Nat.le_of_ble_eq_true rfl) 5 0 rfl rfl rfl ?_
  refine g_if_eq (tgt := 17) C dX6_cell_5 (by decide) (fun c5 => ?_) (fun c5 => ?_)
  · have h := ifp h c5
    refine g_bipush (v := (-101 : Int32)) C dX6_cell_17 (by decide) ?_
    cases sinj h
    exact g_iret C dX6_cell_19 rfl rfl hQ
  · have h := ifn h c5
    refine g_aload_n C dX6_cell_8 rfl 0 rfl ?_
    refine g_iload_n C dX6_cell_9 rfl 1 rfl ?_
    refine g_iload_n C dX6_cell_10 rfl 2 rfl ?_
    obtain ⟨⟨r11, T11⟩, h11, h⟩ := obd h
    refine g_callVi (st := []) (ws2 := wMod cI cJ o a T11) C yv_X6_tellCell ml_X6_245 dX6_cell_11 (kX6_tellCell l D cC cI cJ cZ o a M x1 x2 r11 T11 h11) gCut_all ⟨by decide, by decide⟩ ⟨rfl, rfl⟩ ⟨Nat.zero_le _, Nat.zero_le _⟩ rfl rfl (Nat.le_of_ble_eq_true rfl) 5 0 rfl rfl rfl ?_
    refine g_goto (tgt := 19) C dX6_cell_14 (by decide) ?_
    cases sinj h
    exact g_iret C dX6_cell_19 rfl rfl hQ
def fX6_spareOf (M : OM) (x1 : Int32) : Option (Int32 × OM) :=
  ((fX6_freshen M).bind (fun T1 => ((fX6_layFit ((va_up T1.1 25 x1), T1.2.1, T1.2.2.1, T1.2.2.2)).bind (fun T15 => (if (T1.1 22) = (T15.1 22) then some ((1 : Int32), ((va_up T15.1 20 (1 : Int32)), T15.2.1, T15.2.2.1, T15.2.2.2))
 else some ((0 : Int32), ((va_up T15.1 20 (1 : Int32)), T15.2.1, T15.2.2.1, T15.2.2.2)))))))
set_option maxHeartbeats 4000000 in
set_option maxRecDepth 100000 in
theorem kX6_spareOf (l : Launch) (D : va_G) (cC cI cJ cZ : ClassId) (o : Nat) (a : Nat → Nat) (M : OM) (x1 : Int32) (r : Int32) (M' : OM) (h : fX6_spareOf M x1 = some (r, M')) : gMi l yX6_spareOf cX6_spareOf 4 (some .int) (gR 7) D (tysG cC cI cJ cZ) [.ref o, .int x1] (wMod cI cJ o a M) r (wMod cI cJ o a M') := by
  refine gMi_of (by decide) (Nat.le_of_ble_eq_true rfl) rfl ?_
  intro p e s m args below meth c A Q C hQ
  unfold fX6_spareOf at h
  refine g_aload_n C dX6_spareOf_0 rfl 0 rfl ?_
  obtain ⟨T1, h1, h⟩ := obd h
  refine g_callVv (st := []) (ws2 := wMod cI cJ o a T1) C yv_X6_freshen ml_X6_220 dX6_spareOf_1 (kX6_freshen l D cC cI cJ cZ o a M T1 h1) gCut_all ⟨by decide, by decide⟩ ⟨rfl, rfl⟩ ⟨Nat.zero_le _, Nat.zero_le _⟩ rfl rfl (Nat.le_of_ble_eq_true rfl) 5 0 rfl rfl rfl ?_
  refine g_aload_n C dX6_spareOf_4 rfl 0 rfl ?_
  refine g_get (v := .int (T1.1 22)) C fl_X6_201 dX6_spareOf_5 0 rfl rfl ?_
  refine g_istore_n (lv' := [(2, .int (T1.1 22)), (0, .ref o), (1, .int x1)]) C dX6_spareOf_8 rfl (by decide) rfl ?_
  refine g_aload_n C dX6_spareOf_9 rfl 1 rfl ?_
  refine g_iload_n C dX6_spareOf_10 rfl 2 rfl ?_
  refine g_put (ws2 := wMod cI cJ o a ((va_up T1.1 25 x1), T1.2.1, T1.2.2.1, T1.2.2.2)) C fp_X6_189 dX6_spareOf_11 0 rfl rfl rfl (Nat.le_of_ble_eq_true rfl) rfl ?_
  refine g_aload_n C dX6_spareOf_14 rfl 1 rfl ?_
  obtain ⟨T15, h15, h⟩ := obd h
  refine g_callVv (st := []) (ws2 := wMod cI cJ o a T15) C yv_X6_layFit ml_X6_211 dX6_spareOf_15 (kX6_layFit l D cC cI cJ cZ o a ((va_up T1.1 25 x1), T1.2.1, T1.2.2.1, T1.2.2.2) T15 h15) gCut_all ⟨by decide, by decide⟩ ⟨rfl, rfl⟩ ⟨Nat.zero_le _, Nat.zero_le _⟩ rfl rfl (Nat.le_of_ble_eq_true rfl) 5 0 rfl rfl rfl ?_
  refine g_aload_n C dX6_spareOf_18 rfl 1 rfl ?_
  refine g_get (v := .int (T15.1 22)) C fl_X6_201 dX6_spareOf_19 0 rfl rfl ?_
  refine g_istore_n (lv' := [(3, .int (T15.1 22)), (2, .int (T1.1 22)), (0, .ref o), (1, .int x1)]) C dX6_spareOf_22 rfl (by decide) rfl ?_
  refine g_aload_n C dX6_spareOf_23 rfl 2 rfl ?_
  refine g_iconst (v := (1 : Int32)) C dX6_spareOf_24 (by decide) ?_
  refine g_put (ws2 := wMod cI cJ o a ((va_up T15.1 20 (1 : Int32)), T15.2.1, T15.2.2.1, T15.2.2.2)) C fp_X6_72 dX6_spareOf_25 0 rfl rfl rfl (Nat.le_of_ble_eq_true rfl) rfl ?_
  refine g_iload_n C dX6_spareOf_28 rfl 1 rfl ?_
  refine g_iload_n C dX6_spareOf_29 rfl 0 rfl ?_
  refine g_icmp_ne (tgt := 37) C dX6_spareOf_30 (by decide) (fun c30 => ?_) (fun c30 => ?_)
  · have h := ifn h c30
    refine g_iconst (v := (0 : Int32)) C dX6_spareOf_37 (by decide) ?_
    cases sinj h
    exact g_iret C dX6_spareOf_38 rfl rfl hQ
  · have h := ifp h c30
    refine g_iconst (v := (1 : Int32)) C dX6_spareOf_33 (by decide) ?_
    refine g_goto (tgt := 38) C dX6_spareOf_34 (by decide) ?_
    cases sinj h
    exact g_iret C dX6_spareOf_38 rfl rfl hQ
def fX6_keptBy_L5 (x1_L5 : Int32) (x2_L5 : Int32) (x3_L5 : Int32) (x4_L5 : Int32) (M_L5 : OM) : Option ((Int32 × Int32 × OM) ⊕ (Int32 × OM)) :=
  (if (5 : Int32) ≤ x4_L5 then some (.inr (x3_L5, M_L5))
 else (if okI x1_L5 8 = true then (if okI x1_L5 8 = true then ((fX6_isKept M_L5 x4_L5 ((M_L5.2.1 13) x1_L5.toNatClampNeg) ((M_L5.2.1 14) x1_L5.toNatClampNeg) x2_L5).bind (fun r => (fun r28 T28 => (if r28 = 0 then some (.inl ((x3_L5 ||| (0 : Int32)), (x4_L5 + (1 : Int32)), T28))
 else some (.inl ((x3_L5 ||| ((1 : Int32) <<< (x4_L5 &&& 31))), (x4_L5 + (1 : Int32)), T28)))) r.1 r.2)) else none) else none))
def fX6_keptBy_J50 (x3_J50 : Int32) (M_J50 : OM) : Option (Int32 × OM) :=
  some (x3_J50, M_J50)
def fX6_keptBy (M : OM) (x1 : Int32) (x2 : Int32) : Option (Int32 × OM) :=
  ((wh (σ := Int32 × Int32 × OM) (ρ := Int32 × OM) (fun t => fX6_keptBy_L5 x1 x2 t.1 t.2.1 t.2.2) 100000 ((0 : Int32), (0 : Int32), M)).bind (fun X => (fun e3_L5 M_E5 => fX6_keptBy_J50 e3_L5 M_E5) X.1 X.2))
set_option maxHeartbeats 4000000 in
set_option maxRecDepth 100000 in
theorem kX6_keptBy (l : Launch) (D : va_G) (cC cI cJ cZ : ClassId) (o : Nat) (a : Nat → Nat) (M : OM) (x1 : Int32) (x2 : Int32) (r : Int32) (M' : OM) (h : fX6_keptBy M x1 x2 = some (r, M')) : gMi l yX6_keptBy cX6_keptBy 5 (some .int) (gR 3) D (tysG cC cI cJ cZ) [.ref o, .int x1, .int x2] (wMod cI cJ o a M) r (wMod cI cJ o a M') := by
  refine gMi_of (by decide) (Nat.le_of_ble_eq_true rfl) rfl ?_
  intro p e s m args below meth c A Q C hQ
  have j50 : ∀ (x3_J50 : Int32) (M_J50 : OM), fX6_keptBy_J50 x3_J50 M_J50 = some (r, M') → gG p l e (gR 3) s m args below meth c 5 D A 0 0 Q 50 [(3, .int x3_J50)] [] (wMod cI cJ o a M_J50) := by
    intro x3_J50 M_J50 h
    unfold fX6_keptBy_J50 at h
    refine g_iload_n C dX6_keptBy_50 rfl 0 rfl ?_
    cases sinj h
    exact g_iret C dX6_keptBy_51 rfl rfl hQ
  unfold fX6_keptBy at h
  refine g_iconst (v := (0 : Int32)) C dX6_keptBy_0 (by decide) ?_
  refine g_istore_n (lv' := [(3, .int (0 : Int32)), (0, .ref o), (1, .int x1), (2, .int x2)]) C dX6_keptBy_1 rfl (by decide) rfl ?_
  refine g_iconst (v := (0 : Int32)) C dX6_keptBy_2 (by decide) ?_
  refine g_istore (lv' := [(4, .int (0 : Int32)), (3, .int (0 : Int32)), (0, .ref o), (1, .int x1), (2, .int x2)]) C dX6_keptBy_3 (by decide) rfl ?_
  obtain ⟨X5, hW5, hK5⟩ := obd h
  have l5 : ∀ (fu5 : Nat) (x3_L5 : Int32) (x4_L5 : Int32) (M_L5 : OM), wh (σ := Int32 × Int32 × OM) (ρ := Int32 × OM) (fun t => fX6_keptBy_L5 x1 x2 t.1 t.2.1 t.2.2) fu5 (x3_L5, x4_L5, M_L5) = some X5 → gG p l e (gR 3) s m args below meth c 5 D A 0 0 Q 5 [(0, .ref o), (1, .int x1), (2, .int x2), (3, .int x3_L5), (4, .int x4_L5)] [] (wMod cI cJ o a M_L5) := by
    intro fu5
    induction fu5 with
    | zero => intro x3_L5 x4_L5 M_L5 hW; exact (wh_0 hW).elim
    | succ fu5 ih5 =>
      intro x3_L5 x4_L5 M_L5 hW
      obtain ⟨z5, h, hw5⟩ := wh_s hW
      replace h : fX6_keptBy_L5 x1 x2 x3_L5 x4_L5 M_L5 = some z5 := h
      unfold fX6_keptBy_L5 at h
      refine g_iload C dX6_keptBy_5 4 rfl ?_
      refine g_iconst (v := (5 : Int32)) C dX6_keptBy_7 (by decide) ?_
      refine g_icmp_ge (tgt := 50) C dX6_keptBy_8 (by decide) (fun c8 => ?_) (fun c8 => ?_)
      · have h := ifp h c8
        obtain rfl := sinj h
        obtain rfl := wk_r hw5
        have h := hK5
        refine g_lv [3] rfl ?_
        exact j50 x3_L5 M_L5 h
      · have h := ifn h c8
        refine g_iload_n C dX6_keptBy_11 rfl 3 rfl ?_
        refine g_aload_n C dX6_keptBy_12 rfl 0 rfl ?_
        refine g_iload C dX6_keptBy_13 4 rfl ?_
        refine g_aload_n C dX6_keptBy_15 rfl 0 rfl ?_
        refine g_get (v := .ref (a 13)) C fl_X6_25 dX6_keptBy_16 0 rfl rfl ?_
        refine g_iload_n C dX6_keptBy_19 rfl 1 rfl ?_
        obtain ⟨hg20, h⟩ := ifg h
        refine g_iald (f := (M_L5.2.1 13)) C dX6_keptBy_20 6 0 rfl rfl hg20 ?_
        refine g_aload_n C dX6_keptBy_21 rfl 0 rfl ?_
        refine g_get (v := .ref (a 14)) C fl_X6_28 dX6_keptBy_22 0 rfl rfl ?_
        refine g_iload_n C dX6_keptBy_25 rfl 1 rfl ?_
        obtain ⟨hg26, h⟩ := ifg h
        refine g_iald (f := (M_L5.2.1 14)) C dX6_keptBy_26 7 0 rfl rfl hg26 ?_
        refine g_iload_n C dX6_keptBy_27 rfl 2 rfl ?_
        obtain ⟨⟨r28, T28⟩, h28, h⟩ := obd h
        refine g_callVi (st := [.int x3_L5]) (ws2 := wMod cI cJ o a T28) C yv_X6_isKept ml_X6_176 dX6_keptBy_28 (kX6_isKept l D cC cI cJ cZ o a M_L5 x4_L5 ((M_L5.2.1 13) x1.toNatClampNeg) ((M_L5.2.1 14) x1.toNatClampNeg) x2 r28 T28 h28) gCut_all ⟨by decide, by decide⟩ ⟨rfl, rfl⟩ ⟨Nat.zero_le _, Nat.zero_le _⟩ rfl rfl (Nat.le_of_ble_eq_true rfl) 5 0 rfl rfl rfl ?_
        refine g_if_eq (tgt := 41) C dX6_keptBy_31 (by decide) (fun c31 => ?_) (fun c31 => ?_)
        · have h := ifp h c31
          refine g_iconst (v := (0 : Int32)) C dX6_keptBy_41 (by decide) ?_
          refine g_ior C dX6_keptBy_42 ?_
          refine g_istore_n (lv' := [(3, .int (x3_L5 ||| (0 : Int32))), (0, .ref o), (1, .int x1), (2, .int x2), (4, .int x4_L5)]) C dX6_keptBy_43 rfl (by decide) rfl ?_
          refine g_iinc (j := 4) (v := (x4_L5 + (1 : Int32))) (lv' := [(4, .int (x4_L5 + (1 : Int32))), (3, .int (x3_L5 ||| (0 : Int32))), (0, .ref o), (1, .int x1), (2, .int x2)]) C dX6_keptBy_44 rfl rfl (by decide) rfl ?_
          refine g_goto (tgt := 5) C dX6_keptBy_47 (by decide) ?_
          obtain rfl := sinj h
          refine g_lv [2, 3, 4, 1, 0] rfl ?_
          exact ih5 (x3_L5 ||| (0 : Int32)) (x4_L5 + (1 : Int32)) T28 hw5
        · have h := ifn h c31
          refine g_iconst (v := (1 : Int32)) C dX6_keptBy_34 (by decide) ?_
          refine g_iload C dX6_keptBy_35 4 rfl ?_
          refine g_ishl C dX6_keptBy_37 ?_
          refine g_goto (tgt := 42) C dX6_keptBy_38 (by decide) ?_
          refine g_ior C dX6_keptBy_42 ?_
          refine g_istore_n (lv' := [(3, .int (x3_L5 ||| ((1 : Int32) <<< (x4_L5 &&& 31)))), (0, .ref o), (1, .int x1), (2, .int x2), (4, .int x4_L5)]) C dX6_keptBy_43 rfl (by decide) rfl ?_
          refine g_iinc (j := 4) (v := (x4_L5 + (1 : Int32))) (lv' := [(4, .int (x4_L5 + (1 : Int32))), (3, .int (x3_L5 ||| ((1 : Int32) <<< (x4_L5 &&& 31)))), (0, .ref o), (1, .int x1), (2, .int x2)]) C dX6_keptBy_44 rfl rfl (by decide) rfl ?_
          refine g_goto (tgt := 5) C dX6_keptBy_47 (by decide) ?_
          obtain rfl := sinj h
          refine g_lv [2, 3, 4, 1, 0] rfl ?_
          exact ih5 (x3_L5 ||| ((1 : Int32) <<< (x4_L5 &&& 31))) (x4_L5 + (1 : Int32)) T28 hw5
  refine g_lv [2, 3, 4, 1, 0] rfl ?_
  exact l5 100000 (0 : Int32) (0 : Int32) M hW5
def fX6_sortsOf_L5 (x1_L5 : Int32) (x2_L5 : Int32) (x3_L5 : Int32) (M_L5 : OM) : Option ((Int32 × Int32 × OM) ⊕ (Int32 × OM)) :=
  (if ((3 : Int32) * (M_L5.1 28)) ≤ x3_L5 then some (.inr (x2_L5, M_L5))
 else (if okI x3_L5 18 = true then (if ((M_L5.2.1 29) x3_L5.toNatClampNeg) = x1_L5 then (if okI (x3_L5 + (1 : Int32)) 18 = true then ((fX6_keptBy M_L5 x1_L5 ((M_L5.2.1 29) (x3_L5 + (1 : Int32)).toNatClampNeg)).bind (fun r => (fun r35 T35 => (if okI (x3_L5 + (2 : Int32)) 18 = true then (if ((T35.2.1 29) (x3_L5 + (2 : Int32)).toNatClampNeg) = (1 : Int32) then some (.inl ((x2_L5 &&& r35), (x3_L5 + (3 : Int32)), T35))
 else some (.inl ((x2_L5 &&& ((31 : Int32) - r35)), (x3_L5 + (3 : Int32)), T35))) else none)) r.1 r.2)) else none)
 else some (.inl (x2_L5, (x3_L5 + (3 : Int32)), M_L5))) else none))
def fX6_sortsOf_J71 (x2_J71 : Int32) (M_J71 : OM) : Option (Int32 × OM) :=
  some (x2_J71, M_J71)
def fX6_sortsOf (M : OM) (x1 : Int32) : Option (Int32 × OM) :=
  ((wh (σ := Int32 × Int32 × OM) (ρ := Int32 × OM) (fun t => fX6_sortsOf_L5 x1 t.1 t.2.1 t.2.2) 100000 ((31 : Int32), (0 : Int32), M)).bind (fun X => (fun e2_L5 M_E5 => fX6_sortsOf_J71 e2_L5 M_E5) X.1 X.2))
set_option maxHeartbeats 4000000 in
set_option maxRecDepth 100000 in
theorem kX6_sortsOf (l : Launch) (D : va_G) (cC cI cJ cZ : ClassId) (o : Nat) (a : Nat → Nat) (M : OM) (x1 : Int32) (r : Int32) (M' : OM) (h : fX6_sortsOf M x1 = some (r, M')) : gMi l yX6_sortsOf cX6_sortsOf 5 (some .int) (gR 4) D (tysG cC cI cJ cZ) [.ref o, .int x1] (wMod cI cJ o a M) r (wMod cI cJ o a M') := by
  refine gMi_of (by decide) (Nat.le_of_ble_eq_true rfl) rfl ?_
  intro p e s m args below meth c A Q C hQ
  have j71 : ∀ (x2_J71 : Int32) (M_J71 : OM), fX6_sortsOf_J71 x2_J71 M_J71 = some (r, M') → gG p l e (gR 4) s m args below meth c 5 D A 0 0 Q 71 [(2, .int x2_J71)] [] (wMod cI cJ o a M_J71) := by
    intro x2_J71 M_J71 h
    unfold fX6_sortsOf_J71 at h
    refine g_iload_n C dX6_sortsOf_71 rfl 0 rfl ?_
    cases sinj h
    exact g_iret C dX6_sortsOf_72 rfl rfl hQ
  unfold fX6_sortsOf at h
  refine g_bipush (v := (31 : Int32)) C dX6_sortsOf_0 (by decide) ?_
  refine g_istore_n (lv' := [(2, .int (31 : Int32)), (0, .ref o), (1, .int x1)]) C dX6_sortsOf_2 rfl (by decide) rfl ?_
  refine g_iconst (v := (0 : Int32)) C dX6_sortsOf_3 (by decide) ?_
  refine g_istore_n (lv' := [(3, .int (0 : Int32)), (2, .int (31 : Int32)), (0, .ref o), (1, .int x1)]) C dX6_sortsOf_4 rfl (by decide) rfl ?_
  obtain ⟨X5, hW5, hK5⟩ := obd h
  have l5 : ∀ (fu5 : Nat) (x2_L5 : Int32) (x3_L5 : Int32) (M_L5 : OM), wh (σ := Int32 × Int32 × OM) (ρ := Int32 × OM) (fun t => fX6_sortsOf_L5 x1 t.1 t.2.1 t.2.2) fu5 (x2_L5, x3_L5, M_L5) = some X5 → gG p l e (gR 4) s m args below meth c 5 D A 0 0 Q 5 [(0, .ref o), (1, .int x1), (2, .int x2_L5), (3, .int x3_L5)] [] (wMod cI cJ o a M_L5) := by
    intro fu5
    induction fu5 with
    | zero => intro x2_L5 x3_L5 M_L5 hW; exact (wh_0 hW).elim
    | succ fu5 ih5 =>
      intro x2_L5 x3_L5 M_L5 hW
      obtain ⟨z5, h, hw5⟩ := wh_s hW
      replace h : fX6_sortsOf_L5 x1 x2_L5 x3_L5 M_L5 = some z5 := h
      unfold fX6_sortsOf_L5 at h
      refine g_iload_n C dX6_sortsOf_5 rfl 3 rfl ?_
      refine g_iconst (v := (3 : Int32)) C dX6_sortsOf_6 (by decide) ?_
      refine g_aload_n C dX6_sortsOf_7 rfl 0 rfl ?_
      refine g_get (v := .int (M_L5.1 28)) C fl_X6_151 dX6_sortsOf_8 0 rfl rfl ?_
      refine g_imul C dX6_sortsOf_11 ?_
      refine g_icmp_ge (tgt := 71) C dX6_sortsOf_12 (by decide) (fun c12 => ?_) (fun c12 => ?_)
      · have h := ifp h c12
        obtain rfl := sinj h
        obtain rfl := wk_r hw5
        have h := hK5
        refine g_lv [2] rfl ?_
        exact j71 x2_L5 M_L5 h
      · have h := ifn h c12
        refine g_aload_n C dX6_sortsOf_15 rfl 0 rfl ?_
        refine g_get (v := .ref (a 29)) C fl_X6_44 dX6_sortsOf_16 0 rfl rfl ?_
        refine g_iload_n C dX6_sortsOf_19 rfl 3 rfl ?_
        obtain ⟨hg20, h⟩ := ifg h
        refine g_iald (f := (M_L5.2.1 29)) C dX6_sortsOf_20 12 0 rfl rfl hg20 ?_
        refine g_iload_n C dX6_sortsOf_21 rfl 1 rfl ?_
        refine g_icmp_ne (tgt := 65) C dX6_sortsOf_22 (by decide) (fun c22 => ?_) (fun c22 => ?_)
        · have h := ifn h c22
          refine g_iinc (j := 3) (v := (x3_L5 + (3 : Int32))) (lv' := [(3, .int (x3_L5 + (3 : Int32))), (0, .ref o), (1, .int x1), (2, .int x2_L5)]) C dX6_sortsOf_65 rfl rfl (by decide) rfl ?_
          refine g_goto (tgt := 5) C dX6_sortsOf_68 (by decide) ?_
          obtain rfl := sinj h
          refine g_lv [1, 2, 3, 0] rfl ?_
          exact ih5 x2_L5 (x3_L5 + (3 : Int32)) M_L5 hw5
        · have h := ifp h c22
          refine g_aload_n C dX6_sortsOf_25 rfl 0 rfl ?_
          refine g_iload_n C dX6_sortsOf_26 rfl 1 rfl ?_
          refine g_aload_n C dX6_sortsOf_27 rfl 0 rfl ?_
          refine g_get (v := .ref (a 29)) C fl_X6_44 dX6_sortsOf_28 0 rfl rfl ?_
          refine g_iload_n C dX6_sortsOf_31 rfl 3 rfl ?_
          refine g_iconst (v := (1 : Int32)) C dX6_sortsOf_32 (by decide) ?_
          refine g_iadd C dX6_sortsOf_33 ?_
          obtain ⟨hg34, h⟩ := ifg h
          refine g_iald (f := (M_L5.2.1 29)) C dX6_sortsOf_34 12 0 rfl rfl hg34 ?_
          obtain ⟨⟨r35, T35⟩, h35, h⟩ := obd h
          refine g_callVi (st := []) (ws2 := wMod cI cJ o a T35) C yv_X6_keptBy ml_X6_306 dX6_sortsOf_35 (kX6_keptBy l D cC cI cJ cZ o a M_L5 x1 ((M_L5.2.1 29) (x3_L5 + (1 : Int32)).toNatClampNeg) r35 T35 h35) gCut_all ⟨by decide, by decide⟩ ⟨rfl, rfl⟩ ⟨Nat.zero_le _, Nat.zero_le _⟩ rfl rfl (Nat.le_of_ble_eq_true rfl) 5 0 rfl rfl rfl ?_
          refine g_istore (lv' := [(4, .int r35), (0, .ref o), (1, .int x1), (2, .int x2_L5), (3, .int x3_L5)]) C dX6_sortsOf_38 (by decide) rfl ?_
          refine g_iload_n C dX6_sortsOf_40 rfl 3 rfl ?_
          refine g_aload_n C dX6_sortsOf_41 rfl 1 rfl ?_
          refine g_get (v := .ref (a 29)) C fl_X6_44 dX6_sortsOf_42 0 rfl rfl ?_
          refine g_iload_n C dX6_sortsOf_45 rfl 4 rfl ?_
          refine g_iconst (v := (2 : Int32)) C dX6_sortsOf_46 (by decide) ?_
          refine g_iadd C dX6_sortsOf_47 ?_
          obtain ⟨hg48, h⟩ := ifg h
          refine g_iald (f := (T35.2.1 29)) C dX6_sortsOf_48 12 0 rfl rfl hg48 ?_
          refine g_iconst (v := (1 : Int32)) C dX6_sortsOf_49 (by decide) ?_
          refine g_icmp_ne (tgt := 58) C dX6_sortsOf_50 (by decide) (fun c50 => ?_) (fun c50 => ?_)
          · have h := ifn h c50
            refine g_bipush (v := (31 : Int32)) C dX6_sortsOf_58 (by decide) ?_
            refine g_iload C dX6_sortsOf_60 0 rfl ?_
            refine g_isub C dX6_sortsOf_62 ?_
            refine g_iand C dX6_sortsOf_63 ?_
            refine g_istore_n (lv' := [(2, .int (x2_L5 &&& ((31 : Int32) - r35))), (4, .int r35), (0, .ref o), (1, .int x1), (3, .int x3_L5)]) C dX6_sortsOf_64 rfl (by decide) rfl ?_
            refine g_iinc (j := 4) (v := (x3_L5 + (3 : Int32))) (lv' := [(3, .int (x3_L5 + (3 : Int32))), (2, .int (x2_L5 &&& ((31 : Int32) - r35))), (4, .int r35), (0, .ref o), (1, .int x1)]) C dX6_sortsOf_65 rfl rfl (by decide) rfl ?_
            refine g_goto (tgt := 5) C dX6_sortsOf_68 (by decide) ?_
            obtain rfl := sinj h
            refine g_lv [3, 4, 1, 0] rfl ?_
            exact ih5 (x2_L5 &&& ((31 : Int32) - r35)) (x3_L5 + (3 : Int32)) T35 hw5
          · have h := ifp h c50
            refine g_iload C dX6_sortsOf_53 0 rfl ?_
            refine g_goto (tgt := 63) C dX6_sortsOf_55 (by decide) ?_
            refine g_iand C dX6_sortsOf_63 ?_
            refine g_istore_n (lv' := [(2, .int (x2_L5 &&& r35)), (4, .int r35), (0, .ref o), (1, .int x1), (3, .int x3_L5)]) C dX6_sortsOf_64 rfl (by decide) rfl ?_
            refine g_iinc (j := 4) (v := (x3_L5 + (3 : Int32))) (lv' := [(3, .int (x3_L5 + (3 : Int32))), (2, .int (x2_L5 &&& r35)), (4, .int r35), (0, .ref o), (1, .int x1)]) C dX6_sortsOf_65 rfl rfl (by decide) rfl ?_
            refine g_goto (tgt := 5) C dX6_sortsOf_68 (by decide) ?_
            obtain rfl := sinj h
            refine g_lv [3, 4, 1, 0] rfl ?_
            exact ih5 (x2_L5 &&& r35) (x3_L5 + (3 : Int32)) T35 hw5
  refine g_lv [2, 3, 1, 0] rfl ?_
  exact l5 100000 (31 : Int32) (0 : Int32) M hW5
def fX6_tryOf_J83 (x1_L15 : Int32) (x2_L15 : Int32) (x4_J83 : Int32) (x5_J83 : Int32) (x8_J83 : Int32) (s0_J83 : Int32) (M_J83 : OM) : Option ((Int32 × Int32 × Int32 × OM) ⊕ (Int32 × OM)) :=
  (if x4_J83 ≤ x8_J83 then some (.inl (s0_J83, x4_J83, (x5_J83 + (1 : Int32)), M_J83))
 else some (.inl (s0_J83, x8_J83, (x5_J83 + (1 : Int32)), M_J83)))
def fX6_tryOf_J68 (x1_L15 : Int32) (x2_L15 : Int32) (x3_J68 : Int32) (x4_J68 : Int32) (x5_J68 : Int32) (s0_J68 : Int32) (M_J68 : OM) : Option ((Int32 × Int32 × Int32 × OM) ⊕ (Int32 × OM)) :=
  (if x4_J68 ≤ s0_J68 then fX6_tryOf_J83 x1_L15 x2_L15 x4_J68 x5_J68 s0_J68 x3_J68 M_J68
 else fX6_tryOf_J83 x1_L15 x2_L15 x4_J68 x5_J68 s0_J68 x5_J68 M_J68)
def fX6_tryOf_L15 (x1_L15 : Int32) (x2_L15 : Int32) (x3_L15 : Int32) (x4_L15 : Int32) (x5_L15 : Int32) (M_L15 : OM) : Option ((Int32 × Int32 × Int32 × OM) ⊕ (Int32 × OM)) :=
  ((fX6_cellsOf M_L15 x1_L15).bind (fun r20 => (if ((1 : Int32) <<< (r20 &&& 31)) ≤ x5_L15 then some (.inr (x3_L15, M_L15))
 else (if x2_L15 = 0 then some (.inr (x3_L15, M_L15))
 else ((fX6_keptBy M_L15 x1_L15 x5_L15).bind (fun r => (fun r36 T36 => ((fX6_ones (x2_L15 &&& r36)).bind (fun r40 => ((fX6_ones x2_L15).bind (fun r46 => (if r40 ≤ (r46 - r40) then fX6_tryOf_J68 x1_L15 x2_L15 x3_L15 x4_L15 x5_L15 (r46 - r40) T36
 else fX6_tryOf_J68 x1_L15 x2_L15 x3_L15 x4_L15 x5_L15 r40 T36)))))) r.1 r.2))))))
def fX6_tryOf_J106 (x3_J106 : Int32) (M_J106 : OM) : Option (Int32 × OM) :=
  some (x3_J106, M_J106)
def fX6_tryOf (M : OM) (x1 : Int32) : Option (Int32 × OM) :=
  ((fX6_sortsOf M x1).bind (fun r => (fun r2 T2 => ((wh (σ := Int32 × Int32 × Int32 × OM) (ρ := Int32 × OM) (fun t => fX6_tryOf_L15 x1 r2 t.1 t.2.1 t.2.2.1 t.2.2.2) 100000 ((-1 : Int32), (6 : Int32), (0 : Int32), T2)).bind (fun X => (fun e3_L15 M_E15 => fX6_tryOf_J106 e3_L15 M_E15) X.1 X.2))) r.1 r.2))
set_option maxHeartbeats 4000000 in
set_option maxRecDepth 100000 in
theorem kX6_tryOf (l : Launch) (D : va_G) (cC cI cJ cZ : ClassId) (o : Nat) (a : Nat → Nat) (M : OM) (x1 : Int32) (r : Int32) (M' : OM) (h : fX6_tryOf M x1 = some (r, M')) : gMi l yX6_tryOf cX6_tryOf 9 (some .int) (gR 5) D (tysG cC cI cJ cZ) [.ref o, .int x1] (wMod cI cJ o a M) r (wMod cI cJ o a M') := by
  refine gMi_of (by decide) (Nat.le_of_ble_eq_true rfl) rfl ?_
  intro p e s m args below meth c A Q C hQ
  have j106 : ∀ (x3_J106 : Int32) (M_J106 : OM), fX6_tryOf_J106 x3_J106 M_J106 = some (r, M') → gG p l e (gR 5) s m args below meth c 9 D A 0 0 Q 106 [(3, .int x3_J106)] [] (wMod cI cJ o a M_J106) := by
    intro x3_J106 M_J106 h
    unfold fX6_tryOf_J106 at h
    refine g_iload_n C dX6_tryOf_106 rfl 0 rfl ?_
    cases sinj h
    exact g_iret C dX6_tryOf_107 rfl rfl hQ
  unfold fX6_tryOf at h
  refine g_aload_n C dX6_tryOf_0 rfl 0 rfl ?_
  refine g_iload_n C dX6_tryOf_1 rfl 1 rfl ?_
  obtain ⟨⟨r2, T2⟩, h2, h⟩ := obd h
  refine g_callVi (st := []) (ws2 := wMod cI cJ o a T2) C yv_X6_sortsOf ml_X6_251 dX6_tryOf_2 (kX6_sortsOf l D cC cI cJ cZ o a M x1 r2 T2 h2) gCut_all ⟨by decide, by decide⟩ ⟨rfl, rfl⟩ ⟨Nat.zero_le _, Nat.zero_le _⟩ rfl rfl (Nat.le_of_ble_eq_true rfl) 5 0 rfl rfl rfl ?_
  refine g_istore_n (lv' := [(2, .int r2), (0, .ref o), (1, .int x1)]) C dX6_tryOf_5 rfl (by decide) rfl ?_
  refine g_iconst (v := (-1 : Int32)) C dX6_tryOf_6 (by decide) ?_
  refine g_istore_n (lv' := [(3, .int (-1 : Int32)), (2, .int r2), (0, .ref o), (1, .int x1)]) C dX6_tryOf_7 rfl (by decide) rfl ?_
  refine g_bipush (v := (6 : Int32)) C dX6_tryOf_8 (by decide) ?_
  refine g_istore (lv' := [(4, .int (6 : Int32)), (3, .int (-1 : Int32)), (2, .int r2), (0, .ref o), (1, .int x1)]) C dX6_tryOf_10 (by decide) rfl ?_
  refine g_iconst (v := (0 : Int32)) C dX6_tryOf_12 (by decide) ?_
  refine g_istore (lv' := [(5, .int (0 : Int32)), (4, .int (6 : Int32)), (3, .int (-1 : Int32)), (2, .int r2), (0, .ref o), (1, .int x1)]) C dX6_tryOf_13 (by decide) rfl ?_
  obtain ⟨X15, hW15, hK15⟩ := obd h
  have l15 : ∀ (fu15 : Nat) (x3_L15 : Int32) (x4_L15 : Int32) (x5_L15 : Int32) (M_L15 : OM), wh (σ := Int32 × Int32 × Int32 × OM) (ρ := Int32 × OM) (fun t => fX6_tryOf_L15 x1 r2 t.1 t.2.1 t.2.2.1 t.2.2.2) fu15 (x3_L15, x4_L15, x5_L15, M_L15) = some X15 → gG p l e (gR 5) s m args below meth c 9 D A 0 0 Q 15 [(0, .ref o), (1, .int x1), (2, .int r2), (3, .int x3_L15), (4, .int x4_L15), (5, .int x5_L15)] [] (wMod cI cJ o a M_L15) := by
    intro fu15
    induction fu15 with
    | zero => intro x3_L15 x4_L15 x5_L15 M_L15 hW; exact (wh_0 hW).elim
    | succ fu15 ih15 =>
      intro x3_L15 x4_L15 x5_L15 M_L15 hW
      obtain ⟨z15, h, hw15⟩ := wh_s hW
      have j83 : ∀ (x4_J83 : Int32) (x5_J83 : Int32) (x8_J83 : Int32) (s0_J83 : Int32) (M_J83 : OM) (z15 : (Int32 × Int32 × Int32 × OM) ⊕ (Int32 × OM)), fX6_tryOf_J83 x1 r2 x4_J83 x5_J83 x8_J83 s0_J83 M_J83 = some z15 → wk (fun t => fX6_tryOf_L15 x1 r2 t.1 t.2.1 t.2.2.1 t.2.2.2) fu15 z15 = some X15 → gG p l e (gR 5) s m args below meth c 9 D A 0 0 Q 83 [(0, .ref o), (1, .int x1), (2, .int r2), (4, .int x4_J83), (5, .int x5_J83), (8, .int x8_J83)] [.int s0_J83] (wMod cI cJ o a M_J83) := by
        intro x4_J83 x5_J83 x8_J83 s0_J83 M_J83 z15 h hw15
        unfold fX6_tryOf_J83 at h
        refine g_istore_n (lv' := [(3, .int s0_J83), (0, .ref o), (1, .int x1), (2, .int r2), (4, .int x4_J83), (5, .int x5_J83), (8, .int x8_J83)]) C dX6_tryOf_83 rfl (by decide) rfl ?_
        refine g_iload C dX6_tryOf_84 6 rfl ?_
        refine g_iload C dX6_tryOf_86 4 rfl ?_
        refine g_icmp_ge (tgt := 96) C dX6_tryOf_88 (by decide) (fun c88 => ?_) (fun c88 => ?_)
        · have h := ifp h c88
          refine g_iload C dX6_tryOf_96 4 rfl ?_
          refine g_istore (lv' := [(4, .int x4_J83), (3, .int s0_J83), (0, .ref o), (1, .int x1), (2, .int r2), (5, .int x5_J83), (8, .int x8_J83)]) C dX6_tryOf_98 (by decide) rfl ?_
          refine g_iinc (j := 5) (v := (x5_J83 + (1 : Int32))) (lv' := [(5, .int (x5_J83 + (1 : Int32))), (4, .int x4_J83), (3, .int s0_J83), (0, .ref o), (1, .int x1), (2, .int r2), (8, .int x8_J83)]) C dX6_tryOf_100 rfl rfl (by decide) rfl ?_
          refine g_goto (tgt := 15) C dX6_tryOf_103 (by decide) ?_
          obtain rfl := sinj h
          refine g_lv [3, 4, 5, 2, 1, 0] rfl ?_
          exact ih15 s0_J83 x4_J83 (x5_J83 + (1 : Int32)) M_J83 hw15
        · have h := ifn h c88
          refine g_iload C dX6_tryOf_91 6 rfl ?_
          refine g_goto (tgt := 98) C dX6_tryOf_93 (by decide) ?_
          refine g_istore (lv' := [(4, .int x8_J83), (3, .int s0_J83), (0, .ref o), (1, .int x1), (2, .int r2), (5, .int x5_J83), (8, .int x8_J83)]) C dX6_tryOf_98 (by decide) rfl ?_
          refine g_iinc (j := 5) (v := (x5_J83 + (1 : Int32))) (lv' := [(5, .int (x5_J83 + (1 : Int32))), (4, .int x8_J83), (3, .int s0_J83), (0, .ref o), (1, .int x1), (2, .int r2), (8, .int x8_J83)]) C dX6_tryOf_100 rfl rfl (by decide) rfl ?_
          refine g_goto (tgt := 15) C dX6_tryOf_103 (by decide) ?_
          obtain rfl := sinj h
          refine g_lv [3, 4, 5, 2, 1, 0] rfl ?_
          exact ih15 s0_J83 x8_J83 (x5_J83 + (1 : Int32)) M_J83 hw15
      have j68 : ∀ (x3_J68 : Int32) (x4_J68 : Int32) (x5_J68 : Int32) (s0_J68 : Int32) (M_J68 : OM) (z15 : (Int32 × Int32 × Int32 × OM) ⊕ (Int32 × OM)), fX6_tryOf_J68 x1 r2 x3_J68 x4_J68 x5_J68 s0_J68 M_J68 = some z15 → wk (fun t => fX6_tryOf_L15 x1 r2 t.1 t.2.1 t.2.2.1 t.2.2.2) fu15 z15 = some X15 → gG p l e (gR 5) s m args below meth c 9 D A 0 0 Q 68 [(0, .ref o), (1, .int x1), (2, .int r2), (3, .int x3_J68), (4, .int x4_J68), (5, .int x5_J68)] [.int s0_J68] (wMod cI cJ o a M_J68) := by
        intro x3_J68 x4_J68 x5_J68 s0_J68 M_J68 z15 h hw15
        unfold fX6_tryOf_J68 at h
        refine g_istore (lv' := [(8, .int s0_J68), (0, .ref o), (1, .int x1), (2, .int r2), (3, .int x3_J68), (4, .int x4_J68), (5, .int x5_J68)]) C dX6_tryOf_68 (by decide) rfl ?_
        refine g_iload C dX6_tryOf_70 0 rfl ?_
        refine g_iload C dX6_tryOf_72 5 rfl ?_
        refine g_icmp_ge (tgt := 82) C dX6_tryOf_74 (by decide) (fun c74 => ?_) (fun c74 => ?_)
        · have h := ifp h c74
          refine g_iload_n C dX6_tryOf_82 rfl 4 rfl ?_
          refine g_lv [1, 2, 3, 5, 6, 0] rfl ?_
          exact j83 x4_J68 x5_J68 s0_J68 x3_J68 M_J68 _ h hw15
        · have h := ifn h c74
          refine g_iload C dX6_tryOf_77 6 rfl ?_
          refine g_goto (tgt := 83) C dX6_tryOf_79 (by decide) ?_
          refine g_lv [1, 2, 3, 5, 6, 0] rfl ?_
          exact j83 x4_J68 x5_J68 s0_J68 x5_J68 M_J68 _ h hw15
      replace h : fX6_tryOf_L15 x1 r2 x3_L15 x4_L15 x5_L15 M_L15 = some z15 := h
      unfold fX6_tryOf_L15 at h
      refine g_iload C dX6_tryOf_15 5 rfl ?_
      refine g_iconst (v := (1 : Int32)) C dX6_tryOf_17 (by decide) ?_
      refine g_aload_n C dX6_tryOf_18 rfl 0 rfl ?_
      refine g_iload_n C dX6_tryOf_19 rfl 1 rfl ?_
      obtain ⟨r20, h20, h⟩ := obd h
      refine g_callVi (st := [.int (1 : Int32), .int x5_L15]) (ws2 := wMod cI cJ o a M_L15) C yv_X6_cellsOf ml_X6_183 dX6_tryOf_20 (kX6_cellsOf l D cC cI cJ cZ o a M_L15 x1 r20 h20) gCut_all ⟨by decide, by decide⟩ ⟨rfl, rfl⟩ ⟨Nat.zero_le _, Nat.zero_le _⟩ rfl rfl (Nat.le_of_ble_eq_true rfl) 5 0 rfl rfl rfl ?_
      refine g_ishl C dX6_tryOf_23 ?_
      refine g_icmp_ge (tgt := 106) C dX6_tryOf_24 (by decide) (fun c24 => ?_) (fun c24 => ?_)
      · have h := ifp h c24
        obtain rfl := sinj h
        obtain rfl := wk_r hw15
        have h := hK15
        refine g_lv [3] rfl ?_
        exact j106 x3_L15 M_L15 h
      · have h := ifn h c24
        refine g_iload_n C dX6_tryOf_27 rfl 2 rfl ?_
        refine g_if_eq (tgt := 106) C dX6_tryOf_28 (by decide) (fun c28 => ?_) (fun c28 => ?_)
        · have h := ifp h c28
          obtain rfl := sinj h
          obtain rfl := wk_r hw15
          have h := hK15
          refine g_lv [3] rfl ?_
          exact j106 x3_L15 M_L15 h
        · have h := ifn h c28
          refine g_iload_n C dX6_tryOf_31 rfl 2 rfl ?_
          refine g_aload_n C dX6_tryOf_32 rfl 0 rfl ?_
          refine g_iload_n C dX6_tryOf_33 rfl 1 rfl ?_
          refine g_iload C dX6_tryOf_34 5 rfl ?_
          obtain ⟨⟨r36, T36⟩, h36, h⟩ := obd h
          refine g_callVi (st := [.int r2]) (ws2 := wMod cI cJ o a T36) C yv_X6_keptBy ml_X6_306 dX6_tryOf_36 (kX6_keptBy l D cC cI cJ cZ o a M_L15 x1 x5_L15 r36 T36 h36) gCut_all ⟨by decide, by decide⟩ ⟨rfl, rfl⟩ ⟨Nat.zero_le _, Nat.zero_le _⟩ rfl rfl (Nat.le_of_ble_eq_true rfl) 5 0 rfl rfl rfl ?_
          refine g_iand C dX6_tryOf_39 ?_
          obtain ⟨r40, h40, h⟩ := obd h
          refine g_callSi (st := []) (ws2 := wMod cI cJ o a T36) C ys_X6_ones ml_X6_173 dX6_tryOf_40 (kX6_ones l D cC cI cJ cZ (r2 &&& r36) r40 h40) gCut_nil ⟨by decide, by decide⟩ ⟨rfl, rfl⟩ ⟨Nat.zero_le _, Nat.zero_le _⟩ rfl rfl (Nat.le_of_ble_eq_true rfl) ?_
          refine g_istore (lv' := [(6, .int r40), (0, .ref o), (1, .int x1), (2, .int r2), (3, .int x3_L15), (4, .int x4_L15), (5, .int x5_L15)]) C dX6_tryOf_43 (by decide) rfl ?_
          refine g_iload_n C dX6_tryOf_45 rfl 3 rfl ?_
          obtain ⟨r46, h46, h⟩ := obd h
          refine g_callSi (st := []) (ws2 := wMod cI cJ o a T36) C ys_X6_ones ml_X6_173 dX6_tryOf_46 (kX6_ones l D cC cI cJ cZ r2 r46 h46) gCut_nil ⟨by decide, by decide⟩ ⟨rfl, rfl⟩ ⟨Nat.zero_le _, Nat.zero_le _⟩ rfl rfl (Nat.le_of_ble_eq_true rfl) ?_
          refine g_iload C dX6_tryOf_49 0 rfl ?_
          refine g_isub C dX6_tryOf_51 ?_
          refine g_istore (lv' := [(7, .int (r46 - r40)), (6, .int r40), (0, .ref o), (1, .int x1), (2, .int r2), (3, .int x3_L15), (4, .int x4_L15), (5, .int x5_L15)]) C dX6_tryOf_52 (by decide) rfl ?_
          refine g_iload C dX6_tryOf_54 1 rfl ?_
          refine g_iload C dX6_tryOf_56 0 rfl ?_
          refine g_icmp_le (tgt := 66) C dX6_tryOf_58 (by decide) (fun c58 => ?_) (fun c58 => ?_)
          · have h := ifp h c58
            refine g_iload C dX6_tryOf_66 0 rfl ?_
            refine g_lv [2, 3, 4, 5, 6, 7] rfl ?_
            exact j68 x3_L15 x4_L15 x5_L15 (r46 - r40) T36 _ h hw15
          · have h := ifn h c58
            refine g_iload C dX6_tryOf_61 1 rfl ?_
            refine g_goto (tgt := 68) C dX6_tryOf_63 (by decide) ?_
            refine g_lv [2, 3, 4, 5, 6, 7] rfl ?_
            exact j68 x3_L15 x4_L15 x5_L15 r40 T36 _ h hw15
  refine g_lv [4, 5, 3, 2, 1, 0] rfl ?_
  exact l15 100000 (-1 : Int32) (6 : Int32) (0 : Int32) T2 hW15
def fX6_tellLine (M : OM) (x1 : Int32) (x2 : Int32) : Option (Int32 × OM) :=
  (if x2 = 0 then (if okI x1 8 = true then some (((M.2.1 12) x1.toNatClampNeg), M) else none)
 else (if x2 = 1 then (if okI x1 8 = true then some (((M.2.1 13) x1.toNatClampNeg), M) else none)
 else (if x2 = 2 then (if okI x1 8 = true then some (((M.2.1 14) x1.toNatClampNeg), M) else none)
 else (if x2 = 3 then ((fX6_cellsOf M x1).bind (fun r67 => some (r67, M)))
 else (if x2 = 4 then ((fX6_spareOf M x1).bind (fun r => (fun r73 T73 => some (r73, T73)) r.1 r.2))
 else (if x2 = 5 then ((fX6_sortsOf M x1).bind (fun r => (fun r79 T79 => some (r79, T79)) r.1 r.2))
 else (if x2 = 6 then ((fX6_tryOf M x1).bind (fun r => (fun r85 T85 => some (r85, T85)) r.1 r.2))
 else some ((-102 : Int32), M))))))))
set_option maxHeartbeats 4000000 in
set_option maxRecDepth 100000 in
theorem kX6_tellLine (l : Launch) (D : va_G) (cC cI cJ cZ : ClassId) (o : Nat) (a : Nat → Nat) (M : OM) (x1 : Int32) (x2 : Int32) (r : Int32) (M' : OM) (h : fX6_tellLine M x1 x2 = some (r, M')) : gMi l yX6_tellLine cX6_tellLine 3 (some .int) (gR 8) D (tysG cC cI cJ cZ) [.ref o, .int x1, .int x2] (wMod cI cJ o a M) r (wMod cI cJ o a M') := by
  refine gMi_of (by decide) (Nat.le_of_ble_eq_true rfl) rfl ?_
  intro p e s m args below meth c A Q C hQ
  unfold fX6_tellLine at h
  refine g_iload_n C dX6_tellLine_0 rfl 2 rfl ?_
  by_cases c1_0 : x2 = 0
  · have h := ifp h c1_0
    refine g_tableAt (v := 0) (off := 43) (tgt := 44) C dX6_tellLine_1 c1_0 (by decide) (by decide) rfl (by decide) ?_
    refine g_aload_n C dX6_tellLine_44 rfl 0 rfl ?_
    refine g_get (v := .ref (a 12)) C fl_X6_22 dX6_tellLine_45 0 rfl rfl ?_
    refine g_iload_n C dX6_tellLine_48 rfl 1 rfl ?_
    obtain ⟨hg49, h⟩ := ifg h
    refine g_iald (f := (M.2.1 12)) C dX6_tellLine_49 5 0 rfl rfl hg49 ?_
    cases sinj h
    exact g_iret C dX6_tellLine_50 rfl rfl hQ
  · have h := ifn h c1_0
    by_cases c1_1 : x2 = 1
    · have h := ifp h c1_1
      refine g_tableAt (v := 1) (off := 50) (tgt := 51) C dX6_tellLine_1 c1_1 (by decide) (by decide) rfl (by decide) ?_
      refine g_aload_n C dX6_tellLine_51 rfl 0 rfl ?_
      refine g_get (v := .ref (a 13)) C fl_X6_25 dX6_tellLine_52 0 rfl rfl ?_
      refine g_iload_n C dX6_tellLine_55 rfl 1 rfl ?_
      obtain ⟨hg56, h⟩ := ifg h
      refine g_iald (f := (M.2.1 13)) C dX6_tellLine_56 6 0 rfl rfl hg56 ?_
      cases sinj h
      exact g_iret C dX6_tellLine_57 rfl rfl hQ
    · have h := ifn h c1_1
      by_cases c1_2 : x2 = 2
      · have h := ifp h c1_2
        refine g_tableAt (v := 2) (off := 57) (tgt := 58) C dX6_tellLine_1 c1_2 (by decide) (by decide) rfl (by decide) ?_
        refine g_aload_n C dX6_tellLine_58 rfl 0 rfl ?_
        refine g_get (v := .ref (a 14)) C fl_X6_28 dX6_tellLine_59 0 rfl rfl ?_
        refine g_iload_n C dX6_tellLine_62 rfl 1 rfl ?_
        obtain ⟨hg63, h⟩ := ifg h
        refine g_iald (f := (M.2.1 14)) C dX6_tellLine_63 7 0 rfl rfl hg63 ?_
        cases sinj h
        exact g_iret C dX6_tellLine_64 rfl rfl hQ
      · have h := ifn h c1_2
        by_cases c1_3 : x2 = 3
        · have h := ifp h c1_3
          refine g_tableAt (v := 3) (off := 64) (tgt := 65) C dX6_tellLine_1 c1_3 (by decide) (by decide) rfl (by decide) ?_
          refine g_aload_n C dX6_tellLine_65 rfl 0 rfl ?_
          refine g_iload_n C dX6_tellLine_66 rfl 1 rfl ?_
          obtain ⟨r67, h67, h⟩ := obd h
          refine g_callVi (st := []) (ws2 := wMod cI cJ o a M) C yv_X6_cellsOf ml_X6_183 dX6_tellLine_67 (kX6_cellsOf l D cC cI cJ cZ o a M x1 r67 h67) gCut_all ⟨by decide, by decide⟩ ⟨rfl, rfl⟩ ⟨Nat.zero_le _, Nat.zero_le _⟩ rfl rfl (Nat.le_of_ble_eq_true rfl) 5 0 rfl rfl rfl ?_
          cases sinj h
          exact g_iret C dX6_tellLine_70 rfl rfl hQ
        · have h := ifn h c1_3
          by_cases c1_4 : x2 = 4
          · have h := ifp h c1_4
            refine g_tableAt (v := 4) (off := 70) (tgt := 71) C dX6_tellLine_1 c1_4 (by decide) (by decide) rfl (by decide) ?_
            refine g_aload_n C dX6_tellLine_71 rfl 0 rfl ?_
            refine g_iload_n C dX6_tellLine_72 rfl 1 rfl ?_
            obtain ⟨⟨r73, T73⟩, h73, h⟩ := obd h
            refine g_callVi (st := []) (ws2 := wMod cI cJ o a T73) C yv_X6_spareOf ml_X6_248 dX6_tellLine_73 (kX6_spareOf l D cC cI cJ cZ o a M x1 r73 T73 h73) gCut_all ⟨by decide, by decide⟩ ⟨rfl, rfl⟩ ⟨Nat.zero_le _, Nat.zero_le _⟩ rfl rfl (Nat.le_of_ble_eq_true rfl) 5 0 rfl rfl rfl ?_
            cases sinj h
            exact g_iret C dX6_tellLine_76 rfl rfl hQ
          · have h := ifn h c1_4
            by_cases c1_5 : x2 = 5
            · have h := ifp h c1_5
              refine g_tableAt (v := 5) (off := 76) (tgt := 77) C dX6_tellLine_1 c1_5 (by decide) (by decide) rfl (by decide) ?_
              refine g_aload_n C dX6_tellLine_77 rfl 0 rfl ?_
              refine g_iload_n C dX6_tellLine_78 rfl 1 rfl ?_
              obtain ⟨⟨r79, T79⟩, h79, h⟩ := obd h
              refine g_callVi (st := []) (ws2 := wMod cI cJ o a T79) C yv_X6_sortsOf ml_X6_251 dX6_tellLine_79 (kX6_sortsOf l D cC cI cJ cZ o a M x1 r79 T79 h79) gCut_all ⟨by decide, by decide⟩ ⟨rfl, rfl⟩ ⟨Nat.zero_le _, Nat.zero_le _⟩ rfl rfl (Nat.le_of_ble_eq_true rfl) 5 0 rfl rfl rfl ?_
              cases sinj h
              exact g_iret C dX6_tellLine_82 rfl rfl hQ
            · have h := ifn h c1_5
              by_cases c1_6 : x2 = 6
              · have h := ifp h c1_6
                refine g_tableAt (v := 6) (off := 82) (tgt := 83) C dX6_tellLine_1 c1_6 (by decide) (by decide) rfl (by decide) ?_
                refine g_aload_n C dX6_tellLine_83 rfl 0 rfl ?_
                refine g_iload_n C dX6_tellLine_84 rfl 1 rfl ?_
                obtain ⟨⟨r85, T85⟩, h85, h⟩ := obd h
                refine g_callVi (st := []) (ws2 := wMod cI cJ o a T85) C yv_X6_tryOf ml_X6_254 dX6_tellLine_85 (kX6_tryOf l D cC cI cJ cZ o a M x1 r85 T85 h85) gCut_all ⟨by decide, by decide⟩ ⟨rfl, rfl⟩ ⟨Nat.zero_le _, Nat.zero_le _⟩ rfl rfl (Nat.le_of_ble_eq_true rfl) 5 0 rfl rfl rfl ?_
                cases sinj h
                exact g_iret C dX6_tellLine_88 rfl rfl hQ
              · have h := ifn h c1_6
                refine g_tableOut (tgt := 89) C dX6_tellLine_1 (by have q0 := lv_neT (a := 0) c1_0 (by decide); have q1 := lv_neT (a := 1) c1_1 (by decide); have q2 := lv_neT (a := 2) c1_2 (by decide); have q3 := lv_neT (a := 3) c1_3 (by decide); have q4 := lv_neT (a := 4) c1_4 (by decide); have q5 := lv_neT (a := 5) c1_5 (by decide); have q6 := lv_neT (a := 6) c1_6 (by decide); omega) (by decide) ?_
                refine g_bipush (v := (-102 : Int32)) C dX6_tellLine_89 (by decide) ?_
                cases sinj h
                exact g_iret C dX6_tellLine_91 rfl rfl hQ
def fX6_line (M : OM) (x1 : Int32) (x2 : Int32) : Option (Int32 × OM) :=
  ((fX6_isLine M x1).bind (fun r2 => (if r2 = 0 then some ((-101 : Int32), M)
 else ((fX6_tellLine M x1 x2).bind (fun r => (fun r11 T11 => some (r11, T11)) r.1 r.2)))))
set_option maxHeartbeats 4000000 in
set_option maxRecDepth 100000 in
theorem kX6_line (l : Launch) (D : va_G) (cC cI cJ cZ : ClassId) (o : Nat) (a : Nat → Nat) (M : OM) (x1 : Int32) (x2 : Int32) (r : Int32) (M' : OM) (h : fX6_line M x1 x2 = some (r, M')) : gMi l yX6_line cX6_line 3 (some .int) (gR 9) D (tysG cC cI cJ cZ) [.ref o, .int x1, .int x2] (wMod cI cJ o a M) r (wMod cI cJ o a M') := by
  refine gMi_of (by decide) (Nat.le_of_ble_eq_true rfl) rfl ?_
  intro p e s m args below meth c A Q C hQ
  unfold fX6_line at h
  refine g_aload_n C dX6_line_0 rfl 0 rfl ?_
  refine g_iload_n C dX6_line_1 rfl 1 rfl ?_
  obtain ⟨r2, h2, h⟩ := obd h
  refine g_callVi (st := []) (ws2 := wMod cI cJ o a M) C yv_X6_isLine ml_X6_180 dX6_line_2 (kX6_isLine l D cC cI cJ cZ o a M x1 r2 h2) gCut_all ⟨by decide, by decide⟩ ⟨rfl, rfl⟩ ⟨Nat.zero_le _, Nat.zero_le _⟩ rfl rfl (Nat.le_of_ble_eq_true rfl) 5 0 rfl rfl rfl ?_
  refine g_if_eq (tgt := 17) C dX6_line_5 (by decide) (fun c5 => ?_) (fun c5 => ?_)
  · have h := ifp h c5
    refine g_bipush (v := (-101 : Int32)) C dX6_line_17 (by decide) ?_
    cases sinj h
    exact g_iret C dX6_line_19 rfl rfl hQ
  · have h := ifn h c5
    refine g_aload_n C dX6_line_8 rfl 0 rfl ?_
    refine g_iload_n C dX6_line_9 rfl 1 rfl ?_
    refine g_iload_n C dX6_line_10 rfl 2 rfl ?_
    obtain ⟨⟨r11, T11⟩, h11, h⟩ := obd h
    refine g_callVi (st := []) (ws2 := wMod cI cJ o a T11) C yv_X6_tellLine ml_X6_257 dX6_line_11 (kX6_tellLine l D cC cI cJ cZ o a M x1 x2 r11 T11 h11) gCut_all ⟨by decide, by decide⟩ ⟨rfl, rfl⟩ ⟨Nat.zero_le _, Nat.zero_le _⟩ rfl rfl (Nat.le_of_ble_eq_true rfl) 5 0 rfl rfl rfl ?_
    refine g_goto (tgt := 19) C dX6_line_14 (by decide) ?_
    cases sinj h
    exact g_iret C dX6_line_19 rfl rfl hQ
def fX6_as_J60 (M : OM) (x1_J60 : Int32) (s0_J60 : Int32) : Option (Int32) :=
  (if s0_J60 = 0 then some (-1 : Int32)
 else some x1_J60)
def fX6_as_J55 (M : OM) (x1_J55 : Int32) : Option (Int32) :=
  fX6_as_J60 M x1_J55 (1 : Int32)
def fX6_as_J59 (M : OM) (x1_J59 : Int32) : Option (Int32) :=
  fX6_as_J60 M x1_J59 (0 : Int32)
def fX6_as (M : OM) (x1 : Int32) (x2 : Int32) : Option (Int32) :=
  ((fX6_isLine M x1).bind (fun r2 => (if r2 = 0 then some (-101 : Int32)
 else ((fX6_in x2.toInt64 (0 : Int64) (4 : Int64)).bind (fun r17 => (if r17 = 0 then some (-102 : Int32)
 else (if x2 = 0 then fX6_as_J55 M x1
 else (if okI x1 8 = true then (if x2 = ((M.2.1 12) x1.toNatClampNeg) then fX6_as_J55 M x1
 else (if x2 = (1 : Int32) then (if okI x1 8 = true then (if ((M.2.1 12) x1.toNatClampNeg) = (4 : Int32) then fX6_as_J55 M x1
 else fX6_as_J59 M x1) else none)
 else fX6_as_J59 M x1)) else none))))))))
set_option maxHeartbeats 4000000 in
set_option maxRecDepth 100000 in
theorem kX6_as (l : Launch) (D : va_G) (cC cI cJ cZ : ClassId) (o : Nat) (a : Nat → Nat) (M : OM) (x1 : Int32) (x2 : Int32) (r : Int32) (h : fX6_as M x1 x2 = some r) : gMi l yX6_as cX6_as 4 (some .int) (gR 3) D (tysG cC cI cJ cZ) [.ref o, .int x1, .int x2] (wMod cI cJ o a M) r (wMod cI cJ o a M) := by
  refine gMi_of (by decide) (Nat.le_of_ble_eq_true rfl) rfl ?_
  intro p e s m args below meth c A Q C hQ
  have j60 : ∀ (x1_J60 : Int32) (s0_J60 : Int32), fX6_as_J60 M x1_J60 s0_J60 = some r → gG p l e (gR 3) s m args below meth c 4 D A 0 0 Q 60 [(1, .int x1_J60)] [.int s0_J60] (wMod cI cJ o a M) := by
    intro x1_J60 s0_J60 h
    unfold fX6_as_J60 at h
    refine g_istore_n (lv' := [(3, .int s0_J60), (1, .int x1_J60)]) C dX6_as_60 rfl (by decide) rfl ?_
    refine g_iload_n C dX6_as_61 rfl 0 rfl ?_
    refine g_if_eq (tgt := 69) C dX6_as_62 (by decide) (fun c62 => ?_) (fun c62 => ?_)
    · have h := ifp h c62
      refine g_iconst (v := (-1 : Int32)) C dX6_as_69 (by decide) ?_
      cases sinj h
      exact g_iret C dX6_as_70 rfl rfl hQ
    · have h := ifn h c62
      refine g_iload_n C dX6_as_65 rfl 1 rfl ?_
      refine g_goto (tgt := 70) C dX6_as_66 (by decide) ?_
      cases sinj h
      exact g_iret C dX6_as_70 rfl rfl hQ
  have j59 : ∀ (x1_J59 : Int32), fX6_as_J59 M x1_J59 = some r → gG p l e (gR 3) s m args below meth c 4 D A 0 0 Q 59 [(1, .int x1_J59)] [] (wMod cI cJ o a M) := by
    intro x1_J59 h
    unfold fX6_as_J59 at h
    refine g_iconst (v := (0 : Int32)) C dX6_as_59 (by decide) ?_
    refine g_lv [0] rfl ?_
    exact j60 x1_J59 (0 : Int32) h
  have j55 : ∀ (x1_J55 : Int32), fX6_as_J55 M x1_J55 = some r → gG p l e (gR 3) s m args below meth c 4 D A 0 0 Q 55 [(1, .int x1_J55)] [] (wMod cI cJ o a M) := by
    intro x1_J55 h
    unfold fX6_as_J55 at h
    refine g_iconst (v := (1 : Int32)) C dX6_as_55 (by decide) ?_
    refine g_goto (tgt := 60) C dX6_as_56 (by decide) ?_
    refine g_lv [0] rfl ?_
    exact j60 x1_J55 (1 : Int32) h
  unfold fX6_as at h
  refine g_aload_n C dX6_as_0 rfl 0 rfl ?_
  refine g_iload_n C dX6_as_1 rfl 1 rfl ?_
  obtain ⟨r2, h2, h⟩ := obd h
  refine g_callVi (st := []) (ws2 := wMod cI cJ o a M) C yv_X6_isLine ml_X6_180 dX6_as_2 (kX6_isLine l D cC cI cJ cZ o a M x1 r2 h2) gCut_all ⟨by decide, by decide⟩ ⟨rfl, rfl⟩ ⟨Nat.zero_le _, Nat.zero_le _⟩ rfl rfl (Nat.le_of_ble_eq_true rfl) 5 0 rfl rfl rfl ?_
  refine g_if_ne (tgt := 11) C dX6_as_5 (by decide) (fun c5 => ?_) (fun c5 => ?_)
  · have h := ifn h c5
    refine g_iload_n C dX6_as_11 rfl 2 rfl ?_
    refine g_i2l C dX6_as_12 ?_
    refine g_lconst (v := (0 : Int64)) C dX6_as_13 (by decide) ?_
    refine g_ldc2 C dX6_as_14 ck_X6_260 ?_
    obtain ⟨r17, h17, h⟩ := obd h
    refine g_callSi (st := []) (ws2 := wMod cI cJ o a M) C ys_X6_in ml_X6_78 dX6_as_17 (kX6_in l D cC cI cJ cZ x2.toInt64 (0 : Int64) (4 : Int64) r17 h17) gCut_nil ⟨by decide, by decide⟩ ⟨rfl, rfl⟩ ⟨Nat.zero_le _, Nat.zero_le _⟩ rfl rfl (Nat.le_of_ble_eq_true rfl) ?_
    refine g_if_ne (tgt := 26) C dX6_as_20 (by decide) (fun c20 => ?_) (fun c20 => ?_)
    · have h := ifn h c20
      refine g_iload_n C dX6_as_26 rfl 2 rfl ?_
      refine g_if_eq (tgt := 55) C dX6_as_27 (by decide) (fun c27 => ?_) (fun c27 => ?_)
      · have h := ifp h c27
        refine g_lv [1] rfl ?_
        exact j55 x1 h
      · have h := ifn h c27
        refine g_iload_n C dX6_as_30 rfl 2 rfl ?_
        refine g_aload_n C dX6_as_31 rfl 0 rfl ?_
        refine g_get (v := .ref (a 12)) C fl_X6_22 dX6_as_32 0 rfl rfl ?_
        refine g_iload_n C dX6_as_35 rfl 1 rfl ?_
        obtain ⟨hg36, h⟩ := ifg h
        refine g_iald (f := (M.2.1 12)) C dX6_as_36 5 0 rfl rfl hg36 ?_
        refine g_icmp_eq (tgt := 55) C dX6_as_37 (by decide) (fun c37 => ?_) (fun c37 => ?_)
        · have h := ifp h c37
          refine g_lv [1] rfl ?_
          exact j55 x1 h
        · have h := ifn h c37
          refine g_iload_n C dX6_as_40 rfl 2 rfl ?_
          refine g_iconst (v := (1 : Int32)) C dX6_as_41 (by decide) ?_
          refine g_icmp_ne (tgt := 59) C dX6_as_42 (by decide) (fun c42 => ?_) (fun c42 => ?_)
          · have h := ifn h c42
            refine g_lv [1] rfl ?_
            exact j59 x1 h
          · have h := ifp h c42
            refine g_aload_n C dX6_as_45 rfl 0 rfl ?_
            refine g_get (v := .ref (a 12)) C fl_X6_22 dX6_as_46 0 rfl rfl ?_
            refine g_iload_n C dX6_as_49 rfl 1 rfl ?_
            obtain ⟨hg50, h⟩ := ifg h
            refine g_iald (f := (M.2.1 12)) C dX6_as_50 5 0 rfl rfl hg50 ?_
            refine g_iconst (v := (4 : Int32)) C dX6_as_51 (by decide) ?_
            refine g_icmp_ne (tgt := 59) C dX6_as_52 (by decide) (fun c52 => ?_) (fun c52 => ?_)
            · have h := ifn h c52
              refine g_lv [1] rfl ?_
              exact j59 x1 h
            · have h := ifp h c52
              refine g_lv [1] rfl ?_
              exact j55 x1 h
    · have h := ifp h c20
      refine g_bipush (v := (-102 : Int32)) C dX6_as_23 (by decide) ?_
      cases sinj h
      exact g_iret C dX6_as_25 rfl rfl hQ
  · have h := ifp h c5
    refine g_bipush (v := (-101 : Int32)) C dX6_as_8 (by decide) ?_
    cases sinj h
    exact g_iret C dX6_as_10 rfl rfl hQ
def fX6_mark (M : OM) (x1 : Int32) (x2 : Int32) : Option (Int32 × OM) :=
  ((fX6_isCell M x1).bind (fun r2 => (if r2 = 0 then some ((-101 : Int32), M)
 else ((fX6_in x2.toInt64 (0 : Int64) (2 : Int64)).bind (fun r17 => (if r17 = 0 then some ((-102 : Int32), M)
 else (if okI x1 16 = true then (if okI x1 16 = true then some (((M.2.1 15) x1.toNatClampNeg), ((va_up M.1 20 (1 : Int32)), (va_up M.2.1 15 (upd (M.2.1 15) x1.toNatClampNeg x2)), M.2.2.1, M.2.2.2)) else none) else none)))))))
set_option maxHeartbeats 4000000 in
set_option maxRecDepth 100000 in
theorem kX6_mark (l : Launch) (D : va_G) (cC cI cJ cZ : ClassId) (o : Nat) (a : Nat → Nat) (M : OM) (x1 : Int32) (x2 : Int32) (r : Int32) (M' : OM) (h : fX6_mark M x1 x2 = some (r, M')) : gMi l yX6_mark cX6_mark 4 (some .int) (gR 3) D (tysG cC cI cJ cZ) [.ref o, .int x1, .int x2] (wMod cI cJ o a M) r (wMod cI cJ o a M') := by
  refine gMi_of (by decide) (Nat.le_of_ble_eq_true rfl) rfl ?_
  intro p e s m args below meth c A Q C hQ
  unfold fX6_mark at h
  refine g_aload_n C dX6_mark_0 rfl 0 rfl ?_
  refine g_iload_n C dX6_mark_1 rfl 1 rfl ?_
  obtain ⟨r2, h2, h⟩ := obd h
  refine g_callVi (st := []) (ws2 := wMod cI cJ o a M) C yv_X6_isCell ml_X6_242 dX6_mark_2 (kX6_isCell l D cC cI cJ cZ o a M x1 r2 h2) gCut_all ⟨by decide, by decide⟩ ⟨rfl, rfl⟩ ⟨Nat.zero_le _, Nat.zero_le _⟩ rfl rfl (Nat.le_of_ble_eq_true rfl) 5 0 rfl rfl rfl ?_
  refine g_if_ne (tgt := 11) C dX6_mark_5 (by decide) (fun c5 => ?_) (fun c5 => ?_)
  · have h := ifn h c5
    refine g_iload_n C dX6_mark_11 rfl 2 rfl ?_
    refine g_i2l C dX6_mark_12 ?_
    refine g_lconst (v := (0 : Int64)) C dX6_mark_13 (by decide) ?_
    refine g_ldc2 C dX6_mark_14 ck_X6_262 ?_
    obtain ⟨r17, h17, h⟩ := obd h
    refine g_callSi (st := []) (ws2 := wMod cI cJ o a M) C ys_X6_in ml_X6_78 dX6_mark_17 (kX6_in l D cC cI cJ cZ x2.toInt64 (0 : Int64) (2 : Int64) r17 h17) gCut_nil ⟨by decide, by decide⟩ ⟨rfl, rfl⟩ ⟨Nat.zero_le _, Nat.zero_le _⟩ rfl rfl (Nat.le_of_ble_eq_true rfl) ?_
    refine g_if_ne (tgt := 26) C dX6_mark_20 (by decide) (fun c20 => ?_) (fun c20 => ?_)
    · have h := ifn h c20
      refine g_aload_n C dX6_mark_26 rfl 0 rfl ?_
      refine g_get (v := .ref (a 15)) C fl_X6_31 dX6_mark_27 0 rfl rfl ?_
      refine g_iload_n C dX6_mark_30 rfl 1 rfl ?_
      obtain ⟨hg31, h⟩ := ifg h
      refine g_iald (f := (M.2.1 15)) C dX6_mark_31 8 0 rfl rfl hg31 ?_
      refine g_istore_n (lv' := [(3, .int ((M.2.1 15) x1.toNatClampNeg)), (0, .ref o), (1, .int x1), (2, .int x2)]) C dX6_mark_32 rfl (by decide) rfl ?_
      refine g_aload_n C dX6_mark_33 rfl 1 rfl ?_
      refine g_get (v := .ref (a 15)) C fl_X6_31 dX6_mark_34 0 rfl rfl ?_
      refine g_iload_n C dX6_mark_37 rfl 2 rfl ?_
      refine g_iload_n C dX6_mark_38 rfl 3 rfl ?_
      obtain ⟨hg39, h⟩ := ifg h
      refine g_iast (f := (M.2.1 15)) (ws2 := wMod cI cJ o a (M.1, (va_up M.2.1 15 (upd (M.2.1 15) x1.toNatClampNeg x2)), M.2.2.1, M.2.2.2)) C dX6_mark_39 8 0 rfl rfl hg39 rfl ?_
      refine g_aload_n C dX6_mark_40 rfl 1 rfl ?_
      refine g_iconst (v := (1 : Int32)) C dX6_mark_41 (by decide) ?_
      refine g_put (ws2 := wMod cI cJ o a ((va_up M.1 20 (1 : Int32)), (va_up M.2.1 15 (upd (M.2.1 15) x1.toNatClampNeg x2)), M.2.2.1, M.2.2.2)) C fp_X6_72 dX6_mark_42 0 rfl rfl rfl (Nat.le_of_ble_eq_true rfl) rfl ?_
      refine g_iload_n C dX6_mark_45 rfl 0 rfl ?_
      cases sinj h
      exact g_iret C dX6_mark_46 rfl rfl hQ
    · have h := ifp h c20
      refine g_bipush (v := (-102 : Int32)) C dX6_mark_23 (by decide) ?_
      cases sinj h
      exact g_iret C dX6_mark_25 rfl rfl hQ
  · have h := ifp h c5
    refine g_bipush (v := (-101 : Int32)) C dX6_mark_8 (by decide) ?_
    cases sinj h
    exact g_iret C dX6_mark_10 rfl rfl hQ
def fX6_markedMany (M : OM)  : Option (Int32) :=
  ((fX6_marked M (1 : Int32)).bind (fun r2 => ((fX6_ones r2).bind (fun r5 => ((fX6_marked M (2 : Int32)).bind (fun r10 => ((fX6_ones r10).bind (fun r13 => some (r5 + r13)))))))))
set_option maxHeartbeats 4000000 in
set_option maxRecDepth 100000 in
theorem kX6_markedMany (l : Launch) (D : va_G) (cC cI cJ cZ : ClassId) (o : Nat) (a : Nat → Nat) (M : OM)  (r : Int32) (h : fX6_markedMany M = some r) : gMi l yX6_markedMany cX6_markedMany 1 (some .int) (gR 2) D (tysG cC cI cJ cZ) [.ref o] (wMod cI cJ o a M) r (wMod cI cJ o a M) := by
  refine gMi_of (by decide) (Nat.le_of_ble_eq_true rfl) rfl ?_
  intro p e s m args below meth c A Q C hQ
  unfold fX6_markedMany at h
  refine g_aload_n C dX6_markedMany_0 rfl 0 rfl ?_
  refine g_iconst (v := (1 : Int32)) C dX6_markedMany_1 (by decide) ?_
  obtain ⟨r2, h2, h⟩ := obd h
  refine g_callVi (st := []) (ws2 := wMod cI cJ o a M) C yv_X6_marked ml_X6_204 dX6_markedMany_2 (kX6_marked l D cC cI cJ cZ o a M (1 : Int32) r2 h2) gCut_all ⟨by decide, by decide⟩ ⟨rfl, rfl⟩ ⟨Nat.zero_le _, Nat.zero_le _⟩ rfl rfl (Nat.le_of_ble_eq_true rfl) 5 0 rfl rfl rfl ?_
  obtain ⟨r5, h5, h⟩ := obd h
  refine g_callSi (st := []) (ws2 := wMod cI cJ o a M) C ys_X6_ones ml_X6_173 dX6_markedMany_5 (kX6_ones l D cC cI cJ cZ r2 r5 h5) gCut_nil ⟨by decide, by decide⟩ ⟨rfl, rfl⟩ ⟨Nat.zero_le _, Nat.zero_le _⟩ rfl rfl (Nat.le_of_ble_eq_true rfl) ?_
  refine g_aload_n C dX6_markedMany_8 rfl 0 rfl ?_
  refine g_iconst (v := (2 : Int32)) C dX6_markedMany_9 (by decide) ?_
  obtain ⟨r10, h10, h⟩ := obd h
  refine g_callVi (st := [.int r5]) (ws2 := wMod cI cJ o a M) C yv_X6_marked ml_X6_204 dX6_markedMany_10 (kX6_marked l D cC cI cJ cZ o a M (2 : Int32) r10 h10) gCut_all ⟨by decide, by decide⟩ ⟨rfl, rfl⟩ ⟨Nat.zero_le _, Nat.zero_le _⟩ rfl rfl (Nat.le_of_ble_eq_true rfl) 5 0 rfl rfl rfl ?_
  obtain ⟨r13, h13, h⟩ := obd h
  refine g_callSi (st := [.int r5]) (ws2 := wMod cI cJ o a M) C ys_X6_ones ml_X6_173 dX6_markedMany_13 (kX6_ones l D cC cI cJ cZ r10 r13 h13) gCut_nil ⟨by decide, by decide⟩ ⟨rfl, rfl⟩ ⟨Nat.zero_le _, Nat.zero_le _⟩ rfl rfl (Nat.le_of_ble_eq_true rfl) ?_
  refine g_iadd C dX6_markedMany_16 ?_
  cases sinj h
  exact g_iret C dX6_markedMany_17 rfl rfl hQ
def fX6_clear_L7 (x1_L7 : Int32) (x2_L7 : Int32) (M_L7 : OM) : Option ((Int32 × OM) ⊕ (OM)) :=
  (if (16 : Int32) ≤ x2_L7 then some (.inr M_L7)
 else (if okI x2_L7 16 = true then some (.inl ((x2_L7 + (1 : Int32)), (M_L7.1, (va_up M_L7.2.1 15 (upd (M_L7.2.1 15) x2_L7.toNatClampNeg (0 : Int32))), M_L7.2.2.1, M_L7.2.2.2))) else none))
def fX6_clear_J26 (x1_J26 : Int32) (M_J26 : OM) : Option (Int32 × OM) :=
  some (x1_J26, ((va_up M_J26.1 20 (1 : Int32)), M_J26.2.1, M_J26.2.2.1, M_J26.2.2.2))
def fX6_clear (M : OM)  : Option (Int32 × OM) :=
  ((fX6_markedMany M).bind (fun r1 => ((wh (σ := Int32 × OM) (ρ := OM) (fun t => fX6_clear_L7 r1 t.1 t.2) 100000 ((0 : Int32), M)).bind (fun M_E7 => fX6_clear_J26 r1 M_E7))))
set_option maxHeartbeats 4000000 in
set_option maxRecDepth 100000 in
theorem kX6_clear (l : Launch) (D : va_G) (cC cI cJ cZ : ClassId) (o : Nat) (a : Nat → Nat) (M : OM)  (r : Int32) (M' : OM) (h : fX6_clear M = some (r, M')) : gMi l yX6_clear cX6_clear 3 (some .int) (gR 3) D (tysG cC cI cJ cZ) [.ref o] (wMod cI cJ o a M) r (wMod cI cJ o a M') := by
  refine gMi_of (by decide) (Nat.le_of_ble_eq_true rfl) rfl ?_
  intro p e s m args below meth c A Q C hQ
  have j26 : ∀ (x1_J26 : Int32) (M_J26 : OM), fX6_clear_J26 x1_J26 M_J26 = some (r, M') → gG p l e (gR 3) s m args below meth c 3 D A 0 0 Q 26 [(0, .ref o), (1, .int x1_J26)] [] (wMod cI cJ o a M_J26) := by
    intro x1_J26 M_J26 h
    unfold fX6_clear_J26 at h
    refine g_aload_n C dX6_clear_26 rfl 0 rfl ?_
    refine g_iconst (v := (1 : Int32)) C dX6_clear_27 (by decide) ?_
    refine g_put (ws2 := wMod cI cJ o a ((va_up M_J26.1 20 (1 : Int32)), M_J26.2.1, M_J26.2.2.1, M_J26.2.2.2)) C fp_X6_72 dX6_clear_28 0 rfl rfl rfl (Nat.le_of_ble_eq_true rfl) rfl ?_
    refine g_iload_n C dX6_clear_31 rfl 1 rfl ?_
    cases sinj h
    exact g_iret C dX6_clear_32 rfl rfl hQ
  unfold fX6_clear at h
  refine g_aload_n C dX6_clear_0 rfl 0 rfl ?_
  obtain ⟨r1, h1, h⟩ := obd h
  refine g_callVi (st := []) (ws2 := wMod cI cJ o a M) C yv_X6_markedMany ml_X6_264 dX6_clear_1 (kX6_markedMany l D cC cI cJ cZ o a M r1 h1) gCut_all ⟨by decide, by decide⟩ ⟨rfl, rfl⟩ ⟨Nat.zero_le _, Nat.zero_le _⟩ rfl rfl (Nat.le_of_ble_eq_true rfl) 5 0 rfl rfl rfl ?_
  refine g_istore_n (lv' := [(1, .int r1), (0, .ref o)]) C dX6_clear_4 rfl (by decide) rfl ?_
  refine g_iconst (v := (0 : Int32)) C dX6_clear_5 (by decide) ?_
  refine g_istore_n (lv' := [(2, .int (0 : Int32)), (1, .int r1), (0, .ref o)]) C dX6_clear_6 rfl (by decide) rfl ?_
  obtain ⟨X7, hW7, hK7⟩ := obd h
  have l7 : ∀ (fu7 : Nat) (x2_L7 : Int32) (M_L7 : OM), wh (σ := Int32 × OM) (ρ := OM) (fun t => fX6_clear_L7 r1 t.1 t.2) fu7 (x2_L7, M_L7) = some X7 → gG p l e (gR 3) s m args below meth c 3 D A 0 0 Q 7 [(0, .ref o), (1, .int r1), (2, .int x2_L7)] [] (wMod cI cJ o a M_L7) := by
    intro fu7
    induction fu7 with
    | zero => intro x2_L7 M_L7 hW; exact (wh_0 hW).elim
    | succ fu7 ih7 =>
      intro x2_L7 M_L7 hW
      obtain ⟨z7, h, hw7⟩ := wh_s hW
      replace h : fX6_clear_L7 r1 x2_L7 M_L7 = some z7 := h
      unfold fX6_clear_L7 at h
      refine g_iload_n C dX6_clear_7 rfl 2 rfl ?_
      refine g_bipush (v := (16 : Int32)) C dX6_clear_8 (by decide) ?_
      refine g_icmp_ge (tgt := 26) C dX6_clear_10 (by decide) (fun c10 => ?_) (fun c10 => ?_)
      · have h := ifp h c10
        obtain rfl := sinj h
        obtain rfl := wk_r hw7
        have h := hK7
        refine g_lv [0, 1] rfl ?_
        exact j26 r1 M_L7 h
      · have h := ifn h c10
        refine g_aload_n C dX6_clear_13 rfl 0 rfl ?_
        refine g_get (v := .ref (a 15)) C fl_X6_31 dX6_clear_14 0 rfl rfl ?_
        refine g_iload_n C dX6_clear_17 rfl 2 rfl ?_
        refine g_iconst (v := (0 : Int32)) C dX6_clear_18 (by decide) ?_
        obtain ⟨hg19, h⟩ := ifg h
        refine g_iast (f := (M_L7.2.1 15)) (ws2 := wMod cI cJ o a (M_L7.1, (va_up M_L7.2.1 15 (upd (M_L7.2.1 15) x2_L7.toNatClampNeg (0 : Int32))), M_L7.2.2.1, M_L7.2.2.2)) C dX6_clear_19 8 0 rfl rfl hg19 rfl ?_
        refine g_iinc (j := 2) (v := (x2_L7 + (1 : Int32))) (lv' := [(2, .int (x2_L7 + (1 : Int32))), (0, .ref o), (1, .int r1)]) C dX6_clear_20 rfl rfl (by decide) rfl ?_
        refine g_goto (tgt := 7) C dX6_clear_23 (by decide) ?_
        obtain rfl := sinj h
        refine g_lv [1, 2, 0] rfl ?_
        exact ih7 (x2_L7 + (1 : Int32)) (M_L7.1, (va_up M_L7.2.1 15 (upd (M_L7.2.1 15) x2_L7.toNatClampNeg (0 : Int32))), M_L7.2.2.1, M_L7.2.2.2) hw7
  refine g_lv [2, 1, 0] rfl ?_
  exact l7 100000 (0 : Int32) M hW7
def fX6_clue_J63 (x1_J63 : Int32) (x2_J63 : Int32) (x3_J63 : Int32) (x4_J63 : Int32) (s0_J63 : Int64) (s1_J63 : Int64) (s2_J63 : Int64) (M_J63 : OM) : Option (Int32 × OM) :=
  ((fX6_in s2_J63 s1_J63 s0_J63).bind (fun r63 => (if r63 = 0 then some ((-102 : Int32), M_J63)
 else (if okI x1_J63 8 = true then (if okI x1_J63 8 = true then (if okI x1_J63 8 = true then (if okI x1_J63 8 = true then some (((M_J63.2.1 12) x1_J63.toNatClampNeg), ((va_up M_J63.1 20 (1 : Int32)), (va_up (va_up (va_up M_J63.2.1 12 (upd (M_J63.2.1 12) x1_J63.toNatClampNeg x2_J63)) 13 (upd (M_J63.2.1 13) x1_J63.toNatClampNeg x3_J63)) 14 (upd (M_J63.2.1 14) x1_J63.toNatClampNeg x4_J63)), M_J63.2.2.1, M_J63.2.2.2)) else none) else none) else none) else none))))
def fX6_clue (M : OM) (x1 : Int32) (x2 : Int32) (x3 : Int32) (x4 : Int32) : Option (Int32 × OM) :=
  ((fX6_isLine M x1).bind (fun r2 => (if r2 = 0 then some ((-101 : Int32), M)
 else ((fX6_in x2.toInt64 (0 : Int64) (4 : Int64)).bind (fun r17 => (if r17 = 0 then some ((-102 : Int32), M)
 else ((fX6_cellsOf M x1).bind (fun r28 => ((fX6_in x3.toInt64 (0 : Int64) r28.toInt64).bind (fun r32 => (if r32 = 0 then some ((-102 : Int32), M)
 else ((fX6_isDouble x2).bind (fun r43 => (if r43 = 0 then fX6_clue_J63 x1 x2 x3 x4 (0 : Int64) (0 : Int64) x4.toInt64 M
 else ((fX6_cellsOf M x1).bind (fun r52 => ((fX6_mostSecond x3 r52).bind (fun r55 => fX6_clue_J63 x1 x2 x3 x4 r55.toInt64 (0 : Int64) x4.toInt64 M))))))))))))))))))
set_option maxHeartbeats 4000000 in
set_option maxRecDepth 100000 in
theorem kX6_clue (l : Launch) (D : va_G) (cC cI cJ cZ : ClassId) (o : Nat) (a : Nat → Nat) (M : OM) (x1 : Int32) (x2 : Int32) (x3 : Int32) (x4 : Int32) (r : Int32) (M' : OM) (h : fX6_clue M x1 x2 x3 x4 = some (r, M')) : gMi l yX6_clue cX6_clue 6 (some .int) (gR 3) D (tysG cC cI cJ cZ) [.ref o, .int x1, .int x2, .int x3, .int x4] (wMod cI cJ o a M) r (wMod cI cJ o a M') := by
  refine gMi_of (by decide) (Nat.le_of_ble_eq_true rfl) rfl ?_
  intro p e s m args below meth c A Q C hQ
  have j63 : ∀ (x1_J63 : Int32) (x2_J63 : Int32) (x3_J63 : Int32) (x4_J63 : Int32) (s0_J63 : Int64) (s1_J63 : Int64) (s2_J63 : Int64) (M_J63 : OM), fX6_clue_J63 x1_J63 x2_J63 x3_J63 x4_J63 s0_J63 s1_J63 s2_J63 M_J63 = some (r, M') → gG p l e (gR 3) s m args below meth c 6 D A 0 0 Q 63 [(0, .ref o), (1, .int x1_J63), (2, .int x2_J63), (3, .int x3_J63), (4, .int x4_J63)] [.long s0_J63, .long s1_J63, .long s2_J63] (wMod cI cJ o a M_J63) := by
    intro x1_J63 x2_J63 x3_J63 x4_J63 s0_J63 s1_J63 s2_J63 M_J63 h
    unfold fX6_clue_J63 at h
    obtain ⟨r63, h63, h⟩ := obd h
    refine g_callSi (st := []) (ws2 := wMod cI cJ o a M_J63) C ys_X6_in ml_X6_78 dX6_clue_63 (kX6_in l D cC cI cJ cZ s2_J63 s1_J63 s0_J63 r63 h63) gCut_nil ⟨by decide, by decide⟩ ⟨rfl, rfl⟩ ⟨Nat.zero_le _, Nat.zero_le _⟩ rfl rfl (Nat.le_of_ble_eq_true rfl) ?_
    refine g_if_ne (tgt := 72) C dX6_clue_66 (by decide) (fun c66 => ?_) (fun c66 => ?_)
    · have h := ifn h c66
      refine g_aload_n C dX6_clue_72 rfl 0 rfl ?_
      refine g_get (v := .ref (a 12)) C fl_X6_22 dX6_clue_73 0 rfl rfl ?_
      refine g_iload_n C dX6_clue_76 rfl 1 rfl ?_
      obtain ⟨hg77, h⟩ := ifg h
      refine g_iald (f := (M_J63.2.1 12)) C dX6_clue_77 5 0 rfl rfl hg77 ?_
      refine g_istore (lv' := [(5, .int ((M_J63.2.1 12) x1_J63.toNatClampNeg)), (0, .ref o), (1, .int x1_J63), (2, .int x2_J63), (3, .int x3_J63), (4, .int x4_J63)]) C dX6_clue_78 (by decide) rfl ?_
      refine g_aload_n C dX6_clue_80 rfl 1 rfl ?_
      refine g_get (v := .ref (a 12)) C fl_X6_22 dX6_clue_81 0 rfl rfl ?_
      refine g_iload_n C dX6_clue_84 rfl 2 rfl ?_
      refine g_iload_n C dX6_clue_85 rfl 3 rfl ?_
      obtain ⟨hg86, h⟩ := ifg h
      refine g_iast (f := (M_J63.2.1 12)) (ws2 := wMod cI cJ o a (M_J63.1, (va_up M_J63.2.1 12 (upd (M_J63.2.1 12) x1_J63.toNatClampNeg x2_J63)), M_J63.2.2.1, M_J63.2.2.2)) C dX6_clue_86 5 0 rfl rfl hg86 rfl ?_
      refine g_aload_n C dX6_clue_87 rfl 1 rfl ?_
      refine g_get (v := .ref (a 13)) C fl_X6_25 dX6_clue_88 0 rfl rfl ?_
      refine g_iload_n C dX6_clue_91 rfl 2 rfl ?_
      refine g_iload_n C dX6_clue_92 rfl 4 rfl ?_
      obtain ⟨hg93, h⟩ := ifg h
      refine g_iast (f := (M_J63.2.1 13)) (ws2 := wMod cI cJ o a (M_J63.1, (va_up (va_up M_J63.2.1 12 (upd (M_J63.2.1 12) x1_J63.toNatClampNeg x2_J63)) 13 (upd (M_J63.2.1 13) x1_J63.toNatClampNeg x3_J63)), M_J63.2.2.1, M_J63.2.2.2)) C dX6_clue_93 6 0 rfl rfl hg93 rfl ?_
      refine g_aload_n C dX6_clue_94 rfl 1 rfl ?_
      refine g_get (v := .ref (a 14)) C fl_X6_28 dX6_clue_95 0 rfl rfl ?_
      refine g_iload_n C dX6_clue_98 rfl 2 rfl ?_
      refine g_iload C dX6_clue_99 5 rfl ?_
      obtain ⟨hg101, h⟩ := ifg h
      refine g_iast (f := (M_J63.2.1 14)) (ws2 := wMod cI cJ o a (M_J63.1, (va_up (va_up (va_up M_J63.2.1 12 (upd (M_J63.2.1 12) x1_J63.toNatClampNeg x2_J63)) 13 (upd (M_J63.2.1 13) x1_J63.toNatClampNeg x3_J63)) 14 (upd (M_J63.2.1 14) x1_J63.toNatClampNeg x4_J63)), M_J63.2.2.1, M_J63.2.2.2)) C dX6_clue_101 7 0 rfl rfl hg101 rfl ?_
      refine g_aload_n C dX6_clue_102 rfl 1 rfl ?_
      refine g_iconst (v := (1 : Int32)) C dX6_clue_103 (by decide) ?_
      refine g_put (ws2 := wMod cI cJ o a ((va_up M_J63.1 20 (1 : Int32)), (va_up (va_up (va_up M_J63.2.1 12 (upd (M_J63.2.1 12) x1_J63.toNatClampNeg x2_J63)) 13 (upd (M_J63.2.1 13) x1_J63.toNatClampNeg x3_J63)) 14 (upd (M_J63.2.1 14) x1_J63.toNatClampNeg x4_J63)), M_J63.2.2.1, M_J63.2.2.2)) C fp_X6_72 dX6_clue_104 0 rfl rfl rfl (Nat.le_of_ble_eq_true rfl) rfl ?_
      refine g_iload C dX6_clue_107 0 rfl ?_
      cases sinj h
      exact g_iret C dX6_clue_109 rfl rfl hQ
    · have h := ifp h c66
      refine g_bipush (v := (-102 : Int32)) C dX6_clue_69 (by decide) ?_
      cases sinj h
      exact g_iret C dX6_clue_71 rfl rfl hQ
  unfold fX6_clue at h
  refine g_aload_n C dX6_clue_0 rfl 0 rfl ?_
  refine g_iload_n C dX6_clue_1 rfl 1 rfl ?_
  obtain ⟨r2, h2, h⟩ := obd h
  refine g_callVi (st := []) (ws2 := wMod cI cJ o a M) C yv_X6_isLine ml_X6_180 dX6_clue_2 (kX6_isLine l D cC cI cJ cZ o a M x1 r2 h2) gCut_all ⟨by decide, by decide⟩ ⟨rfl, rfl⟩ ⟨Nat.zero_le _, Nat.zero_le _⟩ rfl rfl (Nat.le_of_ble_eq_true rfl) 5 0 rfl rfl rfl ?_
  refine g_if_ne (tgt := 11) C dX6_clue_5 (by decide) (fun c5 => ?_) (fun c5 => ?_)
  · have h := ifn h c5
    refine g_iload_n C dX6_clue_11 rfl 2 rfl ?_
    refine g_i2l C dX6_clue_12 ?_
    refine g_lconst (v := (0 : Int64)) C dX6_clue_13 (by decide) ?_
    refine g_ldc2 C dX6_clue_14 ck_X6_260 ?_
    obtain ⟨r17, h17, h⟩ := obd h
    refine g_callSi (st := []) (ws2 := wMod cI cJ o a M) C ys_X6_in ml_X6_78 dX6_clue_17 (kX6_in l D cC cI cJ cZ x2.toInt64 (0 : Int64) (4 : Int64) r17 h17) gCut_nil ⟨by decide, by decide⟩ ⟨rfl, rfl⟩ ⟨Nat.zero_le _, Nat.zero_le _⟩ rfl rfl (Nat.le_of_ble_eq_true rfl) ?_
    refine g_if_eq (tgt := 69) C dX6_clue_20 (by decide) (fun c20 => ?_) (fun c20 => ?_)
    · have h := ifp h c20
      refine g_bipush (v := (-102 : Int32)) C dX6_clue_69 (by decide) ?_
      cases sinj h
      exact g_iret C dX6_clue_71 rfl rfl hQ
    · have h := ifn h c20
      refine g_iload_n C dX6_clue_23 rfl 3 rfl ?_
      refine g_i2l C dX6_clue_24 ?_
      refine g_lconst (v := (0 : Int64)) C dX6_clue_25 (by decide) ?_
      refine g_aload_n C dX6_clue_26 rfl 0 rfl ?_
      refine g_iload_n C dX6_clue_27 rfl 1 rfl ?_
      obtain ⟨r28, h28, h⟩ := obd h
      refine g_callVi (st := [.long (0 : Int64), .long x3.toInt64]) (ws2 := wMod cI cJ o a M) C yv_X6_cellsOf ml_X6_183 dX6_clue_28 (kX6_cellsOf l D cC cI cJ cZ o a M x1 r28 h28) gCut_all ⟨by decide, by decide⟩ ⟨rfl, rfl⟩ ⟨Nat.zero_le _, Nat.zero_le _⟩ rfl rfl (Nat.le_of_ble_eq_true rfl) 5 0 rfl rfl rfl ?_
      refine g_i2l C dX6_clue_31 ?_
      obtain ⟨r32, h32, h⟩ := obd h
      refine g_callSi (st := []) (ws2 := wMod cI cJ o a M) C ys_X6_in ml_X6_78 dX6_clue_32 (kX6_in l D cC cI cJ cZ x3.toInt64 (0 : Int64) r28.toInt64 r32 h32) gCut_nil ⟨by decide, by decide⟩ ⟨rfl, rfl⟩ ⟨Nat.zero_le _, Nat.zero_le _⟩ rfl rfl (Nat.le_of_ble_eq_true rfl) ?_
      refine g_if_eq (tgt := 69) C dX6_clue_35 (by decide) (fun c35 => ?_) (fun c35 => ?_)
      · have h := ifp h c35
        refine g_bipush (v := (-102 : Int32)) C dX6_clue_69 (by decide) ?_
        cases sinj h
        exact g_iret C dX6_clue_71 rfl rfl hQ
      · have h := ifn h c35
        refine g_iload C dX6_clue_38 4 rfl ?_
        refine g_i2l C dX6_clue_40 ?_
        refine g_lconst (v := (0 : Int64)) C dX6_clue_41 (by decide) ?_
        refine g_iload_n C dX6_clue_42 rfl 2 rfl ?_
        obtain ⟨r43, h43, h⟩ := obd h
        refine g_callSi (st := [.long (0 : Int64), .long x4.toInt64]) (ws2 := wMod cI cJ o a M) C ys_X6_isDouble ml_X6_105 dX6_clue_43 (kX6_isDouble l D cC cI cJ cZ x2 r43 h43) gCut_nil ⟨by decide, by decide⟩ ⟨rfl, rfl⟩ ⟨Nat.zero_le _, Nat.zero_le _⟩ rfl rfl (Nat.le_of_ble_eq_true rfl) ?_
        refine g_if_eq (tgt := 62) C dX6_clue_46 (by decide) (fun c46 => ?_) (fun c46 => ?_)
        · have h := ifp h c46
          refine g_lconst (v := (0 : Int64)) C dX6_clue_62 (by decide) ?_
          refine g_lv [0, 1, 2, 3, 4] rfl ?_
          exact j63 x1 x2 x3 x4 (0 : Int64) (0 : Int64) x4.toInt64 M h
        · have h := ifn h c46
          refine g_iload_n C dX6_clue_49 rfl 3 rfl ?_
          refine g_aload_n C dX6_clue_50 rfl 0 rfl ?_
          refine g_iload_n C dX6_clue_51 rfl 1 rfl ?_
          obtain ⟨r52, h52, h⟩ := obd h
          refine g_callVi (st := [.int x3, .long (0 : Int64), .long x4.toInt64]) (ws2 := wMod cI cJ o a M) C yv_X6_cellsOf ml_X6_183 dX6_clue_52 (kX6_cellsOf l D cC cI cJ cZ o a M x1 r52 h52) gCut_all ⟨by decide, by decide⟩ ⟨rfl, rfl⟩ ⟨Nat.zero_le _, Nat.zero_le _⟩ rfl rfl (Nat.le_of_ble_eq_true rfl) 5 0 rfl rfl rfl ?_
          obtain ⟨r55, h55, h⟩ := obd h
          refine g_callSi (st := [.long (0 : Int64), .long x4.toInt64]) (ws2 := wMod cI cJ o a M) C ys_X6_mostSecond ml_X6_112 dX6_clue_55 (kX6_mostSecond l D cC cI cJ cZ x3 r52 r55 h55) gCut_nil ⟨by decide, by decide⟩ ⟨rfl, rfl⟩ ⟨Nat.zero_le _, Nat.zero_le _⟩ rfl rfl (Nat.le_of_ble_eq_true rfl) ?_
          refine g_i2l C dX6_clue_58 ?_
          refine g_goto (tgt := 63) C dX6_clue_59 (by decide) ?_
          refine g_lv [0, 1, 2, 3, 4] rfl ?_
          exact j63 x1 x2 x3 x4 r55.toInt64 (0 : Int64) x4.toInt64 M h
  · have h := ifp h c5
    refine g_bipush (v := (-101 : Int32)) C dX6_clue_8 (by decide) ?_
    cases sinj h
    exact g_iret C dX6_clue_10 rfl rfl hQ
def fX6_bestCell_23_J55 (M : OM) (x2_L11 : Int32) (x3_L11 : Int32) (x4_J55 : Int32) (x5_J55 : Int32) (x6_J55 : Int32) (s0_J55 : Int32) : Option ((Int32 × Int32 × Int32) ⊕ (Int32)) :=
  (if ((x3_L11 >>> (x6_J55 &&& 31)) &&& (1 : Int32)) = 0 then (if x5_J55 ≤ s0_J55 then some (.inl (x4_J55, x5_J55, (x6_J55 + (1 : Int32))))
 else some (.inl (x6_J55, s0_J55, (x6_J55 + (1 : Int32)))))
 else some (.inl (x4_J55, x5_J55, (x6_J55 + (1 : Int32)))))
def fX6_bestCell_23_L11 (M : OM) (x2_L11 : Int32) (x3_L11 : Int32) (x4_L11 : Int32) (x5_L11 : Int32) (x6_L11 : Int32) : Option ((Int32 × Int32 × Int32) ⊕ (Int32)) :=
  (if ((M.1 9) * (M.1 10)) ≤ x6_L11 then some (.inr x4_L11)
 else (if x2_L11 ≤ 0 then some (.inr x4_L11)
 else (if okI x6_L11 16 = true then (if okI x6_L11 16 = true then (if ((M.2.1 23) x6_L11.toNatClampNeg) ≤ (x2_L11 - ((M.2.1 23) x6_L11.toNatClampNeg)) then (if okI x6_L11 16 = true then fX6_bestCell_23_J55 M x2_L11 x3_L11 x4_L11 x5_L11 x6_L11 (x2_L11 - ((M.2.1 23) x6_L11.toNatClampNeg)) else none)
 else (if okI x6_L11 16 = true then fX6_bestCell_23_J55 M x2_L11 x3_L11 x4_L11 x5_L11 x6_L11 ((M.2.1 23) x6_L11.toNatClampNeg) else none)) else none) else none)))
def fX6_bestCell_23_J87 (M : OM) (x4_J87 : Int32) : Option (Int32) :=
  some x4_J87
def fX6_bestCell_23 (M : OM) (x2 : Int32) (x3 : Int32) : Option (Int32) :=
  ((wh (σ := Int32 × Int32 × Int32) (ρ := Int32) (fun t => fX6_bestCell_23_L11 M x2 x3 t.1 t.2.1 t.2.2) 100000 ((-1 : Int32), (100000 : Int32), (0 : Int32))).bind (fun e4_L11 => fX6_bestCell_23_J87 M e4_L11))
set_option maxHeartbeats 4000000 in
set_option maxRecDepth 100000 in
theorem kX6_bestCell_23 (l : Launch) (D : va_G) (cC cI cJ cZ : ClassId) (o : Nat) (a : Nat → Nat) (M : OM) (x2 : Int32) (x3 : Int32) (r : Int32) (h : fX6_bestCell_23 M x2 x3 = some r) : gMi l yX6_bestCell cX6_bestCell 8 (some .int) (gR 1) D (tysG cC cI cJ cZ) [.ref o, .ref (a 23), .int x2, .int x3] (wMod cI cJ o a M) r (wMod cI cJ o a M) := by
  refine gMi_of (by decide) (Nat.le_of_ble_eq_true rfl) rfl ?_
  intro p e s m args below meth c A Q C hQ
  have j87 : ∀ (x4_J87 : Int32), fX6_bestCell_23_J87 M x4_J87 = some r → gG p l e (gR 1) s m args below meth c 8 D A 0 0 Q 87 [(4, .int x4_J87)] [] (wMod cI cJ o a M) := by
    intro x4_J87 h
    unfold fX6_bestCell_23_J87 at h
    refine g_iload C dX6_bestCell_87 0 rfl ?_
    cases sinj h
    exact g_iret C dX6_bestCell_89 rfl rfl hQ
  unfold fX6_bestCell_23 at h
  refine g_iconst (v := (-1 : Int32)) C dX6_bestCell_0 (by decide) ?_
  refine g_istore (lv' := [(4, .int (-1 : Int32)), (0, .ref o), (1, .ref (a 23)), (2, .int x2), (3, .int x3)]) C dX6_bestCell_1 (by decide) rfl ?_
  refine g_ldcw C dX6_bestCell_3 ck_X6_267 ?_
  refine g_istore (lv' := [(5, .int (100000 : Int32)), (4, .int (-1 : Int32)), (0, .ref o), (1, .ref (a 23)), (2, .int x2), (3, .int x3)]) C dX6_bestCell_6 (by decide) rfl ?_
  refine g_iconst (v := (0 : Int32)) C dX6_bestCell_8 (by decide) ?_
  refine g_istore (lv' := [(6, .int (0 : Int32)), (5, .int (100000 : Int32)), (4, .int (-1 : Int32)), (0, .ref o), (1, .ref (a 23)), (2, .int x2), (3, .int x3)]) C dX6_bestCell_9 (by decide) rfl ?_
  obtain ⟨X11, hW11, hK11⟩ := obd h
  have l11 : ∀ (fu11 : Nat) (x4_L11 : Int32) (x5_L11 : Int32) (x6_L11 : Int32), wh (σ := Int32 × Int32 × Int32) (ρ := Int32) (fun t => fX6_bestCell_23_L11 M x2 x3 t.1 t.2.1 t.2.2) fu11 (x4_L11, x5_L11, x6_L11) = some X11 → gG p l e (gR 1) s m args below meth c 8 D A 0 0 Q 11 [(0, .ref o), (1, .ref (a 23)), (2, .int x2), (3, .int x3), (4, .int x4_L11), (5, .int x5_L11), (6, .int x6_L11)] [] (wMod cI cJ o a M) := by
    intro fu11
    induction fu11 with
    | zero => intro x4_L11 x5_L11 x6_L11 hW; exact (wh_0 hW).elim
    | succ fu11 ih11 =>
      intro x4_L11 x5_L11 x6_L11 hW
      obtain ⟨z11, h, hw11⟩ := wh_s hW
      have j55 : ∀ (x4_J55 : Int32) (x5_J55 : Int32) (x6_J55 : Int32) (s0_J55 : Int32) (z11 : (Int32 × Int32 × Int32) ⊕ (Int32)), fX6_bestCell_23_J55 M x2 x3 x4_J55 x5_J55 x6_J55 s0_J55 = some z11 → wk (fun t => fX6_bestCell_23_L11 M x2 x3 t.1 t.2.1 t.2.2) fu11 z11 = some X11 → gG p l e (gR 1) s m args below meth c 8 D A 0 0 Q 55 [(0, .ref o), (1, .ref (a 23)), (2, .int x2), (3, .int x3), (4, .int x4_J55), (5, .int x5_J55), (6, .int x6_J55)] [.int s0_J55] (wMod cI cJ o a M) := by
        intro x4_J55 x5_J55 x6_J55 s0_J55 z11 h hw11
        unfold fX6_bestCell_23_J55 at h
        refine g_istore (lv' := [(7, .int s0_J55), (0, .ref o), (1, .ref (a 23)), (2, .int x2), (3, .int x3), (4, .int x4_J55), (5, .int x5_J55), (6, .int x6_J55)]) C dX6_bestCell_55 (by decide) rfl ?_
        refine g_iload_n C dX6_bestCell_57 rfl 4 rfl ?_
        refine g_iload C dX6_bestCell_58 7 rfl ?_
        refine g_ishr C dX6_bestCell_60 ?_
        refine g_iconst (v := (1 : Int32)) C dX6_bestCell_61 (by decide) ?_
        refine g_iand C dX6_bestCell_62 ?_
        refine g_if_ne (tgt := 81) C dX6_bestCell_63 (by decide) (fun c63 => ?_) (fun c63 => ?_)
        · have h := ifn h c63
          refine g_iinc (j := 7) (v := (x6_J55 + (1 : Int32))) (lv' := [(6, .int (x6_J55 + (1 : Int32))), (7, .int s0_J55), (0, .ref o), (1, .ref (a 23)), (2, .int x2), (3, .int x3), (4, .int x4_J55), (5, .int x5_J55)]) C dX6_bestCell_81 rfl rfl (by decide) rfl ?_
          refine g_goto (tgt := 11) C dX6_bestCell_84 (by decide) ?_
          obtain rfl := sinj h
          refine g_lv [2, 3, 4, 5, 6, 7, 0] rfl ?_
          exact ih11 x4_J55 x5_J55 (x6_J55 + (1 : Int32)) hw11
        · have h := ifp h c63
          refine g_iload C dX6_bestCell_66 0 rfl ?_
          refine g_iload C dX6_bestCell_68 6 rfl ?_
          refine g_icmp_ge (tgt := 81) C dX6_bestCell_70 (by decide) (fun c70 => ?_) (fun c70 => ?_)
          · have h := ifp h c70
            refine g_iinc (j := 7) (v := (x6_J55 + (1 : Int32))) (lv' := [(6, .int (x6_J55 + (1 : Int32))), (7, .int s0_J55), (0, .ref o), (1, .ref (a 23)), (2, .int x2), (3, .int x3), (4, .int x4_J55), (5, .int x5_J55)]) C dX6_bestCell_81 rfl rfl (by decide) rfl ?_
            refine g_goto (tgt := 11) C dX6_bestCell_84 (by decide) ?_
            obtain rfl := sinj h
            refine g_lv [2, 3, 4, 5, 6, 7, 0] rfl ?_
            exact ih11 x4_J55 x5_J55 (x6_J55 + (1 : Int32)) hw11
          · have h := ifn h c70
            refine g_iload C dX6_bestCell_73 7 rfl ?_
            refine g_istore (lv' := [(4, .int x6_J55), (7, .int s0_J55), (0, .ref o), (1, .ref (a 23)), (2, .int x2), (3, .int x3), (5, .int x5_J55), (6, .int x6_J55)]) C dX6_bestCell_75 (by decide) rfl ?_
            refine g_iload C dX6_bestCell_77 1 rfl ?_
            refine g_istore (lv' := [(5, .int s0_J55), (4, .int x6_J55), (7, .int s0_J55), (0, .ref o), (1, .ref (a 23)), (2, .int x2), (3, .int x3), (6, .int x6_J55)]) C dX6_bestCell_79 (by decide) rfl ?_
            refine g_iinc (j := 7) (v := (x6_J55 + (1 : Int32))) (lv' := [(6, .int (x6_J55 + (1 : Int32))), (5, .int s0_J55), (4, .int x6_J55), (7, .int s0_J55), (0, .ref o), (1, .ref (a 23)), (2, .int x2), (3, .int x3)]) C dX6_bestCell_81 rfl rfl (by decide) rfl ?_
            refine g_goto (tgt := 11) C dX6_bestCell_84 (by decide) ?_
            obtain rfl := sinj h
            refine g_lv [4, 5, 6, 7, 2, 1, 0] rfl ?_
            exact ih11 x6_J55 s0_J55 (x6_J55 + (1 : Int32)) hw11
      replace h : fX6_bestCell_23_L11 M x2 x3 x4_L11 x5_L11 x6_L11 = some z11 := h
      unfold fX6_bestCell_23_L11 at h
      refine g_iload C dX6_bestCell_11 6 rfl ?_
      refine g_aload_n C dX6_bestCell_13 rfl 0 rfl ?_
      refine g_get (v := .int (M.1 9)) C fl_X6_141 dX6_bestCell_14 0 rfl rfl ?_
      refine g_aload_n C dX6_bestCell_17 rfl 0 rfl ?_
      refine g_get (v := .int (M.1 10)) C fl_X6_144 dX6_bestCell_18 0 rfl rfl ?_
      refine g_imul C dX6_bestCell_21 ?_
      refine g_icmp_ge (tgt := 87) C dX6_bestCell_22 (by decide) (fun c22 => ?_) (fun c22 => ?_)
      · have h := ifp h c22
        obtain rfl := sinj h
        obtain rfl := wk_r hw11
        have h := hK11
        refine g_lv [4] rfl ?_
        exact j87 x4_L11 h
      · have h := ifn h c22
        refine g_iload_n C dX6_bestCell_25 rfl 2 rfl ?_
        refine g_if_le (tgt := 87) C dX6_bestCell_26 (by decide) (fun c26 => ?_) (fun c26 => ?_)
        · have h := ifp h c26
          obtain rfl := sinj h
          obtain rfl := wk_r hw11
          have h := hK11
          refine g_lv [4] rfl ?_
          exact j87 x4_L11 h
        · have h := ifn h c26
          refine g_aload_n C dX6_bestCell_29 rfl 1 rfl ?_
          refine g_iload C dX6_bestCell_30 6 rfl ?_
          obtain ⟨hg32, h⟩ := ifg h
          refine g_iald (f := (M.2.1 23)) C dX6_bestCell_32 10 0 rfl rfl hg32 ?_
          refine g_iload_n C dX6_bestCell_33 rfl 2 rfl ?_
          refine g_aload_n C dX6_bestCell_34 rfl 1 rfl ?_
          refine g_iload C dX6_bestCell_35 6 rfl ?_
          obtain ⟨hg37, h⟩ := ifg h
          refine g_iald (f := (M.2.1 23)) C dX6_bestCell_37 10 0 rfl rfl hg37 ?_
          refine g_isub C dX6_bestCell_38 ?_
          refine g_icmp_le (tgt := 49) C dX6_bestCell_39 (by decide) (fun c39 => ?_) (fun c39 => ?_)
          · have h := ifp h c39
            refine g_iload_n C dX6_bestCell_49 rfl 2 rfl ?_
            refine g_aload_n C dX6_bestCell_50 rfl 1 rfl ?_
            refine g_iload C dX6_bestCell_51 6 rfl ?_
            obtain ⟨hg53, h⟩ := ifg h
            refine g_iald (f := (M.2.1 23)) C dX6_bestCell_53 10 0 rfl rfl hg53 ?_
            refine g_isub C dX6_bestCell_54 ?_
            refine g_lv [0, 1, 2, 3, 4, 5, 6] rfl ?_
            exact j55 x4_L11 x5_L11 x6_L11 (x2 - ((M.2.1 23) x6_L11.toNatClampNeg)) _ h hw11
          · have h := ifn h c39
            refine g_aload_n C dX6_bestCell_42 rfl 1 rfl ?_
            refine g_iload C dX6_bestCell_43 6 rfl ?_
            obtain ⟨hg45, h⟩ := ifg h
            refine g_iald (f := (M.2.1 23)) C dX6_bestCell_45 10 0 rfl rfl hg45 ?_
            refine g_goto (tgt := 55) C dX6_bestCell_46 (by decide) ?_
            refine g_lv [0, 1, 2, 3, 4, 5, 6] rfl ?_
            exact j55 x4_L11 x5_L11 x6_L11 ((M.2.1 23) x6_L11.toNatClampNeg) _ h hw11
  refine g_lv [3, 4, 5, 6, 2, 1, 0] rfl ?_
  exact l11 100000 (-1 : Int32) (100000 : Int32) (0 : Int32) hW11
def fX6_bestCell_32_J55 (M : OM) (x2_L11 : Int32) (x3_L11 : Int32) (x4_J55 : Int32) (x5_J55 : Int32) (x6_J55 : Int32) (s0_J55 : Int32) : Option ((Int32 × Int32 × Int32) ⊕ (Int32)) :=
  (if ((x3_L11 >>> (x6_J55 &&& 31)) &&& (1 : Int32)) = 0 then (if x5_J55 ≤ s0_J55 then some (.inl (x4_J55, x5_J55, (x6_J55 + (1 : Int32))))
 else some (.inl (x6_J55, s0_J55, (x6_J55 + (1 : Int32)))))
 else some (.inl (x4_J55, x5_J55, (x6_J55 + (1 : Int32)))))
def fX6_bestCell_32_L11 (M : OM) (x2_L11 : Int32) (x3_L11 : Int32) (x4_L11 : Int32) (x5_L11 : Int32) (x6_L11 : Int32) : Option ((Int32 × Int32 × Int32) ⊕ (Int32)) :=
  (if ((M.1 9) * (M.1 10)) ≤ x6_L11 then some (.inr x4_L11)
 else (if x2_L11 ≤ 0 then some (.inr x4_L11)
 else (if okI x6_L11 16 = true then (if okI x6_L11 16 = true then (if ((M.2.1 32) x6_L11.toNatClampNeg) ≤ (x2_L11 - ((M.2.1 32) x6_L11.toNatClampNeg)) then (if okI x6_L11 16 = true then fX6_bestCell_32_J55 M x2_L11 x3_L11 x4_L11 x5_L11 x6_L11 (x2_L11 - ((M.2.1 32) x6_L11.toNatClampNeg)) else none)
 else (if okI x6_L11 16 = true then fX6_bestCell_32_J55 M x2_L11 x3_L11 x4_L11 x5_L11 x6_L11 ((M.2.1 32) x6_L11.toNatClampNeg) else none)) else none) else none)))
def fX6_bestCell_32_J87 (M : OM) (x4_J87 : Int32) : Option (Int32) :=
  some x4_J87
def fX6_bestCell_32 (M : OM) (x2 : Int32) (x3 : Int32) : Option (Int32) :=
  ((wh (σ := Int32 × Int32 × Int32) (ρ := Int32) (fun t => fX6_bestCell_32_L11 M x2 x3 t.1 t.2.1 t.2.2) 100000 ((-1 : Int32), (100000 : Int32), (0 : Int32))).bind (fun e4_L11 => fX6_bestCell_32_J87 M e4_L11))
set_option maxHeartbeats 4000000 in
set_option maxRecDepth 100000 in
theorem kX6_bestCell_32 (l : Launch) (D : va_G) (cC cI cJ cZ : ClassId) (o : Nat) (a : Nat → Nat) (M : OM) (x2 : Int32) (x3 : Int32) (r : Int32) (h : fX6_bestCell_32 M x2 x3 = some r) : gMi l yX6_bestCell cX6_bestCell 8 (some .int) (gR 1) D (tysG cC cI cJ cZ) [.ref o, .ref (a 32), .int x2, .int x3] (wMod cI cJ o a M) r (wMod cI cJ o a M) := by
  refine gMi_of (by decide) (Nat.le_of_ble_eq_true rfl) rfl ?_
  intro p e s m args below meth c A Q C hQ
  have j87 : ∀ (x4_J87 : Int32), fX6_bestCell_32_J87 M x4_J87 = some r → gG p l e (gR 1) s m args below meth c 8 D A 0 0 Q 87 [(4, .int x4_J87)] [] (wMod cI cJ o a M) := by
    intro x4_J87 h
    unfold fX6_bestCell_32_J87 at h
    refine g_iload C dX6_bestCell_87 0 rfl ?_
    cases sinj h
    exact g_iret C dX6_bestCell_89 rfl rfl hQ
  unfold fX6_bestCell_32 at h
  refine g_iconst (v := (-1 : Int32)) C dX6_bestCell_0 (by decide) ?_
  refine g_istore (lv' := [(4, .int (-1 : Int32)), (0, .ref o), (1, .ref (a 32)), (2, .int x2), (3, .int x3)]) C dX6_bestCell_1 (by decide) rfl ?_
  refine g_ldcw C dX6_bestCell_3 ck_X6_267 ?_
  refine g_istore (lv' := [(5, .int (100000 : Int32)), (4, .int (-1 : Int32)), (0, .ref o), (1, .ref (a 32)), (2, .int x2), (3, .int x3)]) C dX6_bestCell_6 (by decide) rfl ?_
  refine g_iconst (v := (0 : Int32)) C dX6_bestCell_8 (by decide) ?_
  refine g_istore (lv' := [(6, .int (0 : Int32)), (5, .int (100000 : Int32)), (4, .int (-1 : Int32)), (0, .ref o), (1, .ref (a 32)), (2, .int x2), (3, .int x3)]) C dX6_bestCell_9 (by decide) rfl ?_
  obtain ⟨X11, hW11, hK11⟩ := obd h
  have l11 : ∀ (fu11 : Nat) (x4_L11 : Int32) (x5_L11 : Int32) (x6_L11 : Int32), wh (σ := Int32 × Int32 × Int32) (ρ := Int32) (fun t => fX6_bestCell_32_L11 M x2 x3 t.1 t.2.1 t.2.2) fu11 (x4_L11, x5_L11, x6_L11) = some X11 → gG p l e (gR 1) s m args below meth c 8 D A 0 0 Q 11 [(0, .ref o), (1, .ref (a 32)), (2, .int x2), (3, .int x3), (4, .int x4_L11), (5, .int x5_L11), (6, .int x6_L11)] [] (wMod cI cJ o a M) := by
    intro fu11
    induction fu11 with
    | zero => intro x4_L11 x5_L11 x6_L11 hW; exact (wh_0 hW).elim
    | succ fu11 ih11 =>
      intro x4_L11 x5_L11 x6_L11 hW
      obtain ⟨z11, h, hw11⟩ := wh_s hW
      have j55 : ∀ (x4_J55 : Int32) (x5_J55 : Int32) (x6_J55 : Int32) (s0_J55 : Int32) (z11 : (Int32 × Int32 × Int32) ⊕ (Int32)), fX6_bestCell_32_J55 M x2 x3 x4_J55 x5_J55 x6_J55 s0_J55 = some z11 → wk (fun t => fX6_bestCell_32_L11 M x2 x3 t.1 t.2.1 t.2.2) fu11 z11 = some X11 → gG p l e (gR 1) s m args below meth c 8 D A 0 0 Q 55 [(0, .ref o), (1, .ref (a 32)), (2, .int x2), (3, .int x3), (4, .int x4_J55), (5, .int x5_J55), (6, .int x6_J55)] [.int s0_J55] (wMod cI cJ o a M) := by
        intro x4_J55 x5_J55 x6_J55 s0_J55 z11 h hw11
        unfold fX6_bestCell_32_J55 at h
        refine g_istore (lv' := [(7, .int s0_J55), (0, .ref o), (1, .ref (a 32)), (2, .int x2), (3, .int x3), (4, .int x4_J55), (5, .int x5_J55), (6, .int x6_J55)]) C dX6_bestCell_55 (by decide) rfl ?_
        refine g_iload_n C dX6_bestCell_57 rfl 4 rfl ?_
        refine g_iload C dX6_bestCell_58 7 rfl ?_
        refine g_ishr C dX6_bestCell_60 ?_
        refine g_iconst (v := (1 : Int32)) C dX6_bestCell_61 (by decide) ?_
        refine g_iand C dX6_bestCell_62 ?_
        refine g_if_ne (tgt := 81) C dX6_bestCell_63 (by decide) (fun c63 => ?_) (fun c63 => ?_)
        · have h := ifn h c63
          refine g_iinc (j := 7) (v := (x6_J55 + (1 : Int32))) (lv' := [(6, .int (x6_J55 + (1 : Int32))), (7, .int s0_J55), (0, .ref o), (1, .ref (a 32)), (2, .int x2), (3, .int x3), (4, .int x4_J55), (5, .int x5_J55)]) C dX6_bestCell_81 rfl rfl (by decide) rfl ?_
          refine g_goto (tgt := 11) C dX6_bestCell_84 (by decide) ?_
          obtain rfl := sinj h
          refine g_lv [2, 3, 4, 5, 6, 7, 0] rfl ?_
          exact ih11 x4_J55 x5_J55 (x6_J55 + (1 : Int32)) hw11
        · have h := ifp h c63
          refine g_iload C dX6_bestCell_66 0 rfl ?_
          refine g_iload C dX6_bestCell_68 6 rfl ?_
          refine g_icmp_ge (tgt := 81) C dX6_bestCell_70 (by decide) (fun c70 => ?_) (fun c70 => ?_)
          · have h := ifp h c70
            refine g_iinc (j := 7) (v := (x6_J55 + (1 : Int32))) (lv' := [(6, .int (x6_J55 + (1 : Int32))), (7, .int s0_J55), (0, .ref o), (1, .ref (a 32)), (2, .int x2), (3, .int x3), (4, .int x4_J55), (5, .int x5_J55)]) C dX6_bestCell_81 rfl rfl (by decide) rfl ?_
            refine g_goto (tgt := 11) C dX6_bestCell_84 (by decide) ?_
            obtain rfl := sinj h
            refine g_lv [2, 3, 4, 5, 6, 7, 0] rfl ?_
            exact ih11 x4_J55 x5_J55 (x6_J55 + (1 : Int32)) hw11
          · have h := ifn h c70
            refine g_iload C dX6_bestCell_73 7 rfl ?_
            refine g_istore (lv' := [(4, .int x6_J55), (7, .int s0_J55), (0, .ref o), (1, .ref (a 32)), (2, .int x2), (3, .int x3), (5, .int x5_J55), (6, .int x6_J55)]) C dX6_bestCell_75 (by decide) rfl ?_
            refine g_iload C dX6_bestCell_77 1 rfl ?_
            refine g_istore (lv' := [(5, .int s0_J55), (4, .int x6_J55), (7, .int s0_J55), (0, .ref o), (1, .ref (a 32)), (2, .int x2), (3, .int x3), (6, .int x6_J55)]) C dX6_bestCell_79 (by decide) rfl ?_
            refine g_iinc (j := 7) (v := (x6_J55 + (1 : Int32))) (lv' := [(6, .int (x6_J55 + (1 : Int32))), (5, .int s0_J55), (4, .int x6_J55), (7, .int s0_J55), (0, .ref o), (1, .ref (a 32)), (2, .int x2), (3, .int x3)]) C dX6_bestCell_81 rfl rfl (by decide) rfl ?_
            refine g_goto (tgt := 11) C dX6_bestCell_84 (by decide) ?_
            obtain rfl := sinj h
            refine g_lv [4, 5, 6, 7, 2, 1, 0] rfl ?_
            exact ih11 x6_J55 s0_J55 (x6_J55 + (1 : Int32)) hw11
      replace h : fX6_bestCell_32_L11 M x2 x3 x4_L11 x5_L11 x6_L11 = some z11 := h
      unfold fX6_bestCell_32_L11 at h
      refine g_iload C dX6_bestCell_11 6 rfl ?_
      refine g_aload_n C dX6_bestCell_13 rfl 0 rfl ?_
      refine g_get (v := .int (M.1 9)) C fl_X6_141 dX6_bestCell_14 0 rfl rfl ?_
      refine g_aload_n C dX6_bestCell_17 rfl 0 rfl ?_
      refine g_get (v := .int (M.1 10)) C fl_X6_144 dX6_bestCell_18 0 rfl rfl ?_
      refine g_imul C dX6_bestCell_21 ?_
      refine g_icmp_ge (tgt := 87) C dX6_bestCell_22 (by decide) (fun c22 => ?_) (fun c22 => ?_)
      · have h := ifp h c22
        obtain rfl := sinj h
        obtain rfl := wk_r hw11
        have h := hK11
        refine g_lv [4] rfl ?_
        exact j87 x4_L11 h
      · have h := ifn h c22
        refine g_iload_n C dX6_bestCell_25 rfl 2 rfl ?_
        refine g_if_le (tgt := 87) C dX6_bestCell_26 (by decide) (fun c26 => ?_) (fun c26 => ?_)
        · have h := ifp h c26
          obtain rfl := sinj h
          obtain rfl := wk_r hw11
          have h := hK11
          refine g_lv [4] rfl ?_
          exact j87 x4_L11 h
        · have h := ifn h c26
          refine g_aload_n C dX6_bestCell_29 rfl 1 rfl ?_
          refine g_iload C dX6_bestCell_30 6 rfl ?_
          obtain ⟨hg32, h⟩ := ifg h
          refine g_iald (f := (M.2.1 32)) C dX6_bestCell_32 14 0 rfl rfl hg32 ?_
          refine g_iload_n C dX6_bestCell_33 rfl 2 rfl ?_
          refine g_aload_n C dX6_bestCell_34 rfl 1 rfl ?_
          refine g_iload C dX6_bestCell_35 6 rfl ?_
          obtain ⟨hg37, h⟩ := ifg h
          refine g_iald (f := (M.2.1 32)) C dX6_bestCell_37 14 0 rfl rfl hg37 ?_
          refine g_isub C dX6_bestCell_38 ?_
          refine g_icmp_le (tgt := 49) C dX6_bestCell_39 (by decide) (fun c39 => ?_) (fun c39 => ?_)
          · have h := ifp h c39
            refine g_iload_n C dX6_bestCell_49 rfl 2 rfl ?_
            refine g_aload_n C dX6_bestCell_50 rfl 1 rfl ?_
            refine g_iload C dX6_bestCell_51 6 rfl ?_
            obtain ⟨hg53, h⟩ := ifg h
            refine g_iald (f := (M.2.1 32)) C dX6_bestCell_53 14 0 rfl rfl hg53 ?_
            refine g_isub C dX6_bestCell_54 ?_
            refine g_lv [0, 1, 2, 3, 4, 5, 6] rfl ?_
            exact j55 x4_L11 x5_L11 x6_L11 (x2 - ((M.2.1 32) x6_L11.toNatClampNeg)) _ h hw11
          · have h := ifn h c39
            refine g_aload_n C dX6_bestCell_42 rfl 1 rfl ?_
            refine g_iload C dX6_bestCell_43 6 rfl ?_
            obtain ⟨hg45, h⟩ := ifg h
            refine g_iald (f := (M.2.1 32)) C dX6_bestCell_45 14 0 rfl rfl hg45 ?_
            refine g_goto (tgt := 55) C dX6_bestCell_46 (by decide) ?_
            refine g_lv [0, 1, 2, 3, 4, 5, 6] rfl ?_
            exact j55 x4_L11 x5_L11 x6_L11 ((M.2.1 32) x6_L11.toNatClampNeg) _ h hw11
  refine g_lv [3, 4, 5, 6, 2, 1, 0] rfl ?_
  exact l11 100000 (-1 : Int32) (100000 : Int32) (0 : Int32) hW11
def fX6_lookOf (M : OM)  : Option (Int32 × OM) :=
  ((fX6_freshen M).bind (fun T1 => ((fX6_marked T1 (1 : Int32)).bind (fun r15 => ((fX6_marked T1 (2 : Int32)).bind (fun r20 => ((fX6_bestCell_23 T1 (T1.1 22) (r15 ||| r20)).bind (fun r24 => some (r24, T1)))))))))
set_option maxHeartbeats 4000000 in
set_option maxRecDepth 100000 in
theorem kX6_lookOf (l : Launch) (D : va_G) (cC cI cJ cZ : ClassId) (o : Nat) (a : Nat → Nat) (M : OM)  (r : Int32) (M' : OM) (h : fX6_lookOf M = some (r, M')) : gMi l yX6_lookOf cX6_lookOf 1 (some .int) (gR 7) D (tysG cC cI cJ cZ) [.ref o] (wMod cI cJ o a M) r (wMod cI cJ o a M') := by
  refine gMi_of (by decide) (Nat.le_of_ble_eq_true rfl) rfl ?_
  intro p e s m args below meth c A Q C hQ
  unfold fX6_lookOf at h
  refine g_aload_n C dX6_lookOf_0 rfl 0 rfl ?_
  obtain ⟨T1, h1, h⟩ := obd h
  refine g_callVv (st := []) (ws2 := wMod cI cJ o a T1) C yv_X6_freshen ml_X6_220 dX6_lookOf_1 (kX6_freshen l D cC cI cJ cZ o a M T1 h1) gCut_all ⟨by decide, by decide⟩ ⟨rfl, rfl⟩ ⟨Nat.zero_le _, Nat.zero_le _⟩ rfl rfl (Nat.le_of_ble_eq_true rfl) 5 0 rfl rfl rfl ?_
  refine g_aload_n C dX6_lookOf_4 rfl 0 rfl ?_
  refine g_aload_n C dX6_lookOf_5 rfl 0 rfl ?_
  refine g_get (v := .ref (a 23)) C fl_X6_38 dX6_lookOf_6 0 rfl rfl ?_
  refine g_aload_n C dX6_lookOf_9 rfl 0 rfl ?_
  refine g_get (v := .int (T1.1 22)) C fl_X6_201 dX6_lookOf_10 0 rfl rfl ?_
  refine g_aload_n C dX6_lookOf_13 rfl 0 rfl ?_
  refine g_iconst (v := (1 : Int32)) C dX6_lookOf_14 (by decide) ?_
  obtain ⟨r15, h15, h⟩ := obd h
  refine g_callVi (st := [.int (T1.1 22), .ref (a 23), .ref o]) (ws2 := wMod cI cJ o a T1) C yv_X6_marked ml_X6_204 dX6_lookOf_15 (kX6_marked l D cC cI cJ cZ o a T1 (1 : Int32) r15 h15) gCut_all ⟨by decide, by decide⟩ ⟨rfl, rfl⟩ ⟨Nat.zero_le _, Nat.zero_le _⟩ rfl rfl (Nat.le_of_ble_eq_true rfl) 5 0 rfl rfl rfl ?_
  refine g_aload_n C dX6_lookOf_18 rfl 0 rfl ?_
  refine g_iconst (v := (2 : Int32)) C dX6_lookOf_19 (by decide) ?_
  obtain ⟨r20, h20, h⟩ := obd h
  refine g_callVi (st := [.int r15, .int (T1.1 22), .ref (a 23), .ref o]) (ws2 := wMod cI cJ o a T1) C yv_X6_marked ml_X6_204 dX6_lookOf_20 (kX6_marked l D cC cI cJ cZ o a T1 (2 : Int32) r20 h20) gCut_all ⟨by decide, by decide⟩ ⟨rfl, rfl⟩ ⟨Nat.zero_le _, Nat.zero_le _⟩ rfl rfl (Nat.le_of_ble_eq_true rfl) 5 0 rfl rfl rfl ?_
  refine g_ior C dX6_lookOf_23 ?_
  obtain ⟨r24, h24, h⟩ := obd h
  refine g_callVi (st := []) (ws2 := wMod cI cJ o a T1) C yv_X6_bestCell ml_X6_268 dX6_lookOf_24 (kX6_bestCell_23 l D cC cI cJ cZ o a T1 (T1.1 22) (r15 ||| r20) r24 h24) gCut_all ⟨by decide, by decide⟩ ⟨rfl, rfl⟩ ⟨Nat.zero_le _, Nat.zero_le _⟩ rfl rfl (Nat.le_of_ble_eq_true rfl) 5 0 rfl rfl rfl ?_
  cases sinj h
  exact g_iret C dX6_lookOf_27 rfl rfl hQ
def fX6_look (M : OM)  : Option (Int32 × OM) :=
  ((fX6_lacks M).bind (fun r1 => (if r1 = 0 then ((fX6_lookOf M).bind (fun r => (fun r13 T13 => some (r13, T13)) r.1 r.2))
 else some ((-103 : Int32), M))))
set_option maxHeartbeats 4000000 in
set_option maxRecDepth 100000 in
theorem kX6_look (l : Launch) (D : va_G) (cC cI cJ cZ : ClassId) (o : Nat) (a : Nat → Nat) (M : OM)  (r : Int32) (M' : OM) (h : fX6_look M = some (r, M')) : gMi l yX6_look cX6_look 1 (some .int) (gR 8) D (tysG cC cI cJ cZ) [.ref o] (wMod cI cJ o a M) r (wMod cI cJ o a M') := by
  refine gMi_of (by decide) (Nat.le_of_ble_eq_true rfl) rfl ?_
  intro p e s m args below meth c A Q C hQ
  unfold fX6_look at h
  refine g_aload_n C dX6_look_0 rfl 0 rfl ?_
  obtain ⟨r1, h1, h⟩ := obd h
  refine g_callVi (st := []) (ws2 := wMod cI cJ o a M) C yv_X6_lacks ml_X6_223 dX6_look_1 (kX6_lacks l D cC cI cJ cZ o a M r1 h1) gCut_all ⟨by decide, by decide⟩ ⟨rfl, rfl⟩ ⟨Nat.zero_le _, Nat.zero_le _⟩ rfl rfl (Nat.le_of_ble_eq_true rfl) 5 0 rfl rfl rfl ?_
  refine g_if_eq (tgt := 12) C dX6_look_4 (by decide) (fun c4 => ?_) (fun c4 => ?_)
  · have h := ifp h c4
    refine g_aload_n C dX6_look_12 rfl 0 rfl ?_
    obtain ⟨⟨r13, T13⟩, h13, h⟩ := obd h
    refine g_callVi (st := []) (ws2 := wMod cI cJ o a T13) C yv_X6_lookOf ml_X6_272 dX6_look_13 (kX6_lookOf l D cC cI cJ cZ o a M r13 T13 h13) gCut_all ⟨by decide, by decide⟩ ⟨rfl, rfl⟩ ⟨Nat.zero_le _, Nat.zero_le _⟩ rfl rfl (Nat.le_of_ble_eq_true rfl) 5 0 rfl rfl rfl ?_
    cases sinj h
    exact g_iret C dX6_look_16 rfl rfl hQ
  · have h := ifn h c4
    refine g_bipush (v := (-103 : Int32)) C dX6_look_7 (by decide) ?_
    refine g_goto (tgt := 16) C dX6_look_9 (by decide) ?_
    cases sinj h
    exact g_iret C dX6_look_16 rfl rfl hQ
def fX6_oddsOf_L26 (x1_L26 : Int32) (x2_L26 : Int32) (M_L26 : OM) (x3_L26 : Int32) (x4_L26 : Int32) : Option ((Int32 × Int32) ⊕ (Int32)) :=
  (if x4_L26 ≤ 0 then some (.inr x3_L26)
 else (if ¬ x4_L26 = 0 then some (.inl (x4_L26, (x3_L26 - x3_L26 / x4_L26 * x4_L26))) else none))
def fX6_oddsOf_J47 (x1_J47 : Int32) (x2_J47 : Int32) (x3_J47 : Int32) (M_J47 : OM) : Option (Int32 × OM) :=
  (if x2_J47 = 0 then (if okI x1_J47 16 = true then (if ¬ x3_J47 = 0 then some ((((M_J47.2.1 23) x1_J47.toNatClampNeg) / x3_J47), M_J47) else none) else none)
 else (if ¬ x3_J47 = 0 then some (((M_J47.1 22) / x3_J47), M_J47) else none))
def fX6_oddsOf (M : OM) (x1 : Int32) (x2 : Int32) : Option (Int32 × OM) :=
  ((fX6_freshen M).bind (fun T1 => (if (T1.1 22) = 0 then some (x2, T1)
 else (if okI x1 16 = true then ((wh (σ := Int32 × Int32) (ρ := Int32) (fun t => fX6_oddsOf_L26 x1 x2 T1 t.1 t.2) 100000 ((T1.1 22), ((T1.2.1 23) x1.toNatClampNeg))).bind (fun e3_L26 => fX6_oddsOf_J47 x1 x2 e3_L26 T1)) else none))))
set_option maxHeartbeats 4000000 in
set_option maxRecDepth 100000 in
theorem kX6_oddsOf (l : Launch) (D : va_G) (cC cI cJ cZ : ClassId) (o : Nat) (a : Nat → Nat) (M : OM) (x1 : Int32) (x2 : Int32) (r : Int32) (M' : OM) (h : fX6_oddsOf M x1 x2 = some (r, M')) : gMi l yX6_oddsOf cX6_oddsOf 6 (some .int) (gR 7) D (tysG cC cI cJ cZ) [.ref o, .int x1, .int x2] (wMod cI cJ o a M) r (wMod cI cJ o a M') := by
  refine gMi_of (by decide) (Nat.le_of_ble_eq_true rfl) rfl ?_
  intro p e s m args below meth c A Q C hQ
  have j47 : ∀ (x1_J47 : Int32) (x2_J47 : Int32) (x3_J47 : Int32) (M_J47 : OM), fX6_oddsOf_J47 x1_J47 x2_J47 x3_J47 M_J47 = some (r, M') → gG p l e (gR 7) s m args below meth c 6 D A 0 0 Q 47 [(0, .ref o), (1, .int x1_J47), (2, .int x2_J47), (3, .int x3_J47)] [] (wMod cI cJ o a M_J47) := by
    intro x1_J47 x2_J47 x3_J47 M_J47 h
    unfold fX6_oddsOf_J47 at h
    refine g_iload_n C dX6_oddsOf_47 rfl 2 rfl ?_
    refine g_if_ne (tgt := 62) C dX6_oddsOf_48 (by decide) (fun c48 => ?_) (fun c48 => ?_)
    · have h := ifn h c48
      refine g_aload_n C dX6_oddsOf_62 rfl 0 rfl ?_
      refine g_get (v := .int (M_J47.1 22)) C fl_X6_201 dX6_oddsOf_63 0 rfl rfl ?_
      refine g_iload_n C dX6_oddsOf_66 rfl 3 rfl ?_
      obtain ⟨hg67, h⟩ := ifg h
      refine g_idiv C dX6_oddsOf_67 hg67 ?_
      cases sinj h
      exact g_iret C dX6_oddsOf_68 rfl rfl hQ
    · have h := ifp h c48
      refine g_aload_n C dX6_oddsOf_51 rfl 0 rfl ?_
      refine g_get (v := .ref (a 23)) C fl_X6_38 dX6_oddsOf_52 0 rfl rfl ?_
      refine g_iload_n C dX6_oddsOf_55 rfl 1 rfl ?_
      obtain ⟨hg56, h⟩ := ifg h
      refine g_iald (f := (M_J47.2.1 23)) C dX6_oddsOf_56 10 0 rfl rfl hg56 ?_
      refine g_iload_n C dX6_oddsOf_57 rfl 3 rfl ?_
      obtain ⟨hg58, h⟩ := ifg h
      refine g_idiv C dX6_oddsOf_58 hg58 ?_
      refine g_goto (tgt := 68) C dX6_oddsOf_59 (by decide) ?_
      cases sinj h
      exact g_iret C dX6_oddsOf_68 rfl rfl hQ
  unfold fX6_oddsOf at h
  refine g_aload_n C dX6_oddsOf_0 rfl 0 rfl ?_
  obtain ⟨T1, h1, h⟩ := obd h
  refine g_callVv (st := []) (ws2 := wMod cI cJ o a T1) C yv_X6_freshen ml_X6_220 dX6_oddsOf_1 (kX6_freshen l D cC cI cJ cZ o a M T1 h1) gCut_all ⟨by decide, by decide⟩ ⟨rfl, rfl⟩ ⟨Nat.zero_le _, Nat.zero_le _⟩ rfl rfl (Nat.le_of_ble_eq_true rfl) 5 0 rfl rfl rfl ?_
  refine g_aload_n C dX6_oddsOf_4 rfl 0 rfl ?_
  refine g_get (v := .int (T1.1 22)) C fl_X6_201 dX6_oddsOf_5 0 rfl rfl ?_
  refine g_if_ne (tgt := 13) C dX6_oddsOf_8 (by decide) (fun c8 => ?_) (fun c8 => ?_)
  · have h := ifn h c8
    refine g_aload_n C dX6_oddsOf_13 rfl 0 rfl ?_
    refine g_get (v := .int (T1.1 22)) C fl_X6_201 dX6_oddsOf_14 0 rfl rfl ?_
    refine g_istore_n (lv' := [(3, .int (T1.1 22)), (0, .ref o), (1, .int x1), (2, .int x2)]) C dX6_oddsOf_17 rfl (by decide) rfl ?_
    refine g_aload_n C dX6_oddsOf_18 rfl 1 rfl ?_
    refine g_get (v := .ref (a 23)) C fl_X6_38 dX6_oddsOf_19 0 rfl rfl ?_
    refine g_iload_n C dX6_oddsOf_22 rfl 2 rfl ?_
    obtain ⟨hg23, h⟩ := ifg h
    refine g_iald (f := (T1.2.1 23)) C dX6_oddsOf_23 10 0 rfl rfl hg23 ?_
    refine g_istore (lv' := [(4, .int ((T1.2.1 23) x1.toNatClampNeg)), (3, .int (T1.1 22)), (0, .ref o), (1, .int x1), (2, .int x2)]) C dX6_oddsOf_24 (by decide) rfl ?_
    obtain ⟨X26, hW26, hK26⟩ := obd h
    have l26 : ∀ (fu26 : Nat) (x3_L26 : Int32) (x4_L26 : Int32), wh (σ := Int32 × Int32) (ρ := Int32) (fun t => fX6_oddsOf_L26 x1 x2 T1 t.1 t.2) fu26 (x3_L26, x4_L26) = some X26 → gG p l e (gR 7) s m args below meth c 6 D A 0 0 Q 26 [(0, .ref o), (1, .int x1), (2, .int x2), (3, .int x3_L26), (4, .int x4_L26)] [] (wMod cI cJ o a T1) := by
      intro fu26
      induction fu26 with
      | zero => intro x3_L26 x4_L26 hW; exact (wh_0 hW).elim
      | succ fu26 ih26 =>
        intro x3_L26 x4_L26 hW
        obtain ⟨z26, h, hw26⟩ := wh_s hW
        replace h : fX6_oddsOf_L26 x1 x2 T1 x3_L26 x4_L26 = some z26 := h
        unfold fX6_oddsOf_L26 at h
        refine g_iload C dX6_oddsOf_26 4 rfl ?_
        refine g_if_le (tgt := 47) C dX6_oddsOf_28 (by decide) (fun c28 => ?_) (fun c28 => ?_)
        · have h := ifp h c28
          obtain rfl := sinj h
          obtain rfl := wk_r hw26
          have h := hK26
          refine g_lv [0, 1, 2, 3] rfl ?_
          exact j47 x1 x2 x3_L26 T1 h
        · have h := ifn h c28
          refine g_iload_n C dX6_oddsOf_31 rfl 3 rfl ?_
          refine g_iload C dX6_oddsOf_32 4 rfl ?_
          obtain ⟨hg34, h⟩ := ifg h
          refine g_irem C dX6_oddsOf_34 hg34 ?_
          refine g_istore (lv' := [(5, .int (x3_L26 - x3_L26 / x4_L26 * x4_L26)), (0, .ref o), (1, .int x1), (2, .int x2), (3, .int x3_L26), (4, .int x4_L26)]) C dX6_oddsOf_35 (by decide) rfl ?_
          refine g_iload C dX6_oddsOf_37 5 rfl ?_
          refine g_istore_n (lv' := [(3, .int x4_L26), (5, .int (x3_L26 - x3_L26 / x4_L26 * x4_L26)), (0, .ref o), (1, .int x1), (2, .int x2), (4, .int x4_L26)]) C dX6_oddsOf_39 rfl (by decide) rfl ?_
          refine g_iload C dX6_oddsOf_40 1 rfl ?_
          refine g_istore (lv' := [(4, .int (x3_L26 - x3_L26 / x4_L26 * x4_L26)), (3, .int x4_L26), (5, .int (x3_L26 - x3_L26 / x4_L26 * x4_L26)), (0, .ref o), (1, .int x1), (2, .int x2)]) C dX6_oddsOf_42 (by decide) rfl ?_
          refine g_goto (tgt := 26) C dX6_oddsOf_44 (by decide) ?_
          obtain rfl := sinj h
          refine g_lv [3, 4, 5, 1, 0] rfl ?_
          exact ih26 x4_L26 (x3_L26 - x3_L26 / x4_L26 * x4_L26) hw26
    refine g_lv [2, 3, 4, 1, 0] rfl ?_
    exact l26 100000 (T1.1 22) ((T1.2.1 23) x1.toNatClampNeg) hW26
  · have h := ifp h c8
    refine g_iload_n C dX6_oddsOf_11 rfl 2 rfl ?_
    cases sinj h
    exact g_iret C dX6_oddsOf_12 rfl rfl hQ
def fX6_odds (M : OM) (x1 : Int32) (x2 : Int32) : Option (Int32 × OM) :=
  ((fX6_isCell M x1).bind (fun r2 => (if r2 = 0 then some ((-101 : Int32), M)
 else ((fX6_in x2.toInt64 (0 : Int64) (1 : Int64)).bind (fun r15 => (if r15 = 0 then some ((-102 : Int32), M)
 else ((fX6_oddsOf M x1 x2).bind (fun r => (fun r24 T24 => some (r24, T24)) r.1 r.2))))))))
set_option maxHeartbeats 4000000 in
set_option maxRecDepth 100000 in
theorem kX6_odds (l : Launch) (D : va_G) (cC cI cJ cZ : ClassId) (o : Nat) (a : Nat → Nat) (M : OM) (x1 : Int32) (x2 : Int32) (r : Int32) (M' : OM) (h : fX6_odds M x1 x2 = some (r, M')) : gMi l yX6_odds cX6_odds 3 (some .int) (gR 8) D (tysG cC cI cJ cZ) [.ref o, .int x1, .int x2] (wMod cI cJ o a M) r (wMod cI cJ o a M') := by
  refine gMi_of (by decide) (Nat.le_of_ble_eq_true rfl) rfl ?_
  intro p e s m args below meth c A Q C hQ
  unfold fX6_odds at h
  refine g_aload_n C dX6_odds_0 rfl 0 rfl ?_
  refine g_iload_n C dX6_odds_1 rfl 1 rfl ?_
  obtain ⟨r2, h2, h⟩ := obd h
  refine g_callVi (st := []) (ws2 := wMod cI cJ o a M) C yv_X6_isCell ml_X6_242 dX6_odds_2 (kX6_isCell l D cC cI cJ cZ o a M x1 r2 h2) gCut_all ⟨by decide, by decide⟩ ⟨rfl, rfl⟩ ⟨Nat.zero_le _, Nat.zero_le _⟩ rfl rfl (Nat.le_of_ble_eq_true rfl) 5 0 rfl rfl rfl ?_
  refine g_if_ne (tgt := 11) C dX6_odds_5 (by decide) (fun c5 => ?_) (fun c5 => ?_)
  · have h := ifn h c5
    refine g_iload_n C dX6_odds_11 rfl 2 rfl ?_
    refine g_i2l C dX6_odds_12 ?_
    refine g_lconst (v := (0 : Int64)) C dX6_odds_13 (by decide) ?_
    refine g_lconst (v := (1 : Int64)) C dX6_odds_14 (by decide) ?_
    obtain ⟨r15, h15, h⟩ := obd h
    refine g_callSi (st := []) (ws2 := wMod cI cJ o a M) C ys_X6_in ml_X6_78 dX6_odds_15 (kX6_in l D cC cI cJ cZ x2.toInt64 (0 : Int64) (1 : Int64) r15 h15) gCut_nil ⟨by decide, by decide⟩ ⟨rfl, rfl⟩ ⟨Nat.zero_le _, Nat.zero_le _⟩ rfl rfl (Nat.le_of_ble_eq_true rfl) ?_
    refine g_if_eq (tgt := 30) C dX6_odds_18 (by decide) (fun c18 => ?_) (fun c18 => ?_)
    · have h := ifp h c18
      refine g_bipush (v := (-102 : Int32)) C dX6_odds_30 (by decide) ?_
      cases sinj h
      exact g_iret C dX6_odds_32 rfl rfl hQ
    · have h := ifn h c18
      refine g_aload_n C dX6_odds_21 rfl 0 rfl ?_
      refine g_iload_n C dX6_odds_22 rfl 1 rfl ?_
      refine g_iload_n C dX6_odds_23 rfl 2 rfl ?_
      obtain ⟨⟨r24, T24⟩, h24, h⟩ := obd h
      refine g_callVi (st := []) (ws2 := wMod cI cJ o a T24) C yv_X6_oddsOf ml_X6_275 dX6_odds_24 (kX6_oddsOf l D cC cI cJ cZ o a M x1 x2 r24 T24 h24) gCut_all ⟨by decide, by decide⟩ ⟨rfl, rfl⟩ ⟨Nat.zero_le _, Nat.zero_le _⟩ rfl rfl (Nat.le_of_ble_eq_true rfl) 5 0 rfl rfl rfl ?_
      refine g_goto (tgt := 32) C dX6_odds_27 (by decide) ?_
      cases sinj h
      exact g_iret C dX6_odds_32 rfl rfl hQ
  · have h := ifp h c5
    refine g_bipush (v := (-101 : Int32)) C dX6_odds_8 (by decide) ?_
    cases sinj h
    exact g_iret C dX6_odds_10 rfl rfl hQ
def fX6_isTelling_J26 (M : OM) (x1_L6 : Int32) (x2_L6 : Int32) (x3_J26 : Int32) : Option ((Int32) ⊕ ((Int32) ⊕ (Unit))) :=
  ((fX6_nextFit M x3_J26).bind (fun r28 => some (.inl r28)))
def fX6_isTelling_L6 (M : OM) (x1_L6 : Int32) (x2_L6 : Int32) (x3_L6 : Int32) : Option ((Int32) ⊕ ((Int32) ⊕ (Unit))) :=
  (if x3_L6 = (-1 : Int32) then some (.inr (.inr ()))
 else (if x3_L6 = x1_L6 then fX6_isTelling_J26 M x1_L6 x2_L6 x3_L6
 else (if ((x3_L6 ^^^ x1_L6) &&& x2_L6) = 0 then some (.inr (.inl (0 : Int32)))
 else fX6_isTelling_J26 M x1_L6 x2_L6 x3_L6)))
def fX6_isTelling_J35 (M : OM) : Option (Int32) :=
  some (1 : Int32)
def fX6_isTelling (M : OM) (x1 : Int32) (x2 : Int32) : Option (Int32) :=
  ((fX6_nextFit M (-1 : Int32)).bind (fun r2 => ((wh (σ := Int32) (ρ := (Int32) ⊕ (Unit)) (fun t => fX6_isTelling_L6 M x1 x2 t) 100000 r2).bind (fun X => Sum.elim (fun r => some r) (fun _ => fX6_isTelling_J35 M) X))))
set_option maxHeartbeats 4000000 in
set_option maxRecDepth 100000 in
theorem kX6_isTelling (l : Launch) (D : va_G) (cC cI cJ cZ : ClassId) (o : Nat) (a : Nat → Nat) (M : OM) (x1 : Int32) (x2 : Int32) (r : Int32) (h : fX6_isTelling M x1 x2 = some r) : gMi l yX6_isTelling cX6_isTelling 4 (some .boolean) (gR 3) D (tysG cC cI cJ cZ) [.ref o, .int x1, .int x2] (wMod cI cJ o a M) r (wMod cI cJ o a M) := by
  refine gMi_of (by decide) (Nat.le_of_ble_eq_true rfl) rfl ?_
  intro p e s m args below meth c A Q C hQ
  have j35 : fX6_isTelling_J35 M = some r → gG p l e (gR 3) s m args below meth c 4 D A 0 0 Q 35 [] [] (wMod cI cJ o a M) := by
    intro h
    unfold fX6_isTelling_J35 at h
    refine g_iconst (v := (1 : Int32)) C dX6_isTelling_35 (by decide) ?_
    cases sinj h
    exact g_zret C dX6_isTelling_36 rfl rfl rfl hQ
  unfold fX6_isTelling at h
  refine g_aload_n C dX6_isTelling_0 rfl 0 rfl ?_
  refine g_iconst (v := (-1 : Int32)) C dX6_isTelling_1 (by decide) ?_
  obtain ⟨r2, h2, h⟩ := obd h
  refine g_callVi (st := []) (ws2 := wMod cI cJ o a M) C yv_X6_nextFit ml_X6_217 dX6_isTelling_2 (kX6_nextFit l D cC cI cJ cZ o a M (-1 : Int32) r2 h2) gCut_all ⟨by decide, by decide⟩ ⟨rfl, rfl⟩ ⟨Nat.zero_le _, Nat.zero_le _⟩ rfl rfl (Nat.le_of_ble_eq_true rfl) 5 0 rfl rfl rfl ?_
  refine g_istore_n (lv' := [(3, .int r2), (0, .ref o), (1, .int x1), (2, .int x2)]) C dX6_isTelling_5 rfl (by decide) rfl ?_
  obtain ⟨X6, hW6, hK6⟩ := obd h
  have l6 : ∀ (fu6 : Nat) (x3_L6 : Int32), wh (σ := Int32) (ρ := (Int32) ⊕ (Unit)) (fun t => fX6_isTelling_L6 M x1 x2 t) fu6 x3_L6 = some X6 → gG p l e (gR 3) s m args below meth c 4 D A 0 0 Q 6 [(0, .ref o), (1, .int x1), (2, .int x2), (3, .int x3_L6)] [] (wMod cI cJ o a M) := by
    intro fu6
    induction fu6 with
    | zero => intro x3_L6 hW; exact (wh_0 hW).elim
    | succ fu6 ih6 =>
      intro x3_L6 hW
      obtain ⟨z6, h, hw6⟩ := wh_s hW
      have j26 : ∀ (x3_J26 : Int32) (z6 : (Int32) ⊕ ((Int32) ⊕ (Unit))), fX6_isTelling_J26 M x1 x2 x3_J26 = some z6 → wk (fun t => fX6_isTelling_L6 M x1 x2 t) fu6 z6 = some X6 → gG p l e (gR 3) s m args below meth c 4 D A 0 0 Q 26 [(0, .ref o), (1, .int x1), (2, .int x2), (3, .int x3_J26)] [] (wMod cI cJ o a M) := by
        intro x3_J26 z6 h hw6
        unfold fX6_isTelling_J26 at h
        refine g_aload_n C dX6_isTelling_26 rfl 0 rfl ?_
        refine g_iload_n C dX6_isTelling_27 rfl 3 rfl ?_
        obtain ⟨r28, h28, h⟩ := obd h
        refine g_callVi (st := []) (ws2 := wMod cI cJ o a M) C yv_X6_nextFit ml_X6_217 dX6_isTelling_28 (kX6_nextFit l D cC cI cJ cZ o a M x3_J26 r28 h28) gCut_all ⟨by decide, by decide⟩ ⟨rfl, rfl⟩ ⟨Nat.zero_le _, Nat.zero_le _⟩ rfl rfl (Nat.le_of_ble_eq_true rfl) 5 0 rfl rfl rfl ?_
        refine g_istore_n (lv' := [(3, .int r28), (0, .ref o), (1, .int x1), (2, .int x2)]) C dX6_isTelling_31 rfl (by decide) rfl ?_
        refine g_goto (tgt := 6) C dX6_isTelling_32 (by decide) ?_
        obtain rfl := sinj h
        refine g_lv [1, 2, 3, 0] rfl ?_
        exact ih6 r28 hw6
      replace h : fX6_isTelling_L6 M x1 x2 x3_L6 = some z6 := h
      unfold fX6_isTelling_L6 at h
      refine g_iload_n C dX6_isTelling_6 rfl 3 rfl ?_
      refine g_iconst (v := (-1 : Int32)) C dX6_isTelling_7 (by decide) ?_
      refine g_icmp_eq (tgt := 35) C dX6_isTelling_8 (by decide) (fun c8 => ?_) (fun c8 => ?_)
      · have h := ifp h c8
        obtain rfl := sinj h
        obtain rfl := wk_r hw6
        have h := ser hK6
        refine g_lv [] rfl ?_
        exact j35  h
      · have h := ifn h c8
        refine g_iload_n C dX6_isTelling_11 rfl 3 rfl ?_
        refine g_iload_n C dX6_isTelling_12 rfl 1 rfl ?_
        refine g_icmp_eq (tgt := 26) C dX6_isTelling_13 (by decide) (fun c13 => ?_) (fun c13 => ?_)
        · have h := ifp h c13
          refine g_lv [0, 1, 2, 3] rfl ?_
          exact j26 x3_L6 _ h hw6
        · have h := ifn h c13
          refine g_iload_n C dX6_isTelling_16 rfl 3 rfl ?_
          refine g_iload_n C dX6_isTelling_17 rfl 1 rfl ?_
          refine g_ixor C dX6_isTelling_18 ?_
          refine g_iload_n C dX6_isTelling_19 rfl 2 rfl ?_
          refine g_iand C dX6_isTelling_20 ?_
          refine g_if_ne (tgt := 26) C dX6_isTelling_21 (by decide) (fun c21 => ?_) (fun c21 => ?_)
          · have h := ifn h c21
            refine g_lv [0, 1, 2, 3] rfl ?_
            exact j26 x3_L6 _ h hw6
          · have h := ifp h c21
            refine g_iconst (v := (0 : Int32)) C dX6_isTelling_24 (by decide) ?_
            obtain rfl := sinj h
            obtain rfl := wk_r hw6
            have h := sel hK6
            cases sinj h
            exact g_zret C dX6_isTelling_25 rfl rfl rfl hQ
  refine g_lv [1, 2, 3, 0] rfl ?_
  exact l6 100000 r2 hW6
