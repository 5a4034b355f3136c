def fX3_take_L34 (S2 : Ob) (x2_L34 : Int32) (S_L34 : Ob) : Option ((Int32 × Ob) ⊕ (Ob)) :=
  ((fX4_lines S2).bind (fun r36 => (if r36 ≤ x2_L34 then some (.inr S_L34)
 else (if (8 : Int32) ≤ x2_L34 then some (.inr S_L34)
 else ((fX4_length S2 x2_L34).bind (fun r55 => (if okI x2_L34 8 = true then (if okI x2_L34 8 = true then (if okI x2_L34 8 = true then ((fX1_keeping r55 ((S2.2 2) x2_L34.toNatClampNeg) ((S2.2 3) x2_L34.toNatClampNeg) ((S2.2 4) x2_L34.toNatClampNeg)).bind (fun r76 => (if okI x2_L34 8 = true then some (.inl ((x2_L34 + (1 : Int32)), (S_L34.1, (va_up S_L34.2 4 (upd (S_L34.2 4) x2_L34.toNatClampNeg r76))))) else none))) else none) else none) else none)))))))
def fX3_take_J86 (S2 : Ob) (S_J86 : Ob) : Option (Ob) :=
  some S_J86
def fX3_take (S : Ob) (S2 : Ob)  : Option (Ob) :=
  ((wh (σ := Int32 × Ob) (ρ := Ob) (fun t => fX3_take_L34 S2 t.1 t.2) 100000 ((0 : Int32), ((va_up (va_up (va_up (va_up S.1 0 (S2.1 0)) 1 (S2.1 1)) 2 (S2.1 5)) 3 (S2.1 6)), S.2))).bind (fun S_E34 => fX3_take_J86 S2 S_E34))
set_option maxHeartbeats 4000000 in
set_option maxRecDepth 100000 in
theorem kX3_take (l : Launch) (D : va_G) (cC cI cJ cZ : ClassId) (o : Nat) (a : Nat → Nat) (o2 : Nat) (a2 : Nat → Nat) (S : Ob) (S2 : Ob)  (S' : Ob) (h : fX3_take S S2 = some S') : gMv l yX3_take cX3_take 3 none (gR 4) D (tysG cC cI cJ cZ) [.ref o, .ref o2] (wSrch cI o a S ++ wTab cI cZ o2 a2 S2) (wSrch cI o a S' ++ wTab cI cZ o2 a2 S2) := by
  refine gMv_of (by decide) (Nat.le_of_ble_eq_true rfl) rfl ?_
  intro p e s m args below meth c A Q C hQ
  have j86 : ∀ (S_J86 : Ob), fX3_take_J86 S2 S_J86 = some S' → gG p l e (gR 4) s m args below meth c 3 D A 0 0 Q 86 [] [] (wSrch cI o a S_J86 ++ wTab cI cZ o2 a2 S2) := by
    intro S_J86 h
    unfold fX3_take_J86 at h
    cases sinj h
    exact g_vret C dX3_take_86 rfl hQ
  unfold fX3_take at h
  refine g_aload_n C dX3_take_0 rfl 0 rfl ?_
  refine g_aload_n C dX3_take_1 rfl 1 rfl ?_
  refine g_get (v := .int (S2.1 0)) C fl_X3_18 dX3_take_2 3 rfl rfl ?_
  refine g_put (ws2 := wSrch cI o a ((va_up S.1 0 (S2.1 0)), S.2) ++ wTab cI cZ o2 a2 S2) C fp_X3_24 dX3_take_5 0 rfl rfl rfl (Nat.le_of_ble_eq_true rfl) rfl ?_
  refine g_aload_n C dX3_take_8 rfl 0 rfl ?_
  refine g_aload_n C dX3_take_9 rfl 1 rfl ?_
  refine g_get (v := .int (S2.1 1)) C fl_X3_25 dX3_take_10 3 rfl rfl ?_
  refine g_put (ws2 := wSrch cI o a ((va_up (va_up S.1 0 (S2.1 0)) 1 (S2.1 1)), S.2) ++ wTab cI cZ o2 a2 S2) C fp_X3_28 dX3_take_13 0 rfl rfl rfl (Nat.le_of_ble_eq_true rfl) rfl ?_
  refine g_aload_n C dX3_take_16 rfl 0 rfl ?_
  refine g_aload_n C dX3_take_17 rfl 1 rfl ?_
  refine g_get (v := .int (S2.1 5)) C fl_X3_29 dX3_take_18 3 rfl rfl ?_
  refine g_put (ws2 := wSrch cI o a ((va_up (va_up (va_up S.1 0 (S2.1 0)) 1 (S2.1 1)) 2 (S2.1 5)), S.2) ++ wTab cI cZ o2 a2 S2) C fp_X3_32 dX3_take_21 0 rfl rfl rfl (Nat.le_of_ble_eq_true rfl) rfl ?_
  refine g_aload_n C dX3_take_24 rfl 0 rfl ?_
  refine g_aload_n C dX3_take_25 rfl 1 rfl ?_
  refine g_get (v := .int (S2.1 6)) C fl_X3_33 dX3_take_26 3 rfl rfl ?_
  refine g_put (ws2 := wSrch cI o a ((va_up (va_up (va_up (va_up S.1 0 (S2.1 0)) 1 (S2.1 1)) 2 (S2.1 5)) 3 (S2.1 6)), S.2) ++ wTab cI cZ o2 a2 S2) C fp_X3_36 dX3_take_29 0 rfl rfl rfl (Nat.le_of_ble_eq_true rfl) rfl ?_
  refine g_iconst (v := (0 : Int32)) C dX3_take_32 (by decide) ?_
  refine g_istore_n (lv' := [(2, .int (0 : Int32)), (0, .ref o), (1, .ref o2)]) C dX3_take_33 rfl (by decide) rfl ?_
  obtain ⟨X34, hW34, hK34⟩ := obd h
  have l34 : ∀ (fu34 : Nat) (x2_L34 : Int32) (S_L34 : Ob), wh (σ := Int32 × Ob) (ρ := Ob) (fun t => fX3_take_L34 S2 t.1 t.2) fu34 (x2_L34, S_L34) = some X34 → gG p l e (gR 4) s m args below meth c 3 D A 0 0 Q 34 [(0, .ref o), (1, .ref o2), (2, .int x2_L34)] [] (wSrch cI o a S_L34 ++ wTab cI cZ o2 a2 S2) := by
    intro fu34
    induction fu34 with
    | zero => intro x2_L34 S_L34 hW; exact (wh_0 hW).elim
    | succ fu34 ih34 =>
      intro x2_L34 S_L34 hW
      obtain ⟨z34, h, hw34⟩ := wh_s hW
      replace h : fX3_take_L34 S2 x2_L34 S_L34 = some z34 := h
      unfold fX3_take_L34 at h
      refine g_iload_n C dX3_take_34 rfl 2 rfl ?_
      refine g_aload_n C dX3_take_35 rfl 1 rfl ?_
      obtain ⟨r36, h36, h⟩ := obd h
      refine g_callVi (st := [.int x2_L34]) (ws2 := wSrch cI o a S_L34 ++ wTab cI cZ o2 a2 S2) C yv_X4_lines ml_X3_37 dX3_take_36 (kX4_lines l D cC cI cJ cZ o2 a2 S2 r36 h36) (gCut_at [3, 4, 5, 6, 7, 8, 9] [0, 1, 2] [0, 1, 2, 3, 4, 5, 6, 7, 8, 9] rfl rfl rfl rfl (by decide) rfl rfl) ⟨by decide, by decide⟩ ⟨rfl, rfl⟩ ⟨Nat.zero_le _, Nat.zero_le _⟩ rfl rfl (Nat.le_of_ble_eq_true rfl) 3 3 rfl rfl rfl ?_
      refine g_icmp_ge (tgt := 86) C dX3_take_39 (by decide) (fun c39 => ?_) (fun c39 => ?_)
      · have h := ifp h c39
        obtain rfl := sinj h
        obtain rfl := wk_r hw34
        have h := hK34
        refine g_lv [] rfl ?_
        exact j86 S_L34 h
      · have h := ifn h c39
        refine g_iload_n C dX3_take_42 rfl 2 rfl ?_
        refine g_bipush (v := (8 : Int32)) C dX3_take_43 (by decide) ?_
        refine g_icmp_ge (tgt := 86) C dX3_take_45 (by decide) (fun c45 => ?_) (fun c45 => ?_)
        · have h := ifp h c45
          obtain rfl := sinj h
          obtain rfl := wk_r hw34
          have h := hK34
          refine g_lv [] rfl ?_
          exact j86 S_L34 h
        · have h := ifn h c45
          refine g_aload_n C dX3_take_48 rfl 0 rfl ?_
          refine g_get (v := .ref (a 4)) C fl_X3_9 dX3_take_49 0 rfl rfl ?_
          refine g_iload_n C dX3_take_52 rfl 2 rfl ?_
          refine g_aload_n C dX3_take_53 rfl 1 rfl ?_
          refine g_iload_n C dX3_take_54 rfl 2 rfl ?_
          obtain ⟨r55, h55, h⟩ := obd h
          refine g_callVi (st := [.int x2_L34, .ref (a 4)]) (ws2 := wSrch cI o a S_L34 ++ wTab cI cZ o2 a2 S2) C yv_X4_length ml_X3_41 dX3_take_55 (kX4_length l D cC cI cJ cZ o2 a2 S2 x2_L34 r55 h55) (gCut_at [3, 4, 5, 6, 7, 8, 9] [0, 1, 2] [0, 1, 2, 3, 4, 5, 6, 7, 8, 9] rfl rfl rfl rfl (by decide) rfl rfl) ⟨by decide, by decide⟩ ⟨rfl, rfl⟩ ⟨Nat.zero_le _, Nat.zero_le _⟩ rfl rfl (Nat.le_of_ble_eq_true rfl) 3 3 rfl rfl rfl ?_
          refine g_aload_n C dX3_take_58 rfl 1 rfl ?_
          refine g_get (v := .ref (a2 2)) C fl_X3_45 dX3_take_59 3 rfl rfl ?_
          refine g_iload_n C dX3_take_62 rfl 2 rfl ?_
          obtain ⟨hg63, h⟩ := ifg h
          refine g_iald (f := (S2.2 2)) C dX3_take_63 4 0 rfl rfl hg63 ?_
          refine g_aload_n C dX3_take_64 rfl 1 rfl ?_
          refine g_get (v := .ref (a2 3)) C fl_X3_48 dX3_take_65 3 rfl rfl ?_
          refine g_iload_n C dX3_take_68 rfl 2 rfl ?_
          obtain ⟨hg69, h⟩ := ifg h
          refine g_iald (f := (S2.2 3)) C dX3_take_69 5 0 rfl rfl hg69 ?_
          refine g_aload_n C dX3_take_70 rfl 1 rfl ?_
          refine g_get (v := .ref (a2 4)) C fl_X3_51 dX3_take_71 3 rfl rfl ?_
          refine g_iload_n C dX3_take_74 rfl 2 rfl ?_
          obtain ⟨hg75, h⟩ := ifg h
          refine g_iald (f := (S2.2 4)) C dX3_take_75 6 0 rfl rfl hg75 ?_
          obtain ⟨r76, h76, h⟩ := obd h
          refine g_callSi (st := [.int x2_L34, .ref (a 4)]) (ws2 := wSrch cI o a S_L34 ++ wTab cI cZ o2 a2 S2) C ys_X1_keeping ml_X3_54 dX3_take_76 (kX1_keeping l D cC cI cJ cZ r55 ((S2.2 2) x2_L34.toNatClampNeg) ((S2.2 3) x2_L34.toNatClampNeg) ((S2.2 4) x2_L34.toNatClampNeg) r76 h76) gCut_nil ⟨by decide, by decide⟩ ⟨rfl, rfl⟩ ⟨Nat.zero_le _, Nat.zero_le _⟩ rfl rfl (Nat.le_of_ble_eq_true rfl) ?_
          obtain ⟨hg79, h⟩ := ifg h
          refine g_iast (f := (S_L34.2 4)) (ws2 := wSrch cI o a (S_L34.1, (va_up S_L34.2 4 (upd (S_L34.2 4) x2_L34.toNatClampNeg r76))) ++ wTab cI cZ o2 a2 S2) C dX3_take_79 1 0 rfl rfl hg79 rfl ?_
          refine g_iinc (j := 2) (v := (x2_L34 + (1 : Int32))) (lv' := [(2, .int (x2_L34 + (1 : Int32))), (0, .ref o), (1, .ref o2)]) C dX3_take_80 rfl rfl (by decide) rfl ?_
          refine g_goto (tgt := 34) C dX3_take_83 (by decide) ?_
          obtain rfl := sinj h
          refine g_lv [1, 2, 0] rfl ?_
          exact ih34 (x2_L34 + (1 : Int32)) (S_L34.1, (va_up S_L34.2 4 (upd (S_L34.2 4) x2_L34.toNatClampNeg r76))) hw34
  refine g_lv [1, 2, 0] rfl ?_
  exact l34 100000 (0 : Int32) ((va_up (va_up (va_up (va_up S.1 0 (S2.1 0)) 1 (S2.1 1)) 2 (S2.1 5)) 3 (S2.1 6)), S.2) hW34
def fX3_openColumn_L34 (x1_L34 : Int32) (x3_L34 : Int32) (x4_L34 : Int32) (S_L34 : Ob) (x5_L34 : Int32) (x6_L34 : Int32) : Option ((Int32 × Int32) ⊕ (Int32)) :=
  (if ((1 : Int32) <<< ((S_L34.1 0) &&& 31)) ≤ x6_L34 then some (.inr x5_L34)
 else (if okI x3_L34 8 = true then (if ((((S_L34.2 4) x3_L34.toNatClampNeg) >>> (x6_L34 &&& 31)) &&& (1 : Int32)) = 0 then some (.inl (x5_L34, (x6_L34 + (1 : Int32))))
 else some (.inl ((x5_L34 ||| ((1 : Int32) <<< (((x6_L34 >>> (x1_L34 &&& 31)) <<< (x1_L34 &&& 31)) &&& 31))), (x6_L34 + (1 : Int32))))) else none))
def fX3_openColumn_J78 (x4_J78 : Int32) (x5_J78 : Int32) (S_J78 : Ob) : Option (Ob) :=
  (if okI x4_J78 16 = true then some (S_J78.1, (va_up S_J78.2 5 (upd (S_J78.2 5) x4_J78.toNatClampNeg x5_J78))) else none)
def fX3_openColumn (S : Ob) (x1 : Int32) (x2 : Int32) : Option (Ob) :=
  (if (8 : Int32) ≤ ((S.1 0) + x2) then some S
 else (if ((x1 * (4 : Int32)) + x2) < (16 : Int32) then ((wh (σ := Int32 × Int32) (ρ := Int32) (fun t => fX3_openColumn_L34 x1 ((S.1 0) + x2) ((x1 * (4 : Int32)) + x2) S t.1 t.2) 100000 ((0 : Int32), (0 : Int32))).bind (fun e5_L34 => fX3_openColumn_J78 ((x1 * (4 : Int32)) + x2) e5_L34 S))
 else some S))
set_option maxHeartbeats 4000000 in
set_option maxRecDepth 100000 in
theorem kX3_openColumn (l : Launch) (D : va_G) (cC cI cJ cZ : ClassId) (o : Nat) (a : Nat → Nat) (S : Ob) (x1 : Int32) (x2 : Int32) (S' : Ob) (h : fX3_openColumn S x1 x2 = some S') : gMv l yX3_openColumn cX3_openColumn 7 none (gR 1) D (tysG cC cI cJ cZ) [.ref o, .int x1, .int x2] (wSrch cI o a S) (wSrch cI o a S') := by
  refine gMv_of (by decide) (Nat.le_of_ble_eq_true rfl) rfl ?_
  intro p e s m args below meth c A Q C hQ
  have j78 : ∀ (x4_J78 : Int32) (x5_J78 : Int32) (S_J78 : Ob), fX3_openColumn_J78 x4_J78 x5_J78 S_J78 = some S' → gG p l e (gR 1) s m args below meth c 7 D A 0 0 Q 78 [(0, .ref o), (4, .int x4_J78), (5, .int x5_J78)] [] (wSrch cI o a S_J78) := by
    intro x4_J78 x5_J78 S_J78 h
    unfold fX3_openColumn_J78 at h
    refine g_aload_n C dX3_openColumn_78 rfl 0 rfl ?_
    refine g_get (v := .ref (a 5)) C fl_X3_15 dX3_openColumn_79 0 rfl rfl ?_
    refine g_iload C dX3_openColumn_82 1 rfl ?_
    refine g_iload C dX3_openColumn_84 2 rfl ?_
    obtain ⟨hg86, h⟩ := ifg h
    refine g_iast (f := (S_J78.2 5)) (ws2 := wSrch cI o a (S_J78.1, (va_up S_J78.2 5 (upd (S_J78.2 5) x4_J78.toNatClampNeg x5_J78)))) C dX3_openColumn_86 2 0 rfl rfl hg86 rfl ?_
    cases sinj h
    exact g_vret C dX3_openColumn_87 rfl hQ
  unfold fX3_openColumn at h
  refine g_aload_n C dX3_openColumn_0 rfl 0 rfl ?_
  refine g_get (v := .int (S.1 0)) C fl_X3_24 dX3_openColumn_1 0 rfl rfl ?_
  refine g_iload_n C dX3_openColumn_4 rfl 2 rfl ?_
  refine g_iadd C dX3_openColumn_5 ?_
  refine g_istore_n (lv' := [(3, .int ((S.1 0) + x2)), (0, .ref o), (1, .int x1), (2, .int x2)]) C dX3_openColumn_6 rfl (by decide) rfl ?_
  refine g_iload_n C dX3_openColumn_7 rfl 2 rfl ?_
  refine g_iconst (v := (4 : Int32)) C dX3_openColumn_8 (by decide) ?_
  refine g_imul C dX3_openColumn_9 ?_
  refine g_iload_n C dX3_openColumn_10 rfl 3 rfl ?_
  refine g_iadd C dX3_openColumn_11 ?_
  refine g_istore (lv' := [(4, .int ((x1 * (4 : Int32)) + x2)), (3, .int ((S.1 0) + x2)), (0, .ref o), (1, .int x1), (2, .int x2)]) C dX3_openColumn_12 (by decide) rfl ?_
  refine g_iload_n C dX3_openColumn_14 rfl 1 rfl ?_
  refine g_bipush (v := (8 : Int32)) C dX3_openColumn_15 (by decide) ?_
  refine g_icmp_ge (tgt := 27) C dX3_openColumn_17 (by decide) (fun c17 => ?_) (fun c17 => ?_)
  · have h := ifp h c17
    cases sinj h
    exact g_vret C dX3_openColumn_27 rfl hQ
  · have h := ifn h c17
    refine g_iload C dX3_openColumn_20 0 rfl ?_
    refine g_bipush (v := (16 : Int32)) C dX3_openColumn_22 (by decide) ?_
    refine g_icmp_lt (tgt := 28) C dX3_openColumn_24 (by decide) (fun c24 => ?_) (fun c24 => ?_)
    · have h := ifp h c24
      refine g_iconst (v := (0 : Int32)) C dX3_openColumn_28 (by decide) ?_
      refine g_istore (lv' := [(5, .int (0 : Int32)), (4, .int ((x1 * (4 : Int32)) + x2)), (3, .int ((S.1 0) + x2)), (0, .ref o), (1, .int x1), (2, .int x2)]) C dX3_openColumn_29 (by decide) rfl ?_
      refine g_iconst (v := (0 : Int32)) C dX3_openColumn_31 (by decide) ?_
      refine g_istore (lv' := [(6, .int (0 : Int32)), (5, .int (0 : Int32)), (4, .int ((x1 * (4 : Int32)) + x2)), (3, .int ((S.1 0) + x2)), (0, .ref o), (1, .int x1), (2, .int x2)]) C dX3_openColumn_32 (by decide) rfl ?_
      obtain ⟨X34, hW34, hK34⟩ := obd h
      have l34 : ∀ (fu34 : Nat) (x5_L34 : Int32) (x6_L34 : Int32), wh (σ := Int32 × Int32) (ρ := Int32) (fun t => fX3_openColumn_L34 x1 ((S.1 0) + x2) ((x1 * (4 : Int32)) + x2) S t.1 t.2) fu34 (x5_L34, x6_L34) = some X34 → gG p l e (gR 1) s m args below meth c 7 D A 0 0 Q 34 [(0, .ref o), (1, .int x1), (3, .int ((S.1 0) + x2)), (4, .int ((x1 * (4 : Int32)) + x2)), (5, .int x5_L34), (6, .int x6_L34)] [] (wSrch cI o a S) := by
        intro fu34
        induction fu34 with
        | zero => intro x5_L34 x6_L34 hW; exact (wh_0 hW).elim
        | succ fu34 ih34 =>
          intro x5_L34 x6_L34 hW
          obtain ⟨z34, h, hw34⟩ := wh_s hW
          replace h : fX3_openColumn_L34 x1 ((S.1 0) + x2) ((x1 * (4 : Int32)) + x2) S x5_L34 x6_L34 = some z34 := h
          unfold fX3_openColumn_L34 at h
          refine g_iload C dX3_openColumn_34 5 rfl ?_
          refine g_iconst (v := (1 : Int32)) C dX3_openColumn_36 (by decide) ?_
          refine g_aload_n C dX3_openColumn_37 rfl 0 rfl ?_
          refine g_get (v := .int (S.1 0)) C fl_X3_24 dX3_openColumn_38 0 rfl rfl ?_
          refine g_ishl C dX3_openColumn_41 ?_
          refine g_icmp_ge (tgt := 78) C dX3_openColumn_42 (by decide) (fun c42 => ?_) (fun c42 => ?_)
          · have h := ifp h c42
            obtain rfl := sinj h
            obtain rfl := wk_r hw34
            have h := hK34
            refine g_lv [0, 3, 4] rfl ?_
            exact j78 ((x1 * (4 : Int32)) + x2) x5_L34 S h
          · have h := ifn h c42
            refine g_aload_n C dX3_openColumn_45 rfl 0 rfl ?_
            refine g_get (v := .ref (a 4)) C fl_X3_9 dX3_openColumn_46 0 rfl rfl ?_
            refine g_iload_n C dX3_openColumn_49 rfl 2 rfl ?_
            obtain ⟨hg50, h⟩ := ifg h
            refine g_iald (f := (S.2 4)) C dX3_openColumn_50 1 0 rfl rfl hg50 ?_
            refine g_iload C dX3_openColumn_51 5 rfl ?_
            refine g_ishr C dX3_openColumn_53 ?_
            refine g_iconst (v := (1 : Int32)) C dX3_openColumn_54 (by decide) ?_
            refine g_iand C dX3_openColumn_55 ?_
            refine g_if_eq (tgt := 72) C dX3_openColumn_56 (by decide) (fun c56 => ?_) (fun c56 => ?_)
            · have h := ifp h c56
              refine g_iinc (j := 5) (v := (x6_L34 + (1 : Int32))) (lv' := [(6, .int (x6_L34 + (1 : Int32))), (0, .ref o), (1, .int x1), (3, .int ((S.1 0) + x2)), (4, .int ((x1 * (4 : Int32)) + x2)), (5, .int x5_L34)]) C dX3_openColumn_72 rfl rfl (by decide) rfl ?_
              refine g_goto (tgt := 34) C dX3_openColumn_75 (by decide) ?_
              obtain rfl := sinj h
              refine g_lv [1, 2, 3, 4, 5, 0] rfl ?_
              exact ih34 x5_L34 (x6_L34 + (1 : Int32)) hw34
            · have h := ifn h c56
              refine g_iload C dX3_openColumn_59 4 rfl ?_
              refine g_iconst (v := (1 : Int32)) C dX3_openColumn_61 (by decide) ?_
              refine g_iload C dX3_openColumn_62 5 rfl ?_
              refine g_iload_n C dX3_openColumn_64 rfl 1 rfl ?_
              refine g_ishr C dX3_openColumn_65 ?_
              refine g_iload_n C dX3_openColumn_66 rfl 1 rfl ?_
              refine g_ishl C dX3_openColumn_67 ?_
              refine g_ishl C dX3_openColumn_68 ?_
              refine g_ior C dX3_openColumn_69 ?_
              refine g_istore (lv' := [(5, .int (x5_L34 ||| ((1 : Int32) <<< (((x6_L34 >>> (x1 &&& 31)) <<< (x1 &&& 31)) &&& 31)))), (0, .ref o), (1, .int x1), (3, .int ((S.1 0) + x2)), (4, .int ((x1 * (4 : Int32)) + x2)), (6, .int x6_L34)]) C dX3_openColumn_70 (by decide) rfl ?_
              refine g_iinc (j := 5) (v := (x6_L34 + (1 : Int32))) (lv' := [(6, .int (x6_L34 + (1 : Int32))), (5, .int (x5_L34 ||| ((1 : Int32) <<< (((x6_L34 >>> (x1 &&& 31)) <<< (x1 &&& 31)) &&& 31)))), (0, .ref o), (1, .int x1), (3, .int ((S.1 0) + x2)), (4, .int ((x1 * (4 : Int32)) + x2))]) C dX3_openColumn_72 rfl rfl (by decide) rfl ?_
              refine g_goto (tgt := 34) C dX3_openColumn_75 (by decide) ?_
              obtain rfl := sinj h
              refine g_lv [2, 3, 4, 5, 1, 0] rfl ?_
              exact ih34 (x5_L34 ||| ((1 : Int32) <<< (((x6_L34 >>> (x1 &&& 31)) <<< (x1 &&& 31)) &&& 31))) (x6_L34 + (1 : Int32)) hw34
      refine g_lv [4, 5, 3, 2, 1, 0] rfl ?_
      exact l34 100000 (0 : Int32) (0 : Int32) hW34
    · have h := ifn h c24
      cases sinj h
      exact g_vret C dX3_openColumn_27 rfl hQ
def fX3_spread  (x0 : Int32) : Option (Int32) :=
  some ((((x0 &&& (1 : Int32)) ||| ((x0 &&& (2 : Int32)) <<< ((3 : Int32) &&& 31))) ||| ((x0 &&& (4 : Int32)) <<< ((6 : Int32) &&& 31))) ||| ((x0 &&& (8 : Int32)) <<< ((9 : Int32) &&& 31)))
set_option maxHeartbeats 4000000 in
set_option maxRecDepth 100000 in
theorem kX3_spread (l : Launch) (D : va_G) (cC cI cJ cZ : ClassId)  (x0 : Int32) (r : Int32) (h : fX3_spread x0 = some r) : gMi l yX3_spread cX3_spread 1 (some .int) (gR 1) D (tysG cC cI cJ cZ) [.int x0] ([]) r ([]) := by
  refine gMi_of (by decide) (Nat.le_of_ble_eq_true rfl) rfl ?_
  intro p e s m args below meth c A Q C hQ
  unfold fX3_spread at h
  refine g_iload_n C dX3_spread_0 rfl 0 rfl ?_
  refine g_iconst (v := (1 : Int32)) C dX3_spread_1 (by decide) ?_
  refine g_iand C dX3_spread_2 ?_
  refine g_iload_n C dX3_spread_3 rfl 0 rfl ?_
  refine g_iconst (v := (2 : Int32)) C dX3_spread_4 (by decide) ?_
  refine g_iand C dX3_spread_5 ?_
  refine g_iconst (v := (3 : Int32)) C dX3_spread_6 (by decide) ?_
  refine g_ishl C dX3_spread_7 ?_
  refine g_ior C dX3_spread_8 ?_
  refine g_iload_n C dX3_spread_9 rfl 0 rfl ?_
  refine g_iconst (v := (4 : Int32)) C dX3_spread_10 (by decide) ?_
  refine g_iand C dX3_spread_11 ?_
  refine g_bipush (v := (6 : Int32)) C dX3_spread_12 (by decide) ?_
  refine g_ishl C dX3_spread_14 ?_
  refine g_ior C dX3_spread_15 ?_
  refine g_iload_n C dX3_spread_16 rfl 0 rfl ?_
  refine g_bipush (v := (8 : Int32)) C dX3_spread_17 (by decide) ?_
  refine g_iand C dX3_spread_19 ?_
  refine g_bipush (v := (9 : Int32)) C dX3_spread_20 (by decide) ?_
  refine g_ishl C dX3_spread_22 ?_
  refine g_ior C dX3_spread_23 ?_
  cases sinj h
  exact g_iret C dX3_spread_24 rfl rfl hQ
def fX3_canGoOn_L2 (S : Ob) (x1_L2 : Int32) (x2_L2 : Int32) (x3_L2 : Int32) : Option ((Int32) ⊕ ((Int32) ⊕ (Unit))) :=
  (if (S.1 1) ≤ x3_L2 then some (.inr (.inr ()))
 else (if (4 : Int32) ≤ x3_L2 then some (.inr (.inr ()))
 else (if (16 : Int32) ≤ ((x1_L2 * (4 : Int32)) + x3_L2) then some (.inr (.inl (0 : Int32)))
 else (if okI ((x1_L2 * (4 : Int32)) + x3_L2) 16 = true then (if ((((S.2 5) ((x1_L2 * (4 : Int32)) + x3_L2).toNatClampNeg) >>> (((x2_L2 >>> ((x3_L2 * (4 : Int32)) &&& 31)) &&& (15 : Int32)) &&& 31)) &&& (1 : Int32)) = 0 then some (.inr (.inl (0 : Int32)))
 else some (.inl (x3_L2 + (1 : Int32)))) else none))))
def fX3_canGoOn_J62 (S : Ob) : Option (Int32) :=
  some (1 : Int32)
def fX3_canGoOn (S : Ob) (x1 : Int32) (x2 : Int32) : Option (Int32) :=
  ((wh (σ := Int32) (ρ := (Int32) ⊕ (Unit)) (fun t => fX3_canGoOn_L2 S x1 x2 t) 100000 (0 : Int32)).bind (fun X => Sum.elim (fun r => some r) (fun _ => fX3_canGoOn_J62 S) X))
set_option maxHeartbeats 4000000 in
set_option maxRecDepth 100000 in
theorem kX3_canGoOn (l : Launch) (D : va_G) (cC cI cJ cZ : ClassId) (o : Nat) (a : Nat → Nat) (S : Ob) (x1 : Int32) (x2 : Int32) (r : Int32) (h : fX3_canGoOn S x1 x2 = some r) : gMi l yX3_canGoOn cX3_canGoOn 6 (some .boolean) (gR 1) D (tysG cC cI cJ cZ) [.ref o, .int x1, .int x2] (wSrch cI o a S) r (wSrch cI o a S) := by
  refine gMi_of (by decide) (Nat.le_of_ble_eq_true rfl) rfl ?_
  intro p e s m args below meth c A Q C hQ
  have j62 : fX3_canGoOn_J62 S = some r → gG p l e (gR 1) s m args below meth c 6 D A 0 0 Q 62 [] [] (wSrch cI o a S) := by
    intro h
    unfold fX3_canGoOn_J62 at h
    refine g_iconst (v := (1 : Int32)) C dX3_canGoOn_62 (by decide) ?_
    cases sinj h
    exact g_zret C dX3_canGoOn_63 rfl rfl rfl hQ
  unfold fX3_canGoOn at h
  refine g_iconst (v := (0 : Int32)) C dX3_canGoOn_0 (by decide) ?_
  refine g_istore_n (lv' := [(3, .int (0 : Int32)), (0, .ref o), (1, .int x1), (2, .int x2)]) C dX3_canGoOn_1 rfl (by decide) rfl ?_
  obtain ⟨X2, hW2, hK2⟩ := obd h
  have l2 : ∀ (fu2 : Nat) (x3_L2 : Int32), wh (σ := Int32) (ρ := (Int32) ⊕ (Unit)) (fun t => fX3_canGoOn_L2 S x1 x2 t) fu2 x3_L2 = some X2 → gG p l e (gR 1) s m args below meth c 6 D A 0 0 Q 2 [(0, .ref o), (1, .int x1), (2, .int x2), (3, .int x3_L2)] [] (wSrch cI o a S) := by
    intro fu2
    induction fu2 with
    | zero => intro x3_L2 hW; exact (wh_0 hW).elim
    | succ fu2 ih2 =>
      intro x3_L2 hW
      obtain ⟨z2, h, hw2⟩ := wh_s hW
      replace h : fX3_canGoOn_L2 S x1 x2 x3_L2 = some z2 := h
      unfold fX3_canGoOn_L2 at h
      refine g_iload_n C dX3_canGoOn_2 rfl 3 rfl ?_
      refine g_aload_n C dX3_canGoOn_3 rfl 0 rfl ?_
      refine g_get (v := .int (S.1 1)) C fl_X3_28 dX3_canGoOn_4 0 rfl rfl ?_
      refine g_icmp_ge (tgt := 62) C dX3_canGoOn_7 (by decide) (fun c7 => ?_) (fun c7 => ?_)
      · have h := ifp h c7
        obtain rfl := sinj h
        obtain rfl := wk_r hw2
        have h := ser hK2
        refine g_lv [] rfl ?_
        exact j62  h
      · have h := ifn h c7
        refine g_iload_n C dX3_canGoOn_10 rfl 3 rfl ?_
        refine g_iconst (v := (4 : Int32)) C dX3_canGoOn_11 (by decide) ?_
        refine g_icmp_ge (tgt := 62) C dX3_canGoOn_12 (by decide) (fun c12 => ?_) (fun c12 => ?_)
        · have h := ifp h c12
          obtain rfl := sinj h
          obtain rfl := wk_r hw2
          have h := ser hK2
          refine g_lv [] rfl ?_
          exact j62  h
        · have h := ifn h c12
          refine g_iload_n C dX3_canGoOn_15 rfl 2 rfl ?_
          refine g_iload_n C dX3_canGoOn_16 rfl 3 rfl ?_
          refine g_iconst (v := (4 : Int32)) C dX3_canGoOn_17 (by decide) ?_
          refine g_imul C dX3_canGoOn_18 ?_
          refine g_ishr C dX3_canGoOn_19 ?_
          refine g_bipush (v := (15 : Int32)) C dX3_canGoOn_20 (by decide) ?_
          refine g_iand C dX3_canGoOn_22 ?_
          refine g_istore (lv' := [(4, .int ((x2 >>> ((x3_L2 * (4 : Int32)) &&& 31)) &&& (15 : Int32))), (0, .ref o), (1, .int x1), (2, .int x2), (3, .int x3_L2)]) C dX3_canGoOn_23 (by decide) rfl ?_
          refine g_iload_n C dX3_canGoOn_25 rfl 2 rfl ?_
          refine g_iconst (v := (4 : Int32)) C dX3_canGoOn_26 (by decide) ?_
          refine g_imul C dX3_canGoOn_27 ?_
          refine g_iload_n C dX3_canGoOn_28 rfl 4 rfl ?_
          refine g_iadd C dX3_canGoOn_29 ?_
          refine g_istore (lv' := [(5, .int ((x1 * (4 : Int32)) + x3_L2)), (4, .int ((x2 >>> ((x3_L2 * (4 : Int32)) &&& 31)) &&& (15 : Int32))), (0, .ref o), (1, .int x1), (2, .int x2), (3, .int x3_L2)]) C dX3_canGoOn_30 (by decide) rfl ?_
          refine g_iload C dX3_canGoOn_32 0 rfl ?_
          refine g_bipush (v := (16 : Int32)) C dX3_canGoOn_34 (by decide) ?_
          refine g_icmp_ge (tgt := 54) C dX3_canGoOn_36 (by decide) (fun c36 => ?_) (fun c36 => ?_)
          · have h := ifp h c36
            refine g_iconst (v := (0 : Int32)) C dX3_canGoOn_54 (by decide) ?_
            obtain rfl := sinj h
            obtain rfl := wk_r hw2
            have h := sel hK2
            cases sinj h
            exact g_zret C dX3_canGoOn_55 rfl rfl rfl hQ
          · have h := ifn h c36
            refine g_aload_n C dX3_canGoOn_39 rfl 2 rfl ?_
            refine g_get (v := .ref (a 5)) C fl_X3_15 dX3_canGoOn_40 0 rfl rfl ?_
            refine g_iload C dX3_canGoOn_43 0 rfl ?_
            obtain ⟨hg45, h⟩ := ifg h
            refine g_iald (f := (S.2 5)) C dX3_canGoOn_45 2 0 rfl rfl hg45 ?_
            refine g_iload C dX3_canGoOn_46 1 rfl ?_
            refine g_ishr C dX3_canGoOn_48 ?_
            refine g_iconst (v := (1 : Int32)) C dX3_canGoOn_49 (by decide) ?_
            refine g_iand C dX3_canGoOn_50 ?_
            refine g_if_ne (tgt := 56) C dX3_canGoOn_51 (by decide) (fun c51 => ?_) (fun c51 => ?_)
            · have h := ifn h c51
              refine g_iinc (j := 5) (v := (x3_L2 + (1 : Int32))) (lv' := [(3, .int (x3_L2 + (1 : Int32))), (5, .int ((x1 * (4 : Int32)) + x3_L2)), (4, .int ((x2 >>> ((x3_L2 * (4 : Int32)) &&& 31)) &&& (15 : Int32))), (0, .ref o), (1, .int x1), (2, .int x2)]) C dX3_canGoOn_56 rfl rfl (by decide) rfl ?_
              refine g_goto (tgt := 2) C dX3_canGoOn_59 (by decide) ?_
              obtain rfl := sinj h
              refine g_lv [3, 4, 5, 0] rfl ?_
              exact ih2 (x3_L2 + (1 : Int32)) hw2
            · have h := ifp h c51
              refine g_iconst (v := (0 : Int32)) C dX3_canGoOn_54 (by decide) ?_
              obtain rfl := sinj h
              obtain rfl := wk_r hw2
              have h := sel hK2
              cases sinj h
              exact g_zret C dX3_canGoOn_55 rfl rfl rfl hQ
  refine g_lv [1, 2, 3, 0] rfl ?_
  exact l2 100000 (0 : Int32) hW2
def fX3_lay_n_L77 (rec_ : Ob → Int32 → Int32 → Int32 → Option (Ob)) (x1_L77 : Int32) (x2_L77 : Int32) (x3_L77 : Int32) (x5_L77 : Int32) (x6_L77 : Int32) (x7_L77 : Int32) (x8_L77 : Int32) (S_L77 : Ob) : Option ((Int32 × Ob) ⊕ (Ob)) :=
  (if x5_L77 < x8_L77 then some (.inr S_L77)
 else (if (S_L77.1 6) ≤ (S_L77.1 7) then some (.inr S_L77)
 else (if okI x1_L77 8 = true then (if ((((S_L77.2 4) x1_L77.toNatClampNeg) >>> (x8_L77 &&& 31)) &&& (1 : Int32)) = 0 then some (.inl ((x8_L77 + (1 : Int32)), S_L77))
 else (if (x8_L77 &&& x6_L77) = x6_L77 then (if (x8_L77 &&& x7_L77) = 0 then ((fX3_spread x8_L77).bind (fun r136 => ((fX3_canGoOn S_L77 x1_L77 (x3_L77 ||| (r136 <<< (x1_L77 &&& 31)))).bind (fun r148 => (if r148 = 0 then some (.inl ((x8_L77 + (1 : Int32)), S_L77))
 else ((rec_ S_L77 (x1_L77 - (1 : Int32)) (x2_L77 ||| (x8_L77 <<< ((x1_L77 * (S_L77.1 1)) &&& 31))) (x3_L77 ||| (r136 <<< (x1_L77 &&& 31)))).bind (fun T173 => some (.inl ((x8_L77 + (1 : Int32)), T173)))))))))
 else some (.inl ((x8_L77 + (1 : Int32)), S_L77)))
 else some (.inl ((x8_L77 + (1 : Int32)), S_L77)))) else none)))
def fX3_lay_n_J182 (rec_ : Ob → Int32 → Int32 → Int32 → Option (Ob)) (S_J182 : Ob) : Option (Ob) :=
  some S_J182
def fX3_lay_n_B (rec_ : Ob → Int32 → Int32 → Int32 → Option (Ob)) (S : Ob) (x1 : Int32) (x2 : Int32) (x3 : Int32) : Option (Ob) :=
  (if x1 < (4 : Int32) then (if 0 ≤ x1 then ((wh (σ := Int32 × Ob) (ρ := Ob) (fun t => fX3_lay_n_L77 rec_ x1 x2 x3 (((1 : Int32) <<< ((S.1 1) &&& 31)) - (1 : Int32)) (((S.1 2) >>> ((x1 * (S.1 1)) &&& 31)) &&& (((1 : Int32) <<< ((S.1 1) &&& 31)) - (1 : Int32))) (((S.1 3) >>> ((x1 * (S.1 1)) &&& 31)) &&& (((1 : Int32) <<< ((S.1 1) &&& 31)) - (1 : Int32))) t.1 t.2) 100000 ((0 : Int32), S)).bind (fun S_E77 => fX3_lay_n_J182 rec_ S_E77))
 else some ((va_up S.1 7 ((S.1 7) + (1 : Int32))), S.2))
 else some S)
def fX3_lay_n : Nat → Ob → Int32 → Int32 → Int32 → Option (Ob)
  | 0 => fun _ _ _ _ => none
  | d + 1 => fun S x1 x2 x3 => fX3_lay_n_B (fX3_lay_n d) S x1 x2 x3
set_option maxHeartbeats 4000000 in
set_option maxRecDepth 100000 in
theorem kX3_lay_n (l : Launch) (D : va_G) (cC cI cJ cZ : ClassId) (o : Nat) (a : Nat → Nat) : ∀ (d : Nat) (S : Ob) (x1 : Int32) (x2 : Int32) (x3 : Int32) (S' : Ob), fX3_lay_n d S x1 x2 x3 = some S' → gMv l yX3_lay cX3_lay 10 none (gR (2 + d)) D (tysG cC cI cJ cZ) [.ref o, .int x1, .int x2, .int x3, .null] (wSrch cI o a S) (wSrch cI o a S') := by
  intro d
  induction d with
  | zero => intro S x1 x2 x3 S' h; cases h
  | succ d ihd =>
    intro S x1 x2 x3 S' h
    refine gMv_of (by decide) (Nat.le_of_ble_eq_true rfl) rfl ?_
    intro p e s m args below meth c A Q C hQ
    replace h : fX3_lay_n_B (fX3_lay_n d) S x1 x2 x3 = some S' := h
    generalize fX3_lay_n d = rec_ at h ihd
    have j182 : ∀ (S_J182 : Ob), fX3_lay_n_J182 rec_ S_J182 = some S' → gG p l e (gR (2 + (d + 1))) s m args below meth c 10 D A 0 0 Q 182 [] [] (wSrch cI o a S_J182) := by
      intro S_J182 h
      unfold fX3_lay_n_J182 at h
      cases sinj h
      exact g_vret C dX3_lay_182 rfl hQ
    unfold fX3_lay_n_B at h
    refine g_iload_n C dX3_lay_0 rfl 1 rfl ?_
    refine g_iconst (v := (4 : Int32)) C dX3_lay_1 (by decide) ?_
    refine g_icmp_lt (tgt := 6) C dX3_lay_2 (by decide) (fun c2 => ?_) (fun c2 => ?_)
    · have h := ifp h c2
      refine g_iload_n C dX3_lay_6 rfl 1 rfl ?_
      refine g_if_ge (tgt := 32) C dX3_lay_7 (by decide) (fun c7 => ?_) (fun c7 => ?_)
      · have h := ifp h c7
        refine g_iconst (v := (1 : Int32)) C dX3_lay_32 (by decide) ?_
        refine g_aload_n C dX3_lay_33 rfl 0 rfl ?_
        refine g_get (v := .int (S.1 1)) C fl_X3_28 dX3_lay_34 0 rfl rfl ?_
        refine g_ishl C dX3_lay_37 ?_
        refine g_iconst (v := (1 : Int32)) C dX3_lay_38 (by decide) ?_
        refine g_isub C dX3_lay_39 ?_
        refine g_istore (lv' := [(5, .int (((1 : Int32) <<< ((S.1 1) &&& 31)) - (1 : Int32))), (0, .ref o), (1, .int x1), (2, .int x2), (3, .int x3), (4, .null)]) C dX3_lay_40 (by decide) rfl ?_
        refine g_aload_n C dX3_lay_42 rfl 1 rfl ?_
        refine g_get (v := .int (S.1 2)) C fl_X3_32 dX3_lay_43 0 rfl rfl ?_
        refine g_iload_n C dX3_lay_46 rfl 2 rfl ?_
        refine g_aload_n C dX3_lay_47 rfl 1 rfl ?_
        refine g_get (v := .int (S.1 1)) C fl_X3_28 dX3_lay_48 0 rfl rfl ?_
        refine g_imul C dX3_lay_51 ?_
        refine g_ishr C dX3_lay_52 ?_
        refine g_iload C dX3_lay_53 0 rfl ?_
        refine g_iand C dX3_lay_55 ?_
        refine g_istore (lv' := [(6, .int (((S.1 2) >>> ((x1 * (S.1 1)) &&& 31)) &&& (((1 : Int32) <<< ((S.1 1) &&& 31)) - (1 : Int32)))), (5, .int (((1 : Int32) <<< ((S.1 1) &&& 31)) - (1 : Int32))), (0, .ref o), (1, .int x1), (2, .int x2), (3, .int x3), (4, .null)]) C dX3_lay_56 (by decide) rfl ?_
        refine g_aload_n C dX3_lay_58 rfl 2 rfl ?_
        refine g_get (v := .int (S.1 3)) C fl_X3_36 dX3_lay_59 0 rfl rfl ?_
        refine g_iload_n C dX3_lay_62 rfl 3 rfl ?_
        refine g_aload_n C dX3_lay_63 rfl 2 rfl ?_
        refine g_get (v := .int (S.1 1)) C fl_X3_28 dX3_lay_64 0 rfl rfl ?_
        refine g_imul C dX3_lay_67 ?_
        refine g_ishr C dX3_lay_68 ?_
        refine g_iload C dX3_lay_69 1 rfl ?_
        refine g_iand C dX3_lay_71 ?_
        refine g_istore (lv' := [(7, .int (((S.1 3) >>> ((x1 * (S.1 1)) &&& 31)) &&& (((1 : Int32) <<< ((S.1 1) &&& 31)) - (1 : Int32)))), (6, .int (((S.1 2) >>> ((x1 * (S.1 1)) &&& 31)) &&& (((1 : Int32) <<< ((S.1 1) &&& 31)) - (1 : Int32)))), (5, .int (((1 : Int32) <<< ((S.1 1) &&& 31)) - (1 : Int32))), (0, .ref o), (1, .int x1), (2, .int x2), (3, .int x3), (4, .null)]) C dX3_lay_72 (by decide) rfl ?_
        refine g_iconst (v := (0 : Int32)) C dX3_lay_74 (by decide) ?_
        refine g_istore (lv' := [(8, .int (0 : Int32)), (7, .int (((S.1 3) >>> ((x1 * (S.1 1)) &&& 31)) &&& (((1 : Int32) <<< ((S.1 1) &&& 31)) - (1 : Int32)))), (6, .int (((S.1 2) >>> ((x1 * (S.1 1)) &&& 31)) &&& (((1 : Int32) <<< ((S.1 1) &&& 31)) - (1 : Int32)))), (5, .int (((1 : Int32) <<< ((S.1 1) &&& 31)) - (1 : Int32))), (0, .ref o), (1, .int x1), (2, .int x2), (3, .int x3), (4, .null)]) C dX3_lay_75 (by decide) rfl ?_
        obtain ⟨X77, hW77, hK77⟩ := obd h
        have l77 : ∀ (fu77 : Nat) (x8_L77 : Int32) (S_L77 : Ob), wh (σ := Int32 × Ob) (ρ := Ob) (fun t => fX3_lay_n_L77 rec_ x1 x2 x3 (((1 : Int32) <<< ((S.1 1) &&& 31)) - (1 : Int32)) (((S.1 2) >>> ((x1 * (S.1 1)) &&& 31)) &&& (((1 : Int32) <<< ((S.1 1) &&& 31)) - (1 : Int32))) (((S.1 3) >>> ((x1 * (S.1 1)) &&& 31)) &&& (((1 : Int32) <<< ((S.1 1) &&& 31)) - (1 : Int32))) t.1 t.2) fu77 (x8_L77, S_L77) = some X77 → gG p l e (gR (2 + (d + 1))) s m args below meth c 10 D A 0 0 Q 77 [(0, .ref o), (1, .int x1), (2, .int x2), (3, .int x3), (4, .null), (5, .int (((1 : Int32) <<< ((S.1 1) &&& 31)) - (1 : Int32))), (6, .int (((S.1 2) >>> ((x1 * (S.1 1)) &&& 31)) &&& (((1 : Int32) <<< ((S.1 1) &&& 31)) - (1 : Int32)))), (7, .int (((S.1 3) >>> ((x1 * (S.1 1)) &&& 31)) &&& (((1 : Int32) <<< ((S.1 1) &&& 31)) - (1 : Int32)))), (8, .int x8_L77)] [] (wSrch cI o a S_L77) := by
          intro fu77
          induction fu77 with
          | zero => intro x8_L77 S_L77 hW; exact (wh_0 hW).elim
          | succ fu77 ih77 =>
            intro x8_L77 S_L77 hW
            obtain ⟨z77, h, hw77⟩ := wh_s hW
            replace h : fX3_lay_n_L77 rec_ x1 x2 x3 (((1 : Int32) <<< ((S.1 1) &&& 31)) - (1 : Int32)) (((S.1 2) >>> ((x1 * (S.1 1)) &&& 31)) &&& (((1 : Int32) <<< ((S.1 1) &&& 31)) - (1 : Int32))) (((S.1 3) >>> ((x1 * (S.1 1)) &&& 31)) &&& (((1 : Int32) <<< ((S.1 1) &&& 31)) - (1 : Int32))) x8_L77 S_L77 = some z77 := h
            unfold fX3_lay_n_L77 at h
            refine g_iload C dX3_lay_77 8 rfl ?_
            refine g_iload C dX3_lay_79 5 rfl ?_
            refine g_icmp_gt (tgt := 182) C dX3_lay_81 (by decide) (fun c81 => ?_) (fun c81 => ?_)
            · have h := ifp h c81
              obtain rfl := sinj h
              obtain rfl := wk_r hw77
              have h := hK77
              refine g_lv [] rfl ?_
              exact j182 S_L77 h
            · have h := ifn h c81
              refine g_aload_n C dX3_lay_84 rfl 0 rfl ?_
              refine g_get (v := .int (S_L77.1 7)) C fl_X3_64 dX3_lay_85 0 rfl rfl ?_
              refine g_aload_n C dX3_lay_88 rfl 0 rfl ?_
              refine g_get (v := .int (S_L77.1 6)) C fl_X3_67 dX3_lay_89 0 rfl rfl ?_
              refine g_icmp_ge (tgt := 182) C dX3_lay_92 (by decide) (fun c92 => ?_) (fun c92 => ?_)
              · have h := ifp h c92
                obtain rfl := sinj h
                obtain rfl := wk_r hw77
                have h := hK77
                refine g_lv [] rfl ?_
                exact j182 S_L77 h
              · have h := ifn h c92
                refine g_aload_n C dX3_lay_95 rfl 0 rfl ?_
                refine g_get (v := .ref (a 4)) C fl_X3_9 dX3_lay_96 0 rfl rfl ?_
                refine g_iload_n C dX3_lay_99 rfl 1 rfl ?_
                obtain ⟨hg100, h⟩ := ifg h
                refine g_iald (f := (S_L77.2 4)) C dX3_lay_100 1 0 rfl rfl hg100 ?_
                refine g_iload C dX3_lay_101 8 rfl ?_
                refine g_ishr C dX3_lay_103 ?_
                refine g_iconst (v := (1 : Int32)) C dX3_lay_104 (by decide) ?_
                refine g_iand C dX3_lay_105 ?_
                refine g_if_ne (tgt := 112) C dX3_lay_106 (by decide) (fun c106 => ?_) (fun c106 => ?_)
                · have h := ifn h c106
                  refine g_iload C dX3_lay_112 8 rfl ?_
                  refine g_iload C dX3_lay_114 6 rfl ?_
                  refine g_iand C dX3_lay_116 ?_
                  refine g_iload C dX3_lay_117 6 rfl ?_
                  refine g_icmp_ne (tgt := 176) C dX3_lay_119 (by decide) (fun c119 => ?_) (fun c119 => ?_)
                  · have h := ifn h c119
                    refine g_iinc (j := 8) (v := (x8_L77 + (1 : Int32))) (lv' := [(8, .int (x8_L77 + (1 : Int32))), (0, .ref o), (1, .int x1), (2, .int x2), (3, .int x3), (4, .null), (5, .int (((1 : Int32) <<< ((S.1 1) &&& 31)) - (1 : Int32))), (6, .int (((S.1 2) >>> ((x1 * (S.1 1)) &&& 31)) &&& (((1 : Int32) <<< ((S.1 1) &&& 31)) - (1 : Int32)))), (7, .int (((S.1 3) >>> ((x1 * (S.1 1)) &&& 31)) &&& (((1 : Int32) <<< ((S.1 1) &&& 31)) - (1 : Int32))))]) C dX3_lay_176 rfl rfl (by decide) rfl ?_
                    refine g_goto (tgt := 77) C dX3_lay_179 (by decide) ?_
                    obtain rfl := sinj h
                    refine g_lv [1, 2, 3, 4, 5, 6, 7, 8, 0] rfl ?_
                    exact ih77 (x8_L77 + (1 : Int32)) S_L77 hw77
                  · have h := ifp h c119
                    refine g_iload C dX3_lay_122 8 rfl ?_
                    refine g_iload C dX3_lay_124 7 rfl ?_
                    refine g_iand C dX3_lay_126 ?_
                    refine g_if_eq (tgt := 133) C dX3_lay_127 (by decide) (fun c127 => ?_) (fun c127 => ?_)
                    · have h := ifp h c127
                      refine g_iload_n C dX3_lay_133 rfl 3 rfl ?_
                      refine g_iload C dX3_lay_134 8 rfl ?_
                      obtain ⟨r136, h136, h⟩ := obd h
                      refine g_callSi (st := [.int x3]) (ws2 := wSrch cI o a S_L77) C ys_X3_spread ml_X3_84 dX3_lay_136 (kX3_spread l D cC cI cJ cZ x8_L77 r136 h136) gCut_nil ⟨by show 1 + 1 + 1 ≤ 2 + (d + 1) + 1; omega, by show 8 + (1 + 11) + 40 * (1 + 1) ≤ 40 * (2 + (d + 1) + 1); omega⟩ ⟨rfl, rfl⟩ ⟨Nat.zero_le _, Nat.zero_le _⟩ rfl rfl (Nat.le_of_ble_eq_true rfl) ?_
                      refine g_iload_n C dX3_lay_139 rfl 1 rfl ?_
                      refine g_ishl C dX3_lay_140 ?_
                      refine g_ior C dX3_lay_141 ?_
                      refine g_istore (lv' := [(9, .int (x3 ||| (r136 <<< (x1 &&& 31)))), (0, .ref o), (1, .int x1), (2, .int x2), (3, .int x3), (4, .null), (5, .int (((1 : Int32) <<< ((S.1 1) &&& 31)) - (1 : Int32))), (6, .int (((S.1 2) >>> ((x1 * (S.1 1)) &&& 31)) &&& (((1 : Int32) <<< ((S.1 1) &&& 31)) - (1 : Int32)))), (7, .int (((S.1 3) >>> ((x1 * (S.1 1)) &&& 31)) &&& (((1 : Int32) <<< ((S.1 1) &&& 31)) - (1 : Int32)))), (8, .int x8_L77)]) C dX3_lay_142 (by decide) rfl ?_
                      refine g_aload_n C dX3_lay_144 rfl 1 rfl ?_
                      refine g_iload_n C dX3_lay_145 rfl 2 rfl ?_
                      refine g_iload C dX3_lay_146 0 rfl ?_
                      obtain ⟨r148, h148, h⟩ := obd h
                      refine g_callVi (st := []) (ws2 := wSrch cI o a S_L77) C yv_X3_canGoOn ml_X3_87 dX3_lay_148 (kX3_canGoOn l D cC cI cJ cZ o a S_L77 x1 (x3 ||| (r136 <<< (x1 &&& 31))) r148 h148) gCut_all ⟨by show 1 + 1 + 1 ≤ 2 + (d + 1) + 1; omega, by show 8 + (6 + 11) + 40 * (1 + 1) ≤ 40 * (2 + (d + 1) + 1); omega⟩ ⟨rfl, rfl⟩ ⟨Nat.zero_le _, Nat.zero_le _⟩ rfl rfl (Nat.le_of_ble_eq_true rfl) 2 0 rfl rfl rfl ?_
                      refine g_if_eq (tgt := 176) C dX3_lay_151 (by decide) (fun c151 => ?_) (fun c151 => ?_)
                      · have h := ifp h c151
                        refine g_iinc (j := 9) (v := (x8_L77 + (1 : Int32))) (lv' := [(8, .int (x8_L77 + (1 : Int32))), (9, .int (x3 ||| (r136 <<< (x1 &&& 31)))), (0, .ref o), (1, .int x1), (2, .int x2), (3, .int x3), (4, .null), (5, .int (((1 : Int32) <<< ((S.1 1) &&& 31)) - (1 : Int32))), (6, .int (((S.1 2) >>> ((x1 * (S.1 1)) &&& 31)) &&& (((1 : Int32) <<< ((S.1 1) &&& 31)) - (1 : Int32)))), (7, .int (((S.1 3) >>> ((x1 * (S.1 1)) &&& 31)) &&& (((1 : Int32) <<< ((S.1 1) &&& 31)) - (1 : Int32))))]) C dX3_lay_176 rfl rfl (by decide) rfl ?_
                        refine g_goto (tgt := 77) C dX3_lay_179 (by decide) ?_
                        obtain rfl := sinj h
                        refine g_lv [2, 3, 4, 5, 6, 7, 8, 9, 0] rfl ?_
                        exact ih77 (x8_L77 + (1 : Int32)) S_L77 hw77
                      · have h := ifn h c151
                        refine g_aload_n C dX3_lay_154 rfl 1 rfl ?_
                        refine g_iload_n C dX3_lay_155 rfl 2 rfl ?_
                        refine g_iconst (v := (1 : Int32)) C dX3_lay_156 (by decide) ?_
                        refine g_isub C dX3_lay_157 ?_
                        refine g_iload_n C dX3_lay_158 rfl 3 rfl ?_
                        refine g_iload C dX3_lay_159 9 rfl ?_
                        refine g_iload_n C dX3_lay_161 rfl 2 rfl ?_
                        refine g_aload_n C dX3_lay_162 rfl 1 rfl ?_
                        refine g_get (v := .int (S_L77.1 1)) C fl_X3_28 dX3_lay_163 0 rfl rfl ?_
                        refine g_imul C dX3_lay_166 ?_
                        refine g_ishl C dX3_lay_167 ?_
                        refine g_ior C dX3_lay_168 ?_
                        refine g_iload C dX3_lay_169 0 rfl ?_
                        refine g_aloadN C dX3_lay_171 5 rfl ?_
                        obtain ⟨T173, h173, h⟩ := obd h
                        refine g_callVv (st := []) (ws2 := wSrch cI o a T173) C yv_X3_lay ml_X3_74 dX3_lay_173 (ihd S_L77 (x1 - (1 : Int32)) (x2 ||| (x8_L77 <<< ((x1 * (S_L77.1 1)) &&& 31))) (x3 ||| (r136 <<< (x1 &&& 31))) T173 h173) gCut_all ⟨by show (2 + d) + 1 + 1 ≤ 2 + (d + 1) + 1; omega, by show 8 + (10 + 11) + 40 * ((2 + d) + 1) ≤ 40 * (2 + (d + 1) + 1); omega⟩ ⟨rfl, rfl⟩ ⟨Nat.zero_le _, Nat.zero_le _⟩ rfl rfl (Nat.le_of_ble_eq_true rfl) 2 0 rfl rfl rfl ?_
                        refine g_iinc (j := 9) (v := (x8_L77 + (1 : Int32))) (lv' := [(8, .int (x8_L77 + (1 : Int32))), (9, .int (x3 ||| (r136 <<< (x1 &&& 31)))), (0, .ref o), (1, .int x1), (2, .int x2), (3, .int x3), (4, .null), (5, .int (((1 : Int32) <<< ((S.1 1) &&& 31)) - (1 : Int32))), (6, .int (((S.1 2) >>> ((x1 * (S.1 1)) &&& 31)) &&& (((1 : Int32) <<< ((S.1 1) &&& 31)) - (1 : Int32)))), (7, .int (((S.1 3) >>> ((x1 * (S.1 1)) &&& 31)) &&& (((1 : Int32) <<< ((S.1 1) &&& 31)) - (1 : Int32))))]) C dX3_lay_176 rfl rfl (by decide) rfl ?_
                        refine g_goto (tgt := 77) C dX3_lay_179 (by decide) ?_
                        obtain rfl := sinj h
                        refine g_lv [2, 3, 4, 5, 6, 7, 8, 9, 0] rfl ?_
                        exact ih77 (x8_L77 + (1 : Int32)) T173 hw77
                    · have h := ifn h c127
                      refine g_goto (tgt := 176) C dX3_lay_130 (by decide) ?_
                      refine g_iinc (j := 8) (v := (x8_L77 + (1 : Int32))) (lv' := [(8, .int (x8_L77 + (1 : Int32))), (0, .ref o), (1, .int x1), (2, .int x2), (3, .int x3), (4, .null), (5, .int (((1 : Int32) <<< ((S.1 1) &&& 31)) - (1 : Int32))), (6, .int (((S.1 2) >>> ((x1 * (S.1 1)) &&& 31)) &&& (((1 : Int32) <<< ((S.1 1) &&& 31)) - (1 : Int32)))), (7, .int (((S.1 3) >>> ((x1 * (S.1 1)) &&& 31)) &&& (((1 : Int32) <<< ((S.1 1) &&& 31)) - (1 : Int32))))]) C dX3_lay_176 rfl rfl (by decide) rfl ?_
                      refine g_goto (tgt := 77) C dX3_lay_179 (by decide) ?_
                      obtain rfl := sinj h
                      refine g_lv [1, 2, 3, 4, 5, 6, 7, 8, 0] rfl ?_
                      exact ih77 (x8_L77 + (1 : Int32)) S_L77 hw77
                · have h := ifp h c106
                  refine g_goto (tgt := 176) C dX3_lay_109 (by decide) ?_
                  refine g_iinc (j := 8) (v := (x8_L77 + (1 : Int32))) (lv' := [(8, .int (x8_L77 + (1 : Int32))), (0, .ref o), (1, .int x1), (2, .int x2), (3, .int x3), (4, .null), (5, .int (((1 : Int32) <<< ((S.1 1) &&& 31)) - (1 : Int32))), (6, .int (((S.1 2) >>> ((x1 * (S.1 1)) &&& 31)) &&& (((1 : Int32) <<< ((S.1 1) &&& 31)) - (1 : Int32)))), (7, .int (((S.1 3) >>> ((x1 * (S.1 1)) &&& 31)) &&& (((1 : Int32) <<< ((S.1 1) &&& 31)) - (1 : Int32))))]) C dX3_lay_176 rfl rfl (by decide) rfl ?_
                  refine g_goto (tgt := 77) C dX3_lay_179 (by decide) ?_
                  obtain rfl := sinj h
                  refine g_lv [1, 2, 3, 4, 5, 6, 7, 8, 0] rfl ?_
                  exact ih77 (x8_L77 + (1 : Int32)) S_L77 hw77
        refine g_lv [4, 5, 6, 7, 8, 3, 2, 1, 0] rfl ?_
        exact l77 100000 (0 : Int32) S hW77
      · have h := ifn h c7
        refine g_aload_n C dX3_lay_10 rfl 0 rfl ?_
        refine g_dup C dX3_lay_11 rfl ?_
        refine g_get (v := .int (S.1 7)) C fl_X3_64 dX3_lay_12 0 rfl rfl ?_
        refine g_iconst (v := (1 : Int32)) C dX3_lay_15 (by decide) ?_
        refine g_iadd C dX3_lay_16 ?_
        refine g_put (ws2 := wSrch cI o a ((va_up S.1 7 ((S.1 7) + (1 : Int32))), S.2)) C fp_X3_64 dX3_lay_17 0 rfl rfl rfl (Nat.le_of_ble_eq_true rfl) rfl ?_
        refine g_aloadN C dX3_lay_20 4 rfl ?_
        refine g_ifnullN (tgt := 31) C dX3_lay_22 (by decide) ?_
        cases sinj h
        exact g_vret C dX3_lay_31 rfl hQ
    · have h := ifn h c2
      cases sinj h
      exact g_vret C dX3_lay_5 rfl hQ
def fX3_run_n_L23 (x3_L23 : Int32) (x4_L23 : Int32) (S_L23 : Ob) : Option ((Int32 × Ob) ⊕ (Ob)) :=
  (if (S_L23.1 0) ≤ x4_L23 then some (.inr S_L23)
 else ((fX3_openColumn S_L23 x4_L23 x3_L23).bind (fun T36 => some (.inl ((x4_L23 + (1 : Int32)), T36)))))
def fX3_run_n_J45 (x3_J45 : Int32) (S_J45 : Ob) : Option ((Int32 × Ob) ⊕ (Ob)) :=
  some (.inl ((x3_J45 + (1 : Int32)), S_J45))
def fX3_run_n_L12 (x3_L12 : Int32) (S_L12 : Ob) : Option ((Int32 × Ob) ⊕ (Ob)) :=
  (if (S_L12.1 1) ≤ x3_L12 then some (.inr S_L12)
 else ((wh (σ := Int32 × Ob) (ρ := Ob) (fun t => fX3_run_n_L23 x3_L12 t.1 t.2) 100000 ((0 : Int32), S_L12)).bind (fun S_E23 => fX3_run_n_J45 x3_L12 S_E23)))
def fX3_run_n_J51 (S_J51 : Ob) : Option (Ob) :=
  ((fX3_lay_n 6 S_J51 ((S_J51.1 0) - (1 : Int32)) (0 : Int32) (0 : Int32)).bind (fun T61 => some T61))
def fX3_run_n (S : Ob) (x1 : Int32) : Option (Ob) :=
  ((wh (σ := Int32 × Ob) (ρ := Ob) (fun t => fX3_run_n_L12 t.1 t.2) 100000 ((0 : Int32), ((va_up (va_up S.1 6 x1) 7 (0 : Int32)), S.2))).bind (fun S_E12 => fX3_run_n_J51 S_E12))
set_option maxHeartbeats 4000000 in
set_option maxRecDepth 100000 in
theorem kX3_run_n (l : Launch) (D : va_G) (cC cI cJ cZ : ClassId) (o : Nat) (a : Nat → Nat) (S : Ob) (x1 : Int32) (S' : Ob) (h : fX3_run_n S x1 = some S') : gMv l yX3_run cX3_run 5 none (gR 9) D (tysG cC cI cJ cZ) [.ref o, .int x1, .null] (wSrch cI o a S) (wSrch cI o a S') := by
  refine gMv_of (by decide) (Nat.le_of_ble_eq_true rfl) rfl ?_
  intro p e s m args below meth c A Q C hQ
  have j51 : ∀ (S_J51 : Ob), fX3_run_n_J51 S_J51 = some S' → gG p l e (gR 9) s m args below meth c 5 D A 0 0 Q 51 [(0, .ref o), (2, .null)] [] (wSrch cI o a S_J51) := by
    intro S_J51 h
    unfold fX3_run_n_J51 at h
    refine g_aload_n C dX3_run_51 rfl 0 rfl ?_
    refine g_aload_n C dX3_run_52 rfl 0 rfl ?_
    refine g_get (v := .int (S_J51.1 0)) C fl_X3_24 dX3_run_53 0 rfl rfl ?_
    refine g_iconst (v := (1 : Int32)) C dX3_run_56 (by decide) ?_
    refine g_isub C dX3_run_57 ?_
    refine g_iconst (v := (0 : Int32)) C dX3_run_58 (by decide) ?_
    refine g_iconst (v := (0 : Int32)) C dX3_run_59 (by decide) ?_
    refine g_aload_nN C dX3_run_60 rfl 1 rfl ?_
    obtain ⟨T61, h61, h⟩ := obd h
    refine g_callVv (st := []) (ws2 := wSrch cI o a T61) C yv_X3_lay ml_X3_74 dX3_run_61 (kX3_lay_n l D cC cI cJ cZ o a 6 S_J51 ((S_J51.1 0) - (1 : Int32)) (0 : Int32) (0 : Int32) T61 h61) gCut_all ⟨by decide, by decide⟩ ⟨rfl, rfl⟩ ⟨Nat.zero_le _, Nat.zero_le _⟩ rfl rfl (Nat.le_of_ble_eq_true rfl) 2 0 rfl rfl rfl ?_
    cases sinj h
    exact g_vret C dX3_run_64 rfl hQ
  unfold fX3_run_n at h
  refine g_aload_n C dX3_run_0 rfl 0 rfl ?_
  refine g_iload_n C dX3_run_1 rfl 1 rfl ?_
  refine g_put (ws2 := wSrch cI o a ((va_up S.1 6 x1), S.2)) C fp_X3_67 dX3_run_2 0 rfl rfl rfl (Nat.le_of_ble_eq_true rfl) rfl ?_
  refine g_aload_n C dX3_run_5 rfl 0 rfl ?_
  refine g_iconst (v := (0 : Int32)) C dX3_run_6 (by decide) ?_
  refine g_put (ws2 := wSrch cI o a ((va_up (va_up S.1 6 x1) 7 (0 : Int32)), S.2)) C fp_X3_64 dX3_run_7 0 rfl rfl rfl (Nat.le_of_ble_eq_true rfl) rfl ?_
  refine g_iconst (v := (0 : Int32)) C dX3_run_10 (by decide) ?_
  refine g_istore_n (lv' := [(3, .int (0 : Int32)), (0, .ref o), (1, .int x1), (2, .null)]) C dX3_run_11 rfl (by decide) rfl ?_
  obtain ⟨X12, hW12, hK12⟩ := obd h
  have l12 : ∀ (fu12 : Nat) (x3_L12 : Int32) (S_L12 : Ob), wh (σ := Int32 × Ob) (ρ := Ob) (fun t => fX3_run_n_L12 t.1 t.2) fu12 (x3_L12, S_L12) = some X12 → gG p l e (gR 9) s m args below meth c 5 D A 0 0 Q 12 [(0, .ref o), (2, .null), (3, .int x3_L12)] [] (wSrch cI o a S_L12) := by
    intro fu12
    induction fu12 with
    | zero => intro x3_L12 S_L12 hW; exact (wh_0 hW).elim
    | succ fu12 ih12 =>
      intro x3_L12 S_L12 hW
      obtain ⟨z12, h, hw12⟩ := wh_s hW
      have j45 : ∀ (x3_J45 : Int32) (S_J45 : Ob) (z12 : (Int32 × Ob) ⊕ (Ob)), fX3_run_n_J45 x3_J45 S_J45 = some z12 → wk (fun t => fX3_run_n_L12 t.1 t.2) fu12 z12 = some X12 → gG p l e (gR 9) s m args below meth c 5 D A 0 0 Q 45 [(0, .ref o), (2, .null), (3, .int x3_J45)] [] (wSrch cI o a S_J45) := by
        intro x3_J45 S_J45 z12 h hw12
        unfold fX3_run_n_J45 at h
        refine g_iinc (j := 2) (v := (x3_J45 + (1 : Int32))) (lv' := [(3, .int (x3_J45 + (1 : Int32))), (0, .ref o), (2, .null)]) C dX3_run_45 rfl rfl (by decide) rfl ?_
        refine g_goto (tgt := 12) C dX3_run_48 (by decide) ?_
        obtain rfl := sinj h
        refine g_lv [1, 2, 0] rfl ?_
        exact ih12 (x3_J45 + (1 : Int32)) S_J45 hw12
      replace h : fX3_run_n_L12 x3_L12 S_L12 = some z12 := h
      unfold fX3_run_n_L12 at h
      refine g_iload_n C dX3_run_12 rfl 2 rfl ?_
      refine g_aload_n C dX3_run_13 rfl 0 rfl ?_
      refine g_get (v := .int (S_L12.1 1)) C fl_X3_28 dX3_run_14 0 rfl rfl ?_
      refine g_icmp_ge (tgt := 51) C dX3_run_17 (by decide) (fun c17 => ?_) (fun c17 => ?_)
      · have h := ifp h c17
        obtain rfl := sinj h
        obtain rfl := wk_r hw12
        have h := hK12
        refine g_lv [0, 1] rfl ?_
        exact j51 S_L12 h
      · have h := ifn h c17
        refine g_iconst (v := (0 : Int32)) C dX3_run_20 (by decide) ?_
        refine g_istore (lv' := [(4, .int (0 : Int32)), (0, .ref o), (2, .null), (3, .int x3_L12)]) C dX3_run_21 (by decide) rfl ?_
        obtain ⟨X23, hW23, hK23⟩ := obd h
        have l23 : ∀ (fu23 : Nat) (x4_L23 : Int32) (S_L23 : Ob), wh (σ := Int32 × Ob) (ρ := Ob) (fun t => fX3_run_n_L23 x3_L12 t.1 t.2) fu23 (x4_L23, S_L23) = some X23 → gG p l e (gR 9) s m args below meth c 5 D A 0 0 Q 23 [(0, .ref o), (2, .null), (3, .int x3_L12), (4, .int x4_L23)] [] (wSrch cI o a S_L23) := by
          intro fu23
          induction fu23 with
          | zero => intro x4_L23 S_L23 hW; exact (wh_0 hW).elim
          | succ fu23 ih23 =>
            intro x4_L23 S_L23 hW
            obtain ⟨z23, h, hw23⟩ := wh_s hW
            replace h : fX3_run_n_L23 x3_L12 x4_L23 S_L23 = some z23 := h
            unfold fX3_run_n_L23 at h
            refine g_iload C dX3_run_23 3 rfl ?_
            refine g_aload_n C dX3_run_25 rfl 0 rfl ?_
            refine g_get (v := .int (S_L23.1 0)) C fl_X3_24 dX3_run_26 0 rfl rfl ?_
            refine g_icmp_ge (tgt := 45) C dX3_run_29 (by decide) (fun c29 => ?_) (fun c29 => ?_)
            · have h := ifp h c29
              obtain rfl := sinj h
              obtain rfl := wk_r hw23
              have h := hK23
              refine g_lv [0, 1, 2] rfl ?_
              exact j45 x3_L12 S_L23 _ h hw12
            · have h := ifn h c29
              refine g_aload_n C dX3_run_32 rfl 0 rfl ?_
              refine g_iload C dX3_run_33 3 rfl ?_
              refine g_iload_n C dX3_run_35 rfl 2 rfl ?_
              obtain ⟨T36, h36, h⟩ := obd h
              refine g_callVv (st := []) (ws2 := wSrch cI o a T36) C yv_X3_openColumn ml_X3_70 dX3_run_36 (kX3_openColumn l D cC cI cJ cZ o a S_L23 x4_L23 x3_L12 T36 h36) gCut_all ⟨by decide, by decide⟩ ⟨rfl, rfl⟩ ⟨Nat.zero_le _, Nat.zero_le _⟩ rfl rfl (Nat.le_of_ble_eq_true rfl) 2 0 rfl rfl rfl ?_
              refine g_iinc (j := 3) (v := (x4_L23 + (1 : Int32))) (lv' := [(4, .int (x4_L23 + (1 : Int32))), (0, .ref o), (2, .null), (3, .int x3_L12)]) C dX3_run_39 rfl rfl (by decide) rfl ?_
              refine g_goto (tgt := 23) C dX3_run_42 (by decide) ?_
              obtain rfl := sinj h
              refine g_lv [1, 2, 3, 0] rfl ?_
              exact ih23 (x4_L23 + (1 : Int32)) T36 hw23
        refine g_lv [1, 2, 3, 0] rfl ?_
        exact l23 100000 (0 : Int32) S_L12 hW23
  refine g_lv [1, 3, 0] rfl ?_
  exact l12 100000 (0 : Int32) ((va_up (va_up S.1 6 x1) 7 (0 : Int32)), S.2) hW12
def fX3_countWith (S : Ob) (x1 : Int32) (x2 : Int32) (x3 : Int32) : Option (Int32 × Ob) :=
  (if x1 < 0 then some ((0 : Int32), S)
 else (if x1 < (8 : Int32) then (if okI x1 8 = true then (if okI x1 8 = true then ((fX3_run_n (S.1, (va_up S.2 4 (upd (S.2 4) x1.toNatClampNeg x2))) x3).bind (fun T30 => (if okI x1 8 = true then some ((T30.1 7), (T30.1, (va_up T30.2 4 (upd (T30.2 4) x1.toNatClampNeg ((S.2 4) x1.toNatClampNeg))))) else none))) else none) else none)
 else some ((0 : Int32), S)))
set_option maxHeartbeats 4000000 in
set_option maxRecDepth 100000 in
theorem kX3_countWith (l : Launch) (D : va_G) (cC cI cJ cZ : ClassId) (o : Nat) (a : Nat → Nat) (S : Ob) (x1 : Int32) (x2 : Int32) (x3 : Int32) (r : Int32) (S' : Ob) (h : fX3_countWith S x1 x2 x3 = some (r, S')) : gMi l yX3_countWith cX3_countWith 5 (some .int) (gR 10) D (tysG cC cI cJ cZ) [.ref o, .int x1, .int x2, .int x3] (wSrch cI o a S) r (wSrch cI o a S') := by
  refine gMi_of (by decide) (Nat.le_of_ble_eq_true rfl) rfl ?_
  intro p e s m args below meth c A Q C hQ
  unfold fX3_countWith at h
  refine g_iload_n C dX3_countWith_0 rfl 1 rfl ?_
  refine g_if_lt (tgt := 10) C dX3_countWith_1 (by decide) (fun c1 => ?_) (fun c1 => ?_)
  · have h := ifp h c1
    refine g_iconst (v := (0 : Int32)) C dX3_countWith_10 (by decide) ?_
    cases sinj h
    exact g_iret C dX3_countWith_11 rfl rfl hQ
  · have h := ifn h c1
    refine g_iload_n C dX3_countWith_4 rfl 1 rfl ?_
    refine g_bipush (v := (8 : Int32)) C dX3_countWith_5 (by decide) ?_
    refine g_icmp_lt (tgt := 12) C dX3_countWith_7 (by decide) (fun c7 => ?_) (fun c7 => ?_)
    · have h := ifp h c7
      refine g_aload_n C dX3_countWith_12 rfl 0 rfl ?_
      refine g_get (v := .ref (a 4)) C fl_X3_9 dX3_countWith_13 0 rfl rfl ?_
      refine g_iload_n C dX3_countWith_16 rfl 1 rfl ?_
      obtain ⟨hg17, h⟩ := ifg h
      refine g_iald (f := (S.2 4)) C dX3_countWith_17 1 0 rfl rfl hg17 ?_
      refine g_istore (lv' := [(4, .int ((S.2 4) x1.toNatClampNeg)), (0, .ref o), (1, .int x1), (2, .int x2), (3, .int x3)]) C dX3_countWith_18 (by decide) rfl ?_
      refine g_aload_n C dX3_countWith_20 rfl 1 rfl ?_
      refine g_get (v := .ref (a 4)) C fl_X3_9 dX3_countWith_21 0 rfl rfl ?_
      refine g_iload_n C dX3_countWith_24 rfl 2 rfl ?_
      refine g_iload_n C dX3_countWith_25 rfl 3 rfl ?_
      obtain ⟨hg26, h⟩ := ifg h
      refine g_iast (f := (S.2 4)) (ws2 := wSrch cI o a (S.1, (va_up S.2 4 (upd (S.2 4) x1.toNatClampNeg x2)))) C dX3_countWith_26 1 0 rfl rfl hg26 rfl ?_
      refine g_aload_n C dX3_countWith_27 rfl 1 rfl ?_
      refine g_iload_n C dX3_countWith_28 rfl 4 rfl ?_
      refine g_null C dX3_countWith_29 ?_
      obtain ⟨T30, h30, h⟩ := obd h
      refine g_callVv (st := []) (ws2 := wSrch cI o a T30) C yv_X3_run ml_X3_60 dX3_countWith_30 (kX3_run_n l D cC cI cJ cZ o a (S.1, (va_up S.2 4 (upd (S.2 4) x1.toNatClampNeg x2))) x3 T30 h30) gCut_all ⟨by decide, by decide⟩ ⟨rfl, rfl⟩ ⟨Nat.zero_le _, Nat.zero_le _⟩ rfl rfl (Nat.le_of_ble_eq_true rfl) 2 0 rfl rfl rfl ?_
      refine g_aload_n C dX3_countWith_33 rfl 1 rfl ?_
      refine g_get (v := .ref (a 4)) C fl_X3_9 dX3_countWith_34 0 rfl rfl ?_
      refine g_iload_n C dX3_countWith_37 rfl 2 rfl ?_
      refine g_iload C dX3_countWith_38 0 rfl ?_
      obtain ⟨hg40, h⟩ := ifg h
      refine g_iast (f := (T30.2 4)) (ws2 := wSrch cI o a (T30.1, (va_up T30.2 4 (upd (T30.2 4) x1.toNatClampNeg ((S.2 4) x1.toNatClampNeg))))) C dX3_countWith_40 1 0 rfl rfl hg40 rfl ?_
      refine g_aload_n C dX3_countWith_41 rfl 1 rfl ?_
      refine g_get (v := .int (T30.1 7)) C fl_X3_64 dX3_countWith_42 0 rfl rfl ?_
      cases sinj h
      exact g_iret C dX3_countWith_45 rfl rfl hQ
    · have h := ifn h c7
      refine g_iconst (v := (0 : Int32)) C dX3_countWith_10 (by decide) ?_
      cases sinj h
      exact g_iret C dX3_countWith_11 rfl rfl hQ
def fX3_lay_f_L77 (rec_ : Ob → Ob → Int32 → Int32 → Int32 → Option (Ob × Ob)) (cN2 : Nat) (x1_L77 : Int32) (x2_L77 : Int32) (x3_L77 : Int32) (x5_L77 : Int32) (x6_L77 : Int32) (x7_L77 : Int32) (x8_L77 : Int32) (S_L77 : Ob) (S2_L77 : Ob) : Option ((Int32 × Ob × Ob) ⊕ (Ob × Ob)) :=
  (if x5_L77 < x8_L77 then some (.inr (S_L77, S2_L77))
 else (if (S_L77.1 6) ≤ (S_L77.1 7) then some (.inr (S_L77, S2_L77))
 else (if okI x1_L77 8 = true then (if ((((S_L77.2 4) x1_L77.toNatClampNeg) >>> (x8_L77 &&& 31)) &&& (1 : Int32)) = 0 then some (.inl ((x8_L77 + (1 : Int32)), S_L77, S2_L77))
 else (if (x8_L77 &&& x6_L77) = x6_L77 then (if (x8_L77 &&& x7_L77) = 0 then ((fX3_spread x8_L77).bind (fun r136 => ((fX3_canGoOn S_L77 x1_L77 (x3_L77 ||| (r136 <<< (x1_L77 &&& 31)))).bind (fun r148 => (if r148 = 0 then some (.inl ((x8_L77 + (1 : Int32)), S_L77, S2_L77))
 else ((rec_ S_L77 S2_L77 (x1_L77 - (1 : Int32)) (x2_L77 ||| (x8_L77 <<< ((x1_L77 * (S_L77.1 1)) &&& 31))) (x3_L77 ||| (r136 <<< (x1_L77 &&& 31)))).bind (fun r => (fun T173_0 T173_1 => some (.inl ((x8_L77 + (1 : Int32)), T173_0, T173_1))) r.1 r.2)))))))
 else some (.inl ((x8_L77 + (1 : Int32)), S_L77, S2_L77)))
 else some (.inl ((x8_L77 + (1 : Int32)), S_L77, S2_L77)))) else none)))
def fX3_lay_f_J182 (rec_ : Ob → Ob → Int32 → Int32 → Int32 → Option (Ob × Ob)) (cN2 : Nat) (S_J182 : Ob) (S2_J182 : Ob) : Option (Ob × Ob) :=
  some (S_J182, S2_J182)
def fX3_lay_f_B (rec_ : Ob → Ob → Int32 → Int32 → Int32 → Option (Ob × Ob)) (cN2 : Nat) (S : Ob) (S2 : Ob) (x1 : Int32) (x2 : Int32) (x3 : Int32) : Option (Ob × Ob) :=
  (if x1 < (4 : Int32) then (if 0 ≤ x1 then ((wh (σ := Int32 × Ob × Ob) (ρ := Ob × Ob) (fun t => fX3_lay_f_L77 rec_ cN2 x1 x2 x3 (((1 : Int32) <<< ((S.1 1) &&& 31)) - (1 : Int32)) (((S.1 2) >>> ((x1 * (S.1 1)) &&& 31)) &&& (((1 : Int32) <<< ((S.1 1) &&& 31)) - (1 : Int32))) (((S.1 3) >>> ((x1 * (S.1 1)) &&& 31)) &&& (((1 : Int32) <<< ((S.1 1) &&& 31)) - (1 : Int32))) t.1 t.2.1 t.2.2) 100000 ((0 : Int32), S, S2)).bind (fun X => (fun S_E77 S2_E77 => fX3_lay_f_J182 rec_ cN2 S_E77 S2_E77) X.1 X.2))
 else ((fX0_add cN2 S2 x2).bind (fun T28 => some (((va_up S.1 7 ((S.1 7) + (1 : Int32))), S.2), T28))))
 else some (S, S2))
def fX3_lay_f (cN2 : Nat) : Nat → Ob → Ob → Int32 → Int32 → Int32 → Option (Ob × Ob)
  | 0 => fun _ _ _ _ _ => none
  | d + 1 => fun S S2 x1 x2 x3 => fX3_lay_f_B (fX3_lay_f cN2 d) cN2 S S2 x1 x2 x3
set_option maxHeartbeats 4000000 in
set_option maxRecDepth 100000 in
theorem kX3_lay_f (l : Launch) (D : va_G) (cC cI cJ cZ : ClassId) (o : Nat) (a : Nat → Nat) (o2 : Nat) (a2 : Nat → Nat) (cN2 : Nat) : ∀ (d : Nat) (S : Ob) (S2 : Ob) (x1 : Int32) (x2 : Int32) (x3 : Int32) (S' : Ob) (S2' : Ob), fX3_lay_f cN2 d S S2 x1 x2 x3 = some (S', S2') → gMv l yX3_lay cX3_lay 10 none (gR (2 + d)) D (tysG cC cI cJ cZ) [.ref o, .int x1, .int x2, .int x3, .ref o2] (wSrch cI o a S ++ wFits cI cN2 o2 a2 S2) (wSrch cI o a S' ++ wFits cI cN2 o2 a2 S2') := by
  intro d
  induction d with
  | zero => intro S S2 x1 x2 x3 S' S2' h; cases h
  | succ d ihd =>
    intro S S2 x1 x2 x3 S' S2' h
    refine gMv_of (by decide) (Nat.le_of_ble_eq_true rfl) rfl ?_
    intro p e s m args below meth c A Q C hQ
    replace h : fX3_lay_f_B (fX3_lay_f cN2 d) cN2 S S2 x1 x2 x3 = some (S', S2') := h
    generalize fX3_lay_f cN2 d = rec_ at h ihd
    have j182 : ∀ (S_J182 : Ob) (S2_J182 : Ob), fX3_lay_f_J182 rec_ cN2 S_J182 S2_J182 = some (S', S2') → gG p l e (gR (2 + (d + 1))) s m args below meth c 10 D A 0 0 Q 182 [] [] (wSrch cI o a S_J182 ++ wFits cI cN2 o2 a2 S2_J182) := by
      intro S_J182 S2_J182 h
      unfold fX3_lay_f_J182 at h
      cases sinj h
      exact g_vret C dX3_lay_182 rfl hQ
    unfold fX3_lay_f_B at h
    refine g_iload_n C dX3_lay_0 rfl 1 rfl ?_
    refine g_iconst (v := (4 : Int32)) C dX3_lay_1 (by decide) ?_
    refine g_icmp_lt (tgt := 6) C dX3_lay_2 (by decide) (fun c2 => ?_) (fun c2 => ?_)
    · have h := ifp h c2
      refine g_iload_n C dX3_lay_6 rfl 1 rfl ?_
      refine g_if_ge (tgt := 32) C dX3_lay_7 (by decide) (fun c7 => ?_) (fun c7 => ?_)
      · have h := ifp h c7
        refine g_iconst (v := (1 : Int32)) C dX3_lay_32 (by decide) ?_
        refine g_aload_n C dX3_lay_33 rfl 0 rfl ?_
        refine g_get (v := .int (S.1 1)) C fl_X3_28 dX3_lay_34 0 rfl rfl ?_
        refine g_ishl C dX3_lay_37 ?_
        refine g_iconst (v := (1 : Int32)) C dX3_lay_38 (by decide) ?_
        refine g_isub C dX3_lay_39 ?_
        refine g_istore (lv' := [(5, .int (((1 : Int32) <<< ((S.1 1) &&& 31)) - (1 : Int32))), (0, .ref o), (1, .int x1), (2, .int x2), (3, .int x3), (4, .ref o2)]) C dX3_lay_40 (by decide) rfl ?_
        refine g_aload_n C dX3_lay_42 rfl 1 rfl ?_
        refine g_get (v := .int (S.1 2)) C fl_X3_32 dX3_lay_43 0 rfl rfl ?_
        refine g_iload_n C dX3_lay_46 rfl 2 rfl ?_
        refine g_aload_n C dX3_lay_47 rfl 1 rfl ?_
        refine g_get (v := .int (S.1 1)) C fl_X3_28 dX3_lay_48 0 rfl rfl ?_
        refine g_imul C dX3_lay_51 ?_
        refine g_ishr C dX3_lay_52 ?_
        refine g_iload C dX3_lay_53 0 rfl ?_
        refine g_iand C dX3_lay_55 ?_
        refine g_istore (lv' := [(6, .int (((S.1 2) >>> ((x1 * (S.1 1)) &&& 31)) &&& (((1 : Int32) <<< ((S.1 1) &&& 31)) - (1 : Int32)))), (5, .int (((1 : Int32) <<< ((S.1 1) &&& 31)) - (1 : Int32))), (0, .ref o), (1, .int x1), (2, .int x2), (3, .int x3), (4, .ref o2)]) C dX3_lay_56 (by decide) rfl ?_
        refine g_aload_n C dX3_lay_58 rfl 2 rfl ?_
        refine g_get (v := .int (S.1 3)) C fl_X3_36 dX3_lay_59 0 rfl rfl ?_
        refine g_iload_n C dX3_lay_62 rfl 3 rfl ?_
        refine g_aload_n C dX3_lay_63 rfl 2 rfl ?_
        refine g_get (v := .int (S.1 1)) C fl_X3_28 dX3_lay_64 0 rfl rfl ?_
        refine g_imul C dX3_lay_67 ?_
        refine g_ishr C dX3_lay_68 ?_
        refine g_iload C dX3_lay_69 1 rfl ?_
        refine g_iand C dX3_lay_71 ?_
        refine g_istore (lv' := [(7, .int (((S.1 3) >>> ((x1 * (S.1 1)) &&& 31)) &&& (((1 : Int32) <<< ((S.1 1) &&& 31)) - (1 : Int32)))), (6, .int (((S.1 2) >>> ((x1 * (S.1 1)) &&& 31)) &&& (((1 : Int32) <<< ((S.1 1) &&& 31)) - (1 : Int32)))), (5, .int (((1 : Int32) <<< ((S.1 1) &&& 31)) - (1 : Int32))), (0, .ref o), (1, .int x1), (2, .int x2), (3, .int x3), (4, .ref o2)]) C dX3_lay_72 (by decide) rfl ?_
        refine g_iconst (v := (0 : Int32)) C dX3_lay_74 (by decide) ?_
        refine g_istore (lv' := [(8, .int (0 : Int32)), (7, .int (((S.1 3) >>> ((x1 * (S.1 1)) &&& 31)) &&& (((1 : Int32) <<< ((S.1 1) &&& 31)) - (1 : Int32)))), (6, .int (((S.1 2) >>> ((x1 * (S.1 1)) &&& 31)) &&& (((1 : Int32) <<< ((S.1 1) &&& 31)) - (1 : Int32)))), (5, .int (((1 : Int32) <<< ((S.1 1) &&& 31)) - (1 : Int32))), (0, .ref o), (1, .int x1), (2, .int x2), (3, .int x3), (4, .ref o2)]) C dX3_lay_75 (by decide) rfl ?_
        obtain ⟨X77, hW77, hK77⟩ := obd h
        have l77 : ∀ (fu77 : Nat) (x8_L77 : Int32) (S_L77 : Ob) (S2_L77 : Ob), wh (σ := Int32 × Ob × Ob) (ρ := Ob × Ob) (fun t => fX3_lay_f_L77 rec_ cN2 x1 x2 x3 (((1 : Int32) <<< ((S.1 1) &&& 31)) - (1 : Int32)) (((S.1 2) >>> ((x1 * (S.1 1)) &&& 31)) &&& (((1 : Int32) <<< ((S.1 1) &&& 31)) - (1 : Int32))) (((S.1 3) >>> ((x1 * (S.1 1)) &&& 31)) &&& (((1 : Int32) <<< ((S.1 1) &&& 31)) - (1 : Int32))) t.1 t.2.1 t.2.2) fu77 (x8_L77, S_L77, S2_L77) = some X77 → gG p l e (gR (2 + (d + 1))) s m args below meth c 10 D A 0 0 Q 77 [(0, .ref o), (1, .int x1), (2, .int x2), (3, .int x3), (4, .ref o2), (5, .int (((1 : Int32) <<< ((S.1 1) &&& 31)) - (1 : Int32))), (6, .int (((S.1 2) >>> ((x1 * (S.1 1)) &&& 31)) &&& (((1 : Int32) <<< ((S.1 1) &&& 31)) - (1 : Int32)))), (7, .int (((S.1 3) >>> ((x1 * (S.1 1)) &&& 31)) &&& (((1 : Int32) <<< ((S.1 1) &&& 31)) - (1 : Int32)))), (8, .int x8_L77)] [] (wSrch cI o a S_L77 ++ wFits cI cN2 o2 a2 S2_L77) := by
          intro fu77
          induction fu77 with
          | zero => intro x8_L77 S_L77 S2_L77 hW; exact (wh_0 hW).elim
          | succ fu77 ih77 =>
            intro x8_L77 S_L77 S2_L77 hW
            obtain ⟨z77, h, hw77⟩ := wh_s hW
            replace h : fX3_lay_f_L77 rec_ cN2 x1 x2 x3 (((1 : Int32) <<< ((S.1 1) &&& 31)) - (1 : Int32)) (((S.1 2) >>> ((x1 * (S.1 1)) &&& 31)) &&& (((1 : Int32) <<< ((S.1 1) &&& 31)) - (1 : Int32))) (((S.1 3) >>> ((x1 * (S.1 1)) &&& 31)) &&& (((1 : Int32) <<< ((S.1 1) &&& 31)) - (1 : Int32))) x8_L77 S_L77 S2_L77 = some z77 := h
            unfold fX3_lay_f_L77 at h
            refine g_iload C dX3_lay_77 8 rfl ?_
            refine g_iload C dX3_lay_79 5 rfl ?_
            refine g_icmp_gt (tgt := 182) C dX3_lay_81 (by decide) (fun c81 => ?_) (fun c81 => ?_)
            · have h := ifp h c81
              obtain rfl := sinj h
              obtain rfl := wk_r hw77
              have h := hK77
              refine g_lv [] rfl ?_
              exact j182 S_L77 S2_L77 h
            · have h := ifn h c81
              refine g_aload_n C dX3_lay_84 rfl 0 rfl ?_
              refine g_get (v := .int (S_L77.1 7)) C fl_X3_64 dX3_lay_85 0 rfl rfl ?_
              refine g_aload_n C dX3_lay_88 rfl 0 rfl ?_
              refine g_get (v := .int (S_L77.1 6)) C fl_X3_67 dX3_lay_89 0 rfl rfl ?_
              refine g_icmp_ge (tgt := 182) C dX3_lay_92 (by decide) (fun c92 => ?_) (fun c92 => ?_)
              · have h := ifp h c92
                obtain rfl := sinj h
                obtain rfl := wk_r hw77
                have h := hK77
                refine g_lv [] rfl ?_
                exact j182 S_L77 S2_L77 h
              · have h := ifn h c92
                refine g_aload_n C dX3_lay_95 rfl 0 rfl ?_
                refine g_get (v := .ref (a 4)) C fl_X3_9 dX3_lay_96 0 rfl rfl ?_
                refine g_iload_n C dX3_lay_99 rfl 1 rfl ?_
                obtain ⟨hg100, h⟩ := ifg h
                refine g_iald (f := (S_L77.2 4)) C dX3_lay_100 1 0 rfl rfl hg100 ?_
                refine g_iload C dX3_lay_101 8 rfl ?_
                refine g_ishr C dX3_lay_103 ?_
                refine g_iconst (v := (1 : Int32)) C dX3_lay_104 (by decide) ?_
                refine g_iand C dX3_lay_105 ?_
                refine g_if_ne (tgt := 112) C dX3_lay_106 (by decide) (fun c106 => ?_) (fun c106 => ?_)
                · have h := ifn h c106
                  refine g_iload C dX3_lay_112 8 rfl ?_
                  refine g_iload C dX3_lay_114 6 rfl ?_
                  refine g_iand C dX3_lay_116 ?_
                  refine g_iload C dX3_lay_117 6 rfl ?_
                  refine g_icmp_ne (tgt := 176) C dX3_lay_119 (by decide) (fun c119 => ?_) (fun c119 => ?_)
                  · have h := ifn h c119
                    refine g_iinc (j := 8) (v := (x8_L77 + (1 : Int32))) (lv' := [(8, .int (x8_L77 + (1 : Int32))), (0, .ref o), (1, .int x1), (2, .int x2), (3, .int x3), (4, .ref o2), (5, .int (((1 : Int32) <<< ((S.1 1) &&& 31)) - (1 : Int32))), (6, .int (((S.1 2) >>> ((x1 * (S.1 1)) &&& 31)) &&& (((1 : Int32) <<< ((S.1 1) &&& 31)) - (1 : Int32)))), (7, .int (((S.1 3) >>> ((x1 * (S.1 1)) &&& 31)) &&& (((1 : Int32) <<< ((S.1 1) &&& 31)) - (1 : Int32))))]) C dX3_lay_176 rfl rfl (by decide) rfl ?_
                    refine g_goto (tgt := 77) C dX3_lay_179 (by decide) ?_
                    obtain rfl := sinj h
                    refine g_lv [1, 2, 3, 4, 5, 6, 7, 8, 0] rfl ?_
                    exact ih77 (x8_L77 + (1 : Int32)) S_L77 S2_L77 hw77
                  · have h := ifp h c119
                    refine g_iload C dX3_lay_122 8 rfl ?_
                    refine g_iload C dX3_lay_124 7 rfl ?_
                    refine g_iand C dX3_lay_126 ?_
                    refine g_if_eq (tgt := 133) C dX3_lay_127 (by decide) (fun c127 => ?_) (fun c127 => ?_)
                    · have h := ifp h c127
                      refine g_iload_n C dX3_lay_133 rfl 3 rfl ?_
                      refine g_iload C dX3_lay_134 8 rfl ?_
                      obtain ⟨r136, h136, h⟩ := obd h
                      refine g_callSi (st := [.int x3]) (ws2 := wSrch cI o a S_L77 ++ wFits cI cN2 o2 a2 S2_L77) C ys_X3_spread ml_X3_84 dX3_lay_136 (kX3_spread l D cC cI cJ cZ x8_L77 r136 h136) gCut_nil ⟨by show 1 + 1 + 1 ≤ 2 + (d + 1) + 1; omega, by show 8 + (1 + 11) + 40 * (1 + 1) ≤ 40 * (2 + (d + 1) + 1); omega⟩ ⟨rfl, rfl⟩ ⟨Nat.zero_le _, Nat.zero_le _⟩ rfl rfl (Nat.le_of_ble_eq_true rfl) ?_
                      refine g_iload_n C dX3_lay_139 rfl 1 rfl ?_
                      refine g_ishl C dX3_lay_140 ?_
                      refine g_ior C dX3_lay_141 ?_
                      refine g_istore (lv' := [(9, .int (x3 ||| (r136 <<< (x1 &&& 31)))), (0, .ref o), (1, .int x1), (2, .int x2), (3, .int x3), (4, .ref o2), (5, .int (((1 : Int32) <<< ((S.1 1) &&& 31)) - (1 : Int32))), (6, .int (((S.1 2) >>> ((x1 * (S.1 1)) &&& 31)) &&& (((1 : Int32) <<< ((S.1 1) &&& 31)) - (1 : Int32)))), (7, .int (((S.1 3) >>> ((x1 * (S.1 1)) &&& 31)) &&& (((1 : Int32) <<< ((S.1 1) &&& 31)) - (1 : Int32)))), (8, .int x8_L77)]) C dX3_lay_142 (by decide) rfl ?_
                      refine g_aload_n C dX3_lay_144 rfl 1 rfl ?_
                      refine g_iload_n C dX3_lay_145 rfl 2 rfl ?_
                      refine g_iload C dX3_lay_146 0 rfl ?_
                      obtain ⟨r148, h148, h⟩ := obd h
                      refine g_callVi (st := []) (ws2 := wSrch cI o a S_L77 ++ wFits cI cN2 o2 a2 S2_L77) C yv_X3_canGoOn ml_X3_87 dX3_lay_148 (kX3_canGoOn l D cC cI cJ cZ o a S_L77 x1 (x3 ||| (r136 <<< (x1 &&& 31))) r148 h148) (gCut_at [0, 1, 2] [3, 4, 5] [3, 4, 5, 0, 1, 2] rfl rfl rfl rfl (by decide) rfl rfl) ⟨by show 1 + 1 + 1 ≤ 2 + (d + 1) + 1; omega, by show 8 + (6 + 11) + 40 * (1 + 1) ≤ 40 * (2 + (d + 1) + 1); omega⟩ ⟨rfl, rfl⟩ ⟨Nat.zero_le _, Nat.zero_le _⟩ rfl rfl (Nat.le_of_ble_eq_true rfl) 2 0 rfl rfl rfl ?_
                      refine g_if_eq (tgt := 176) C dX3_lay_151 (by decide) (fun c151 => ?_) (fun c151 => ?_)
                      · have h := ifp h c151
                        refine g_iinc (j := 9) (v := (x8_L77 + (1 : Int32))) (lv' := [(8, .int (x8_L77 + (1 : Int32))), (9, .int (x3 ||| (r136 <<< (x1 &&& 31)))), (0, .ref o), (1, .int x1), (2, .int x2), (3, .int x3), (4, .ref o2), (5, .int (((1 : Int32) <<< ((S.1 1) &&& 31)) - (1 : Int32))), (6, .int (((S.1 2) >>> ((x1 * (S.1 1)) &&& 31)) &&& (((1 : Int32) <<< ((S.1 1) &&& 31)) - (1 : Int32)))), (7, .int (((S.1 3) >>> ((x1 * (S.1 1)) &&& 31)) &&& (((1 : Int32) <<< ((S.1 1) &&& 31)) - (1 : Int32))))]) C dX3_lay_176 rfl rfl (by decide) rfl ?_
                        refine g_goto (tgt := 77) C dX3_lay_179 (by decide) ?_
                        obtain rfl := sinj h
                        refine g_lv [2, 3, 4, 5, 6, 7, 8, 9, 0] rfl ?_
                        exact ih77 (x8_L77 + (1 : Int32)) S_L77 S2_L77 hw77
                      · have h := ifn h c151
                        refine g_aload_n C dX3_lay_154 rfl 1 rfl ?_
                        refine g_iload_n C dX3_lay_155 rfl 2 rfl ?_
                        refine g_iconst (v := (1 : Int32)) C dX3_lay_156 (by decide) ?_
                        refine g_isub C dX3_lay_157 ?_
                        refine g_iload_n C dX3_lay_158 rfl 3 rfl ?_
                        refine g_iload C dX3_lay_159 9 rfl ?_
                        refine g_iload_n C dX3_lay_161 rfl 2 rfl ?_
                        refine g_aload_n C dX3_lay_162 rfl 1 rfl ?_
                        refine g_get (v := .int (S_L77.1 1)) C fl_X3_28 dX3_lay_163 0 rfl rfl ?_
                        refine g_imul C dX3_lay_166 ?_
                        refine g_ishl C dX3_lay_167 ?_
                        refine g_ior C dX3_lay_168 ?_
                        refine g_iload C dX3_lay_169 0 rfl ?_
                        refine g_aload C dX3_lay_171 5 rfl ?_
                        obtain ⟨⟨T173_0, T173_1⟩, h173, h⟩ := obd h
                        refine g_callVv (st := []) (ws2 := wSrch cI o a T173_0 ++ wFits cI cN2 o2 a2 T173_1) C yv_X3_lay ml_X3_74 dX3_lay_173 (ihd S_L77 S2_L77 (x1 - (1 : Int32)) (x2 ||| (x8_L77 <<< ((x1 * (S_L77.1 1)) &&& 31))) (x3 ||| (r136 <<< (x1 &&& 31))) T173_0 T173_1 h173) gCut_all ⟨by show (2 + d) + 1 + 1 ≤ 2 + (d + 1) + 1; omega, by show 8 + (10 + 11) + 40 * ((2 + d) + 1) ≤ 40 * (2 + (d + 1) + 1); omega⟩ ⟨rfl, rfl⟩ ⟨Nat.zero_le _, Nat.zero_le _⟩ rfl rfl (Nat.le_of_ble_eq_true rfl) 2 0 rfl rfl rfl ?_
                        refine g_iinc (j := 9) (v := (x8_L77 + (1 : Int32))) (lv' := [(8, .int (x8_L77 + (1 : Int32))), (9, .int (x3 ||| (r136 <<< (x1 &&& 31)))), (0, .ref o), (1, .int x1), (2, .int x2), (3, .int x3), (4, .ref o2), (5, .int (((1 : Int32) <<< ((S.1 1) &&& 31)) - (1 : Int32))), (6, .int (((S.1 2) >>> ((x1 * (S.1 1)) &&& 31)) &&& (((1 : Int32) <<< ((S.1 1) &&& 31)) - (1 : Int32)))), (7, .int (((S.1 3) >>> ((x1 * (S.1 1)) &&& 31)) &&& (((1 : Int32) <<< ((S.1 1) &&& 31)) - (1 : Int32))))]) C dX3_lay_176 rfl rfl (by decide) rfl ?_
                        refine g_goto (tgt := 77) C dX3_lay_179 (by decide) ?_
                        obtain rfl := sinj h
                        refine g_lv [2, 3, 4, 5, 6, 7, 8, 9, 0] rfl ?_
                        exact ih77 (x8_L77 + (1 : Int32)) T173_0 T173_1 hw77
                    · have h := ifn h c127
                      refine g_goto (tgt := 176) C dX3_lay_130 (by decide) ?_
                      refine g_iinc (j := 8) (v := (x8_L77 + (1 : Int32))) (lv' := [(8, .int (x8_L77 + (1 : Int32))), (0, .ref o), (1, .int x1), (2, .int x2), (3, .int x3), (4, .ref o2), (5, .int (((1 : Int32) <<< ((S.1 1) &&& 31)) - (1 : Int32))), (6, .int (((S.1 2) >>> ((x1 * (S.1 1)) &&& 31)) &&& (((1 : Int32) <<< ((S.1 1) &&& 31)) - (1 : Int32)))), (7, .int (((S.1 3) >>> ((x1 * (S.1 1)) &&& 31)) &&& (((1 : Int32) <<< ((S.1 1) &&& 31)) - (1 : Int32))))]) C dX3_lay_176 rfl rfl (by decide) rfl ?_
                      refine g_goto (tgt := 77) C dX3_lay_179 (by decide) ?_
                      obtain rfl := sinj h
                      refine g_lv [1, 2, 3, 4, 5, 6, 7, 8, 0] rfl ?_
                      exact ih77 (x8_L77 + (1 : Int32)) S_L77 S2_L77 hw77
                · have h := ifp h c106
                  refine g_goto (tgt := 176) C dX3_lay_109 (by decide) ?_
                  refine g_iinc (j := 8) (v := (x8_L77 + (1 : Int32))) (lv' := [(8, .int (x8_L77 + (1 : Int32))), (0, .ref o), (1, .int x1), (2, .int x2), (3, .int x3), (4, .ref o2), (5, .int (((1 : Int32) <<< ((S.1 1) &&& 31)) - (1 : Int32))), (6, .int (((S.1 2) >>> ((x1 * (S.1 1)) &&& 31)) &&& (((1 : Int32) <<< ((S.1 1) &&& 31)) - (1 : Int32)))), (7, .int (((S.1 3) >>> ((x1 * (S.1 1)) &&& 31)) &&& (((1 : Int32) <<< ((S.1 1) &&& 31)) - (1 : Int32))))]) C dX3_lay_176 rfl rfl (by decide) rfl ?_
                  refine g_goto (tgt := 77) C dX3_lay_179 (by decide) ?_
                  obtain rfl := sinj h
                  refine g_lv [1, 2, 3, 4, 5, 6, 7, 8, 0] rfl ?_
                  exact ih77 (x8_L77 + (1 : Int32)) S_L77 S2_L77 hw77
        refine g_lv [4, 5, 6, 7, 8, 3, 2, 1, 0] rfl ?_
        exact l77 100000 (0 : Int32) S S2 hW77
      · have h := ifn h c7
        refine g_aload_n C dX3_lay_10 rfl 0 rfl ?_
        refine g_dup C dX3_lay_11 rfl ?_
        refine g_get (v := .int (S.1 7)) C fl_X3_64 dX3_lay_12 0 rfl rfl ?_
        refine g_iconst (v := (1 : Int32)) C dX3_lay_15 (by decide) ?_
        refine g_iadd C dX3_lay_16 ?_
        refine g_put (ws2 := wSrch cI o a ((va_up S.1 7 ((S.1 7) + (1 : Int32))), S.2) ++ wFits cI cN2 o2 a2 S2) C fp_X3_64 dX3_lay_17 0 rfl rfl rfl (Nat.le_of_ble_eq_true rfl) rfl ?_
        refine g_aload C dX3_lay_20 4 rfl ?_
        refine g_ifnull C dX3_lay_22 ?_
        refine g_aload C dX3_lay_25 4 rfl ?_
        refine g_iload_n C dX3_lay_27 rfl 2 rfl ?_
        obtain ⟨T28, h28, h⟩ := obd h
        refine g_callVv (st := []) (ws2 := wSrch cI o a ((va_up S.1 7 ((S.1 7) + (1 : Int32))), S.2) ++ wFits cI cN2 o2 a2 T28) C yv_X0_add ml_X3_78 dX3_lay_28 (kX0_add l D cC cI cJ cZ o2 a2 cN2 S2 x2 T28 h28) (gCut_at [3, 4, 5] [0, 1, 2] [0, 1, 2, 3, 4, 5] rfl rfl rfl rfl (by decide) rfl rfl) ⟨by show 1 + 1 + 1 ≤ 2 + (d + 1) + 1; omega, by show 8 + (3 + 11) + 40 * (1 + 1) ≤ 40 * (2 + (d + 1) + 1); omega⟩ ⟨rfl, rfl⟩ ⟨Nat.zero_le _, Nat.zero_le _⟩ rfl rfl (Nat.le_of_ble_eq_true rfl) 0 3 rfl rfl rfl ?_
        cases sinj h
        exact g_vret C dX3_lay_31 rfl hQ
    · have h := ifn h c2
      cases sinj h
      exact g_vret C dX3_lay_5 rfl hQ
def fX3_run_f_L23 (cN2 : Nat) (x3_L23 : Int32) (S2_L23 : Ob) (x4_L23 : Int32) (S_L23 : Ob) : Option ((Int32 × Ob) ⊕ (Ob)) :=
  (if (S_L23.1 0) ≤ x4_L23 then some (.inr S_L23)
 else ((fX3_openColumn S_L23 x4_L23 x3_L23).bind (fun T36 => some (.inl ((x4_L23 + (1 : Int32)), T36)))))
def fX3_run_f_J45 (cN2 : Nat) (S2_L12 : Ob) (x3_J45 : Int32) (S_J45 : Ob) : Option ((Int32 × Ob) ⊕ (Ob)) :=
  some (.inl ((x3_J45 + (1 : Int32)), S_J45))
def fX3_run_f_L12 (cN2 : Nat) (S2_L12 : Ob) (x3_L12 : Int32) (S_L12 : Ob) : Option ((Int32 × Ob) ⊕ (Ob)) :=
  (if (S_L12.1 1) ≤ x3_L12 then some (.inr S_L12)
 else ((wh (σ := Int32 × Ob) (ρ := Ob) (fun t => fX3_run_f_L23 cN2 x3_L12 S2_L12 t.1 t.2) 100000 ((0 : Int32), S_L12)).bind (fun S_E23 => fX3_run_f_J45 cN2 S2_L12 x3_L12 S_E23)))
def fX3_run_f_J51 (cN2 : Nat) (S_J51 : Ob) (S2_J51 : Ob) : Option (Ob × Ob) :=
  ((fX3_lay_f cN2 6 S_J51 S2_J51 ((S_J51.1 0) - (1 : Int32)) (0 : Int32) (0 : Int32)).bind (fun r => (fun T61_0 T61_1 => some (T61_0, T61_1)) r.1 r.2))
def fX3_run_f (cN2 : Nat) (S : Ob) (S2 : Ob) (x1 : Int32) : Option (Ob × Ob) :=
  ((wh (σ := Int32 × Ob) (ρ := Ob) (fun t => fX3_run_f_L12 cN2 S2 t.1 t.2) 100000 ((0 : Int32), ((va_up (va_up S.1 6 x1) 7 (0 : Int32)), S.2))).bind (fun S_E12 => fX3_run_f_J51 cN2 S_E12 S2))
set_option maxHeartbeats 4000000 in
set_option maxRecDepth 100000 in
theorem kX3_run_f (l : Launch) (D : va_G) (cC cI cJ cZ : ClassId) (o : Nat) (a : Nat → Nat) (o2 : Nat) (a2 : Nat → Nat) (cN2 : Nat) (S : Ob) (S2 : Ob) (x1 : Int32) (S' : Ob) (S2' : Ob) (h : fX3_run_f cN2 S S2 x1 = some (S', S2')) : gMv l yX3_run cX3_run 5 none (gR 9) D (tysG cC cI cJ cZ) [.ref o, .int x1, .ref o2] (wSrch cI o a S ++ wFits cI cN2 o2 a2 S2) (wSrch cI o a S' ++ wFits cI cN2 o2 a2 S2') := by
  refine gMv_of (by decide) (Nat.le_of_ble_eq_true rfl) rfl ?_
  intro p e s m args below meth c A Q C hQ
  have j51 : ∀ (S_J51 : Ob) (S2_J51 : Ob), fX3_run_f_J51 cN2 S_J51 S2_J51 = some (S', S2') → gG p l e (gR 9) s m args below meth c 5 D A 0 0 Q 51 [(0, .ref o), (2, .ref o2)] [] (wSrch cI o a S_J51 ++ wFits cI cN2 o2 a2 S2_J51) := by
    intro S_J51 S2_J51 h
    unfold fX3_run_f_J51 at h
    refine g_aload_n C dX3_run_51 rfl 0 rfl ?_
    refine g_aload_n C dX3_run_52 rfl 0 rfl ?_
    refine g_get (v := .int (S_J51.1 0)) C fl_X3_24 dX3_run_53 0 rfl rfl ?_
    refine g_iconst (v := (1 : Int32)) C dX3_run_56 (by decide) ?_
    refine g_isub C dX3_run_57 ?_
    refine g_iconst (v := (0 : Int32)) C dX3_run_58 (by decide) ?_
    refine g_iconst (v := (0 : Int32)) C dX3_run_59 (by decide) ?_
    refine g_aload_n C dX3_run_60 rfl 1 rfl ?_
    obtain ⟨⟨T61_0, T61_1⟩, h61, h⟩ := obd h
    refine g_callVv (st := []) (ws2 := wSrch cI o a T61_0 ++ wFits cI cN2 o2 a2 T61_1) C yv_X3_lay ml_X3_74 dX3_run_61 (kX3_lay_f l D cC cI cJ cZ o a o2 a2 cN2 6 S_J51 S2_J51 ((S_J51.1 0) - (1 : Int32)) (0 : Int32) (0 : Int32) T61_0 T61_1 h61) gCut_all ⟨by decide, by decide⟩ ⟨rfl, rfl⟩ ⟨Nat.zero_le _, Nat.zero_le _⟩ rfl rfl (Nat.le_of_ble_eq_true rfl) 2 0 rfl rfl rfl ?_
    cases sinj h
    exact g_vret C dX3_run_64 rfl hQ
  unfold fX3_run_f at h
  refine g_aload_n C dX3_run_0 rfl 0 rfl ?_
  refine g_iload_n C dX3_run_1 rfl 1 rfl ?_
  refine g_put (ws2 := wSrch cI o a ((va_up S.1 6 x1), S.2) ++ wFits cI cN2 o2 a2 S2) C fp_X3_67 dX3_run_2 0 rfl rfl rfl (Nat.le_of_ble_eq_true rfl) rfl ?_
  refine g_aload_n C dX3_run_5 rfl 0 rfl ?_
  refine g_iconst (v := (0 : Int32)) C dX3_run_6 (by decide) ?_
  refine g_put (ws2 := wSrch cI o a ((va_up (va_up S.1 6 x1) 7 (0 : Int32)), S.2) ++ wFits cI cN2 o2 a2 S2) C fp_X3_64 dX3_run_7 0 rfl rfl rfl (Nat.le_of_ble_eq_true rfl) rfl ?_
  refine g_iconst (v := (0 : Int32)) C dX3_run_10 (by decide) ?_
  refine g_istore_n (lv' := [(3, .int (0 : Int32)), (0, .ref o), (1, .int x1), (2, .ref o2)]) C dX3_run_11 rfl (by decide) rfl ?_
  obtain ⟨X12, hW12, hK12⟩ := obd h
  have l12 : ∀ (fu12 : Nat) (x3_L12 : Int32) (S_L12 : Ob), wh (σ := Int32 × Ob) (ρ := Ob) (fun t => fX3_run_f_L12 cN2 S2 t.1 t.2) fu12 (x3_L12, S_L12) = some X12 → gG p l e (gR 9) s m args below meth c 5 D A 0 0 Q 12 [(0, .ref o), (2, .ref o2), (3, .int x3_L12)] [] (wSrch cI o a S_L12 ++ wFits cI cN2 o2 a2 S2) := by
    intro fu12
    induction fu12 with
    | zero => intro x3_L12 S_L12 hW; exact (wh_0 hW).elim
    | succ fu12 ih12 =>
      intro x3_L12 S_L12 hW
      obtain ⟨z12, h, hw12⟩ := wh_s hW
      have j45 : ∀ (x3_J45 : Int32) (S_J45 : Ob) (z12 : (Int32 × Ob) ⊕ (Ob)), fX3_run_f_J45 cN2 S2 x3_J45 S_J45 = some z12 → wk (fun t => fX3_run_f_L12 cN2 S2 t.1 t.2) fu12 z12 = some X12 → gG p l e (gR 9) s m args below meth c 5 D A 0 0 Q 45 [(0, .ref o), (2, .ref o2), (3, .int x3_J45)] [] (wSrch cI o a S_J45 ++ wFits cI cN2 o2 a2 S2) := by
        intro x3_J45 S_J45 z12 h hw12
        unfold fX3_run_f_J45 at h
        refine g_iinc (j := 2) (v := (x3_J45 + (1 : Int32))) (lv' := [(3, .int (x3_J45 + (1 : Int32))), (0, .ref o), (2, .ref o2)]) C dX3_run_45 rfl rfl (by decide) rfl ?_
        refine g_goto (tgt := 12) C dX3_run_48 (by decide) ?_
        obtain rfl := sinj h
        refine g_lv [1, 2, 0] rfl ?_
        exact ih12 (x3_J45 + (1 : Int32)) S_J45 hw12
      replace h : fX3_run_f_L12 cN2 S2 x3_L12 S_L12 = some z12 := h
      unfold fX3_run_f_L12 at h
      refine g_iload_n C dX3_run_12 rfl 2 rfl ?_
      refine g_aload_n C dX3_run_13 rfl 0 rfl ?_
      refine g_get (v := .int (S_L12.1 1)) C fl_X3_28 dX3_run_14 0 rfl rfl ?_
      refine g_icmp_ge (tgt := 51) C dX3_run_17 (by decide) (fun c17 => ?_) (fun c17 => ?_)
      · have h := ifp h c17
        obtain rfl := sinj h
        obtain rfl := wk_r hw12
        have h := hK12
        refine g_lv [0, 1] rfl ?_
        exact j51 S_L12 S2 h
      · have h := ifn h c17
        refine g_iconst (v := (0 : Int32)) C dX3_run_20 (by decide) ?_
        refine g_istore (lv' := [(4, .int (0 : Int32)), (0, .ref o), (2, .ref o2), (3, .int x3_L12)]) C dX3_run_21 (by decide) rfl ?_
        obtain ⟨X23, hW23, hK23⟩ := obd h
        have l23 : ∀ (fu23 : Nat) (x4_L23 : Int32) (S_L23 : Ob), wh (σ := Int32 × Ob) (ρ := Ob) (fun t => fX3_run_f_L23 cN2 x3_L12 S2 t.1 t.2) fu23 (x4_L23, S_L23) = some X23 → gG p l e (gR 9) s m args below meth c 5 D A 0 0 Q 23 [(0, .ref o), (2, .ref o2), (3, .int x3_L12), (4, .int x4_L23)] [] (wSrch cI o a S_L23 ++ wFits cI cN2 o2 a2 S2) := by
          intro fu23
          induction fu23 with
          | zero => intro x4_L23 S_L23 hW; exact (wh_0 hW).elim
          | succ fu23 ih23 =>
            intro x4_L23 S_L23 hW
            obtain ⟨z23, h, hw23⟩ := wh_s hW
            replace h : fX3_run_f_L23 cN2 x3_L12 S2 x4_L23 S_L23 = some z23 := h
            unfold fX3_run_f_L23 at h
            refine g_iload C dX3_run_23 3 rfl ?_
            refine g_aload_n C dX3_run_25 rfl 0 rfl ?_
            refine g_get (v := .int (S_L23.1 0)) C fl_X3_24 dX3_run_26 0 rfl rfl ?_
            refine g_icmp_ge (tgt := 45) C dX3_run_29 (by decide) (fun c29 => ?_) (fun c29 => ?_)
            · have h := ifp h c29
              obtain rfl := sinj h
              obtain rfl := wk_r hw23
              have h := hK23
              refine g_lv [0, 1, 2] rfl ?_
              exact j45 x3_L12 S_L23 _ h hw12
            · have h := ifn h c29
              refine g_aload_n C dX3_run_32 rfl 0 rfl ?_
              refine g_iload C dX3_run_33 3 rfl ?_
              refine g_iload_n C dX3_run_35 rfl 2 rfl ?_
              obtain ⟨T36, h36, h⟩ := obd h
              refine g_callVv (st := []) (ws2 := wSrch cI o a T36 ++ wFits cI cN2 o2 a2 S2) C yv_X3_openColumn ml_X3_70 dX3_run_36 (kX3_openColumn l D cC cI cJ cZ o a S_L23 x4_L23 x3_L12 T36 h36) (gCut_at [0, 1, 2] [3, 4, 5] [3, 4, 5, 0, 1, 2] rfl rfl rfl rfl (by decide) rfl rfl) ⟨by decide, by decide⟩ ⟨rfl, rfl⟩ ⟨Nat.zero_le _, Nat.zero_le _⟩ rfl rfl (Nat.le_of_ble_eq_true rfl) 2 0 rfl rfl rfl ?_
              refine g_iinc (j := 3) (v := (x4_L23 + (1 : Int32))) (lv' := [(4, .int (x4_L23 + (1 : Int32))), (0, .ref o), (2, .ref o2), (3, .int x3_L12)]) C dX3_run_39 rfl rfl (by decide) rfl ?_
              refine g_goto (tgt := 23) C dX3_run_42 (by decide) ?_
              obtain rfl := sinj h
              refine g_lv [1, 2, 3, 0] rfl ?_
              exact ih23 (x4_L23 + (1 : Int32)) T36 hw23
        refine g_lv [1, 2, 3, 0] rfl ?_
        exact l23 100000 (0 : Int32) S_L12 hW23
  refine g_lv [1, 3, 0] rfl ?_
  exact l12 100000 (0 : Int32) ((va_up (va_up S.1 6 x1) 7 (0 : Int32)), S.2) hW12
