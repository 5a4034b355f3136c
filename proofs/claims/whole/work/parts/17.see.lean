def fX6_see_J92 (s0_J92 : Int32) (s1_J92 : Int32) (M_J92 : OM) : Option (Int32 × OM) :=
  (if okI s1_J92 18 = true then some (((M_J92.1 28) + (1 : Int32)), ((va_up M_J92.1 28 ((M_J92.1 28) + (1 : Int32))), (va_up M_J92.2.1 29 (upd (M_J92.2.1 29) s1_J92.toNatClampNeg s0_J92)), M_J92.2.2.1, M_J92.2.2.2)) else none)
def fX6_see (M : OM) (x1 : Int32) (x2 : Int32) (x3 : Int32) : Option (Int32 × OM) :=
  ((fX6_isLine M x1).bind (fun r2 => (if r2 = 0 then some ((-101 : Int32), M)
 else ((fX6_cellsOf M x1).bind (fun r17 => ((fX6_in x2.toInt64 (0 : Int64) ((((1 : Int32) <<< (r17 &&& 31)) - (1 : Int32)).toInt64)).bind (fun r24 => (if r24 = 0 then some ((-102 : Int32), M)
 else (if (M.1 28) = (6 : Int32) then some ((-104 : Int32), M)
 else (if okI ((3 : Int32) * (M.1 28)) 18 = true then (if okI (((3 : Int32) * (M.1 28)) + (1 : Int32)) 18 = true then (if x3 = 0 then fX6_see_J92 (0 : Int32) (((3 : Int32) * (M.1 28)) + (2 : Int32)) (M.1, (va_up M.2.1 29 (upd (upd (M.2.1 29) ((3 : Int32) * (M.1 28)).toNatClampNeg x1) (((3 : Int32) * (M.1 28)) + (1 : Int32)).toNatClampNeg x2)), M.2.2.1, M.2.2.2)
 else fX6_see_J92 (1 : Int32) (((3 : Int32) * (M.1 28)) + (2 : Int32)) (M.1, (va_up M.2.1 29 (upd (upd (M.2.1 29) ((3 : Int32) * (M.1 28)).toNatClampNeg x1) (((3 : Int32) * (M.1 28)) + (1 : Int32)).toNatClampNeg x2)), M.2.2.1, M.2.2.2)) else none) else none))))))))))
set_option maxHeartbeats 4000000 in
set_option maxRecDepth 100000 in
theorem kX6_see (l : Launch) (D : va_G) (cC cI cJ cZ : ClassId) (o : Nat) (a : Nat → Nat) (M : OM) (x1 : Int32) (x2 : Int32) (x3 : Int32) (r : Int32) (M' : OM) (h : fX6_see M x1 x2 x3 = some (r, M')) : gMi l yX6_see cX6_see 4 (some .int) (gR 3) D (tysG cC cI cJ cZ) [.ref o, .int x1, .int x2, .int x3] (wMod cI cJ o a M) r (wMod cI cJ o a M') := by
  refine gMi_of (by decide) (Nat.le_of_ble_eq_true rfl) rfl ?_
  intro p e s m args below meth c A Q C hQ
  have j92 : ∀ (s0_J92 : Int32) (s1_J92 : Int32) (M_J92 : OM), fX6_see_J92 s0_J92 s1_J92 M_J92 = some (r, M') → gG p l e (gR 3) s m args below meth c 4 D A 0 0 Q 92 [(0, .ref o)] [.int s0_J92, .int s1_J92, .ref (a 29)] (wMod cI cJ o a M_J92) := by
    intro s0_J92 s1_J92 M_J92 h
    unfold fX6_see_J92 at h
    obtain ⟨hg92, h⟩ := ifg h
    refine g_iast (f := (M_J92.2.1 29)) (ws2 := wMod cI cJ o a (M_J92.1, (va_up M_J92.2.1 29 (upd (M_J92.2.1 29) s1_J92.toNatClampNeg s0_J92)), M_J92.2.2.1, M_J92.2.2.2)) C dX6_see_92 12 0 rfl rfl hg92 rfl ?_
    refine g_aload_n C dX6_see_93 rfl 0 rfl ?_
    refine g_dup C dX6_see_94 rfl ?_
    refine g_get (v := .int (M_J92.1 28)) C fl_X6_151 dX6_see_95 0 rfl rfl ?_
    refine g_iconst (v := (1 : Int32)) C dX6_see_98 (by decide) ?_
    refine g_iadd C dX6_see_99 ?_
    refine g_put (ws2 := wMod cI cJ o a ((va_up M_J92.1 28 ((M_J92.1 28) + (1 : Int32))), (va_up M_J92.2.1 29 (upd (M_J92.2.1 29) s1_J92.toNatClampNeg s0_J92)), M_J92.2.2.1, M_J92.2.2.2)) C fp_X6_151 dX6_see_100 0 rfl rfl rfl (Nat.le_of_ble_eq_true rfl) rfl ?_
    refine g_aload_n C dX6_see_103 rfl 0 rfl ?_
    refine g_get (v := .int ((M_J92.1 28) + (1 : Int32))) C fl_X6_151 dX6_see_104 0 rfl rfl ?_
    cases sinj h
    exact g_iret C dX6_see_107 rfl rfl hQ
  unfold fX6_see at h
  refine g_aload_n C dX6_see_0 rfl 0 rfl ?_
  refine g_iload_n C dX6_see_1 rfl 1 rfl ?_
  obtain ⟨r2, h2, h⟩ := obd h
  refine g_callVi (st := []) (ws2 := wMod cI cJ o a M) C yv_X6_isLine ml_X6_180 dX6_see_2 (kX6_isLine l D cC cI cJ cZ o a M x1 r2 h2) gCut_all ⟨by decide, by decide⟩ ⟨rfl, rfl⟩ ⟨Nat.zero_le _, Nat.zero_le _⟩ rfl rfl (Nat.le_of_ble_eq_true rfl) 5 0 rfl rfl rfl ?_
  refine g_if_ne (tgt := 11) C dX6_see_5 (by decide) (fun c5 => ?_) (fun c5 => ?_)
  · have h := ifn h c5
    refine g_iload_n C dX6_see_11 rfl 2 rfl ?_
    refine g_i2l C dX6_see_12 ?_
    refine g_lconst (v := (0 : Int64)) C dX6_see_13 (by decide) ?_
    refine g_iconst (v := (1 : Int32)) C dX6_see_14 (by decide) ?_
    refine g_aload_n C dX6_see_15 rfl 0 rfl ?_
    refine g_iload_n C dX6_see_16 rfl 1 rfl ?_
    obtain ⟨r17, h17, h⟩ := obd h
    refine g_callVi (st := [.int (1 : Int32), .long (0 : Int64), .long x2.toInt64]) (ws2 := wMod cI cJ o a M) C yv_X6_cellsOf ml_X6_183 dX6_see_17 (kX6_cellsOf l D cC cI cJ cZ o a M x1 r17 h17) gCut_all ⟨by decide, by decide⟩ ⟨rfl, rfl⟩ ⟨Nat.zero_le _, Nat.zero_le _⟩ rfl rfl (Nat.le_of_ble_eq_true rfl) 5 0 rfl rfl rfl ?_
    refine g_ishl C dX6_see_20 ?_
    refine g_iconst (v := (1 : Int32)) C dX6_see_21 (by decide) ?_
    refine g_isub C dX6_see_22 ?_
    refine g_i2l C dX6_see_23 ?_
    obtain ⟨r24, h24, h⟩ := obd h
    refine g_callSi (st := []) (ws2 := wMod cI cJ o a M) C ys_X6_in ml_X6_78 dX6_see_24 (kX6_in l D cC cI cJ cZ x2.toInt64 (0 : Int64) ((((1 : Int32) <<< (r17 &&& 31)) - (1 : Int32)).toInt64) r24 h24) gCut_nil ⟨by decide, by decide⟩ ⟨rfl, rfl⟩ ⟨Nat.zero_le _, Nat.zero_le _⟩ rfl rfl (Nat.le_of_ble_eq_true rfl) ?_
    refine g_if_ne (tgt := 33) C dX6_see_27 (by decide) (fun c27 => ?_) (fun c27 => ?_)
    · have h := ifn h c27
      refine g_aload_n C dX6_see_33 rfl 0 rfl ?_
      refine g_get (v := .int (M.1 28)) C fl_X6_151 dX6_see_34 0 rfl rfl ?_
      refine g_bipush (v := (6 : Int32)) C dX6_see_37 (by decide) ?_
      refine g_icmp_ne (tgt := 45) C dX6_see_39 (by decide) (fun c39 => ?_) (fun c39 => ?_)
      · have h := ifn h c39
        refine g_aload_n C dX6_see_45 rfl 0 rfl ?_
        refine g_get (v := .ref (a 29)) C fl_X6_44 dX6_see_46 0 rfl rfl ?_
        refine g_iconst (v := (3 : Int32)) C dX6_see_49 (by decide) ?_
        refine g_aload_n C dX6_see_50 rfl 0 rfl ?_
        refine g_get (v := .int (M.1 28)) C fl_X6_151 dX6_see_51 0 rfl rfl ?_
        refine g_imul C dX6_see_54 ?_
        refine g_iload_n C dX6_see_55 rfl 1 rfl ?_
        obtain ⟨hg56, h⟩ := ifg h
        obtain ⟨f56, hf56⟩ : ∃ y, y = (upd (M.2.1 29) ((3 : Int32) * (M.1 28)).toNatClampNeg x1) := ⟨_, rfl⟩
        refine g_iast (f := (M.2.1 29)) (ws2 := wMod cI cJ o a (M.1, (va_up M.2.1 29 f56), M.2.2.1, M.2.2.2)) C dX6_see_56 12 0 rfl rfl hg56 (by subst hf56; exact rfl) ?_
        refine g_aload_n C dX6_see_57 rfl 0 rfl ?_
        refine g_get (v := .ref (a 29)) C fl_X6_44 dX6_see_58 0 rfl rfl ?_
        refine g_iconst (v := (3 : Int32)) C dX6_see_61 (by decide) ?_
        refine g_aload_n C dX6_see_62 rfl 0 rfl ?_
        refine g_get (v := .int (M.1 28)) C fl_X6_151 dX6_see_63 0 rfl rfl ?_
        refine g_imul C dX6_see_66 ?_
        refine g_iconst (v := (1 : Int32)) C dX6_see_67 (by decide) ?_
        refine g_iadd C dX6_see_68 ?_
        refine g_iload_n C dX6_see_69 rfl 2 rfl ?_
        obtain ⟨hg70, h⟩ := ifg h
        obtain ⟨f70, hf70⟩ : ∃ y, y = (upd f56 (((3 : Int32) * (M.1 28)) + (1 : Int32)).toNatClampNeg x2) := ⟨_, rfl⟩
        refine g_iast (f := f56) (ws2 := wMod cI cJ o a (M.1, (va_up M.2.1 29 f70), M.2.2.1, M.2.2.2)) C dX6_see_70 12 0 rfl rfl hg70 (by subst hf70; exact rfl) ?_
        refine g_aload_n C dX6_see_71 rfl 0 rfl ?_
        refine g_get (v := .ref (a 29)) C fl_X6_44 dX6_see_72 0 rfl rfl ?_
        refine g_iconst (v := (3 : Int32)) C dX6_see_75 (by decide) ?_
        refine g_aload_n C dX6_see_76 rfl 0 rfl ?_
        refine g_get (v := .int (M.1 28)) C fl_X6_151 dX6_see_77 0 rfl rfl ?_
        refine g_imul C dX6_see_80 ?_
        refine g_iconst (v := (2 : Int32)) C dX6_see_81 (by decide) ?_
        refine g_iadd C dX6_see_82 ?_
        refine g_iload_n C dX6_see_83 rfl 3 rfl ?_
        refine g_if_eq (tgt := 91) C dX6_see_84 (by decide) (fun c84 => ?_) (fun c84 => ?_)
        · have h := ifp h c84
          refine g_iconst (v := (0 : Int32)) C dX6_see_91 (by decide) ?_
          refine g_lv [0] rfl ?_
          subst hf70
          subst hf56
          exact j92 _ _ _ h
        · have h := ifn h c84
          refine g_iconst (v := (1 : Int32)) C dX6_see_87 (by decide) ?_
          refine g_goto (tgt := 92) C dX6_see_88 (by decide) ?_
          refine g_lv [0] rfl ?_
          subst hf70
          subst hf56
          exact j92 _ _ _ h
      · have h := ifp h c39
        refine g_bipush (v := (-104 : Int32)) C dX6_see_42 (by decide) ?_
        cases sinj h
        exact g_iret C dX6_see_44 rfl rfl hQ
    · have h := ifp h c27
      refine g_bipush (v := (-102 : Int32)) C dX6_see_30 (by decide) ?_
      cases sinj h
      exact g_iret C dX6_see_32 rfl rfl hQ
  · have h := ifp h c5
    refine g_bipush (v := (-101 : Int32)) C dX6_see_8 (by decide) ?_
    cases sinj h
    exact g_iret C dX6_see_10 rfl rfl hQ
