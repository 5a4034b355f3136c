def fX0_empty_L7 (cN : Nat) (x1_L7 : Int32) (S_L7 : Ob) : Option ((Int32 × Ob) ⊕ (Ob)) :=
  (if (16 : Int32) ≤ x1_L7 then some (.inr S_L7)
 else (if okI x1_L7 16 = true then some (.inl ((x1_L7 + (1 : Int32)), (S_L7.1, (va_up S_L7.2 1 (upd (S_L7.2 1) x1_L7.toNatClampNeg (0 : Int32)))))) else none))
def fX0_empty_J26 (cN : Nat) (S_J26 : Ob) : Option (Ob) :=
  some S_J26
def fX0_empty (cN : Nat) (S : Ob)  : Option (Ob) :=
  ((wh (σ := Int32 × Ob) (ρ := Ob) (fun t => fX0_empty_L7 cN t.1 t.2) 100000 ((0 : Int32), ((va_up S.1 2 (0 : Int32)), S.2))).bind (fun S_E7 => fX0_empty_J26 cN S_E7))
set_option maxHeartbeats 4000000 in
set_option maxRecDepth 100000 in
theorem kX0_empty (l : Launch) (D : va_G) (cC cI cJ cZ : ClassId) (o : Nat) (a : Nat → Nat) (cN : Nat) (S : Ob)  (S' : Ob) (h : fX0_empty cN S = some S') : gMv l yX0_empty cX0_empty 2 none (gR 1) D (tysG cC cI cJ cZ) [.ref o] (wFits cI cN o a S) (wFits cI cN o a S') := by
  refine gMv_of (by decide) (Nat.le_of_ble_eq_true rfl) rfl ?_
  intro p e s m args below meth c A Q C hQ
  have j26 : ∀ (S_J26 : Ob), fX0_empty_J26 cN S_J26 = some S' → gG p l e (gR 1) s m args below meth c 2 D A 0 0 Q 26 [] [] (wFits cI cN o a S_J26) := by
    intro S_J26 h
    unfold fX0_empty_J26 at h
    cases sinj h
    exact g_vret C dX0_empty_26 rfl hQ
  unfold fX0_empty at h
  refine g_aload_n C dX0_empty_0 rfl 0 rfl ?_
  refine g_iconst (v := (0 : Int32)) C dX0_empty_1 (by decide) ?_
  refine g_put (ws2 := wFits cI cN o a ((va_up S.1 2 (0 : Int32)), S.2)) C fp_X0_24 dX0_empty_2 0 rfl rfl rfl (Nat.le_of_ble_eq_true rfl) rfl ?_
  refine g_iconst (v := (0 : Int32)) C dX0_empty_5 (by decide) ?_
  refine g_istore_n (lv' := [(1, .int (0 : Int32)), (0, .ref o)]) C dX0_empty_6 rfl (by decide) rfl ?_
  obtain ⟨X7, hW7, hK7⟩ := obd h
  have l7 : ∀ (fu7 : Nat) (x1_L7 : Int32) (S_L7 : Ob), wh (σ := Int32 × Ob) (ρ := Ob) (fun t => fX0_empty_L7 cN t.1 t.2) fu7 (x1_L7, S_L7) = some X7 → gG p l e (gR 1) s m args below meth c 2 D A 0 0 Q 7 [(0, .ref o), (1, .int x1_L7)] [] (wFits cI cN o a S_L7) := by
    intro fu7
    induction fu7 with
    | zero => intro x1_L7 S_L7 hW; exact (wh_0 hW).elim
    | succ fu7 ih7 =>
      intro x1_L7 S_L7 hW
      obtain ⟨z7, h, hw7⟩ := wh_s hW
      replace h : fX0_empty_L7 cN x1_L7 S_L7 = some z7 := h
      unfold fX0_empty_L7 at h
      refine g_iload_n C dX0_empty_7 rfl 1 rfl ?_
      refine g_bipush (v := (16 : Int32)) C dX0_empty_8 (by decide) ?_
      refine g_icmp_ge (tgt := 26) C dX0_empty_10 (by decide) (fun c10 => ?_) (fun c10 => ?_)
      · have h := ifp h c10
        obtain rfl := sinj h
        obtain rfl := wk_r hw7
        have h := hK7
        refine g_lv [] rfl ?_
        exact j26 S_L7 h
      · have h := ifn h c10
        refine g_aload_n C dX0_empty_13 rfl 0 rfl ?_
        refine g_get (v := .ref (a 1)) C fl_X0_9 dX0_empty_14 0 rfl rfl ?_
        refine g_iload_n C dX0_empty_17 rfl 1 rfl ?_
        refine g_iconst (v := (0 : Int32)) C dX0_empty_18 (by decide) ?_
        obtain ⟨hg19, h⟩ := ifg h
        refine g_iast (f := (S_L7.2 1)) (ws2 := wFits cI cN o a (S_L7.1, (va_up S_L7.2 1 (upd (S_L7.2 1) x1_L7.toNatClampNeg (0 : Int32))))) C dX0_empty_19 2 0 rfl rfl hg19 rfl ?_
        refine g_iinc (j := 1) (v := (x1_L7 + (1 : Int32))) (lv' := [(1, .int (x1_L7 + (1 : Int32))), (0, .ref o)]) C dX0_empty_20 rfl rfl (by decide) rfl ?_
        refine g_goto (tgt := 7) C dX0_empty_23 (by decide) ?_
        obtain rfl := sinj h
        refine g_lv [1, 0] rfl ?_
        exact ih7 (x1_L7 + (1 : Int32)) (S_L7.1, (va_up S_L7.2 1 (upd (S_L7.2 1) x1_L7.toNatClampNeg (0 : Int32)))) hw7
  refine g_lv [1, 0] rfl ?_
  exact l7 100000 (0 : Int32) ((va_up S.1 2 (0 : Int32)), S.2) hW7
def fX0_add_L42 (cN : Nat) (x1_L42 : Int32) (x2_L42 : Int32) (S_L42 : Ob) : Option ((Int32 × Ob) ⊕ (Ob)) :=
  (if (16 : Int32) ≤ x2_L42 then some (.inr S_L42)
 else (if okI x2_L42 16 = true then (if okI x2_L42 16 = true then some (.inl ((x2_L42 + (1 : Int32)), (S_L42.1, (va_up S_L42.2 1 (upd (S_L42.2 1) x2_L42.toNatClampNeg (((S_L42.2 1) x2_L42.toNatClampNeg) + ((x1_L42 >>> (x2_L42 &&& 31)) &&& (1 : Int32)))))))) else none) else none))
def fX0_add_J68 (cN : Nat) (S_J68 : Ob) : Option (Ob) :=
  some S_J68
def fX0_add (cN : Nat) (S : Ob) (x1 : Int32) : Option (Ob) :=
  (if (S.1 2) < 0 then some S
 else (if (S.1 2) < (Int32.ofNat cN) then (if okI (S.1 2) cN = true then ((wh (σ := Int32 × Ob) (ρ := Ob) (fun t => fX0_add_L42 cN x1 t.1 t.2) 100000 ((0 : Int32), ((va_up S.1 2 ((S.1 2) + (1 : Int32))), (va_up S.2 0 (upd (S.2 0) (S.1 2).toNatClampNeg x1))))).bind (fun S_E42 => fX0_add_J68 cN S_E42)) else none)
 else some S))
set_option maxHeartbeats 4000000 in
set_option maxRecDepth 100000 in
theorem kX0_add (l : Launch) (D : va_G) (cC cI cJ cZ : ClassId) (o : Nat) (a : Nat → Nat) (cN : Nat) (S : Ob) (x1 : Int32) (S' : Ob) (h : fX0_add cN S x1 = some S') : gMv l yX0_add cX0_add 3 none (gR 1) D (tysG cC cI cJ cZ) [.ref o, .int x1] (wFits cI cN o a S) (wFits cI cN o a S') := by
  refine gMv_of (by decide) (Nat.le_of_ble_eq_true rfl) rfl ?_
  intro p e s m args below meth c A Q C hQ
  have j68 : ∀ (S_J68 : Ob), fX0_add_J68 cN S_J68 = some S' → gG p l e (gR 1) s m args below meth c 3 D A 0 0 Q 68 [] [] (wFits cI cN o a S_J68) := by
    intro S_J68 h
    unfold fX0_add_J68 at h
    cases sinj h
    exact g_vret C dX0_add_68 rfl hQ
  unfold fX0_add at h
  refine g_aload_n C dX0_add_0 rfl 0 rfl ?_
  refine g_get (v := .int (S.1 2)) C fl_X0_24 dX0_add_1 0 rfl rfl ?_
  refine g_if_lt (tgt := 19) C dX0_add_4 (by decide) (fun c4 => ?_) (fun c4 => ?_)
  · have h := ifp h c4
    cases sinj h
    exact g_vret C dX0_add_19 rfl hQ
  · have h := ifn h c4
    refine g_aload_n C dX0_add_7 rfl 0 rfl ?_
    refine g_get (v := .int (S.1 2)) C fl_X0_24 dX0_add_8 0 rfl rfl ?_
    refine g_aload_n C dX0_add_11 rfl 0 rfl ?_
    refine g_get (v := .ref (a 0)) C fl_X0_21 dX0_add_12 0 rfl rfl ?_
    refine g_alen (v := (Int32.ofNat cN)) C dX0_add_15 1 0 rfl rfl rfl ?_
    refine g_icmp_lt (tgt := 20) C dX0_add_16 (by decide) (fun c16 => ?_) (fun c16 => ?_)
    · have h := ifp h c16
      refine g_aload_n C dX0_add_20 rfl 0 rfl ?_
      refine g_get (v := .ref (a 0)) C fl_X0_21 dX0_add_21 0 rfl rfl ?_
      refine g_aload_n C dX0_add_24 rfl 0 rfl ?_
      refine g_get (v := .int (S.1 2)) C fl_X0_24 dX0_add_25 0 rfl rfl ?_
      refine g_iload_n C dX0_add_28 rfl 1 rfl ?_
      obtain ⟨hg29, h⟩ := ifg h
      refine g_iast (f := (S.2 0)) (ws2 := wFits cI cN o a (S.1, (va_up S.2 0 (upd (S.2 0) (S.1 2).toNatClampNeg x1)))) C dX0_add_29 1 0 rfl rfl hg29 rfl ?_
      refine g_aload_n C dX0_add_30 rfl 0 rfl ?_
      refine g_dup C dX0_add_31 rfl ?_
      refine g_get (v := .int (S.1 2)) C fl_X0_24 dX0_add_32 0 rfl rfl ?_
      refine g_iconst (v := (1 : Int32)) C dX0_add_35 (by decide) ?_
      refine g_iadd C dX0_add_36 ?_
      refine g_put (ws2 := wFits cI cN o a ((va_up S.1 2 ((S.1 2) + (1 : Int32))), (va_up S.2 0 (upd (S.2 0) (S.1 2).toNatClampNeg x1)))) C fp_X0_24 dX0_add_37 0 rfl rfl rfl (Nat.le_of_ble_eq_true rfl) rfl ?_
      refine g_iconst (v := (0 : Int32)) C dX0_add_40 (by decide) ?_
      refine g_istore_n (lv' := [(2, .int (0 : Int32)), (0, .ref o), (1, .int x1)]) C dX0_add_41 rfl (by decide) rfl ?_
      obtain ⟨X42, hW42, hK42⟩ := obd h
      have l42 : ∀ (fu42 : Nat) (x2_L42 : Int32) (S_L42 : Ob), wh (σ := Int32 × Ob) (ρ := Ob) (fun t => fX0_add_L42 cN x1 t.1 t.2) fu42 (x2_L42, S_L42) = some X42 → gG p l e (gR 1) s m args below meth c 3 D A 0 0 Q 42 [(0, .ref o), (1, .int x1), (2, .int x2_L42)] [] (wFits cI cN o a S_L42) := by
        intro fu42
        induction fu42 with
        | zero => intro x2_L42 S_L42 hW; exact (wh_0 hW).elim
        | succ fu42 ih42 =>
          intro x2_L42 S_L42 hW
          obtain ⟨z42, h, hw42⟩ := wh_s hW
          replace h : fX0_add_L42 cN x1 x2_L42 S_L42 = some z42 := h
          unfold fX0_add_L42 at h
          refine g_iload_n C dX0_add_42 rfl 2 rfl ?_
          refine g_bipush (v := (16 : Int32)) C dX0_add_43 (by decide) ?_
          refine g_icmp_ge (tgt := 68) C dX0_add_45 (by decide) (fun c45 => ?_) (fun c45 => ?_)
          · have h := ifp h c45
            obtain rfl := sinj h
            obtain rfl := wk_r hw42
            have h := hK42
            refine g_lv [] rfl ?_
            exact j68 S_L42 h
          · have h := ifn h c45
            refine g_aload_n C dX0_add_48 rfl 0 rfl ?_
            refine g_get (v := .ref (a 1)) C fl_X0_9 dX0_add_49 0 rfl rfl ?_
            refine g_iload_n C dX0_add_52 rfl 2 rfl ?_
            refine g_dup2 C dX0_add_53 rfl rfl ?_
            obtain ⟨hg54, h⟩ := ifg h
            refine g_iald (f := (S_L42.2 1)) C dX0_add_54 2 0 rfl rfl hg54 ?_
            refine g_iload_n C dX0_add_55 rfl 1 rfl ?_
            refine g_iload_n C dX0_add_56 rfl 2 rfl ?_
            refine g_ishr C dX0_add_57 ?_
            refine g_iconst (v := (1 : Int32)) C dX0_add_58 (by decide) ?_
            refine g_iand C dX0_add_59 ?_
            refine g_iadd C dX0_add_60 ?_
            obtain ⟨hg61, h⟩ := ifg h
            refine g_iast (f := (S_L42.2 1)) (ws2 := wFits cI cN o a (S_L42.1, (va_up S_L42.2 1 (upd (S_L42.2 1) x2_L42.toNatClampNeg (((S_L42.2 1) x2_L42.toNatClampNeg) + ((x1 >>> (x2_L42 &&& 31)) &&& (1 : Int32))))))) C dX0_add_61 2 0 rfl rfl hg61 rfl ?_
            refine g_iinc (j := 2) (v := (x2_L42 + (1 : Int32))) (lv' := [(2, .int (x2_L42 + (1 : Int32))), (0, .ref o), (1, .int x1)]) C dX0_add_62 rfl rfl (by decide) rfl ?_
            refine g_goto (tgt := 42) C dX0_add_65 (by decide) ?_
            obtain rfl := sinj h
            refine g_lv [1, 2, 0] rfl ?_
            exact ih42 (x2_L42 + (1 : Int32)) (S_L42.1, (va_up S_L42.2 1 (upd (S_L42.2 1) x2_L42.toNatClampNeg (((S_L42.2 1) x2_L42.toNatClampNeg) + ((x1 >>> (x2_L42 &&& 31)) &&& (1 : Int32)))))) hw42
      refine g_lv [1, 2, 0] rfl ?_
      exact l42 100000 (0 : Int32) ((va_up S.1 2 ((S.1 2) + (1 : Int32))), (va_up S.2 0 (upd (S.2 0) (S.1 2).toNatClampNeg x1))) hW42
    · have h := ifn h c16
      cases sinj h
      exact g_vret C dX0_add_19 rfl hQ
def fX0_at (cN : Nat) (S : Ob) (x1 : Int32) : Option (Int32) :=
  (if x1 < 0 then some (-1 : Int32)
 else (if (S.1 2) ≤ x1 then some (-1 : Int32)
 else (if x1 < (Int32.ofNat cN) then (if okI x1 cN = true then some ((S.2 0) x1.toNatClampNeg) else none)
 else some (-1 : Int32))))
set_option maxHeartbeats 4000000 in
set_option maxRecDepth 100000 in
theorem kX0_at (l : Launch) (D : va_G) (cC cI cJ cZ : ClassId) (o : Nat) (a : Nat → Nat) (cN : Nat) (S : Ob) (x1 : Int32) (r : Int32) (h : fX0_at cN S x1 = some r) : gMi l yX0_at cX0_at 2 (some .int) (gR 1) D (tysG cC cI cJ cZ) [.ref o, .int x1] (wFits cI cN o a S) r (wFits cI cN o a S) := by
  refine gMi_of (by decide) (Nat.le_of_ble_eq_true rfl) rfl ?_
  intro p e s m args below meth c A Q C hQ
  unfold fX0_at at h
  refine g_iload_n C dX0_at_0 rfl 1 rfl ?_
  refine g_if_lt (tgt := 21) C dX0_at_1 (by decide) (fun c1 => ?_) (fun c1 => ?_)
  · have h := ifp h c1
    refine g_iconst (v := (-1 : Int32)) C dX0_at_21 (by decide) ?_
    cases sinj h
    exact g_iret C dX0_at_22 rfl rfl hQ
  · have h := ifn h c1
    refine g_iload_n C dX0_at_4 rfl 1 rfl ?_
    refine g_aload_n C dX0_at_5 rfl 0 rfl ?_
    refine g_get (v := .int (S.1 2)) C fl_X0_24 dX0_at_6 0 rfl rfl ?_
    refine g_icmp_ge (tgt := 21) C dX0_at_9 (by decide) (fun c9 => ?_) (fun c9 => ?_)
    · have h := ifp h c9
      refine g_iconst (v := (-1 : Int32)) C dX0_at_21 (by decide) ?_
      cases sinj h
      exact g_iret C dX0_at_22 rfl rfl hQ
    · have h := ifn h c9
      refine g_iload_n C dX0_at_12 rfl 1 rfl ?_
      refine g_aload_n C dX0_at_13 rfl 0 rfl ?_
      refine g_get (v := .ref (a 0)) C fl_X0_21 dX0_at_14 0 rfl rfl ?_
      refine g_alen (v := (Int32.ofNat cN)) C dX0_at_17 1 0 rfl rfl rfl ?_
      refine g_icmp_lt (tgt := 23) C dX0_at_18 (by decide) (fun c18 => ?_) (fun c18 => ?_)
      · have h := ifp h c18
        refine g_aload_n C dX0_at_23 rfl 0 rfl ?_
        refine g_get (v := .ref (a 0)) C fl_X0_21 dX0_at_24 0 rfl rfl ?_
        refine g_iload_n C dX0_at_27 rfl 1 rfl ?_
        obtain ⟨hg28, h⟩ := ifg h
        refine g_iald (f := (S.2 0)) C dX0_at_28 1 0 rfl rfl hg28 ?_
        cases sinj h
        exact g_iret C dX0_at_29 rfl rfl hQ
      · have h := ifn h c18
        refine g_iconst (v := (-1 : Int32)) C dX0_at_21 (by decide) ?_
        cases sinj h
        exact g_iret C dX0_at_22 rfl rfl hQ
def fX0_copyFrom_L6 (cN : Nat) (cN2 : Nat) (S2 : Ob) (x2_L6 : Int32) (S_L6 : Ob) : Option ((Int32 × Ob) ⊕ (Ob)) :=
  (if (S2.1 2) ≤ x2_L6 then some (.inr S_L6)
 else ((fX0_at cN2 S2 x2_L6).bind (fun r17 => ((fX0_add cN S_L6 r17).bind (fun T20 => some (.inl ((x2_L6 + (1 : Int32)), T20)))))))
def fX0_copyFrom_J29 (cN : Nat) (cN2 : Nat) (S2 : Ob) (S_J29 : Ob) : Option (Ob) :=
  some S_J29
def fX0_copyFrom (cN : Nat) (cN2 : Nat) (S : Ob) (S2 : Ob)  : Option (Ob) :=
  ((fX0_empty cN S).bind (fun T1 => ((wh (σ := Int32 × Ob) (ρ := Ob) (fun t => fX0_copyFrom_L6 cN cN2 S2 t.1 t.2) 100000 ((0 : Int32), T1)).bind (fun S_E6 => fX0_copyFrom_J29 cN cN2 S2 S_E6))))
set_option maxHeartbeats 4000000 in
set_option maxRecDepth 100000 in
theorem kX0_copyFrom (l : Launch) (D : va_G) (cC cI cJ cZ : ClassId) (o : Nat) (a : Nat → Nat) (o2 : Nat) (a2 : Nat → Nat) (cN : Nat) (cN2 : Nat) (S : Ob) (S2 : Ob)  (S' : Ob) (h : fX0_copyFrom cN cN2 S S2 = some S') : gMv l yX0_copyFrom cX0_copyFrom 3 none (gR 2) D (tysG cC cI cJ cZ) [.ref o, .ref o2] (wFits cI cN o a S ++ wFits cI cN2 o2 a2 S2) (wFits cI cN o a S' ++ wFits cI cN2 o2 a2 S2) := by
  refine gMv_of (by decide) (Nat.le_of_ble_eq_true rfl) rfl ?_
  intro p e s m args below meth c A Q C hQ
  have j29 : ∀ (S_J29 : Ob), fX0_copyFrom_J29 cN cN2 S2 S_J29 = some S' → gG p l e (gR 2) s m args below meth c 3 D A 0 0 Q 29 [] [] (wFits cI cN o a S_J29 ++ wFits cI cN2 o2 a2 S2) := by
    intro S_J29 h
    unfold fX0_copyFrom_J29 at h
    cases sinj h
    exact g_vret C dX0_copyFrom_29 rfl hQ
  unfold fX0_copyFrom at h
  refine g_aload_n C dX0_copyFrom_0 rfl 0 rfl ?_
  obtain ⟨T1, h1, h⟩ := obd h
  refine g_callVv (st := []) (ws2 := wFits cI cN o a T1 ++ wFits cI cN2 o2 a2 S2) C yv_X0_empty ml_X0_28 dX0_copyFrom_1 (kX0_empty l D cC cI cJ cZ o a cN S T1 h1) (gCut_at [0, 1, 2] [3, 4, 5] [3, 4, 5, 0, 1, 2] rfl rfl rfl rfl (by decide) rfl rfl) ⟨by decide, by decide⟩ ⟨rfl, rfl⟩ ⟨Nat.zero_le _, Nat.zero_le _⟩ rfl rfl (Nat.le_of_ble_eq_true rfl) 0 0 rfl rfl rfl ?_
  refine g_iconst (v := (0 : Int32)) C dX0_copyFrom_4 (by decide) ?_
  refine g_istore_n (lv' := [(2, .int (0 : Int32)), (0, .ref o), (1, .ref o2)]) C dX0_copyFrom_5 rfl (by decide) rfl ?_
  obtain ⟨X6, hW6, hK6⟩ := obd h
  have l6 : ∀ (fu6 : Nat) (x2_L6 : Int32) (S_L6 : Ob), wh (σ := Int32 × Ob) (ρ := Ob) (fun t => fX0_copyFrom_L6 cN cN2 S2 t.1 t.2) fu6 (x2_L6, S_L6) = some X6 → gG p l e (gR 2) s m args below meth c 3 D A 0 0 Q 6 [(0, .ref o), (1, .ref o2), (2, .int x2_L6)] [] (wFits cI cN o a S_L6 ++ wFits cI cN2 o2 a2 S2) := by
    intro fu6
    induction fu6 with
    | zero => intro x2_L6 S_L6 hW; exact (wh_0 hW).elim
    | succ fu6 ih6 =>
      intro x2_L6 S_L6 hW
      obtain ⟨z6, h, hw6⟩ := wh_s hW
      replace h : fX0_copyFrom_L6 cN cN2 S2 x2_L6 S_L6 = some z6 := h
      unfold fX0_copyFrom_L6 at h
      refine g_iload_n C dX0_copyFrom_6 rfl 2 rfl ?_
      refine g_aload_n C dX0_copyFrom_7 rfl 1 rfl ?_
      refine g_get (v := .int (S2.1 2)) C fl_X0_24 dX0_copyFrom_8 3 rfl rfl ?_
      refine g_icmp_ge (tgt := 29) C dX0_copyFrom_11 (by decide) (fun c11 => ?_) (fun c11 => ?_)
      · have h := ifp h c11
        obtain rfl := sinj h
        obtain rfl := wk_r hw6
        have h := hK6
        refine g_lv [] rfl ?_
        exact j29 S_L6 h
      · have h := ifn h c11
        refine g_aload_n C dX0_copyFrom_14 rfl 0 rfl ?_
        refine g_aload_n C dX0_copyFrom_15 rfl 1 rfl ?_
        refine g_iload_n C dX0_copyFrom_16 rfl 2 rfl ?_
        obtain ⟨r17, h17, h⟩ := obd h
        refine g_callVi (st := [.ref o]) (ws2 := wFits cI cN o a S_L6 ++ wFits cI cN2 o2 a2 S2) C yv_X0_at ml_X0_31 dX0_copyFrom_17 (kX0_at l D cC cI cJ cZ o2 a2 cN2 S2 x2_L6 r17 h17) (gCut_at [3, 4, 5] [0, 1, 2] [0, 1, 2, 3, 4, 5] rfl rfl rfl rfl (by decide) rfl rfl) ⟨by decide, by decide⟩ ⟨rfl, rfl⟩ ⟨Nat.zero_le _, Nat.zero_le _⟩ rfl rfl (Nat.le_of_ble_eq_true rfl) 0 3 rfl rfl rfl ?_
        obtain ⟨T20, h20, h⟩ := obd h
        refine g_callVv (st := []) (ws2 := wFits cI cN o a T20 ++ wFits cI cN2 o2 a2 S2) C yv_X0_add ml_X0_35 dX0_copyFrom_20 (kX0_add l D cC cI cJ cZ o a cN S_L6 r17 T20 h20) (gCut_at [0, 1, 2] [3, 4, 5] [3, 4, 5, 0, 1, 2] rfl rfl rfl rfl (by decide) rfl rfl) ⟨by decide, by decide⟩ ⟨rfl, rfl⟩ ⟨Nat.zero_le _, Nat.zero_le _⟩ rfl rfl (Nat.le_of_ble_eq_true rfl) 0 0 rfl rfl rfl ?_
        refine g_iinc (j := 2) (v := (x2_L6 + (1 : Int32))) (lv' := [(2, .int (x2_L6 + (1 : Int32))), (0, .ref o), (1, .ref o2)]) C dX0_copyFrom_23 rfl rfl (by decide) rfl ?_
        refine g_goto (tgt := 6) C dX0_copyFrom_26 (by decide) ?_
        obtain rfl := sinj h
        refine g_lv [1, 2, 0] rfl ?_
        exact ih6 (x2_L6 + (1 : Int32)) T20 hw6
  refine g_lv [1, 2, 0] rfl ?_
  exact l6 100000 (0 : Int32) T1 hW6
def fX0_blackIn (cN : Nat) (S : Ob) (x1 : Int32) : Option (Int32) :=
  (if x1 < 0 then some (0 : Int32)
 else (if (16 : Int32) ≤ x1 then some (0 : Int32)
 else (if okI x1 16 = true then some ((S.2 1) x1.toNatClampNeg) else none)))
set_option maxHeartbeats 4000000 in
set_option maxRecDepth 100000 in
theorem kX0_blackIn (l : Launch) (D : va_G) (cC cI cJ cZ : ClassId) (o : Nat) (a : Nat → Nat) (cN : Nat) (S : Ob) (x1 : Int32) (r : Int32) (h : fX0_blackIn cN S x1 = some r) : gMi l yX0_blackIn cX0_blackIn 2 (some .int) (gR 1) D (tysG cC cI cJ cZ) [.ref o, .int x1] (wFits cI cN o a S) r (wFits cI cN o a S) := by
  refine gMi_of (by decide) (Nat.le_of_ble_eq_true rfl) rfl ?_
  intro p e s m args below meth c A Q C hQ
  unfold fX0_blackIn at h
  refine g_iload_n C dX0_blackIn_0 rfl 1 rfl ?_
  refine g_if_lt (tgt := 19) C dX0_blackIn_1 (by decide) (fun c1 => ?_) (fun c1 => ?_)
  · have h := ifp h c1
    refine g_iconst (v := (0 : Int32)) C dX0_blackIn_19 (by decide) ?_
    cases sinj h
    exact g_iret C dX0_blackIn_20 rfl rfl hQ
  · have h := ifn h c1
    refine g_iload_n C dX0_blackIn_4 rfl 1 rfl ?_
    refine g_bipush (v := (16 : Int32)) C dX0_blackIn_5 (by decide) ?_
    refine g_icmp_ge (tgt := 19) C dX0_blackIn_7 (by decide) (fun c7 => ?_) (fun c7 => ?_)
    · have h := ifp h c7
      refine g_iconst (v := (0 : Int32)) C dX0_blackIn_19 (by decide) ?_
      cases sinj h
      exact g_iret C dX0_blackIn_20 rfl rfl hQ
    · have h := ifn h c7
      refine g_aload_n C dX0_blackIn_10 rfl 0 rfl ?_
      refine g_get (v := .ref (a 1)) C fl_X0_9 dX0_blackIn_11 0 rfl rfl ?_
      refine g_iload_n C dX0_blackIn_14 rfl 1 rfl ?_
      obtain ⟨hg15, h⟩ := ifg h
      refine g_iald (f := (S.2 1)) C dX0_blackIn_15 2 0 rfl rfl hg15 ?_
      refine g_goto (tgt := 20) C dX0_blackIn_16 (by decide) ?_
      cases sinj h
      exact g_iret C dX0_blackIn_20 rfl rfl hQ
def fX0_sure_J27 (cN : Nat) (S : Ob) (x2_J27 : Int32) : Option (Int32) :=
  (if x2_J27 = 0 then some (0 : Int32)
 else some (1 : Int32))
def fX0_sure (cN : Nat) (S : Ob) (x1 : Int32) : Option (Int32) :=
  ((fX0_blackIn cN S x1).bind (fun r2 => (if (S.1 2) = 0 then some (-1 : Int32)
 else (if r2 = 0 then fX0_sure_J27 cN S r2
 else (if r2 = (S.1 2) then fX0_sure_J27 cN S r2
 else some (-1 : Int32))))))
set_option maxHeartbeats 4000000 in
set_option maxRecDepth 100000 in
theorem kX0_sure (l : Launch) (D : va_G) (cC cI cJ cZ : ClassId) (o : Nat) (a : Nat → Nat) (cN : Nat) (S : Ob) (x1 : Int32) (r : Int32) (h : fX0_sure cN S x1 = some r) : gMi l yX0_sure cX0_sure 3 (some .int) (gR 2) D (tysG cC cI cJ cZ) [.ref o, .int x1] (wFits cI cN o a S) r (wFits cI cN o a S) := by
  refine gMi_of (by decide) (Nat.le_of_ble_eq_true rfl) rfl ?_
  intro p e s m args below meth c A Q C hQ
  have j27 : ∀ (x2_J27 : Int32), fX0_sure_J27 cN S x2_J27 = some r → gG p l e (gR 2) s m args below meth c 3 D A 0 0 Q 27 [(2, .int x2_J27)] [] (wFits cI cN o a S) := by
    intro x2_J27 h
    unfold fX0_sure_J27 at h
    refine g_iload_n C dX0_sure_27 rfl 0 rfl ?_
    refine g_if_ne (tgt := 35) C dX0_sure_28 (by decide) (fun c28 => ?_) (fun c28 => ?_)
    · have h := ifn h c28
      refine g_iconst (v := (1 : Int32)) C dX0_sure_35 (by decide) ?_
      cases sinj h
      exact g_iret C dX0_sure_36 rfl rfl hQ
    · have h := ifp h c28
      refine g_iconst (v := (0 : Int32)) C dX0_sure_31 (by decide) ?_
      refine g_goto (tgt := 36) C dX0_sure_32 (by decide) ?_
      cases sinj h
      exact g_iret C dX0_sure_36 rfl rfl hQ
  unfold fX0_sure at h
  refine g_aload_n C dX0_sure_0 rfl 0 rfl ?_
  refine g_iload_n C dX0_sure_1 rfl 1 rfl ?_
  obtain ⟨r2, h2, h⟩ := obd h
  refine g_callVi (st := []) (ws2 := wFits cI cN o a S) C yv_X0_blackIn ml_X0_39 dX0_sure_2 (kX0_blackIn l D cC cI cJ cZ o a cN S x1 r2 h2) gCut_all ⟨by decide, by decide⟩ ⟨rfl, rfl⟩ ⟨Nat.zero_le _, Nat.zero_le _⟩ rfl rfl (Nat.le_of_ble_eq_true rfl) 0 0 rfl rfl rfl ?_
  refine g_istore_n (lv' := [(2, .int r2), (0, .ref o), (1, .int x1)]) C dX0_sure_5 rfl (by decide) rfl ?_
  refine g_aload_n C dX0_sure_6 rfl 1 rfl ?_
  refine g_get (v := .int (S.1 2)) C fl_X0_24 dX0_sure_7 0 rfl rfl ?_
  refine g_if_eq (tgt := 25) C dX0_sure_10 (by decide) (fun c10 => ?_) (fun c10 => ?_)
  · have h := ifp h c10
    refine g_iconst (v := (-1 : Int32)) C dX0_sure_25 (by decide) ?_
    cases sinj h
    exact g_iret C dX0_sure_26 rfl rfl hQ
  · have h := ifn h c10
    refine g_iload_n C dX0_sure_13 rfl 0 rfl ?_
    refine g_if_eq (tgt := 27) C dX0_sure_14 (by decide) (fun c14 => ?_) (fun c14 => ?_)
    · have h := ifp h c14
      refine g_lv [0] rfl ?_
      exact j27 r2 h
    · have h := ifn h c14
      refine g_iload_n C dX0_sure_17 rfl 0 rfl ?_
      refine g_aload_n C dX0_sure_18 rfl 1 rfl ?_
      refine g_get (v := .int (S.1 2)) C fl_X0_24 dX0_sure_19 0 rfl rfl ?_
      refine g_icmp_eq (tgt := 27) C dX0_sure_22 (by decide) (fun c22 => ?_) (fun c22 => ?_)
      · have h := ifp h c22
        refine g_lv [0] rfl ?_
        exact j27 r2 h
      · have h := ifn h c22
        refine g_iconst (v := (-1 : Int32)) C dX0_sure_25 (by decide) ?_
        cases sinj h
        exact g_iret C dX0_sure_26 rfl rfl hQ
def fX0_holds_L2 (cN : Nat) (S : Ob) (x1_L2 : Int32) (x2_L2 : Int32) : Option ((Int32) ⊕ ((Int32) ⊕ (Unit))) :=
  (if (S.1 2) ≤ x2_L2 then some (.inr (.inr ()))
 else ((fX0_at cN S x2_L2).bind (fun r12 => (if r12 = x1_L2 then some (.inr (.inl (1 : Int32)))
 else some (.inl (x2_L2 + (1 : Int32)))))))
def fX0_holds_J27 (cN : Nat) (S : Ob) : Option (Int32) :=
  some (0 : Int32)
def fX0_holds (cN : Nat) (S : Ob) (x1 : Int32) : Option (Int32) :=
  ((wh (σ := Int32) (ρ := (Int32) ⊕ (Unit)) (fun t => fX0_holds_L2 cN S x1 t) 100000 (0 : Int32)).bind (fun X => Sum.elim (fun r => some r) (fun _ => fX0_holds_J27 cN S) X))
set_option maxHeartbeats 4000000 in
set_option maxRecDepth 100000 in
theorem kX0_holds (l : Launch) (D : va_G) (cC cI cJ cZ : ClassId) (o : Nat) (a : Nat → Nat) (cN : Nat) (S : Ob) (x1 : Int32) (r : Int32) (h : fX0_holds cN S x1 = some r) : gMi l yX0_holds cX0_holds 3 (some .boolean) (gR 2) D (tysG cC cI cJ cZ) [.ref o, .int x1] (wFits cI cN o a S) r (wFits cI cN o a S) := by
  refine gMi_of (by decide) (Nat.le_of_ble_eq_true rfl) rfl ?_
  intro p e s m args below meth c A Q C hQ
  have j27 : fX0_holds_J27 cN S = some r → gG p l e (gR 2) s m args below meth c 3 D A 0 0 Q 27 [] [] (wFits cI cN o a S) := by
    intro h
    unfold fX0_holds_J27 at h
    refine g_iconst (v := (0 : Int32)) C dX0_holds_27 (by decide) ?_
    cases sinj h
    exact g_zret C dX0_holds_28 rfl rfl rfl hQ
  unfold fX0_holds at h
  refine g_iconst (v := (0 : Int32)) C dX0_holds_0 (by decide) ?_
  refine g_istore_n (lv' := [(2, .int (0 : Int32)), (0, .ref o), (1, .int x1)]) C dX0_holds_1 rfl (by decide) rfl ?_
  obtain ⟨X2, hW2, hK2⟩ := obd h
  have l2 : ∀ (fu2 : Nat) (x2_L2 : Int32), wh (σ := Int32) (ρ := (Int32) ⊕ (Unit)) (fun t => fX0_holds_L2 cN S x1 t) fu2 x2_L2 = some X2 → gG p l e (gR 2) s m args below meth c 3 D A 0 0 Q 2 [(0, .ref o), (1, .int x1), (2, .int x2_L2)] [] (wFits cI cN o a S) := by
    intro fu2
    induction fu2 with
    | zero => intro x2_L2 hW; exact (wh_0 hW).elim
    | succ fu2 ih2 =>
      intro x2_L2 hW
      obtain ⟨z2, h, hw2⟩ := wh_s hW
      replace h : fX0_holds_L2 cN S x1 x2_L2 = some z2 := h
      unfold fX0_holds_L2 at h
      refine g_iload_n C dX0_holds_2 rfl 2 rfl ?_
      refine g_aload_n C dX0_holds_3 rfl 0 rfl ?_
      refine g_get (v := .int (S.1 2)) C fl_X0_24 dX0_holds_4 0 rfl rfl ?_
      refine g_icmp_ge (tgt := 27) C dX0_holds_7 (by decide) (fun c7 => ?_) (fun c7 => ?_)
      · have h := ifp h c7
        obtain rfl := sinj h
        obtain rfl := wk_r hw2
        have h := ser hK2
        refine g_lv [] rfl ?_
        exact j27  h
      · have h := ifn h c7
        refine g_aload_n C dX0_holds_10 rfl 0 rfl ?_
        refine g_iload_n C dX0_holds_11 rfl 2 rfl ?_
        obtain ⟨r12, h12, h⟩ := obd h
        refine g_callVi (st := []) (ws2 := wFits cI cN o a S) C yv_X0_at ml_X0_31 dX0_holds_12 (kX0_at l D cC cI cJ cZ o a cN S x2_L2 r12 h12) gCut_all ⟨by decide, by decide⟩ ⟨rfl, rfl⟩ ⟨Nat.zero_le _, Nat.zero_le _⟩ rfl rfl (Nat.le_of_ble_eq_true rfl) 0 0 rfl rfl rfl ?_
        refine g_iload_n C dX0_holds_15 rfl 1 rfl ?_
        refine g_icmp_ne (tgt := 21) C dX0_holds_16 (by decide) (fun c16 => ?_) (fun c16 => ?_)
        · have h := ifn h c16
          refine g_iinc (j := 2) (v := (x2_L2 + (1 : Int32))) (lv' := [(2, .int (x2_L2 + (1 : Int32))), (0, .ref o), (1, .int x1)]) C dX0_holds_21 rfl rfl (by decide) rfl ?_
          refine g_goto (tgt := 2) C dX0_holds_24 (by decide) ?_
          obtain rfl := sinj h
          refine g_lv [1, 2, 0] rfl ?_
          exact ih2 (x2_L2 + (1 : Int32)) hw2
        · have h := ifp h c16
          refine g_iconst (v := (1 : Int32)) C dX0_holds_19 (by decide) ?_
          obtain rfl := sinj h
          obtain rfl := wk_r hw2
          have h := sel hK2
          cases sinj h
          exact g_zret C dX0_holds_20 rfl rfl rfl hQ
  refine g_lv [1, 2, 0] rfl ?_
  exact l2 100000 (0 : Int32) hW2
def fX0_bestLook_L20 (cN : Nat) (S : Ob) (x1_L20 : Int32) (x2_L20 : Int32) (x3_L20 : Int32) (x4_L20 : Int32) (x5_L20 : Int32) : Option ((Int32 × Int32 × Int32) ⊕ (Int32)) :=
  (if x1_L20 ≤ x5_L20 then some (.inr x3_L20)
 else (if ((x2_L20 >>> (x5_L20 &&& 31)) &&& (1 : Int32)) = 0 then ((fX0_blackIn cN S x5_L20).bind (fun r41 => ((fX0_blackIn cN S x5_L20).bind (fun r51 => (if x3_L20 = (-1 : Int32) then some (.inl (x5_L20, (if r41 < ((S.1 2) - r51) then ((S.1 2) - r51) else r41), (x5_L20 + (1 : Int32))))
 else (if x4_L20 ≤ (if r41 < ((S.1 2) - r51) then ((S.1 2) - r51) else r41) then some (.inl (x3_L20, x4_L20, (x5_L20 + (1 : Int32))))
 else some (.inl (x5_L20, (if r41 < ((S.1 2) - r51) then ((S.1 2) - r51) else r41), (x5_L20 + (1 : Int32))))))))))
 else some (.inl (x3_L20, x4_L20, (x5_L20 + (1 : Int32))))))
def fX0_bestLook_J85 (cN : Nat) (S : Ob) (x3_J85 : Int32) : Option (Int32) :=
  some x3_J85
def fX0_bestLook (cN : Nat) (S : Ob) (x1 : Int32) (x2 : Int32) : Option (Int32) :=
  (if (S.1 2) = 0 then some (-1 : Int32)
 else ((wh (σ := Int32 × Int32 × Int32) (ρ := Int32) (fun t => fX0_bestLook_L20 cN S x1 x2 t.1 t.2.1 t.2.2) 100000 ((-1 : Int32), (S.1 2), (0 : Int32))).bind (fun e3_L20 => fX0_bestLook_J85 cN S e3_L20)))
set_option maxHeartbeats 4000000 in
set_option maxRecDepth 100000 in
theorem kX0_bestLook (l : Launch) (D : va_G) (cC cI cJ cZ : ClassId) (o : Nat) (a : Nat → Nat) (cN : Nat) (S : Ob) (x1 : Int32) (x2 : Int32) (r : Int32) (h : fX0_bestLook cN S x1 x2 = some r) : gMi l yX0_bestLook cX0_bestLook 7 (some .int) (gR 2) D (tysG cC cI cJ cZ) [.ref o, .int x1, .int x2] (wFits cI cN o a S) r (wFits cI cN o a S) := by
  refine gMi_of (by decide) (Nat.le_of_ble_eq_true rfl) rfl ?_
  intro p e s m args below meth c A Q C hQ
  have j85 : ∀ (x3_J85 : Int32), fX0_bestLook_J85 cN S x3_J85 = some r → gG p l e (gR 2) s m args below meth c 7 D A 0 0 Q 85 [(3, .int x3_J85)] [] (wFits cI cN o a S) := by
    intro x3_J85 h
    unfold fX0_bestLook_J85 at h
    refine g_iload_n C dX0_bestLook_85 rfl 0 rfl ?_
    cases sinj h
    exact g_iret C dX0_bestLook_86 rfl rfl hQ
  unfold fX0_bestLook at h
  refine g_iconst (v := (-1 : Int32)) C dX0_bestLook_0 (by decide) ?_
  refine g_istore_n (lv' := [(3, .int (-1 : Int32)), (0, .ref o), (1, .int x1), (2, .int x2)]) C dX0_bestLook_1 rfl (by decide) rfl ?_
  refine g_aload_n C dX0_bestLook_2 rfl 1 rfl ?_
  refine g_get (v := .int (S.1 2)) C fl_X0_24 dX0_bestLook_3 0 rfl rfl ?_
  refine g_istore (lv' := [(4, .int (S.1 2)), (3, .int (-1 : Int32)), (0, .ref o), (1, .int x1), (2, .int x2)]) C dX0_bestLook_6 (by decide) rfl ?_
  refine g_aload_n C dX0_bestLook_8 rfl 2 rfl ?_
  refine g_get (v := .int (S.1 2)) C fl_X0_24 dX0_bestLook_9 0 rfl rfl ?_
  refine g_if_ne (tgt := 17) C dX0_bestLook_12 (by decide) (fun c12 => ?_) (fun c12 => ?_)
  · have h := ifn h c12
    refine g_iconst (v := (0 : Int32)) C dX0_bestLook_17 (by decide) ?_
    refine g_istore (lv' := [(5, .int (0 : Int32)), (4, .int (S.1 2)), (3, .int (-1 : Int32)), (0, .ref o), (1, .int x1), (2, .int x2)]) C dX0_bestLook_18 (by decide) rfl ?_
    obtain ⟨X20, hW20, hK20⟩ := obd h
    have l20 : ∀ (fu20 : Nat) (x3_L20 : Int32) (x4_L20 : Int32) (x5_L20 : Int32), wh (σ := Int32 × Int32 × Int32) (ρ := Int32) (fun t => fX0_bestLook_L20 cN S x1 x2 t.1 t.2.1 t.2.2) fu20 (x3_L20, x4_L20, x5_L20) = some X20 → gG p l e (gR 2) s m args below meth c 7 D A 0 0 Q 20 [(0, .ref o), (1, .int x1), (2, .int x2), (3, .int x3_L20), (4, .int x4_L20), (5, .int x5_L20)] [] (wFits cI cN o a S) := by
      intro fu20
      induction fu20 with
      | zero => intro x3_L20 x4_L20 x5_L20 hW; exact (wh_0 hW).elim
      | succ fu20 ih20 =>
        intro x3_L20 x4_L20 x5_L20 hW
        obtain ⟨z20, h, hw20⟩ := wh_s hW
        replace h : fX0_bestLook_L20 cN S x1 x2 x3_L20 x4_L20 x5_L20 = some z20 := h
        unfold fX0_bestLook_L20 at h
        refine g_iload C dX0_bestLook_20 5 rfl ?_
        refine g_iload_n C dX0_bestLook_22 rfl 1 rfl ?_
        refine g_icmp_ge (tgt := 85) C dX0_bestLook_23 (by decide) (fun c23 => ?_) (fun c23 => ?_)
        · have h := ifp h c23
          obtain rfl := sinj h
          obtain rfl := wk_r hw20
          have h := hK20
          refine g_lv [3] rfl ?_
          exact j85 x3_L20 h
        · have h := ifn h c23
          refine g_iload_n C dX0_bestLook_26 rfl 2 rfl ?_
          refine g_iload C dX0_bestLook_27 5 rfl ?_
          refine g_ishr C dX0_bestLook_29 ?_
          refine g_iconst (v := (1 : Int32)) C dX0_bestLook_30 (by decide) ?_
          refine g_iand C dX0_bestLook_31 ?_
          refine g_if_eq (tgt := 38) C dX0_bestLook_32 (by decide) (fun c32 => ?_) (fun c32 => ?_)
          · have h := ifp h c32
            refine g_aload_n C dX0_bestLook_38 rfl 0 rfl ?_
            refine g_iload C dX0_bestLook_39 5 rfl ?_
            obtain ⟨r41, h41, h⟩ := obd h
            refine g_callVi (st := []) (ws2 := wFits cI cN o a S) C yv_X0_blackIn ml_X0_39 dX0_bestLook_41 (kX0_blackIn l D cC cI cJ cZ o a cN S x5_L20 r41 h41) gCut_all ⟨by decide, by decide⟩ ⟨rfl, rfl⟩ ⟨Nat.zero_le _, Nat.zero_le _⟩ rfl rfl (Nat.le_of_ble_eq_true rfl) 0 0 rfl rfl rfl ?_
            refine g_aload_n C dX0_bestLook_44 rfl 0 rfl ?_
            refine g_get (v := .int (S.1 2)) C fl_X0_24 dX0_bestLook_45 0 rfl rfl ?_
            refine g_aload_n C dX0_bestLook_48 rfl 0 rfl ?_
            refine g_iload C dX0_bestLook_49 5 rfl ?_
            obtain ⟨r51, h51, h⟩ := obd h
            refine g_callVi (st := [.int (S.1 2), .int r41]) (ws2 := wFits cI cN o a S) C yv_X0_blackIn ml_X0_39 dX0_bestLook_51 (kX0_blackIn l D cC cI cJ cZ o a cN S x5_L20 r51 h51) gCut_all ⟨by decide, by decide⟩ ⟨rfl, rfl⟩ ⟨Nat.zero_le _, Nat.zero_le _⟩ rfl rfl (Nat.le_of_ble_eq_true rfl) 0 0 rfl rfl rfl ?_
            refine g_isub C dX0_bestLook_54 ?_
            refine g_mmax C dX0_bestLook_55 ml_X0_15 mm_st mm_in mm_co (Nat.le_of_ble_eq_true rfl) (Nat.le_of_ble_eq_true rfl) (Nat.zero_le _) (Nat.zero_le _) ?_
            refine g_istore (lv' := [(6, .int (if r41 < ((S.1 2) - r51) then ((S.1 2) - r51) else r41)), (0, .ref o), (1, .int x1), (2, .int x2), (3, .int x3_L20), (4, .int x4_L20), (5, .int x5_L20)]) C dX0_bestLook_58 (by decide) rfl ?_
            refine g_iload_n C dX0_bestLook_60 rfl 4 rfl ?_
            refine g_iconst (v := (-1 : Int32)) C dX0_bestLook_61 (by decide) ?_
            refine g_icmp_eq (tgt := 72) C dX0_bestLook_62 (by decide) (fun c62 => ?_) (fun c62 => ?_)
            · have h := ifp h c62
              refine g_iload C dX0_bestLook_72 6 rfl ?_
              refine g_istore_n (lv' := [(3, .int x5_L20), (6, .int (if r41 < ((S.1 2) - r51) then ((S.1 2) - r51) else r41)), (0, .ref o), (1, .int x1), (2, .int x2), (4, .int x4_L20), (5, .int x5_L20)]) C dX0_bestLook_74 rfl (by decide) rfl ?_
              refine g_iload C dX0_bestLook_75 1 rfl ?_
              refine g_istore (lv' := [(4, .int (if r41 < ((S.1 2) - r51) then ((S.1 2) - r51) else r41)), (3, .int x5_L20), (6, .int (if r41 < ((S.1 2) - r51) then ((S.1 2) - r51) else r41)), (0, .ref o), (1, .int x1), (2, .int x2), (5, .int x5_L20)]) C dX0_bestLook_77 (by decide) rfl ?_
              refine g_iinc (j := 6) (v := (x5_L20 + (1 : Int32))) (lv' := [(5, .int (x5_L20 + (1 : Int32))), (4, .int (if r41 < ((S.1 2) - r51) then ((S.1 2) - r51) else r41)), (3, .int x5_L20), (6, .int (if r41 < ((S.1 2) - r51) then ((S.1 2) - r51) else r41)), (0, .ref o), (1, .int x1), (2, .int x2)]) C dX0_bestLook_79 rfl rfl (by decide) rfl ?_
              refine g_goto (tgt := 20) C dX0_bestLook_82 (by decide) ?_
              obtain rfl := sinj h
              refine g_lv [4, 5, 6, 2, 1, 0] rfl ?_
              exact ih20 x5_L20 (if r41 < ((S.1 2) - r51) then ((S.1 2) - r51) else r41) (x5_L20 + (1 : Int32)) hw20
            · have h := ifn h c62
              refine g_iload C dX0_bestLook_65 0 rfl ?_
              refine g_iload C dX0_bestLook_67 5 rfl ?_
              refine g_icmp_ge (tgt := 79) C dX0_bestLook_69 (by decide) (fun c69 => ?_) (fun c69 => ?_)
              · have h := ifp h c69
                refine g_iinc (j := 6) (v := (x5_L20 + (1 : Int32))) (lv' := [(5, .int (x5_L20 + (1 : Int32))), (6, .int (if r41 < ((S.1 2) - r51) then ((S.1 2) - r51) else r41)), (0, .ref o), (1, .int x1), (2, .int x2), (3, .int x3_L20), (4, .int x4_L20)]) C dX0_bestLook_79 rfl rfl (by decide) rfl ?_
                refine g_goto (tgt := 20) C dX0_bestLook_82 (by decide) ?_
                obtain rfl := sinj h
                refine g_lv [2, 3, 4, 5, 6, 0] rfl ?_
                exact ih20 x3_L20 x4_L20 (x5_L20 + (1 : Int32)) hw20
              · have h := ifn h c69
                refine g_iload C dX0_bestLook_72 6 rfl ?_
                refine g_istore_n (lv' := [(3, .int x5_L20), (6, .int (if r41 < ((S.1 2) - r51) then ((S.1 2) - r51) else r41)), (0, .ref o), (1, .int x1), (2, .int x2), (4, .int x4_L20), (5, .int x5_L20)]) C dX0_bestLook_74 rfl (by decide) rfl ?_
                refine g_iload C dX0_bestLook_75 1 rfl ?_
                refine g_istore (lv' := [(4, .int (if r41 < ((S.1 2) - r51) then ((S.1 2) - r51) else r41)), (3, .int x5_L20), (6, .int (if r41 < ((S.1 2) - r51) then ((S.1 2) - r51) else r41)), (0, .ref o), (1, .int x1), (2, .int x2), (5, .int x5_L20)]) C dX0_bestLook_77 (by decide) rfl ?_
                refine g_iinc (j := 6) (v := (x5_L20 + (1 : Int32))) (lv' := [(5, .int (x5_L20 + (1 : Int32))), (4, .int (if r41 < ((S.1 2) - r51) then ((S.1 2) - r51) else r41)), (3, .int x5_L20), (6, .int (if r41 < ((S.1 2) - r51) then ((S.1 2) - r51) else r41)), (0, .ref o), (1, .int x1), (2, .int x2)]) C dX0_bestLook_79 rfl rfl (by decide) rfl ?_
                refine g_goto (tgt := 20) C dX0_bestLook_82 (by decide) ?_
                obtain rfl := sinj h
                refine g_lv [4, 5, 6, 2, 1, 0] rfl ?_
                exact ih20 x5_L20 (if r41 < ((S.1 2) - r51) then ((S.1 2) - r51) else r41) (x5_L20 + (1 : Int32)) hw20
          · have h := ifn h c32
            refine g_goto (tgt := 79) C dX0_bestLook_35 (by decide) ?_
            refine g_iinc (j := 5) (v := (x5_L20 + (1 : Int32))) (lv' := [(5, .int (x5_L20 + (1 : Int32))), (0, .ref o), (1, .int x1), (2, .int x2), (3, .int x3_L20), (4, .int x4_L20)]) C dX0_bestLook_79 rfl rfl (by decide) rfl ?_
            refine g_goto (tgt := 20) C dX0_bestLook_82 (by decide) ?_
            obtain rfl := sinj h
            refine g_lv [1, 2, 3, 4, 5, 0] rfl ?_
            exact ih20 x3_L20 x4_L20 (x5_L20 + (1 : Int32)) hw20
    refine g_lv [3, 4, 5, 2, 1, 0] rfl ?_
    exact l20 100000 (-1 : Int32) (S.1 2) (0 : Int32) hW20
  · have h := ifp h c12
    refine g_iconst (v := (-1 : Int32)) C dX0_bestLook_15 (by decide) ?_
    cases sinj h
    exact g_iret C dX0_bestLook_16 rfl rfl hQ
def fX0_keepLike_L12 (cN : Nat) (x1_L12 : Int32) (x2_L12 : Int32) (x3_L12 : Int32) (x4_L12 : Int32) (S_L12 : Ob) : Option ((Int32 × Ob) ⊕ (Ob)) :=
  (if x3_L12 ≤ x4_L12 then some (.inr S_L12)
 else (if (Int32.ofNat cN) ≤ x4_L12 then some (.inr S_L12)
 else (if okI x4_L12 cN = true then (if (((((S_L12.2 0) x4_L12.toNatClampNeg) ^^^ x1_L12) >>> (x2_L12 &&& 31)) &&& (1 : Int32)) = 0 then ((fX0_add cN S_L12 ((S_L12.2 0) x4_L12.toNatClampNeg)).bind (fun T51 => some (.inl ((x4_L12 + (1 : Int32)), T51))))
 else some (.inl ((x4_L12 + (1 : Int32)), S_L12))) else none)))
def fX0_keepLike_J60 (cN : Nat) (S_J60 : Ob) : Option (Ob) :=
  some S_J60
def fX0_keepLike (cN : Nat) (S : Ob) (x1 : Int32) (x2 : Int32) : Option (Ob) :=
  ((fX0_empty cN S).bind (fun T6 => ((wh (σ := Int32 × Ob) (ρ := Ob) (fun t => fX0_keepLike_L12 cN x1 x2 (S.1 2) t.1 t.2) 100000 ((0 : Int32), T6)).bind (fun S_E12 => fX0_keepLike_J60 cN S_E12))))
set_option maxHeartbeats 4000000 in
set_option maxRecDepth 100000 in
theorem kX0_keepLike (l : Launch) (D : va_G) (cC cI cJ cZ : ClassId) (o : Nat) (a : Nat → Nat) (cN : Nat) (S : Ob) (x1 : Int32) (x2 : Int32) (S' : Ob) (h : fX0_keepLike cN S x1 x2 = some S') : gMv l yX0_keepLike cX0_keepLike 6 none (gR 2) D (tysG cC cI cJ cZ) [.ref o, .int x1, .int x2] (wFits cI cN o a S) (wFits cI cN o a S') := by
  refine gMv_of (by decide) (Nat.le_of_ble_eq_true rfl) rfl ?_
  intro p e s m args below meth c A Q C hQ
  have j60 : ∀ (S_J60 : Ob), fX0_keepLike_J60 cN S_J60 = some S' → gG p l e (gR 2) s m args below meth c 6 D A 0 0 Q 60 [] [] (wFits cI cN o a S_J60) := by
    intro S_J60 h
    unfold fX0_keepLike_J60 at h
    cases sinj h
    exact g_vret C dX0_keepLike_60 rfl hQ
  unfold fX0_keepLike at h
  refine g_aload_n C dX0_keepLike_0 rfl 0 rfl ?_
  refine g_get (v := .int (S.1 2)) C fl_X0_24 dX0_keepLike_1 0 rfl rfl ?_
  refine g_istore_n (lv' := [(3, .int (S.1 2)), (0, .ref o), (1, .int x1), (2, .int x2)]) C dX0_keepLike_4 rfl (by decide) rfl ?_
  refine g_aload_n C dX0_keepLike_5 rfl 1 rfl ?_
  obtain ⟨T6, h6, h⟩ := obd h
  refine g_callVv (st := []) (ws2 := wFits cI cN o a T6) C yv_X0_empty ml_X0_28 dX0_keepLike_6 (kX0_empty l D cC cI cJ cZ o a cN S T6 h6) gCut_all ⟨by decide, by decide⟩ ⟨rfl, rfl⟩ ⟨Nat.zero_le _, Nat.zero_le _⟩ rfl rfl (Nat.le_of_ble_eq_true rfl) 0 0 rfl rfl rfl ?_
  refine g_iconst (v := (0 : Int32)) C dX0_keepLike_9 (by decide) ?_
  refine g_istore (lv' := [(4, .int (0 : Int32)), (3, .int (S.1 2)), (0, .ref o), (1, .int x1), (2, .int x2)]) C dX0_keepLike_10 (by decide) rfl ?_
  obtain ⟨X12, hW12, hK12⟩ := obd h
  have l12 : ∀ (fu12 : Nat) (x4_L12 : Int32) (S_L12 : Ob), wh (σ := Int32 × Ob) (ρ := Ob) (fun t => fX0_keepLike_L12 cN x1 x2 (S.1 2) t.1 t.2) fu12 (x4_L12, S_L12) = some X12 → gG p l e (gR 2) s m args below meth c 6 D A 0 0 Q 12 [(0, .ref o), (1, .int x1), (2, .int x2), (3, .int (S.1 2)), (4, .int x4_L12)] [] (wFits cI cN o a S_L12) := by
    intro fu12
    induction fu12 with
    | zero => intro x4_L12 S_L12 hW; exact (wh_0 hW).elim
    | succ fu12 ih12 =>
      intro x4_L12 S_L12 hW
      obtain ⟨z12, h, hw12⟩ := wh_s hW
      replace h : fX0_keepLike_L12 cN x1 x2 (S.1 2) x4_L12 S_L12 = some z12 := h
      unfold fX0_keepLike_L12 at h
      refine g_iload C dX0_keepLike_12 4 rfl ?_
      refine g_iload_n C dX0_keepLike_14 rfl 3 rfl ?_
      refine g_icmp_ge (tgt := 60) C dX0_keepLike_15 (by decide) (fun c15 => ?_) (fun c15 => ?_)
      · have h := ifp h c15
        obtain rfl := sinj h
        obtain rfl := wk_r hw12
        have h := hK12
        refine g_lv [] rfl ?_
        exact j60 S_L12 h
      · have h := ifn h c15
        refine g_iload C dX0_keepLike_18 4 rfl ?_
        refine g_aload_n C dX0_keepLike_20 rfl 0 rfl ?_
        refine g_get (v := .ref (a 0)) C fl_X0_21 dX0_keepLike_21 0 rfl rfl ?_
        refine g_alen (v := (Int32.ofNat cN)) C dX0_keepLike_24 1 0 rfl rfl rfl ?_
        refine g_icmp_ge (tgt := 60) C dX0_keepLike_25 (by decide) (fun c25 => ?_) (fun c25 => ?_)
        · have h := ifp h c25
          obtain rfl := sinj h
          obtain rfl := wk_r hw12
          have h := hK12
          refine g_lv [] rfl ?_
          exact j60 S_L12 h
        · have h := ifn h c25
          refine g_aload_n C dX0_keepLike_28 rfl 0 rfl ?_
          refine g_get (v := .ref (a 0)) C fl_X0_21 dX0_keepLike_29 0 rfl rfl ?_
          refine g_iload C dX0_keepLike_32 4 rfl ?_
          obtain ⟨hg34, h⟩ := ifg h
          refine g_iald (f := (S_L12.2 0)) C dX0_keepLike_34 1 0 rfl rfl hg34 ?_
          refine g_istore (lv' := [(5, .int ((S_L12.2 0) x4_L12.toNatClampNeg)), (0, .ref o), (1, .int x1), (2, .int x2), (3, .int (S.1 2)), (4, .int x4_L12)]) C dX0_keepLike_35 (by decide) rfl ?_
          refine g_iload C dX0_keepLike_37 0 rfl ?_
          refine g_iload_n C dX0_keepLike_39 rfl 2 rfl ?_
          refine g_ixor C dX0_keepLike_40 ?_
          refine g_iload_n C dX0_keepLike_41 rfl 3 rfl ?_
          refine g_ishr C dX0_keepLike_42 ?_
          refine g_iconst (v := (1 : Int32)) C dX0_keepLike_43 (by decide) ?_
          refine g_iand C dX0_keepLike_44 ?_
          refine g_if_ne (tgt := 54) C dX0_keepLike_45 (by decide) (fun c45 => ?_) (fun c45 => ?_)
          · have h := ifn h c45
            refine g_iinc (j := 5) (v := (x4_L12 + (1 : Int32))) (lv' := [(4, .int (x4_L12 + (1 : Int32))), (5, .int ((S_L12.2 0) x4_L12.toNatClampNeg)), (0, .ref o), (1, .int x1), (2, .int x2), (3, .int (S.1 2))]) C dX0_keepLike_54 rfl rfl (by decide) rfl ?_
            refine g_goto (tgt := 12) C dX0_keepLike_57 (by decide) ?_
            obtain rfl := sinj h
            refine g_lv [2, 3, 4, 5, 0] rfl ?_
            exact ih12 (x4_L12 + (1 : Int32)) S_L12 hw12
          · have h := ifp h c45
            refine g_aload_n C dX0_keepLike_48 rfl 1 rfl ?_
            refine g_iload C dX0_keepLike_49 0 rfl ?_
            obtain ⟨T51, h51, h⟩ := obd h
            refine g_callVv (st := []) (ws2 := wFits cI cN o a T51) C yv_X0_add ml_X0_35 dX0_keepLike_51 (kX0_add l D cC cI cJ cZ o a cN S_L12 ((S_L12.2 0) x4_L12.toNatClampNeg) T51 h51) gCut_all ⟨by decide, by decide⟩ ⟨rfl, rfl⟩ ⟨Nat.zero_le _, Nat.zero_le _⟩ rfl rfl (Nat.le_of_ble_eq_true rfl) 0 0 rfl rfl rfl ?_
            refine g_iinc (j := 5) (v := (x4_L12 + (1 : Int32))) (lv' := [(4, .int (x4_L12 + (1 : Int32))), (5, .int ((S_L12.2 0) x4_L12.toNatClampNeg)), (0, .ref o), (1, .int x1), (2, .int x2), (3, .int (S.1 2))]) C dX0_keepLike_54 rfl rfl (by decide) rfl ?_
            refine g_goto (tgt := 12) C dX0_keepLike_57 (by decide) ?_
            obtain rfl := sinj h
            refine g_lv [2, 3, 4, 5, 0] rfl ?_
            exact ih12 (x4_L12 + (1 : Int32)) T51 hw12
  refine g_lv [2, 3, 4, 1, 0] rfl ?_
  exact l12 100000 (0 : Int32) T6 hW12
def fX0_tells_L2 (cN : Nat) (S : Ob) (x1_L2 : Int32) (x2_L2 : Int32) (x3_L2 : Int32) : Option ((Int32) ⊕ ((Int32) ⊕ (Unit))) :=
  (if (S.1 2) ≤ x3_L2 then some (.inr (.inr ()))
 else ((fX0_at cN S x3_L2).bind (fun r12 => (if r12 = x1_L2 then some (.inl (x3_L2 + (1 : Int32)))
 else (if ((r12 ^^^ x1_L2) &&& x2_L2) = 0 then some (.inr (.inl (0 : Int32)))
 else some (.inl (x3_L2 + (1 : Int32))))))))
def fX0_tells_J40 (cN : Nat) (S : Ob) : Option (Int32) :=
  some (1 : Int32)
def fX0_tells (cN : Nat) (S : Ob) (x1 : Int32) (x2 : Int32) : Option (Int32) :=
  ((wh (σ := Int32) (ρ := (Int32) ⊕ (Unit)) (fun t => fX0_tells_L2 cN S x1 x2 t) 100000 (0 : Int32)).bind (fun X => Sum.elim (fun r => some r) (fun _ => fX0_tells_J40 cN S) X))
set_option maxHeartbeats 4000000 in
set_option maxRecDepth 100000 in
theorem kX0_tells (l : Launch) (D : va_G) (cC cI cJ cZ : ClassId) (o : Nat) (a : Nat → Nat) (cN : Nat) (S : Ob) (x1 : Int32) (x2 : Int32) (r : Int32) (h : fX0_tells cN S x1 x2 = some r) : gMi l yX0_tells cX0_tells 5 (some .boolean) (gR 2) D (tysG cC cI cJ cZ) [.ref o, .int x1, .int x2] (wFits cI cN o a S) r (wFits cI cN o a S) := by
  refine gMi_of (by decide) (Nat.le_of_ble_eq_true rfl) rfl ?_
  intro p e s m args below meth c A Q C hQ
  have j40 : fX0_tells_J40 cN S = some r → gG p l e (gR 2) s m args below meth c 5 D A 0 0 Q 40 [] [] (wFits cI cN o a S) := by
    intro h
    unfold fX0_tells_J40 at h
    refine g_iconst (v := (1 : Int32)) C dX0_tells_40 (by decide) ?_
    cases sinj h
    exact g_zret C dX0_tells_41 rfl rfl rfl hQ
  unfold fX0_tells at h
  refine g_iconst (v := (0 : Int32)) C dX0_tells_0 (by decide) ?_
  refine g_istore_n (lv' := [(3, .int (0 : Int32)), (0, .ref o), (1, .int x1), (2, .int x2)]) C dX0_tells_1 rfl (by decide) rfl ?_
  obtain ⟨X2, hW2, hK2⟩ := obd h
  have l2 : ∀ (fu2 : Nat) (x3_L2 : Int32), wh (σ := Int32) (ρ := (Int32) ⊕ (Unit)) (fun t => fX0_tells_L2 cN S x1 x2 t) fu2 x3_L2 = some X2 → gG p l e (gR 2) s m args below meth c 5 D A 0 0 Q 2 [(0, .ref o), (1, .int x1), (2, .int x2), (3, .int x3_L2)] [] (wFits cI cN o a S) := by
    intro fu2
    induction fu2 with
    | zero => intro x3_L2 hW; exact (wh_0 hW).elim
    | succ fu2 ih2 =>
      intro x3_L2 hW
      obtain ⟨z2, h, hw2⟩ := wh_s hW
      replace h : fX0_tells_L2 cN S x1 x2 x3_L2 = some z2 := h
      unfold fX0_tells_L2 at h
      refine g_iload_n C dX0_tells_2 rfl 3 rfl ?_
      refine g_aload_n C dX0_tells_3 rfl 0 rfl ?_
      refine g_get (v := .int (S.1 2)) C fl_X0_24 dX0_tells_4 0 rfl rfl ?_
      refine g_icmp_ge (tgt := 40) C dX0_tells_7 (by decide) (fun c7 => ?_) (fun c7 => ?_)
      · have h := ifp h c7
        obtain rfl := sinj h
        obtain rfl := wk_r hw2
        have h := ser hK2
        refine g_lv [] rfl ?_
        exact j40  h
      · have h := ifn h c7
        refine g_aload_n C dX0_tells_10 rfl 0 rfl ?_
        refine g_iload_n C dX0_tells_11 rfl 3 rfl ?_
        obtain ⟨r12, h12, h⟩ := obd h
        refine g_callVi (st := []) (ws2 := wFits cI cN o a S) C yv_X0_at ml_X0_31 dX0_tells_12 (kX0_at l D cC cI cJ cZ o a cN S x3_L2 r12 h12) gCut_all ⟨by decide, by decide⟩ ⟨rfl, rfl⟩ ⟨Nat.zero_le _, Nat.zero_le _⟩ rfl rfl (Nat.le_of_ble_eq_true rfl) 0 0 rfl rfl rfl ?_
        refine g_istore (lv' := [(4, .int r12), (0, .ref o), (1, .int x1), (2, .int x2), (3, .int x3_L2)]) C dX0_tells_15 (by decide) rfl ?_
        refine g_iload C dX0_tells_17 0 rfl ?_
        refine g_iload_n C dX0_tells_19 rfl 2 rfl ?_
        refine g_icmp_eq (tgt := 34) C dX0_tells_20 (by decide) (fun c20 => ?_) (fun c20 => ?_)
        · have h := ifp h c20
          refine g_iinc (j := 4) (v := (x3_L2 + (1 : Int32))) (lv' := [(3, .int (x3_L2 + (1 : Int32))), (4, .int r12), (0, .ref o), (1, .int x1), (2, .int x2)]) C dX0_tells_34 rfl rfl (by decide) rfl ?_
          refine g_goto (tgt := 2) C dX0_tells_37 (by decide) ?_
          obtain rfl := sinj h
          refine g_lv [2, 3, 4, 0] rfl ?_
          exact ih2 (x3_L2 + (1 : Int32)) hw2
        · have h := ifn h c20
          refine g_iload C dX0_tells_23 0 rfl ?_
          refine g_iload_n C dX0_tells_25 rfl 2 rfl ?_
          refine g_ixor C dX0_tells_26 ?_
          refine g_iload_n C dX0_tells_27 rfl 3 rfl ?_
          refine g_iand C dX0_tells_28 ?_
          refine g_if_ne (tgt := 34) C dX0_tells_29 (by decide) (fun c29 => ?_) (fun c29 => ?_)
          · have h := ifn h c29
            refine g_iinc (j := 4) (v := (x3_L2 + (1 : Int32))) (lv' := [(3, .int (x3_L2 + (1 : Int32))), (4, .int r12), (0, .ref o), (1, .int x1), (2, .int x2)]) C dX0_tells_34 rfl rfl (by decide) rfl ?_
            refine g_goto (tgt := 2) C dX0_tells_37 (by decide) ?_
            obtain rfl := sinj h
            refine g_lv [2, 3, 4, 0] rfl ?_
            exact ih2 (x3_L2 + (1 : Int32)) hw2
          · have h := ifp h c29
            refine g_iconst (v := (0 : Int32)) C dX0_tells_32 (by decide) ?_
            obtain rfl := sinj h
            obtain rfl := wk_r hw2
            have h := sel hK2
            cases sinj h
            exact g_zret C dX0_tells_33 rfl rfl rfl hQ
  refine g_lv [1, 2, 3, 0] rfl ?_
  exact l2 100000 (0 : Int32) hW2
