def fX4_unmarkAll (S : Ob)  : Option (Ob) :=
  some ((va_up (va_up S.1 5 (0 : Int32)) 6 (0 : Int32)), S.2)
set_option maxHeartbeats 4000000 in
set_option maxRecDepth 100000 in
theorem kX4_unmarkAll (l : Launch) (D : va_G) (cC cI cJ cZ : ClassId) (o : Nat) (a : Nat → Nat) (S : Ob)  (S' : Ob) (h : fX4_unmarkAll S = some S') : gMv l yX4_unmarkAll cX4_unmarkAll 1 none (gR 1) D (tysG cC cI cJ cZ) [.ref o] (wTab cI cZ o a S) (wTab cI cZ o a S') := by
  refine gMv_of (by decide) (Nat.le_of_ble_eq_true rfl) rfl ?_
  intro p e s m args below meth c A Q C hQ
  unfold fX4_unmarkAll at h
  refine g_aload_n C dX4_unmarkAll_0 rfl 0 rfl ?_
  refine g_iconst (v := (0 : Int32)) C dX4_unmarkAll_1 (by decide) ?_
  refine g_put (ws2 := wTab cI cZ o a ((va_up S.1 5 (0 : Int32)), S.2)) C fp_X4_44 dX4_unmarkAll_2 0 rfl rfl rfl (Nat.le_of_ble_eq_true rfl) rfl ?_
  refine g_aload_n C dX4_unmarkAll_5 rfl 0 rfl ?_
  refine g_iconst (v := (0 : Int32)) C dX4_unmarkAll_6 (by decide) ?_
  refine g_put (ws2 := wTab cI cZ o a ((va_up (va_up S.1 5 (0 : Int32)) 6 (0 : Int32)), S.2)) C fp_X4_47 dX4_unmarkAll_7 0 rfl rfl rfl (Nat.le_of_ble_eq_true rfl) rfl ?_
  cases sinj h
  exact g_vret C dX4_unmarkAll_10 rfl hQ
def fX4_forgetAll (S : Ob)  : Option (Ob) :=
  ((fX4_unmarkAll ((va_up (va_up (va_up S.1 0 (0 : Int32)) 1 (0 : Int32)) 10 (0 : Int32)), S.2)).bind (fun T16 => some T16))
set_option maxHeartbeats 4000000 in
set_option maxRecDepth 100000 in
theorem kX4_forgetAll (l : Launch) (D : va_G) (cC cI cJ cZ : ClassId) (o : Nat) (a : Nat → Nat) (S : Ob)  (S' : Ob) (h : fX4_forgetAll S = some S') : gMv l yX4_forgetAll cX4_forgetAll 1 none (gR 2) D (tysG cC cI cJ cZ) [.ref o] (wTab cI cZ o a S) (wTab cI cZ o a S') := by
  refine gMv_of (by decide) (Nat.le_of_ble_eq_true rfl) rfl ?_
  intro p e s m args below meth c A Q C hQ
  unfold fX4_forgetAll at h
  refine g_aload_n C dX4_forgetAll_0 rfl 0 rfl ?_
  refine g_iconst (v := (0 : Int32)) C dX4_forgetAll_1 (by decide) ?_
  refine g_put (ws2 := wTab cI cZ o a ((va_up S.1 0 (0 : Int32)), S.2)) C fp_X4_31 dX4_forgetAll_2 0 rfl rfl rfl (Nat.le_of_ble_eq_true rfl) rfl ?_
  refine g_aload_n C dX4_forgetAll_5 rfl 0 rfl ?_
  refine g_iconst (v := (0 : Int32)) C dX4_forgetAll_6 (by decide) ?_
  refine g_put (ws2 := wTab cI cZ o a ((va_up (va_up S.1 0 (0 : Int32)) 1 (0 : Int32)), S.2)) C fp_X4_35 dX4_forgetAll_7 0 rfl rfl rfl (Nat.le_of_ble_eq_true rfl) rfl ?_
  refine g_aload_n C dX4_forgetAll_10 rfl 0 rfl ?_
  refine g_iconst (v := (0 : Int32)) C dX4_forgetAll_11 (by decide) ?_
  refine g_put (ws2 := wTab cI cZ o a ((va_up (va_up (va_up S.1 0 (0 : Int32)) 1 (0 : Int32)) 10 (0 : Int32)), S.2)) C fp_X4_38 dX4_forgetAll_12 0 rfl rfl rfl (Nat.le_of_ble_eq_true rfl) rfl ?_
  refine g_aload_n C dX4_forgetAll_15 rfl 0 rfl ?_
  obtain ⟨T16, h16, h⟩ := obd h
  refine g_callVv (st := []) (ws2 := wTab cI cZ o a T16) C yv_X4_unmarkAll ml_X4_41 dX4_forgetAll_16 (kX4_unmarkAll l D cC cI cJ cZ o a ((va_up (va_up (va_up S.1 0 (0 : Int32)) 1 (0 : Int32)) 10 (0 : Int32)), S.2) T16 h16) gCut_all ⟨by decide, by decide⟩ ⟨rfl, rfl⟩ ⟨Nat.zero_le _, Nat.zero_le _⟩ rfl rfl (Nat.le_of_ble_eq_true rfl) 3 0 rfl rfl rfl ?_
  cases sinj h
  exact g_vret C dX4_forgetAll_19 rfl hQ
def fX4_length (S : Ob) (x1 : Int32) : Option (Int32) :=
  (if (S.1 0) ≤ x1 then some (S.1 0)
 else some (S.1 1))
set_option maxHeartbeats 4000000 in
set_option maxRecDepth 100000 in
theorem kX4_length (l : Launch) (D : va_G) (cC cI cJ cZ : ClassId) (o : Nat) (a : Nat → Nat) (S : Ob) (x1 : Int32) (r : Int32) (h : fX4_length S x1 = some r) : gMi l yX4_length cX4_length 2 (some .int) (gR 1) D (tysG cC cI cJ cZ) [.ref o, .int x1] (wTab cI cZ o a S) r (wTab cI cZ o a S) := by
  refine gMi_of (by decide) (Nat.le_of_ble_eq_true rfl) rfl ?_
  intro p e s m args below meth c A Q C hQ
  unfold fX4_length at h
  refine g_iload_n C dX4_length_0 rfl 1 rfl ?_
  refine g_aload_n C dX4_length_1 rfl 0 rfl ?_
  refine g_get (v := .int (S.1 0)) C fl_X4_31 dX4_length_2 0 rfl rfl ?_
  refine g_icmp_ge (tgt := 15) C dX4_length_5 (by decide) (fun c5 => ?_) (fun c5 => ?_)
  · have h := ifp h c5
    refine g_aload_n C dX4_length_15 rfl 0 rfl ?_
    refine g_get (v := .int (S.1 0)) C fl_X4_31 dX4_length_16 0 rfl rfl ?_
    cases sinj h
    exact g_iret C dX4_length_19 rfl rfl hQ
  · have h := ifn h c5
    refine g_aload_n C dX4_length_8 rfl 0 rfl ?_
    refine g_get (v := .int (S.1 1)) C fl_X4_35 dX4_length_9 0 rfl rfl ?_
    refine g_goto (tgt := 19) C dX4_length_12 (by decide) ?_
    cases sinj h
    exact g_iret C dX4_length_19 rfl rfl hQ
def fX4_lines (S : Ob)  : Option (Int32) :=
  some ((S.1 0) + (S.1 1))
set_option maxHeartbeats 4000000 in
set_option maxRecDepth 100000 in
theorem kX4_lines (l : Launch) (D : va_G) (cC cI cJ cZ : ClassId) (o : Nat) (a : Nat → Nat) (S : Ob)  (r : Int32) (h : fX4_lines S = some r) : gMi l yX4_lines cX4_lines 1 (some .int) (gR 1) D (tysG cC cI cJ cZ) [.ref o] (wTab cI cZ o a S) r (wTab cI cZ o a S) := by
  refine gMi_of (by decide) (Nat.le_of_ble_eq_true rfl) rfl ?_
  intro p e s m args below meth c A Q C hQ
  unfold fX4_lines at h
  refine g_aload_n C dX4_lines_0 rfl 0 rfl ?_
  refine g_get (v := .int (S.1 0)) C fl_X4_31 dX4_lines_1 0 rfl rfl ?_
  refine g_aload_n C dX4_lines_4 rfl 0 rfl ?_
  refine g_get (v := .int (S.1 1)) C fl_X4_35 dX4_lines_5 0 rfl rfl ?_
  refine g_iadd C dX4_lines_8 ?_
  cases sinj h
  exact g_iret C dX4_lines_9 rfl rfl hQ
def fX4_hasLine (S : Ob) (x1 : Int32) : Option (Int32) :=
  (if x1 < 0 then some (0 : Int32)
 else ((fX4_lines S).bind (fun r6 => (if r6 ≤ x1 then some (0 : Int32)
 else (if (8 : Int32) ≤ x1 then some (0 : Int32)
 else some (1 : Int32))))))
set_option maxHeartbeats 4000000 in
set_option maxRecDepth 100000 in
theorem kX4_hasLine (l : Launch) (D : va_G) (cC cI cJ cZ : ClassId) (o : Nat) (a : Nat → Nat) (S : Ob) (x1 : Int32) (r : Int32) (h : fX4_hasLine S x1 = some r) : gMi l yX4_hasLine cX4_hasLine 2 (some .boolean) (gR 2) D (tysG cC cI cJ cZ) [.ref o, .int x1] (wTab cI cZ o a S) r (wTab cI cZ o a S) := by
  refine gMi_of (by decide) (Nat.le_of_ble_eq_true rfl) rfl ?_
  intro p e s m args below meth c A Q C hQ
  unfold fX4_hasLine at h
  refine g_iload_n C dX4_hasLine_0 rfl 1 rfl ?_
  refine g_if_lt (tgt := 22) C dX4_hasLine_1 (by decide) (fun c1 => ?_) (fun c1 => ?_)
  · have h := ifp h c1
    refine g_iconst (v := (0 : Int32)) C dX4_hasLine_22 (by decide) ?_
    cases sinj h
    exact g_zret C dX4_hasLine_23 rfl rfl rfl hQ
  · have h := ifn h c1
    refine g_iload_n C dX4_hasLine_4 rfl 1 rfl ?_
    refine g_aload_n C dX4_hasLine_5 rfl 0 rfl ?_
    obtain ⟨r6, h6, h⟩ := obd h
    refine g_callVi (st := [.int x1]) (ws2 := wTab cI cZ o a S) C yv_X4_lines ml_X4_50 dX4_hasLine_6 (kX4_lines l D cC cI cJ cZ o a S r6 h6) gCut_all ⟨by decide, by decide⟩ ⟨rfl, rfl⟩ ⟨Nat.zero_le _, Nat.zero_le _⟩ rfl rfl (Nat.le_of_ble_eq_true rfl) 3 0 rfl rfl rfl ?_
    refine g_icmp_ge (tgt := 22) C dX4_hasLine_9 (by decide) (fun c9 => ?_) (fun c9 => ?_)
    · have h := ifp h c9
      refine g_iconst (v := (0 : Int32)) C dX4_hasLine_22 (by decide) ?_
      cases sinj h
      exact g_zret C dX4_hasLine_23 rfl rfl rfl hQ
    · have h := ifn h c9
      refine g_iload_n C dX4_hasLine_12 rfl 1 rfl ?_
      refine g_bipush (v := (8 : Int32)) C dX4_hasLine_13 (by decide) ?_
      refine g_icmp_ge (tgt := 22) C dX4_hasLine_15 (by decide) (fun c15 => ?_) (fun c15 => ?_)
      · have h := ifp h c15
        refine g_iconst (v := (0 : Int32)) C dX4_hasLine_22 (by decide) ?_
        cases sinj h
        exact g_zret C dX4_hasLine_23 rfl rfl rfl hQ
      · have h := ifn h c15
        refine g_iconst (v := (1 : Int32)) C dX4_hasLine_18 (by decide) ?_
        refine g_goto (tgt := 23) C dX4_hasLine_19 (by decide) ?_
        cases sinj h
        exact g_zret C dX4_hasLine_23 rfl rfl rfl hQ
def fX4_setClue (S : Ob) (x1 : Int32) (x2 : Int32) (x3 : Int32) (x4 : Int32) : Option (Ob) :=
  ((fX4_hasLine S x1).bind (fun r2 => (if r2 = 0 then some S
 else (if okI x1 8 = true then (if okI x1 8 = true then (if okI x1 8 = true then some (S.1, (va_up (va_up (va_up S.2 2 (upd (S.2 2) x1.toNatClampNeg x2)) 3 (upd (S.2 3) x1.toNatClampNeg x3)) 4 (upd (S.2 4) x1.toNatClampNeg x4))) else none) else none) else none))))
set_option maxHeartbeats 4000000 in
set_option maxRecDepth 100000 in
theorem kX4_setClue (l : Launch) (D : va_G) (cC cI cJ cZ : ClassId) (o : Nat) (a : Nat → Nat) (S : Ob) (x1 : Int32) (x2 : Int32) (x3 : Int32) (x4 : Int32) (S' : Ob) (h : fX4_setClue S x1 x2 x3 x4 = some S') : gMv l yX4_setClue cX4_setClue 5 none (gR 3) D (tysG cC cI cJ cZ) [.ref o, .int x1, .int x2, .int x3, .int x4] (wTab cI cZ o a S) (wTab cI cZ o a S') := by
  refine gMv_of (by decide) (Nat.le_of_ble_eq_true rfl) rfl ?_
  intro p e s m args below meth c A Q C hQ
  unfold fX4_setClue at h
  refine g_aload_n C dX4_setClue_0 rfl 0 rfl ?_
  refine g_iload_n C dX4_setClue_1 rfl 1 rfl ?_
  obtain ⟨r2, h2, h⟩ := obd h
  refine g_callVi (st := []) (ws2 := wTab cI cZ o a S) C yv_X4_hasLine ml_X4_61 dX4_setClue_2 (kX4_hasLine l D cC cI cJ cZ o a S x1 r2 h2) gCut_all ⟨by decide, by decide⟩ ⟨rfl, rfl⟩ ⟨Nat.zero_le _, Nat.zero_le _⟩ rfl rfl (Nat.le_of_ble_eq_true rfl) 3 0 rfl rfl rfl ?_
  refine g_if_ne (tgt := 9) C dX4_setClue_5 (by decide) (fun c5 => ?_) (fun c5 => ?_)
  · have h := ifn h c5
    refine g_aload_n C dX4_setClue_9 rfl 0 rfl ?_
    refine g_get (v := .ref (a 2)) C fl_X4_9 dX4_setClue_10 0 rfl rfl ?_
    refine g_iload_n C dX4_setClue_13 rfl 1 rfl ?_
    refine g_iload_n C dX4_setClue_14 rfl 2 rfl ?_
    obtain ⟨hg15, h⟩ := ifg h
    refine g_iast (f := (S.2 2)) (ws2 := wTab cI cZ o a (S.1, (va_up S.2 2 (upd (S.2 2) x1.toNatClampNeg x2)))) C dX4_setClue_15 1 0 rfl rfl hg15 rfl ?_
    refine g_aload_n C dX4_setClue_16 rfl 0 rfl ?_
    refine g_get (v := .ref (a 3)) C fl_X4_15 dX4_setClue_17 0 rfl rfl ?_
    refine g_iload_n C dX4_setClue_20 rfl 1 rfl ?_
    refine g_iload_n C dX4_setClue_21 rfl 3 rfl ?_
    obtain ⟨hg22, h⟩ := ifg h
    refine g_iast (f := (S.2 3)) (ws2 := wTab cI cZ o a (S.1, (va_up (va_up S.2 2 (upd (S.2 2) x1.toNatClampNeg x2)) 3 (upd (S.2 3) x1.toNatClampNeg x3)))) C dX4_setClue_22 2 0 rfl rfl hg22 rfl ?_
    refine g_aload_n C dX4_setClue_23 rfl 0 rfl ?_
    refine g_get (v := .ref (a 4)) C fl_X4_18 dX4_setClue_24 0 rfl rfl ?_
    refine g_iload_n C dX4_setClue_27 rfl 1 rfl ?_
    refine g_iload C dX4_setClue_28 4 rfl ?_
    obtain ⟨hg30, h⟩ := ifg h
    refine g_iast (f := (S.2 4)) (ws2 := wTab cI cZ o a (S.1, (va_up (va_up (va_up S.2 2 (upd (S.2 2) x1.toNatClampNeg x2)) 3 (upd (S.2 3) x1.toNatClampNeg x3)) 4 (upd (S.2 4) x1.toNatClampNeg x4)))) C dX4_setClue_30 3 0 rfl rfl hg30 rfl ?_
    cases sinj h
    exact g_vret C dX4_setClue_31 rfl hQ
  · have h := ifp h c5
    cases sinj h
    exact g_vret C dX4_setClue_8 rfl hQ
def fX4_copyFrom_L42 (S2 : Ob) (x2_L42 : Int32) (S_L42 : Ob) : Option ((Int32 × Ob) ⊕ (Ob)) :=
  (if (8 : Int32) ≤ x2_L42 then some (.inr S_L42)
 else (if okI x2_L42 8 = true then (if okI x2_L42 8 = true then (if okI x2_L42 8 = true then (if okI x2_L42 8 = true then (if okI x2_L42 8 = true then (if okI x2_L42 8 = true then some (.inl ((x2_L42 + (1 : Int32)), (S_L42.1, (va_up (va_up (va_up S_L42.2 2 (upd (S_L42.2 2) x2_L42.toNatClampNeg ((S2.2 2) x2_L42.toNatClampNeg))) 3 (upd (S_L42.2 3) x2_L42.toNatClampNeg ((S2.2 3) x2_L42.toNatClampNeg))) 4 (upd (S_L42.2 4) x2_L42.toNatClampNeg ((S2.2 4) x2_L42.toNatClampNeg)))))) else none) else none) else none) else none) else none) else none))
def fX4_copyFrom_L92 (S2 : Ob) (x2_L92 : Int32) (S_L92 : Ob) : Option ((Int32 × Ob) ⊕ (Ob)) :=
  (if (6 : Int32) ≤ x2_L92 then some (.inr S_L92)
 else (if okI x2_L92 6 = true then (if okI x2_L92 6 = true then (if okI x2_L92 6 = true then (if okI x2_L92 6 = true then (if okI x2_L92 6 = true then (if okI x2_L92 6 = true then some (.inl ((x2_L92 + (1 : Int32)), (S_L92.1, (va_up (va_up (va_up S_L92.2 7 (upd (S_L92.2 7) x2_L92.toNatClampNeg ((S2.2 7) x2_L92.toNatClampNeg))) 8 (upd (S_L92.2 8) x2_L92.toNatClampNeg ((S2.2 8) x2_L92.toNatClampNeg))) 9 (upd (S_L92.2 9) x2_L92.toNatClampNeg (vp_nar .boolean ((S2.2 9) x2_L92.toNatClampNeg))))))) else none) else none) else none) else none) else none) else none))
def fX4_copyFrom_J140 (S2 : Ob) (S_J140 : Ob) : Option (Ob) :=
  some S_J140
def fX4_copyFrom_J90 (S2 : Ob) (S_J90 : Ob) : Option (Ob) :=
  ((wh (σ := Int32 × Ob) (ρ := Ob) (fun t => fX4_copyFrom_L92 S2 t.1 t.2) 100000 ((0 : Int32), S_J90)).bind (fun S_E92 => fX4_copyFrom_J140 S2 S_E92))
def fX4_copyFrom (S : Ob) (S2 : Ob)  : Option (Ob) :=
  ((wh (σ := Int32 × Ob) (ρ := Ob) (fun t => fX4_copyFrom_L42 S2 t.1 t.2) 100000 ((0 : Int32), ((va_up (va_up (va_up (va_up (va_up S.1 0 (S2.1 0)) 1 (S2.1 1)) 5 (S2.1 5)) 6 (S2.1 6)) 10 (S2.1 10)), S.2))).bind (fun S_E42 => fX4_copyFrom_J90 S2 S_E42))
set_option maxHeartbeats 4000000 in
set_option maxRecDepth 100000 in
theorem kX4_copyFrom (l : Launch) (D : va_G) (cC cI cJ cZ : ClassId) (o : Nat) (a : Nat → Nat) (o2 : Nat) (a2 : Nat → Nat) (S : Ob) (S2 : Ob)  (S' : Ob) (h : fX4_copyFrom S S2 = some S') : gMv l yX4_copyFrom cX4_copyFrom 3 none (gR 1) D (tysG cC cI cJ cZ) [.ref o, .ref o2] (wTab cI cZ o a S ++ wTab cI cZ o2 a2 S2) (wTab cI cZ o a S' ++ wTab cI cZ o2 a2 S2) := by
  refine gMv_of (by decide) (Nat.le_of_ble_eq_true rfl) rfl ?_
  intro p e s m args below meth c A Q C hQ
  have j140 : ∀ (S_J140 : Ob), fX4_copyFrom_J140 S2 S_J140 = some S' → gG p l e (gR 1) s m args below meth c 3 D A 0 0 Q 140 [] [] (wTab cI cZ o a S_J140 ++ wTab cI cZ o2 a2 S2) := by
    intro S_J140 h
    unfold fX4_copyFrom_J140 at h
    cases sinj h
    exact g_vret C dX4_copyFrom_140 rfl hQ
  have j90 : ∀ (S_J90 : Ob), fX4_copyFrom_J90 S2 S_J90 = some S' → gG p l e (gR 1) s m args below meth c 3 D A 0 0 Q 90 [(0, .ref o), (1, .ref o2)] [] (wTab cI cZ o a S_J90 ++ wTab cI cZ o2 a2 S2) := by
    intro S_J90 h
    unfold fX4_copyFrom_J90 at h
    refine g_iconst (v := (0 : Int32)) C dX4_copyFrom_90 (by decide) ?_
    refine g_istore_n (lv' := [(2, .int (0 : Int32)), (0, .ref o), (1, .ref o2)]) C dX4_copyFrom_91 rfl (by decide) rfl ?_
    obtain ⟨X92, hW92, hK92⟩ := obd h
    have l92 : ∀ (fu92 : Nat) (x2_L92 : Int32) (S_L92 : Ob), wh (σ := Int32 × Ob) (ρ := Ob) (fun t => fX4_copyFrom_L92 S2 t.1 t.2) fu92 (x2_L92, S_L92) = some X92 → gG p l e (gR 1) s m args below meth c 3 D A 0 0 Q 92 [(0, .ref o), (1, .ref o2), (2, .int x2_L92)] [] (wTab cI cZ o a S_L92 ++ wTab cI cZ o2 a2 S2) := by
      intro fu92
      induction fu92 with
      | zero => intro x2_L92 S_L92 hW; exact (wh_0 hW).elim
      | succ fu92 ih92 =>
        intro x2_L92 S_L92 hW
        obtain ⟨z92, h, hw92⟩ := wh_s hW
        replace h : fX4_copyFrom_L92 S2 x2_L92 S_L92 = some z92 := h
        unfold fX4_copyFrom_L92 at h
        refine g_iload_n C dX4_copyFrom_92 rfl 2 rfl ?_
        refine g_bipush (v := (6 : Int32)) C dX4_copyFrom_93 (by decide) ?_
        refine g_icmp_ge (tgt := 140) C dX4_copyFrom_95 (by decide) (fun c95 => ?_) (fun c95 => ?_)
        · have h := ifp h c95
          obtain rfl := sinj h
          obtain rfl := wk_r hw92
          have h := hK92
          refine g_lv [] rfl ?_
          exact j140 S_L92 h
        · have h := ifn h c95
          refine g_aload_n C dX4_copyFrom_98 rfl 0 rfl ?_
          refine g_get (v := .ref (a 7)) C fl_X4_21 dX4_copyFrom_99 0 rfl rfl ?_
          refine g_iload_n C dX4_copyFrom_102 rfl 2 rfl ?_
          refine g_aload_n C dX4_copyFrom_103 rfl 1 rfl ?_
          refine g_get (v := .ref (a2 7)) C fl_X4_21 dX4_copyFrom_104 7 rfl rfl ?_
          refine g_iload_n C dX4_copyFrom_107 rfl 2 rfl ?_
          obtain ⟨hg108, h⟩ := ifg h
          refine g_iald (f := (S2.2 7)) C dX4_copyFrom_108 11 0 rfl rfl hg108 ?_
          obtain ⟨hg109, h⟩ := ifg h
          refine g_iast (f := (S_L92.2 7)) (ws2 := wTab cI cZ o a (S_L92.1, (va_up S_L92.2 7 (upd (S_L92.2 7) x2_L92.toNatClampNeg ((S2.2 7) x2_L92.toNatClampNeg)))) ++ wTab cI cZ o2 a2 S2) C dX4_copyFrom_109 4 0 rfl rfl hg109 rfl ?_
          refine g_aload_n C dX4_copyFrom_110 rfl 0 rfl ?_
          refine g_get (v := .ref (a 8)) C fl_X4_24 dX4_copyFrom_111 0 rfl rfl ?_
          refine g_iload_n C dX4_copyFrom_114 rfl 2 rfl ?_
          refine g_aload_n C dX4_copyFrom_115 rfl 1 rfl ?_
          refine g_get (v := .ref (a2 8)) C fl_X4_24 dX4_copyFrom_116 7 rfl rfl ?_
          refine g_iload_n C dX4_copyFrom_119 rfl 2 rfl ?_
          obtain ⟨hg120, h⟩ := ifg h
          refine g_iald (f := (S2.2 8)) C dX4_copyFrom_120 12 0 rfl rfl hg120 ?_
          obtain ⟨hg121, h⟩ := ifg h
          refine g_iast (f := (S_L92.2 8)) (ws2 := wTab cI cZ o a (S_L92.1, (va_up (va_up S_L92.2 7 (upd (S_L92.2 7) x2_L92.toNatClampNeg ((S2.2 7) x2_L92.toNatClampNeg))) 8 (upd (S_L92.2 8) x2_L92.toNatClampNeg ((S2.2 8) x2_L92.toNatClampNeg)))) ++ wTab cI cZ o2 a2 S2) C dX4_copyFrom_121 5 0 rfl rfl hg121 rfl ?_
          refine g_aload_n C dX4_copyFrom_122 rfl 0 rfl ?_
          refine g_get (v := .ref (a 9)) C fl_X4_27 dX4_copyFrom_123 0 rfl rfl ?_
          refine g_iload_n C dX4_copyFrom_126 rfl 2 rfl ?_
          refine g_aload_n C dX4_copyFrom_127 rfl 1 rfl ?_
          refine g_get (v := .ref (a2 9)) C fl_X4_27 dX4_copyFrom_128 7 rfl rfl ?_
          refine g_iload_n C dX4_copyFrom_131 rfl 2 rfl ?_
          obtain ⟨hg132, h⟩ := ifg h
          refine g_zald (f := (S2.2 9)) C dX4_copyFrom_132 13 2 rfl rfl hg132 ?_
          obtain ⟨hg133, h⟩ := ifg h
          refine g_zast (f := (S_L92.2 9)) (ws2 := wTab cI cZ o a (S_L92.1, (va_up (va_up (va_up S_L92.2 7 (upd (S_L92.2 7) x2_L92.toNatClampNeg ((S2.2 7) x2_L92.toNatClampNeg))) 8 (upd (S_L92.2 8) x2_L92.toNatClampNeg ((S2.2 8) x2_L92.toNatClampNeg))) 9 (upd (S_L92.2 9) x2_L92.toNatClampNeg (vp_nar .boolean ((S2.2 9) x2_L92.toNatClampNeg))))) ++ wTab cI cZ o2 a2 S2) C dX4_copyFrom_133 6 2 rfl rfl hg133 rfl ?_
          refine g_iinc (j := 2) (v := (x2_L92 + (1 : Int32))) (lv' := [(2, .int (x2_L92 + (1 : Int32))), (0, .ref o), (1, .ref o2)]) C dX4_copyFrom_134 rfl rfl (by decide) rfl ?_
          refine g_goto (tgt := 92) C dX4_copyFrom_137 (by decide) ?_
          obtain rfl := sinj h
          refine g_lv [1, 2, 0] rfl ?_
          exact ih92 (x2_L92 + (1 : Int32)) (S_L92.1, (va_up (va_up (va_up S_L92.2 7 (upd (S_L92.2 7) x2_L92.toNatClampNeg ((S2.2 7) x2_L92.toNatClampNeg))) 8 (upd (S_L92.2 8) x2_L92.toNatClampNeg ((S2.2 8) x2_L92.toNatClampNeg))) 9 (upd (S_L92.2 9) x2_L92.toNatClampNeg (vp_nar .boolean ((S2.2 9) x2_L92.toNatClampNeg))))) hw92
    refine g_lv [1, 2, 0] rfl ?_
    exact l92 100000 (0 : Int32) S_J90 hW92
  unfold fX4_copyFrom at h
  refine g_aload_n C dX4_copyFrom_0 rfl 0 rfl ?_
  refine g_aload_n C dX4_copyFrom_1 rfl 1 rfl ?_
  refine g_get (v := .int (S2.1 0)) C fl_X4_31 dX4_copyFrom_2 7 rfl rfl ?_
  refine g_put (ws2 := wTab cI cZ o a ((va_up S.1 0 (S2.1 0)), S.2) ++ wTab cI cZ o2 a2 S2) C fp_X4_31 dX4_copyFrom_5 0 rfl rfl rfl (Nat.le_of_ble_eq_true rfl) rfl ?_
  refine g_aload_n C dX4_copyFrom_8 rfl 0 rfl ?_
  refine g_aload_n C dX4_copyFrom_9 rfl 1 rfl ?_
  refine g_get (v := .int (S2.1 1)) C fl_X4_35 dX4_copyFrom_10 7 rfl rfl ?_
  refine g_put (ws2 := wTab cI cZ o a ((va_up (va_up S.1 0 (S2.1 0)) 1 (S2.1 1)), S.2) ++ wTab cI cZ o2 a2 S2) C fp_X4_35 dX4_copyFrom_13 0 rfl rfl rfl (Nat.le_of_ble_eq_true rfl) rfl ?_
  refine g_aload_n C dX4_copyFrom_16 rfl 0 rfl ?_
  refine g_aload_n C dX4_copyFrom_17 rfl 1 rfl ?_
  refine g_get (v := .int (S2.1 5)) C fl_X4_44 dX4_copyFrom_18 7 rfl rfl ?_
  refine g_put (ws2 := wTab cI cZ o a ((va_up (va_up (va_up S.1 0 (S2.1 0)) 1 (S2.1 1)) 5 (S2.1 5)), S.2) ++ wTab cI cZ o2 a2 S2) C fp_X4_44 dX4_copyFrom_21 0 rfl rfl rfl (Nat.le_of_ble_eq_true rfl) rfl ?_
  refine g_aload_n C dX4_copyFrom_24 rfl 0 rfl ?_
  refine g_aload_n C dX4_copyFrom_25 rfl 1 rfl ?_
  refine g_get (v := .int (S2.1 6)) C fl_X4_47 dX4_copyFrom_26 7 rfl rfl ?_
  refine g_put (ws2 := wTab cI cZ o a ((va_up (va_up (va_up (va_up S.1 0 (S2.1 0)) 1 (S2.1 1)) 5 (S2.1 5)) 6 (S2.1 6)), S.2) ++ wTab cI cZ o2 a2 S2) C fp_X4_47 dX4_copyFrom_29 0 rfl rfl rfl (Nat.le_of_ble_eq_true rfl) rfl ?_
  refine g_aload_n C dX4_copyFrom_32 rfl 0 rfl ?_
  refine g_aload_n C dX4_copyFrom_33 rfl 1 rfl ?_
  refine g_get (v := .int (S2.1 10)) C fl_X4_38 dX4_copyFrom_34 7 rfl rfl ?_
  refine g_put (ws2 := wTab cI cZ o a ((va_up (va_up (va_up (va_up (va_up S.1 0 (S2.1 0)) 1 (S2.1 1)) 5 (S2.1 5)) 6 (S2.1 6)) 10 (S2.1 10)), S.2) ++ wTab cI cZ o2 a2 S2) C fp_X4_38 dX4_copyFrom_37 0 rfl rfl rfl (Nat.le_of_ble_eq_true rfl) rfl ?_
  refine g_iconst (v := (0 : Int32)) C dX4_copyFrom_40 (by decide) ?_
  refine g_istore_n (lv' := [(2, .int (0 : Int32)), (0, .ref o), (1, .ref o2)]) C dX4_copyFrom_41 rfl (by decide) rfl ?_
  obtain ⟨X42, hW42, hK42⟩ := obd h
  have l42 : ∀ (fu42 : Nat) (x2_L42 : Int32) (S_L42 : Ob), wh (σ := Int32 × Ob) (ρ := Ob) (fun t => fX4_copyFrom_L42 S2 t.1 t.2) fu42 (x2_L42, S_L42) = some X42 → gG p l e (gR 1) s m args below meth c 3 D A 0 0 Q 42 [(0, .ref o), (1, .ref o2), (2, .int x2_L42)] [] (wTab cI cZ o a S_L42 ++ wTab cI cZ o2 a2 S2) := by
    intro fu42
    induction fu42 with
    | zero => intro x2_L42 S_L42 hW; exact (wh_0 hW).elim
    | succ fu42 ih42 =>
      intro x2_L42 S_L42 hW
      obtain ⟨z42, h, hw42⟩ := wh_s hW
      replace h : fX4_copyFrom_L42 S2 x2_L42 S_L42 = some z42 := h
      unfold fX4_copyFrom_L42 at h
      refine g_iload_n C dX4_copyFrom_42 rfl 2 rfl ?_
      refine g_bipush (v := (8 : Int32)) C dX4_copyFrom_43 (by decide) ?_
      refine g_icmp_ge (tgt := 90) C dX4_copyFrom_45 (by decide) (fun c45 => ?_) (fun c45 => ?_)
      · have h := ifp h c45
        obtain rfl := sinj h
        obtain rfl := wk_r hw42
        have h := hK42
        refine g_lv [0, 1] rfl ?_
        exact j90 S_L42 h
      · have h := ifn h c45
        refine g_aload_n C dX4_copyFrom_48 rfl 0 rfl ?_
        refine g_get (v := .ref (a 2)) C fl_X4_9 dX4_copyFrom_49 0 rfl rfl ?_
        refine g_iload_n C dX4_copyFrom_52 rfl 2 rfl ?_
        refine g_aload_n C dX4_copyFrom_53 rfl 1 rfl ?_
        refine g_get (v := .ref (a2 2)) C fl_X4_9 dX4_copyFrom_54 7 rfl rfl ?_
        refine g_iload_n C dX4_copyFrom_57 rfl 2 rfl ?_
        obtain ⟨hg58, h⟩ := ifg h
        refine g_iald (f := (S2.2 2)) C dX4_copyFrom_58 8 0 rfl rfl hg58 ?_
        obtain ⟨hg59, h⟩ := ifg h
        refine g_iast (f := (S_L42.2 2)) (ws2 := wTab cI cZ o a (S_L42.1, (va_up S_L42.2 2 (upd (S_L42.2 2) x2_L42.toNatClampNeg ((S2.2 2) x2_L42.toNatClampNeg)))) ++ wTab cI cZ o2 a2 S2) C dX4_copyFrom_59 1 0 rfl rfl hg59 rfl ?_
        refine g_aload_n C dX4_copyFrom_60 rfl 0 rfl ?_
        refine g_get (v := .ref (a 3)) C fl_X4_15 dX4_copyFrom_61 0 rfl rfl ?_
        refine g_iload_n C dX4_copyFrom_64 rfl 2 rfl ?_
        refine g_aload_n C dX4_copyFrom_65 rfl 1 rfl ?_
        refine g_get (v := .ref (a2 3)) C fl_X4_15 dX4_copyFrom_66 7 rfl rfl ?_
        refine g_iload_n C dX4_copyFrom_69 rfl 2 rfl ?_
        obtain ⟨hg70, h⟩ := ifg h
        refine g_iald (f := (S2.2 3)) C dX4_copyFrom_70 9 0 rfl rfl hg70 ?_
        obtain ⟨hg71, h⟩ := ifg h
        refine g_iast (f := (S_L42.2 3)) (ws2 := wTab cI cZ o a (S_L42.1, (va_up (va_up S_L42.2 2 (upd (S_L42.2 2) x2_L42.toNatClampNeg ((S2.2 2) x2_L42.toNatClampNeg))) 3 (upd (S_L42.2 3) x2_L42.toNatClampNeg ((S2.2 3) x2_L42.toNatClampNeg)))) ++ wTab cI cZ o2 a2 S2) C dX4_copyFrom_71 2 0 rfl rfl hg71 rfl ?_
        refine g_aload_n C dX4_copyFrom_72 rfl 0 rfl ?_
        refine g_get (v := .ref (a 4)) C fl_X4_18 dX4_copyFrom_73 0 rfl rfl ?_
        refine g_iload_n C dX4_copyFrom_76 rfl 2 rfl ?_
        refine g_aload_n C dX4_copyFrom_77 rfl 1 rfl ?_
        refine g_get (v := .ref (a2 4)) C fl_X4_18 dX4_copyFrom_78 7 rfl rfl ?_
        refine g_iload_n C dX4_copyFrom_81 rfl 2 rfl ?_
        obtain ⟨hg82, h⟩ := ifg h
        refine g_iald (f := (S2.2 4)) C dX4_copyFrom_82 10 0 rfl rfl hg82 ?_
        obtain ⟨hg83, h⟩ := ifg h
        refine g_iast (f := (S_L42.2 4)) (ws2 := wTab cI cZ o a (S_L42.1, (va_up (va_up (va_up S_L42.2 2 (upd (S_L42.2 2) x2_L42.toNatClampNeg ((S2.2 2) x2_L42.toNatClampNeg))) 3 (upd (S_L42.2 3) x2_L42.toNatClampNeg ((S2.2 3) x2_L42.toNatClampNeg))) 4 (upd (S_L42.2 4) x2_L42.toNatClampNeg ((S2.2 4) x2_L42.toNatClampNeg)))) ++ wTab cI cZ o2 a2 S2) C dX4_copyFrom_83 3 0 rfl rfl hg83 rfl ?_
        refine g_iinc (j := 2) (v := (x2_L42 + (1 : Int32))) (lv' := [(2, .int (x2_L42 + (1 : Int32))), (0, .ref o), (1, .ref o2)]) C dX4_copyFrom_84 rfl rfl (by decide) rfl ?_
        refine g_goto (tgt := 42) C dX4_copyFrom_87 (by decide) ?_
        obtain rfl := sinj h
        refine g_lv [1, 2, 0] rfl ?_
        exact ih42 (x2_L42 + (1 : Int32)) (S_L42.1, (va_up (va_up (va_up S_L42.2 2 (upd (S_L42.2 2) x2_L42.toNatClampNeg ((S2.2 2) x2_L42.toNatClampNeg))) 3 (upd (S_L42.2 3) x2_L42.toNatClampNeg ((S2.2 3) x2_L42.toNatClampNeg))) 4 (upd (S_L42.2 4) x2_L42.toNatClampNeg ((S2.2 4) x2_L42.toNatClampNeg)))) hw42
  refine g_lv [1, 2, 0] rfl ?_
  exact l42 100000 (0 : Int32) ((va_up (va_up (va_up (va_up (va_up S.1 0 (S2.1 0)) 1 (S2.1 1)) 5 (S2.1 5)) 6 (S2.1 6)) 10 (S2.1 10)), S.2) hW42
def fX4_isBoard (S : Ob)  : Option (Int32) :=
  (if (S.1 0) ≤ 0 then some (0 : Int32)
 else some (1 : Int32))
set_option maxHeartbeats 4000000 in
set_option maxRecDepth 100000 in
theorem kX4_isBoard (l : Launch) (D : va_G) (cC cI cJ cZ : ClassId) (o : Nat) (a : Nat → Nat) (S : Ob)  (r : Int32) (h : fX4_isBoard S = some r) : gMi l yX4_isBoard cX4_isBoard 1 (some .boolean) (gR 1) D (tysG cC cI cJ cZ) [.ref o] (wTab cI cZ o a S) r (wTab cI cZ o a S) := by
  refine gMi_of (by decide) (Nat.le_of_ble_eq_true rfl) rfl ?_
  intro p e s m args below meth c A Q C hQ
  unfold fX4_isBoard at h
  refine g_aload_n C dX4_isBoard_0 rfl 0 rfl ?_
  refine g_get (v := .int (S.1 0)) C fl_X4_31 dX4_isBoard_1 0 rfl rfl ?_
  refine g_if_le (tgt := 11) C dX4_isBoard_4 (by decide) (fun c4 => ?_) (fun c4 => ?_)
  · have h := ifp h c4
    refine g_iconst (v := (0 : Int32)) C dX4_isBoard_11 (by decide) ?_
    cases sinj h
    exact g_zret C dX4_isBoard_12 rfl rfl rfl hQ
  · have h := ifn h c4
    refine g_iconst (v := (1 : Int32)) C dX4_isBoard_7 (by decide) ?_
    refine g_goto (tgt := 12) C dX4_isBoard_8 (by decide) ?_
    cases sinj h
    exact g_zret C dX4_isBoard_12 rfl rfl rfl hQ
def fX4_cells (S : Ob)  : Option (Int32) :=
  some ((S.1 0) * (S.1 1))
set_option maxHeartbeats 4000000 in
set_option maxRecDepth 100000 in
theorem kX4_cells (l : Launch) (D : va_G) (cC cI cJ cZ : ClassId) (o : Nat) (a : Nat → Nat) (S : Ob)  (r : Int32) (h : fX4_cells S = some r) : gMi l yX4_cells cX4_cells 1 (some .int) (gR 1) D (tysG cC cI cJ cZ) [.ref o] (wTab cI cZ o a S) r (wTab cI cZ o a S) := by
  refine gMi_of (by decide) (Nat.le_of_ble_eq_true rfl) rfl ?_
  intro p e s m args below meth c A Q C hQ
  unfold fX4_cells at h
  refine g_aload_n C dX4_cells_0 rfl 0 rfl ?_
  refine g_get (v := .int (S.1 0)) C fl_X4_31 dX4_cells_1 0 rfl rfl ?_
  refine g_aload_n C dX4_cells_4 rfl 0 rfl ?_
  refine g_get (v := .int (S.1 1)) C fl_X4_35 dX4_cells_5 0 rfl rfl ?_
  refine g_imul C dX4_cells_8 ?_
  cases sinj h
  exact g_iret C dX4_cells_9 rfl rfl hQ
def fX4_hasCell (S : Ob) (x1 : Int32) : Option (Int32) :=
  (if x1 < 0 then some (0 : Int32)
 else ((fX4_cells S).bind (fun r6 => (if r6 ≤ x1 then some (0 : Int32)
 else some (1 : Int32)))))
set_option maxHeartbeats 4000000 in
set_option maxRecDepth 100000 in
theorem kX4_hasCell (l : Launch) (D : va_G) (cC cI cJ cZ : ClassId) (o : Nat) (a : Nat → Nat) (S : Ob) (x1 : Int32) (r : Int32) (h : fX4_hasCell S x1 = some r) : gMi l yX4_hasCell cX4_hasCell 2 (some .boolean) (gR 2) D (tysG cC cI cJ cZ) [.ref o, .int x1] (wTab cI cZ o a S) r (wTab cI cZ o a S) := by
  refine gMi_of (by decide) (Nat.le_of_ble_eq_true rfl) rfl ?_
  intro p e s m args below meth c A Q C hQ
  unfold fX4_hasCell at h
  refine g_iload_n C dX4_hasCell_0 rfl 1 rfl ?_
  refine g_if_lt (tgt := 16) C dX4_hasCell_1 (by decide) (fun c1 => ?_) (fun c1 => ?_)
  · have h := ifp h c1
    refine g_iconst (v := (0 : Int32)) C dX4_hasCell_16 (by decide) ?_
    cases sinj h
    exact g_zret C dX4_hasCell_17 rfl rfl rfl hQ
  · have h := ifn h c1
    refine g_iload_n C dX4_hasCell_4 rfl 1 rfl ?_
    refine g_aload_n C dX4_hasCell_5 rfl 0 rfl ?_
    obtain ⟨r6, h6, h⟩ := obd h
    refine g_callVi (st := [.int x1]) (ws2 := wTab cI cZ o a S) C yv_X4_cells ml_X4_54 dX4_hasCell_6 (kX4_cells l D cC cI cJ cZ o a S r6 h6) gCut_all ⟨by decide, by decide⟩ ⟨rfl, rfl⟩ ⟨Nat.zero_le _, Nat.zero_le _⟩ rfl rfl (Nat.le_of_ble_eq_true rfl) 3 0 rfl rfl rfl ?_
    refine g_icmp_ge (tgt := 16) C dX4_hasCell_9 (by decide) (fun c9 => ?_) (fun c9 => ?_)
    · have h := ifp h c9
      refine g_iconst (v := (0 : Int32)) C dX4_hasCell_16 (by decide) ?_
      cases sinj h
      exact g_zret C dX4_hasCell_17 rfl rfl rfl hQ
    · have h := ifn h c9
      refine g_iconst (v := (1 : Int32)) C dX4_hasCell_12 (by decide) ?_
      refine g_goto (tgt := 17) C dX4_hasCell_13 (by decide) ?_
      cases sinj h
      exact g_zret C dX4_hasCell_17 rfl rfl rfl hQ
def fX4_hasCellsOf (S : Ob) (x1 : Int32) (x2 : Int32) : Option (Int32) :=
  (if x2 < 0 then some (0 : Int32)
 else ((fX4_length S x1).bind (fun r8 => (if ((1 : Int32) <<< (r8 &&& 31)) ≤ x2 then some (0 : Int32)
 else some (1 : Int32)))))
set_option maxHeartbeats 4000000 in
set_option maxRecDepth 100000 in
theorem kX4_hasCellsOf (l : Launch) (D : va_G) (cC cI cJ cZ : ClassId) (o : Nat) (a : Nat → Nat) (S : Ob) (x1 : Int32) (x2 : Int32) (r : Int32) (h : fX4_hasCellsOf S x1 x2 = some r) : gMi l yX4_hasCellsOf cX4_hasCellsOf 3 (some .boolean) (gR 2) D (tysG cC cI cJ cZ) [.ref o, .int x1, .int x2] (wTab cI cZ o a S) r (wTab cI cZ o a S) := by
  refine gMi_of (by decide) (Nat.le_of_ble_eq_true rfl) rfl ?_
  intro p e s m args below meth c A Q C hQ
  unfold fX4_hasCellsOf at h
  refine g_iload_n C dX4_hasCellsOf_0 rfl 2 rfl ?_
  refine g_if_lt (tgt := 19) C dX4_hasCellsOf_1 (by decide) (fun c1 => ?_) (fun c1 => ?_)
  · have h := ifp h c1
    refine g_iconst (v := (0 : Int32)) C dX4_hasCellsOf_19 (by decide) ?_
    cases sinj h
    exact g_zret C dX4_hasCellsOf_20 rfl rfl rfl hQ
  · have h := ifn h c1
    refine g_iload_n C dX4_hasCellsOf_4 rfl 2 rfl ?_
    refine g_iconst (v := (1 : Int32)) C dX4_hasCellsOf_5 (by decide) ?_
    refine g_aload_n C dX4_hasCellsOf_6 rfl 0 rfl ?_
    refine g_iload_n C dX4_hasCellsOf_7 rfl 1 rfl ?_
    obtain ⟨r8, h8, h⟩ := obd h
    refine g_callVi (st := [.int (1 : Int32), .int x2]) (ws2 := wTab cI cZ o a S) C yv_X4_length ml_X4_57 dX4_hasCellsOf_8 (kX4_length l D cC cI cJ cZ o a S x1 r8 h8) gCut_all ⟨by decide, by decide⟩ ⟨rfl, rfl⟩ ⟨Nat.zero_le _, Nat.zero_le _⟩ rfl rfl (Nat.le_of_ble_eq_true rfl) 3 0 rfl rfl rfl ?_
    refine g_ishl C dX4_hasCellsOf_11 ?_
    refine g_icmp_ge (tgt := 19) C dX4_hasCellsOf_12 (by decide) (fun c12 => ?_) (fun c12 => ?_)
    · have h := ifp h c12
      refine g_iconst (v := (0 : Int32)) C dX4_hasCellsOf_19 (by decide) ?_
      cases sinj h
      exact g_zret C dX4_hasCellsOf_20 rfl rfl rfl hQ
    · have h := ifn h c12
      refine g_iconst (v := (1 : Int32)) C dX4_hasCellsOf_15 (by decide) ?_
      refine g_goto (tgt := 20) C dX4_hasCellsOf_16 (by decide) ?_
      cases sinj h
      exact g_zret C dX4_hasCellsOf_20 rfl rfl rfl hQ
def fX4_marked (S : Ob)  : Option (Int32) :=
  some ((S.1 5) ||| (S.1 6))
set_option maxHeartbeats 4000000 in
set_option maxRecDepth 100000 in
theorem kX4_marked (l : Launch) (D : va_G) (cC cI cJ cZ : ClassId) (o : Nat) (a : Nat → Nat) (S : Ob)  (r : Int32) (h : fX4_marked S = some r) : gMi l yX4_marked cX4_marked 1 (some .int) (gR 1) D (tysG cC cI cJ cZ) [.ref o] (wTab cI cZ o a S) r (wTab cI cZ o a S) := by
  refine gMi_of (by decide) (Nat.le_of_ble_eq_true rfl) rfl ?_
  intro p e s m args below meth c A Q C hQ
  unfold fX4_marked at h
  refine g_aload_n C dX4_marked_0 rfl 0 rfl ?_
  refine g_get (v := .int (S.1 5)) C fl_X4_44 dX4_marked_1 0 rfl rfl ?_
  refine g_aload_n C dX4_marked_4 rfl 0 rfl ?_
  refine g_get (v := .int (S.1 6)) C fl_X4_47 dX4_marked_5 0 rfl rfl ?_
  refine g_ior C dX4_marked_8 ?_
  cases sinj h
  exact g_iret C dX4_marked_9 rfl rfl hQ
def fX4_markedCells (S : Ob)  : Option (Int32) :=
  ((fX4_marked S).bind (fun r1 => ((fbitCount r1).bind (fun r4 => some r4))))
set_option maxHeartbeats 4000000 in
set_option maxRecDepth 100000 in
theorem kX4_markedCells (l : Launch) (D : va_G) (cC cI cJ cZ : ClassId) (o : Nat) (a : Nat → Nat) (S : Ob)  (r : Int32) (h : fX4_markedCells S = some r) : gMi l yX4_markedCells cX4_markedCells 1 (some .int) (gR 2) D (tysG cC cI cJ cZ) [.ref o] (wTab cI cZ o a S) r (wTab cI cZ o a S) := by
  refine gMi_of (by decide) (Nat.le_of_ble_eq_true rfl) rfl ?_
  intro p e s m args below meth c A Q C hQ
  unfold fX4_markedCells at h
  refine g_aload_n C dX4_markedCells_0 rfl 0 rfl ?_
  obtain ⟨r1, h1, h⟩ := obd h
  refine g_callVi (st := []) (ws2 := wTab cI cZ o a S) C yv_X4_marked ml_X4_65 dX4_markedCells_1 (kX4_marked l D cC cI cJ cZ o a S r1 h1) gCut_all ⟨by decide, by decide⟩ ⟨rfl, rfl⟩ ⟨Nat.zero_le _, Nat.zero_le _⟩ rfl rfl (Nat.le_of_ble_eq_true rfl) 3 0 rfl rfl rfl ?_
  obtain ⟨r4, h4, h⟩ := obd h
  refine g_callSi (st := []) (ws2 := wTab cI cZ o a S) C ys_J6_bitCount_0f7a4 ml_X4_68 dX4_markedCells_4 (kbitCount l D cC cI cJ cZ r1 r4 h4) gCut_nil ⟨by decide, by decide⟩ ⟨rfl, rfl⟩ ⟨Nat.zero_le _, Nat.zero_le _⟩ rfl rfl (Nat.le_of_ble_eq_true rfl) ?_
  cases sinj h
  exact g_iret C dX4_markedCells_7 rfl rfl hQ
def fX4_howMarked (S : Ob) (x1 : Int32) : Option (Int32) :=
  (if (((S.1 5) >>> (x1 &&& 31)) &&& (1 : Int32)) = 0 then (if (((S.1 6) >>> (x1 &&& 31)) &&& (1 : Int32)) = 0 then some (0 : Int32)
 else some (2 : Int32))
 else some (1 : Int32))
set_option maxHeartbeats 4000000 in
set_option maxRecDepth 100000 in
theorem kX4_howMarked (l : Launch) (D : va_G) (cC cI cJ cZ : ClassId) (o : Nat) (a : Nat → Nat) (S : Ob) (x1 : Int32) (r : Int32) (h : fX4_howMarked S x1 = some r) : gMi l yX4_howMarked cX4_howMarked 2 (some .int) (gR 1) D (tysG cC cI cJ cZ) [.ref o, .int x1] (wTab cI cZ o a S) r (wTab cI cZ o a S) := by
  refine gMi_of (by decide) (Nat.le_of_ble_eq_true rfl) rfl ?_
  intro p e s m args below meth c A Q C hQ
  unfold fX4_howMarked at h
  refine g_aload_n C dX4_howMarked_0 rfl 0 rfl ?_
  refine g_get (v := .int (S.1 5)) C fl_X4_44 dX4_howMarked_1 0 rfl rfl ?_
  refine g_iload_n C dX4_howMarked_4 rfl 1 rfl ?_
  refine g_ishr C dX4_howMarked_5 ?_
  refine g_iconst (v := (1 : Int32)) C dX4_howMarked_6 (by decide) ?_
  refine g_iand C dX4_howMarked_7 ?_
  refine g_if_eq (tgt := 13) C dX4_howMarked_8 (by decide) (fun c8 => ?_) (fun c8 => ?_)
  · have h := ifp h c8
    refine g_aload_n C dX4_howMarked_13 rfl 0 rfl ?_
    refine g_get (v := .int (S.1 6)) C fl_X4_47 dX4_howMarked_14 0 rfl rfl ?_
    refine g_iload_n C dX4_howMarked_17 rfl 1 rfl ?_
    refine g_ishr C dX4_howMarked_18 ?_
    refine g_iconst (v := (1 : Int32)) C dX4_howMarked_19 (by decide) ?_
    refine g_iand C dX4_howMarked_20 ?_
    refine g_if_eq (tgt := 28) C dX4_howMarked_21 (by decide) (fun c21 => ?_) (fun c21 => ?_)
    · have h := ifp h c21
      refine g_iconst (v := (0 : Int32)) C dX4_howMarked_28 (by decide) ?_
      cases sinj h
      exact g_iret C dX4_howMarked_29 rfl rfl hQ
    · have h := ifn h c21
      refine g_iconst (v := (2 : Int32)) C dX4_howMarked_24 (by decide) ?_
      refine g_goto (tgt := 29) C dX4_howMarked_25 (by decide) ?_
      cases sinj h
      exact g_iret C dX4_howMarked_29 rfl rfl hQ
  · have h := ifn h c8
    refine g_iconst (v := (1 : Int32)) C dX4_howMarked_11 (by decide) ?_
    cases sinj h
    exact g_iret C dX4_howMarked_12 rfl rfl hQ
def fX4_setMark_J43 (x2_J43 : Int32) (x3_J43 : Int32) (S_J43 : Ob) : Option (Ob) :=
  (if x2_J43 = (2 : Int32) then some ((va_up S_J43.1 6 ((S_J43.1 6) ||| x3_J43)), S_J43.2)
 else some S_J43)
def fX4_setMark (S : Ob) (x1 : Int32) (x2 : Int32) : Option (Ob) :=
  (if x2 = (1 : Int32) then fX4_setMark_J43 x2 ((1 : Int32) <<< (x1 &&& 31)) ((va_up (va_up S.1 5 (((S.1 5) &&& (((1 : Int32) <<< (x1 &&& 31)) ^^^ (-1 : Int32))) ||| ((1 : Int32) <<< (x1 &&& 31)))) 6 ((S.1 6) &&& (((1 : Int32) <<< (x1 &&& 31)) ^^^ (-1 : Int32)))), S.2)
 else fX4_setMark_J43 x2 ((1 : Int32) <<< (x1 &&& 31)) ((va_up (va_up S.1 5 ((S.1 5) &&& (((1 : Int32) <<< (x1 &&& 31)) ^^^ (-1 : Int32)))) 6 ((S.1 6) &&& (((1 : Int32) <<< (x1 &&& 31)) ^^^ (-1 : Int32)))), S.2))
set_option maxHeartbeats 4000000 in
set_option maxRecDepth 100000 in
theorem kX4_setMark (l : Launch) (D : va_G) (cC cI cJ cZ : ClassId) (o : Nat) (a : Nat → Nat) (S : Ob) (x1 : Int32) (x2 : Int32) (S' : Ob) (h : fX4_setMark S x1 x2 = some S') : gMv l yX4_setMark cX4_setMark 4 none (gR 1) D (tysG cC cI cJ cZ) [.ref o, .int x1, .int x2] (wTab cI cZ o a S) (wTab cI cZ o a S') := by
  refine gMv_of (by decide) (Nat.le_of_ble_eq_true rfl) rfl ?_
  intro p e s m args below meth c A Q C hQ
  have j43 : ∀ (x2_J43 : Int32) (x3_J43 : Int32) (S_J43 : Ob), fX4_setMark_J43 x2_J43 x3_J43 S_J43 = some S' → gG p l e (gR 1) s m args below meth c 4 D A 0 0 Q 43 [(0, .ref o), (2, .int x2_J43), (3, .int x3_J43)] [] (wTab cI cZ o a S_J43) := by
    intro x2_J43 x3_J43 S_J43 h
    unfold fX4_setMark_J43 at h
    refine g_iload_n C dX4_setMark_43 rfl 1 rfl ?_
    refine g_iconst (v := (2 : Int32)) C dX4_setMark_44 (by decide) ?_
    refine g_icmp_ne (tgt := 58) C dX4_setMark_45 (by decide) (fun c45 => ?_) (fun c45 => ?_)
    · have h := ifn h c45
      cases sinj h
      exact g_vret C dX4_setMark_58 rfl hQ
    · have h := ifp h c45
      refine g_aload_n C dX4_setMark_48 rfl 0 rfl ?_
      refine g_dup C dX4_setMark_49 rfl ?_
      refine g_get (v := .int (S_J43.1 6)) C fl_X4_47 dX4_setMark_50 0 rfl rfl ?_
      refine g_iload_n C dX4_setMark_53 rfl 2 rfl ?_
      refine g_ior C dX4_setMark_54 ?_
      refine g_put (ws2 := wTab cI cZ o a ((va_up S_J43.1 6 ((S_J43.1 6) ||| x3_J43)), S_J43.2)) C fp_X4_47 dX4_setMark_55 0 rfl rfl rfl (Nat.le_of_ble_eq_true rfl) rfl ?_
      cases sinj h
      exact g_vret C dX4_setMark_58 rfl hQ
  unfold fX4_setMark at h
  refine g_iconst (v := (1 : Int32)) C dX4_setMark_0 (by decide) ?_
  refine g_iload_n C dX4_setMark_1 rfl 1 rfl ?_
  refine g_ishl C dX4_setMark_2 ?_
  refine g_istore_n (lv' := [(3, .int ((1 : Int32) <<< (x1 &&& 31))), (0, .ref o), (1, .int x1), (2, .int x2)]) C dX4_setMark_3 rfl (by decide) rfl ?_
  refine g_aload_n C dX4_setMark_4 rfl 1 rfl ?_
  refine g_dup C dX4_setMark_5 rfl ?_
  refine g_get (v := .int (S.1 5)) C fl_X4_44 dX4_setMark_6 0 rfl rfl ?_
  refine g_iload_n C dX4_setMark_9 rfl 0 rfl ?_
  refine g_iconst (v := (-1 : Int32)) C dX4_setMark_10 (by decide) ?_
  refine g_ixor C dX4_setMark_11 ?_
  refine g_iand C dX4_setMark_12 ?_
  refine g_put (ws2 := wTab cI cZ o a ((va_up S.1 5 ((S.1 5) &&& (((1 : Int32) <<< (x1 &&& 31)) ^^^ (-1 : Int32)))), S.2)) C fp_X4_44 dX4_setMark_13 0 rfl rfl rfl (Nat.le_of_ble_eq_true rfl) rfl ?_
  refine g_aload_n C dX4_setMark_16 rfl 1 rfl ?_
  refine g_dup C dX4_setMark_17 rfl ?_
  refine g_get (v := .int (S.1 6)) C fl_X4_47 dX4_setMark_18 0 rfl rfl ?_
  refine g_iload_n C dX4_setMark_21 rfl 0 rfl ?_
  refine g_iconst (v := (-1 : Int32)) C dX4_setMark_22 (by decide) ?_
  refine g_ixor C dX4_setMark_23 ?_
  refine g_iand C dX4_setMark_24 ?_
  refine g_put (ws2 := wTab cI cZ o a ((va_up (va_up S.1 5 ((S.1 5) &&& (((1 : Int32) <<< (x1 &&& 31)) ^^^ (-1 : Int32)))) 6 ((S.1 6) &&& (((1 : Int32) <<< (x1 &&& 31)) ^^^ (-1 : Int32)))), S.2)) C fp_X4_47 dX4_setMark_25 0 rfl rfl rfl (Nat.le_of_ble_eq_true rfl) rfl ?_
  refine g_iload_n C dX4_setMark_28 rfl 3 rfl ?_
  refine g_iconst (v := (1 : Int32)) C dX4_setMark_29 (by decide) ?_
  refine g_icmp_ne (tgt := 43) C dX4_setMark_30 (by decide) (fun c30 => ?_) (fun c30 => ?_)
  · have h := ifn h c30
    refine g_lv [1, 3, 0] rfl ?_
    exact j43 x2 ((1 : Int32) <<< (x1 &&& 31)) ((va_up (va_up S.1 5 ((S.1 5) &&& (((1 : Int32) <<< (x1 &&& 31)) ^^^ (-1 : Int32)))) 6 ((S.1 6) &&& (((1 : Int32) <<< (x1 &&& 31)) ^^^ (-1 : Int32)))), S.2) h
  · have h := ifp h c30
    refine g_aload_n C dX4_setMark_33 rfl 1 rfl ?_
    refine g_dup C dX4_setMark_34 rfl ?_
    refine g_get (v := .int ((S.1 5) &&& (((1 : Int32) <<< (x1 &&& 31)) ^^^ (-1 : Int32)))) C fl_X4_44 dX4_setMark_35 0 rfl rfl ?_
    refine g_iload_n C dX4_setMark_38 rfl 0 rfl ?_
    refine g_ior C dX4_setMark_39 ?_
    refine g_put (ws2 := wTab cI cZ o a ((va_up (va_up S.1 5 (((S.1 5) &&& (((1 : Int32) <<< (x1 &&& 31)) ^^^ (-1 : Int32))) ||| ((1 : Int32) <<< (x1 &&& 31)))) 6 ((S.1 6) &&& (((1 : Int32) <<< (x1 &&& 31)) ^^^ (-1 : Int32)))), S.2)) C fp_X4_44 dX4_setMark_40 0 rfl rfl rfl (Nat.le_of_ble_eq_true rfl) rfl ?_
    refine g_lv [1, 3, 0] rfl ?_
    exact j43 x2 ((1 : Int32) <<< (x1 &&& 31)) ((va_up (va_up S.1 5 (((S.1 5) &&& (((1 : Int32) <<< (x1 &&& 31)) ^^^ (-1 : Int32))) ||| ((1 : Int32) <<< (x1 &&& 31)))) 6 ((S.1 6) &&& (((1 : Int32) <<< (x1 &&& 31)) ^^^ (-1 : Int32)))), S.2) h
def fX4_addSeen (S : Ob) (x1 : Int32) (x2 : Int32) (x3 : Int32) : Option (Ob) :=
  (if (S.1 10) < (6 : Int32) then (if okI (S.1 10) 6 = true then (if okI (S.1 10) 6 = true then (if okI (S.1 10) 6 = true then some ((va_up S.1 10 ((S.1 10) + (1 : Int32))), (va_up (va_up (va_up S.2 7 (upd (S.2 7) (S.1 10).toNatClampNeg x1)) 8 (upd (S.2 8) (S.1 10).toNatClampNeg x2)) 9 (upd (S.2 9) (S.1 10).toNatClampNeg (vp_nar .boolean x3)))) else none) else none) else none)
 else some S)
set_option maxHeartbeats 4000000 in
set_option maxRecDepth 100000 in
theorem kX4_addSeen (l : Launch) (D : va_G) (cC cI cJ cZ : ClassId) (o : Nat) (a : Nat → Nat) (S : Ob) (x1 : Int32) (x2 : Int32) (x3 : Int32) (S' : Ob) (h : fX4_addSeen S x1 x2 x3 = some S') : gMv l yX4_addSeen cX4_addSeen 4 none (gR 1) D (tysG cC cI cJ cZ) [.ref o, .int x1, .int x2, .int x3] (wTab cI cZ o a S) (wTab cI cZ o a S') := by
  refine gMv_of (by decide) (Nat.le_of_ble_eq_true rfl) rfl ?_
  intro p e s m args below meth c A Q C hQ
  unfold fX4_addSeen at h
  refine g_aload_n C dX4_addSeen_0 rfl 0 rfl ?_
  refine g_get (v := .int (S.1 10)) C fl_X4_38 dX4_addSeen_1 0 rfl rfl ?_
  refine g_bipush (v := (6 : Int32)) C dX4_addSeen_4 (by decide) ?_
  refine g_icmp_lt (tgt := 10) C dX4_addSeen_6 (by decide) (fun c6 => ?_) (fun c6 => ?_)
  · have h := ifp h c6
    refine g_aload_n C dX4_addSeen_10 rfl 0 rfl ?_
    refine g_get (v := .ref (a 7)) C fl_X4_21 dX4_addSeen_11 0 rfl rfl ?_
    refine g_aload_n C dX4_addSeen_14 rfl 0 rfl ?_
    refine g_get (v := .int (S.1 10)) C fl_X4_38 dX4_addSeen_15 0 rfl rfl ?_
    refine g_iload_n C dX4_addSeen_18 rfl 1 rfl ?_
    obtain ⟨hg19, h⟩ := ifg h
    refine g_iast (f := (S.2 7)) (ws2 := wTab cI cZ o a (S.1, (va_up S.2 7 (upd (S.2 7) (S.1 10).toNatClampNeg x1)))) C dX4_addSeen_19 4 0 rfl rfl hg19 rfl ?_
    refine g_aload_n C dX4_addSeen_20 rfl 0 rfl ?_
    refine g_get (v := .ref (a 8)) C fl_X4_24 dX4_addSeen_21 0 rfl rfl ?_
    refine g_aload_n C dX4_addSeen_24 rfl 0 rfl ?_
    refine g_get (v := .int (S.1 10)) C fl_X4_38 dX4_addSeen_25 0 rfl rfl ?_
    refine g_iload_n C dX4_addSeen_28 rfl 2 rfl ?_
    obtain ⟨hg29, h⟩ := ifg h
    refine g_iast (f := (S.2 8)) (ws2 := wTab cI cZ o a (S.1, (va_up (va_up S.2 7 (upd (S.2 7) (S.1 10).toNatClampNeg x1)) 8 (upd (S.2 8) (S.1 10).toNatClampNeg x2)))) C dX4_addSeen_29 5 0 rfl rfl hg29 rfl ?_
    refine g_aload_n C dX4_addSeen_30 rfl 0 rfl ?_
    refine g_get (v := .ref (a 9)) C fl_X4_27 dX4_addSeen_31 0 rfl rfl ?_
    refine g_aload_n C dX4_addSeen_34 rfl 0 rfl ?_
    refine g_get (v := .int (S.1 10)) C fl_X4_38 dX4_addSeen_35 0 rfl rfl ?_
    refine g_iload_n C dX4_addSeen_38 rfl 3 rfl ?_
    obtain ⟨hg39, h⟩ := ifg h
    refine g_zast (f := (S.2 9)) (ws2 := wTab cI cZ o a (S.1, (va_up (va_up (va_up S.2 7 (upd (S.2 7) (S.1 10).toNatClampNeg x1)) 8 (upd (S.2 8) (S.1 10).toNatClampNeg x2)) 9 (upd (S.2 9) (S.1 10).toNatClampNeg (vp_nar .boolean x3))))) C dX4_addSeen_39 6 2 rfl rfl hg39 rfl ?_
    refine g_aload_n C dX4_addSeen_40 rfl 0 rfl ?_
    refine g_dup C dX4_addSeen_41 rfl ?_
    refine g_get (v := .int (S.1 10)) C fl_X4_38 dX4_addSeen_42 0 rfl rfl ?_
    refine g_iconst (v := (1 : Int32)) C dX4_addSeen_45 (by decide) ?_
    refine g_iadd C dX4_addSeen_46 ?_
    refine g_put (ws2 := wTab cI cZ o a ((va_up S.1 10 ((S.1 10) + (1 : Int32))), (va_up (va_up (va_up S.2 7 (upd (S.2 7) (S.1 10).toNatClampNeg x1)) 8 (upd (S.2 8) (S.1 10).toNatClampNeg x2)) 9 (upd (S.2 9) (S.1 10).toNatClampNeg (vp_nar .boolean x3))))) C fp_X4_38 dX4_addSeen_47 0 rfl rfl rfl (Nat.le_of_ble_eq_true rfl) rfl ?_
    cases sinj h
    exact g_vret C dX4_addSeen_50 rfl hQ
  · have h := ifn h c6
    cases sinj h
    exact g_vret C dX4_addSeen_9 rfl hQ
def fX4_wouldKeep (S : Ob) (x1 : Int32) (x2 : Int32) (x3 : Int32) : Option (Int32) :=
  (if x1 < 0 then some (0 : Int32)
 else (if x1 < (8 : Int32) then (if okI x1 8 = true then (if okI x1 8 = true then ((fX1_isKept x2 ((S.2 3) x1.toNatClampNeg) ((S.2 4) x1.toNatClampNeg) x3).bind (fun r26 => (if okZ r26 = true then some r26 else none))) else none) else none)
 else some (0 : Int32)))
set_option maxHeartbeats 4000000 in
set_option maxRecDepth 100000 in
theorem kX4_wouldKeep (l : Launch) (D : va_G) (cC cI cJ cZ : ClassId) (o : Nat) (a : Nat → Nat) (S : Ob) (x1 : Int32) (x2 : Int32) (x3 : Int32) (r : Int32) (h : fX4_wouldKeep S x1 x2 x3 = some r) : gMi l yX4_wouldKeep cX4_wouldKeep 4 (some .boolean) (gR 3) D (tysG cC cI cJ cZ) [.ref o, .int x1, .int x2, .int x3] (wTab cI cZ o a S) r (wTab cI cZ o a S) := by
  refine gMi_of (by decide) (Nat.le_of_ble_eq_true rfl) rfl ?_
  intro p e s m args below meth c A Q C hQ
  unfold fX4_wouldKeep at h
  refine g_iload_n C dX4_wouldKeep_0 rfl 1 rfl ?_
  refine g_if_lt (tgt := 10) C dX4_wouldKeep_1 (by decide) (fun c1 => ?_) (fun c1 => ?_)
  · have h := ifp h c1
    refine g_iconst (v := (0 : Int32)) C dX4_wouldKeep_10 (by decide) ?_
    cases sinj h
    exact g_zret C dX4_wouldKeep_11 rfl rfl rfl hQ
  · have h := ifn h c1
    refine g_iload_n C dX4_wouldKeep_4 rfl 1 rfl ?_
    refine g_bipush (v := (8 : Int32)) C dX4_wouldKeep_5 (by decide) ?_
    refine g_icmp_lt (tgt := 12) C dX4_wouldKeep_7 (by decide) (fun c7 => ?_) (fun c7 => ?_)
    · have h := ifp h c7
      refine g_iload_n C dX4_wouldKeep_12 rfl 2 rfl ?_
      refine g_aload_n C dX4_wouldKeep_13 rfl 0 rfl ?_
      refine g_get (v := .ref (a 3)) C fl_X4_15 dX4_wouldKeep_14 0 rfl rfl ?_
      refine g_iload_n C dX4_wouldKeep_17 rfl 1 rfl ?_
      obtain ⟨hg18, h⟩ := ifg h
      refine g_iald (f := (S.2 3)) C dX4_wouldKeep_18 2 0 rfl rfl hg18 ?_
      refine g_aload_n C dX4_wouldKeep_19 rfl 0 rfl ?_
      refine g_get (v := .ref (a 4)) C fl_X4_18 dX4_wouldKeep_20 0 rfl rfl ?_
      refine g_iload_n C dX4_wouldKeep_23 rfl 1 rfl ?_
      obtain ⟨hg24, h⟩ := ifg h
      refine g_iald (f := (S.2 4)) C dX4_wouldKeep_24 3 0 rfl rfl hg24 ?_
      refine g_iload_n C dX4_wouldKeep_25 rfl 3 rfl ?_
      obtain ⟨r26, h26, h⟩ := obd h
      refine g_callSi (st := []) (ws2 := wTab cI cZ o a S) C ys_X1_isKept ml_X4_81 dX4_wouldKeep_26 (kX1_isKept l D cC cI cJ cZ x2 ((S.2 3) x1.toNatClampNeg) ((S.2 4) x1.toNatClampNeg) x3 r26 h26) gCut_nil ⟨by decide, by decide⟩ ⟨rfl, rfl⟩ ⟨Nat.zero_le _, Nat.zero_le _⟩ rfl rfl (Nat.le_of_ble_eq_true rfl) ?_
      obtain ⟨hz29, h⟩ := ifg h
      cases sinj h
      exact g_zret C dX4_wouldKeep_29 (okZ_n hz29) rfl rfl hQ
    · have h := ifn h c7
      refine g_iconst (v := (0 : Int32)) C dX4_wouldKeep_10 (by decide) ?_
      cases sinj h
      exact g_zret C dX4_wouldKeep_11 rfl rfl rfl hQ
def fX4_canBeOf_L2 (S : Ob) (x1_L2 : Int32) (x2_L2 : Int32) (x3_L2 : Int32) : Option ((Int32) ⊕ ((Int32) ⊕ (Unit))) :=
  (if (S.1 10) ≤ x3_L2 then some (.inr (.inr ()))
 else (if (6 : Int32) ≤ x3_L2 then some (.inr (.inr ()))
 else (if okI x3_L2 6 = true then (if ((S.2 7) x3_L2.toNatClampNeg) = x1_L2 then (if okI x3_L2 6 = true then ((fX4_wouldKeep S x1_L2 x2_L2 ((S.2 8) x3_L2.toNatClampNeg)).bind (fun r38 => (if okI x3_L2 6 = true then (if r38 = ((S.2 9) x3_L2.toNatClampNeg) then some (.inl (x3_L2 + (1 : Int32)))
 else some (.inr (.inl (0 : Int32)))) else none))) else none)
 else some (.inl (x3_L2 + (1 : Int32)))) else none)))
def fX4_canBeOf_J58 (S : Ob) : Option (Int32) :=
  some (1 : Int32)
def fX4_canBeOf (S : Ob) (x1 : Int32) (x2 : Int32) : Option (Int32) :=
  ((wh (σ := Int32) (ρ := (Int32) ⊕ (Unit)) (fun t => fX4_canBeOf_L2 S x1 x2 t) 100000 (0 : Int32)).bind (fun X => Sum.elim (fun r => some r) (fun _ => fX4_canBeOf_J58 S) X))
set_option maxHeartbeats 4000000 in
set_option maxRecDepth 100000 in
theorem kX4_canBeOf (l : Launch) (D : va_G) (cC cI cJ cZ : ClassId) (o : Nat) (a : Nat → Nat) (S : Ob) (x1 : Int32) (x2 : Int32) (r : Int32) (h : fX4_canBeOf S x1 x2 = some r) : gMi l yX4_canBeOf cX4_canBeOf 4 (some .boolean) (gR 4) D (tysG cC cI cJ cZ) [.ref o, .int x1, .int x2] (wTab cI cZ o a S) r (wTab cI cZ o a S) := by
  refine gMi_of (by decide) (Nat.le_of_ble_eq_true rfl) rfl ?_
  intro p e s m args below meth c A Q C hQ
  have j58 : fX4_canBeOf_J58 S = some r → gG p l e (gR 4) s m args below meth c 4 D A 0 0 Q 58 [] [] (wTab cI cZ o a S) := by
    intro h
    unfold fX4_canBeOf_J58 at h
    refine g_iconst (v := (1 : Int32)) C dX4_canBeOf_58 (by decide) ?_
    cases sinj h
    exact g_zret C dX4_canBeOf_59 rfl rfl rfl hQ
  unfold fX4_canBeOf at h
  refine g_iconst (v := (0 : Int32)) C dX4_canBeOf_0 (by decide) ?_
  refine g_istore_n (lv' := [(3, .int (0 : Int32)), (0, .ref o), (1, .int x1), (2, .int x2)]) C dX4_canBeOf_1 rfl (by decide) rfl ?_
  obtain ⟨X2, hW2, hK2⟩ := obd h
  have l2 : ∀ (fu2 : Nat) (x3_L2 : Int32), wh (σ := Int32) (ρ := (Int32) ⊕ (Unit)) (fun t => fX4_canBeOf_L2 S x1 x2 t) fu2 x3_L2 = some X2 → gG p l e (gR 4) s m args below meth c 4 D A 0 0 Q 2 [(0, .ref o), (1, .int x1), (2, .int x2), (3, .int x3_L2)] [] (wTab cI cZ o a S) := by
    intro fu2
    induction fu2 with
    | zero => intro x3_L2 hW; exact (wh_0 hW).elim
    | succ fu2 ih2 =>
      intro x3_L2 hW
      obtain ⟨z2, h, hw2⟩ := wh_s hW
      replace h : fX4_canBeOf_L2 S x1 x2 x3_L2 = some z2 := h
      unfold fX4_canBeOf_L2 at h
      refine g_iload_n C dX4_canBeOf_2 rfl 3 rfl ?_
      refine g_aload_n C dX4_canBeOf_3 rfl 0 rfl ?_
      refine g_get (v := .int (S.1 10)) C fl_X4_38 dX4_canBeOf_4 0 rfl rfl ?_
      refine g_icmp_ge (tgt := 58) C dX4_canBeOf_7 (by decide) (fun c7 => ?_) (fun c7 => ?_)
      · have h := ifp h c7
        obtain rfl := sinj h
        obtain rfl := wk_r hw2
        have h := ser hK2
        refine g_lv [] rfl ?_
        exact j58  h
      · have h := ifn h c7
        refine g_iload_n C dX4_canBeOf_10 rfl 3 rfl ?_
        refine g_bipush (v := (6 : Int32)) C dX4_canBeOf_11 (by decide) ?_
        refine g_icmp_ge (tgt := 58) C dX4_canBeOf_13 (by decide) (fun c13 => ?_) (fun c13 => ?_)
        · have h := ifp h c13
          obtain rfl := sinj h
          obtain rfl := wk_r hw2
          have h := ser hK2
          refine g_lv [] rfl ?_
          exact j58  h
        · have h := ifn h c13
          refine g_aload_n C dX4_canBeOf_16 rfl 0 rfl ?_
          refine g_get (v := .ref (a 7)) C fl_X4_21 dX4_canBeOf_17 0 rfl rfl ?_
          refine g_iload_n C dX4_canBeOf_20 rfl 3 rfl ?_
          obtain ⟨hg21, h⟩ := ifg h
          refine g_iald (f := (S.2 7)) C dX4_canBeOf_21 4 0 rfl rfl hg21 ?_
          refine g_iload_n C dX4_canBeOf_22 rfl 1 rfl ?_
          refine g_icmp_eq (tgt := 29) C dX4_canBeOf_23 (by decide) (fun c23 => ?_) (fun c23 => ?_)
          · have h := ifp h c23
            refine g_aload_n C dX4_canBeOf_29 rfl 0 rfl ?_
            refine g_iload_n C dX4_canBeOf_30 rfl 1 rfl ?_
            refine g_iload_n C dX4_canBeOf_31 rfl 2 rfl ?_
            refine g_aload_n C dX4_canBeOf_32 rfl 0 rfl ?_
            refine g_get (v := .ref (a 8)) C fl_X4_24 dX4_canBeOf_33 0 rfl rfl ?_
            refine g_iload_n C dX4_canBeOf_36 rfl 3 rfl ?_
            obtain ⟨hg37, h⟩ := ifg h
            refine g_iald (f := (S.2 8)) C dX4_canBeOf_37 5 0 rfl rfl hg37 ?_
            obtain ⟨r38, h38, h⟩ := obd h
            refine g_callVi (st := []) (ws2 := wTab cI cZ o a S) C yv_X4_wouldKeep ml_X4_77 dX4_canBeOf_38 (kX4_wouldKeep l D cC cI cJ cZ o a S x1 x2 ((S.2 8) x3_L2.toNatClampNeg) r38 h38) gCut_all ⟨by decide, by decide⟩ ⟨rfl, rfl⟩ ⟨Nat.zero_le _, Nat.zero_le _⟩ rfl rfl (Nat.le_of_ble_eq_true rfl) 3 0 rfl rfl rfl ?_
            refine g_aload_n C dX4_canBeOf_41 rfl 0 rfl ?_
            refine g_get (v := .ref (a 9)) C fl_X4_27 dX4_canBeOf_42 0 rfl rfl ?_
            refine g_iload_n C dX4_canBeOf_45 rfl 3 rfl ?_
            obtain ⟨hg46, h⟩ := ifg h
            refine g_zald (f := (S.2 9)) C dX4_canBeOf_46 6 2 rfl rfl hg46 ?_
            refine g_icmp_eq (tgt := 52) C dX4_canBeOf_47 (by decide) (fun c47 => ?_) (fun c47 => ?_)
            · have h := ifp h c47
              refine g_iinc (j := 3) (v := (x3_L2 + (1 : Int32))) (lv' := [(3, .int (x3_L2 + (1 : Int32))), (0, .ref o), (1, .int x1), (2, .int x2)]) C dX4_canBeOf_52 rfl rfl (by decide) rfl ?_
              refine g_goto (tgt := 2) C dX4_canBeOf_55 (by decide) ?_
              obtain rfl := sinj h
              refine g_lv [1, 2, 3, 0] rfl ?_
              exact ih2 (x3_L2 + (1 : Int32)) hw2
            · have h := ifn h c47
              refine g_iconst (v := (0 : Int32)) C dX4_canBeOf_50 (by decide) ?_
              obtain rfl := sinj h
              obtain rfl := wk_r hw2
              have h := sel hK2
              cases sinj h
              exact g_zret C dX4_canBeOf_51 rfl rfl rfl hQ
          · have h := ifn h c23
            refine g_goto (tgt := 52) C dX4_canBeOf_26 (by decide) ?_
            refine g_iinc (j := 3) (v := (x3_L2 + (1 : Int32))) (lv' := [(3, .int (x3_L2 + (1 : Int32))), (0, .ref o), (1, .int x1), (2, .int x2)]) C dX4_canBeOf_52 rfl rfl (by decide) rfl ?_
            refine g_goto (tgt := 2) C dX4_canBeOf_55 (by decide) ?_
            obtain rfl := sinj h
            refine g_lv [1, 2, 3, 0] rfl ?_
            exact ih2 (x3_L2 + (1 : Int32)) hw2
  refine g_lv [1, 2, 3, 0] rfl ?_
  exact l2 100000 (0 : Int32) hW2
def fX4_sorts_L4 (S : Ob) (x1_L4 : Int32) (x2_L4 : Int32) (x3_L4 : Int32) : Option ((Int32 × Int32) ⊕ (Int32)) :=
  (if (5 : Int32) ≤ x3_L4 then some (.inr x2_L4)
 else ((fX4_canBeOf S x1_L4 x3_L4).bind (fun r12 => (if r12 = 0 then some (.inl (x2_L4, (x3_L4 + (1 : Int32))))
 else some (.inl ((x2_L4 ||| ((1 : Int32) <<< (x3_L4 &&& 31))), (x3_L4 + (1 : Int32))))))))
def fX4_sorts_J30 (S : Ob) (x2_J30 : Int32) : Option (Int32) :=
  some x2_J30
def fX4_sorts (S : Ob) (x1 : Int32) : Option (Int32) :=
  ((wh (σ := Int32 × Int32) (ρ := Int32) (fun t => fX4_sorts_L4 S x1 t.1 t.2) 100000 ((0 : Int32), (0 : Int32))).bind (fun e2_L4 => fX4_sorts_J30 S e2_L4))
set_option maxHeartbeats 4000000 in
set_option maxRecDepth 100000 in
theorem kX4_sorts (l : Launch) (D : va_G) (cC cI cJ cZ : ClassId) (o : Nat) (a : Nat → Nat) (S : Ob) (x1 : Int32) (r : Int32) (h : fX4_sorts S x1 = some r) : gMi l yX4_sorts cX4_sorts 4 (some .int) (gR 5) D (tysG cC cI cJ cZ) [.ref o, .int x1] (wTab cI cZ o a S) r (wTab cI cZ o a S) := by
  refine gMi_of (by decide) (Nat.le_of_ble_eq_true rfl) rfl ?_
  intro p e s m args below meth c A Q C hQ
  have j30 : ∀ (x2_J30 : Int32), fX4_sorts_J30 S x2_J30 = some r → gG p l e (gR 5) s m args below meth c 4 D A 0 0 Q 30 [(2, .int x2_J30)] [] (wTab cI cZ o a S) := by
    intro x2_J30 h
    unfold fX4_sorts_J30 at h
    refine g_iload_n C dX4_sorts_30 rfl 0 rfl ?_
    cases sinj h
    exact g_iret C dX4_sorts_31 rfl rfl hQ
  unfold fX4_sorts at h
  refine g_iconst (v := (0 : Int32)) C dX4_sorts_0 (by decide) ?_
  refine g_istore_n (lv' := [(2, .int (0 : Int32)), (0, .ref o), (1, .int x1)]) C dX4_sorts_1 rfl (by decide) rfl ?_
  refine g_iconst (v := (0 : Int32)) C dX4_sorts_2 (by decide) ?_
  refine g_istore_n (lv' := [(3, .int (0 : Int32)), (2, .int (0 : Int32)), (0, .ref o), (1, .int x1)]) C dX4_sorts_3 rfl (by decide) rfl ?_
  obtain ⟨X4, hW4, hK4⟩ := obd h
  have l4 : ∀ (fu4 : Nat) (x2_L4 : Int32) (x3_L4 : Int32), wh (σ := Int32 × Int32) (ρ := Int32) (fun t => fX4_sorts_L4 S x1 t.1 t.2) fu4 (x2_L4, x3_L4) = some X4 → gG p l e (gR 5) s m args below meth c 4 D A 0 0 Q 4 [(0, .ref o), (1, .int x1), (2, .int x2_L4), (3, .int x3_L4)] [] (wTab cI cZ o a S) := by
    intro fu4
    induction fu4 with
    | zero => intro x2_L4 x3_L4 hW; exact (wh_0 hW).elim
    | succ fu4 ih4 =>
      intro x2_L4 x3_L4 hW
      obtain ⟨z4, h, hw4⟩ := wh_s hW
      replace h : fX4_sorts_L4 S x1 x2_L4 x3_L4 = some z4 := h
      unfold fX4_sorts_L4 at h
      refine g_iload_n C dX4_sorts_4 rfl 3 rfl ?_
      refine g_iconst (v := (5 : Int32)) C dX4_sorts_5 (by decide) ?_
      refine g_icmp_ge (tgt := 30) C dX4_sorts_6 (by decide) (fun c6 => ?_) (fun c6 => ?_)
      · have h := ifp h c6
        obtain rfl := sinj h
        obtain rfl := wk_r hw4
        have h := hK4
        refine g_lv [2] rfl ?_
        exact j30 x2_L4 h
      · have h := ifn h c6
        refine g_aload_n C dX4_sorts_9 rfl 0 rfl ?_
        refine g_iload_n C dX4_sorts_10 rfl 1 rfl ?_
        refine g_iload_n C dX4_sorts_11 rfl 3 rfl ?_
        obtain ⟨r12, h12, h⟩ := obd h
        refine g_callVi (st := []) (ws2 := wTab cI cZ o a S) C yv_X4_canBeOf ml_X4_73 dX4_sorts_12 (kX4_canBeOf l D cC cI cJ cZ o a S x1 x3_L4 r12 h12) gCut_all ⟨by decide, by decide⟩ ⟨rfl, rfl⟩ ⟨Nat.zero_le _, Nat.zero_le _⟩ rfl rfl (Nat.le_of_ble_eq_true rfl) 3 0 rfl rfl rfl ?_
        refine g_if_eq (tgt := 24) C dX4_sorts_15 (by decide) (fun c15 => ?_) (fun c15 => ?_)
        · have h := ifp h c15
          refine g_iinc (j := 3) (v := (x3_L4 + (1 : Int32))) (lv' := [(3, .int (x3_L4 + (1 : Int32))), (0, .ref o), (1, .int x1), (2, .int x2_L4)]) C dX4_sorts_24 rfl rfl (by decide) rfl ?_
          refine g_goto (tgt := 4) C dX4_sorts_27 (by decide) ?_
          obtain rfl := sinj h
          refine g_lv [1, 2, 3, 0] rfl ?_
          exact ih4 x2_L4 (x3_L4 + (1 : Int32)) hw4
        · have h := ifn h c15
          refine g_iload_n C dX4_sorts_18 rfl 2 rfl ?_
          refine g_iconst (v := (1 : Int32)) C dX4_sorts_19 (by decide) ?_
          refine g_iload_n C dX4_sorts_20 rfl 3 rfl ?_
          refine g_ishl C dX4_sorts_21 ?_
          refine g_ior C dX4_sorts_22 ?_
          refine g_istore_n (lv' := [(2, .int (x2_L4 ||| ((1 : Int32) <<< (x3_L4 &&& 31)))), (0, .ref o), (1, .int x1), (3, .int x3_L4)]) C dX4_sorts_23 rfl (by decide) rfl ?_
          refine g_iinc (j := 3) (v := (x3_L4 + (1 : Int32))) (lv' := [(3, .int (x3_L4 + (1 : Int32))), (2, .int (x2_L4 ||| ((1 : Int32) <<< (x3_L4 &&& 31)))), (0, .ref o), (1, .int x1)]) C dX4_sorts_24 rfl rfl (by decide) rfl ?_
          refine g_goto (tgt := 4) C dX4_sorts_27 (by decide) ?_
          obtain rfl := sinj h
          refine g_lv [2, 3, 1, 0] rfl ?_
          exact ih4 (x2_L4 ||| ((1 : Int32) <<< (x3_L4 &&& 31))) (x3_L4 + (1 : Int32)) hw4
  refine g_lv [2, 3, 1, 0] rfl ?_
  exact l4 100000 (0 : Int32) (0 : Int32) hW4
def fX4_worstOfTry_L6 (S : Ob) (x1_L6 : Int32) (x2_L6 : Int32) (x3_L6 : Int32) (x4_L6 : Int32) (x5_L6 : Int32) : Option ((Int32 × Int32) ⊕ (Int32)) :=
  (if (5 : Int32) ≤ x5_L6 then some (.inr x4_L6)
 else (if ((x2_L6 >>> (x5_L6 &&& 31)) &&& (1 : Int32)) = 0 then some (.inl (x4_L6, (x5_L6 + (1 : Int32))))
 else ((fX4_wouldKeep S x1_L6 x5_L6 x3_L6).bind (fun r26 => (if r26 = 0 then some (.inl (x4_L6, (x5_L6 + (1 : Int32))))
 else some (.inl ((x4_L6 + (1 : Int32)), (x5_L6 + (1 : Int32)))))))))
def fX4_worstOfTry_J41 (S : Ob) (x2_J41 : Int32) (x4_J41 : Int32) : Option (Int32) :=
  ((fbitCount x2_J41).bind (fun r44 => some (if x4_J41 < (r44 - x4_J41) then (r44 - x4_J41) else x4_J41)))
def fX4_worstOfTry (S : Ob) (x1 : Int32) (x2 : Int32) (x3 : Int32) : Option (Int32) :=
  ((wh (σ := Int32 × Int32) (ρ := Int32) (fun t => fX4_worstOfTry_L6 S x1 x2 x3 t.1 t.2) 100000 ((0 : Int32), (0 : Int32))).bind (fun e4_L6 => fX4_worstOfTry_J41 S x2 e4_L6))
set_option maxHeartbeats 4000000 in
set_option maxRecDepth 100000 in
theorem kX4_worstOfTry (l : Launch) (D : va_G) (cC cI cJ cZ : ClassId) (o : Nat) (a : Nat → Nat) (S : Ob) (x1 : Int32) (x2 : Int32) (x3 : Int32) (r : Int32) (h : fX4_worstOfTry S x1 x2 x3 = some r) : gMi l yX4_worstOfTry cX4_worstOfTry 6 (some .int) (gR 4) D (tysG cC cI cJ cZ) [.ref o, .int x1, .int x2, .int x3] (wTab cI cZ o a S) r (wTab cI cZ o a S) := by
  refine gMi_of (by decide) (Nat.le_of_ble_eq_true rfl) rfl ?_
  intro p e s m args below meth c A Q C hQ
  have j41 : ∀ (x2_J41 : Int32) (x4_J41 : Int32), fX4_worstOfTry_J41 S x2_J41 x4_J41 = some r → gG p l e (gR 4) s m args below meth c 6 D A 0 0 Q 41 [(2, .int x2_J41), (4, .int x4_J41)] [] (wTab cI cZ o a S) := by
    intro x2_J41 x4_J41 h
    unfold fX4_worstOfTry_J41 at h
    refine g_iload C dX4_worstOfTry_41 1 rfl ?_
    refine g_iload_n C dX4_worstOfTry_43 rfl 0 rfl ?_
    obtain ⟨r44, h44, h⟩ := obd h
    refine g_callSi (st := [.int x4_J41]) (ws2 := wTab cI cZ o a S) C ys_J6_bitCount_0f7a4 ml_X4_68 dX4_worstOfTry_44 (kbitCount l D cC cI cJ cZ x2_J41 r44 h44) gCut_nil ⟨by decide, by decide⟩ ⟨rfl, rfl⟩ ⟨Nat.zero_le _, Nat.zero_le _⟩ rfl rfl (Nat.le_of_ble_eq_true rfl) ?_
    refine g_iload C dX4_worstOfTry_47 1 rfl ?_
    refine g_isub C dX4_worstOfTry_49 ?_
    refine g_mmax C dX4_worstOfTry_50 ml_X4_94 mm_st mm_in mm_co (Nat.le_of_ble_eq_true rfl) (Nat.le_of_ble_eq_true rfl) (Nat.zero_le _) (Nat.zero_le _) ?_
    cases sinj h
    exact g_iret C dX4_worstOfTry_53 rfl rfl hQ
  unfold fX4_worstOfTry at h
  refine g_iconst (v := (0 : Int32)) C dX4_worstOfTry_0 (by decide) ?_
  refine g_istore (lv' := [(4, .int (0 : Int32)), (0, .ref o), (1, .int x1), (2, .int x2), (3, .int x3)]) C dX4_worstOfTry_1 (by decide) rfl ?_
  refine g_iconst (v := (0 : Int32)) C dX4_worstOfTry_3 (by decide) ?_
  refine g_istore (lv' := [(5, .int (0 : Int32)), (4, .int (0 : Int32)), (0, .ref o), (1, .int x1), (2, .int x2), (3, .int x3)]) C dX4_worstOfTry_4 (by decide) rfl ?_
  obtain ⟨X6, hW6, hK6⟩ := obd h
  have l6 : ∀ (fu6 : Nat) (x4_L6 : Int32) (x5_L6 : Int32), wh (σ := Int32 × Int32) (ρ := Int32) (fun t => fX4_worstOfTry_L6 S x1 x2 x3 t.1 t.2) fu6 (x4_L6, x5_L6) = some X6 → gG p l e (gR 4) s m args below meth c 6 D A 0 0 Q 6 [(0, .ref o), (1, .int x1), (2, .int x2), (3, .int x3), (4, .int x4_L6), (5, .int x5_L6)] [] (wTab cI cZ o a S) := by
    intro fu6
    induction fu6 with
    | zero => intro x4_L6 x5_L6 hW; exact (wh_0 hW).elim
    | succ fu6 ih6 =>
      intro x4_L6 x5_L6 hW
      obtain ⟨z6, h, hw6⟩ := wh_s hW
      replace h : fX4_worstOfTry_L6 S x1 x2 x3 x4_L6 x5_L6 = some z6 := h
      unfold fX4_worstOfTry_L6 at h
      refine g_iload C dX4_worstOfTry_6 5 rfl ?_
      refine g_iconst (v := (5 : Int32)) C dX4_worstOfTry_8 (by decide) ?_
      refine g_icmp_ge (tgt := 41) C dX4_worstOfTry_9 (by decide) (fun c9 => ?_) (fun c9 => ?_)
      · have h := ifp h c9
        obtain rfl := sinj h
        obtain rfl := wk_r hw6
        have h := hK6
        refine g_lv [2, 4] rfl ?_
        exact j41 x2 x4_L6 h
      · have h := ifn h c9
        refine g_iload_n C dX4_worstOfTry_12 rfl 2 rfl ?_
        refine g_iload C dX4_worstOfTry_13 5 rfl ?_
        refine g_ishr C dX4_worstOfTry_15 ?_
        refine g_iconst (v := (1 : Int32)) C dX4_worstOfTry_16 (by decide) ?_
        refine g_iand C dX4_worstOfTry_17 ?_
        refine g_if_eq (tgt := 35) C dX4_worstOfTry_18 (by decide) (fun c18 => ?_) (fun c18 => ?_)
        · have h := ifp h c18
          refine g_iinc (j := 5) (v := (x5_L6 + (1 : Int32))) (lv' := [(5, .int (x5_L6 + (1 : Int32))), (0, .ref o), (1, .int x1), (2, .int x2), (3, .int x3), (4, .int x4_L6)]) C dX4_worstOfTry_35 rfl rfl (by decide) rfl ?_
          refine g_goto (tgt := 6) C dX4_worstOfTry_38 (by decide) ?_
          obtain rfl := sinj h
          refine g_lv [1, 2, 3, 4, 5, 0] rfl ?_
          exact ih6 x4_L6 (x5_L6 + (1 : Int32)) hw6
        · have h := ifn h c18
          refine g_aload_n C dX4_worstOfTry_21 rfl 0 rfl ?_
          refine g_iload_n C dX4_worstOfTry_22 rfl 1 rfl ?_
          refine g_iload C dX4_worstOfTry_23 5 rfl ?_
          refine g_iload_n C dX4_worstOfTry_25 rfl 3 rfl ?_
          obtain ⟨r26, h26, h⟩ := obd h
          refine g_callVi (st := []) (ws2 := wTab cI cZ o a S) C yv_X4_wouldKeep ml_X4_77 dX4_worstOfTry_26 (kX4_wouldKeep l D cC cI cJ cZ o a S x1 x5_L6 x3 r26 h26) gCut_all ⟨by decide, by decide⟩ ⟨rfl, rfl⟩ ⟨Nat.zero_le _, Nat.zero_le _⟩ rfl rfl (Nat.le_of_ble_eq_true rfl) 3 0 rfl rfl rfl ?_
          refine g_if_eq (tgt := 35) C dX4_worstOfTry_29 (by decide) (fun c29 => ?_) (fun c29 => ?_)
          · have h := ifp h c29
            refine g_iinc (j := 5) (v := (x5_L6 + (1 : Int32))) (lv' := [(5, .int (x5_L6 + (1 : Int32))), (0, .ref o), (1, .int x1), (2, .int x2), (3, .int x3), (4, .int x4_L6)]) C dX4_worstOfTry_35 rfl rfl (by decide) rfl ?_
            refine g_goto (tgt := 6) C dX4_worstOfTry_38 (by decide) ?_
            obtain rfl := sinj h
            refine g_lv [1, 2, 3, 4, 5, 0] rfl ?_
            exact ih6 x4_L6 (x5_L6 + (1 : Int32)) hw6
          · have h := ifn h c29
            refine g_iinc (j := 4) (v := (x4_L6 + (1 : Int32))) (lv' := [(4, .int (x4_L6 + (1 : Int32))), (0, .ref o), (1, .int x1), (2, .int x2), (3, .int x3), (5, .int x5_L6)]) C dX4_worstOfTry_32 rfl rfl (by decide) rfl ?_
            refine g_iinc (j := 5) (v := (x5_L6 + (1 : Int32))) (lv' := [(5, .int (x5_L6 + (1 : Int32))), (4, .int (x4_L6 + (1 : Int32))), (0, .ref o), (1, .int x1), (2, .int x2), (3, .int x3)]) C dX4_worstOfTry_35 rfl rfl (by decide) rfl ?_
            refine g_goto (tgt := 6) C dX4_worstOfTry_38 (by decide) ?_
            obtain rfl := sinj h
            refine g_lv [2, 3, 4, 5, 1, 0] rfl ?_
            exact ih6 (x4_L6 + (1 : Int32)) (x5_L6 + (1 : Int32)) hw6
  refine g_lv [2, 3, 4, 5, 1, 0] rfl ?_
  exact l6 100000 (0 : Int32) (0 : Int32) hW6
def fX4_nextTry_L24 (S : Ob) (x1_L24 : Int32) (x2_L24 : Int32) (x3_L24 : Int32) (x4_L24 : Int32) (x5_L24 : Int32) : Option ((Int32 × Int32 × Int32) ⊕ (Int32)) :=
  ((fX4_length S x1_L24).bind (fun r29 => (if ((1 : Int32) <<< (r29 &&& 31)) ≤ x5_L24 then some (.inr x3_L24)
 else ((fX4_worstOfTry S x1_L24 x2_L24 x5_L24).bind (fun r41 => (if x3_L24 = (-1 : Int32) then some (.inl (x5_L24, r41, (x5_L24 + (1 : Int32))))
 else (if x4_L24 ≤ r41 then some (.inl (x3_L24, x4_L24, (x5_L24 + (1 : Int32))))
 else some (.inl (x5_L24, r41, (x5_L24 + (1 : Int32)))))))))))
def fX4_nextTry_J71 (S : Ob) (x3_J71 : Int32) : Option (Int32) :=
  some x3_J71
def fX4_nextTry (S : Ob) (x1 : Int32) : Option (Int32) :=
  ((fX4_sorts S x1).bind (fun r2 => ((fbitCount r2).bind (fun r9 => (if r9 = 0 then some (-1 : Int32)
 else ((wh (σ := Int32 × Int32 × Int32) (ρ := Int32) (fun t => fX4_nextTry_L24 S x1 r2 t.1 t.2.1 t.2.2) 100000 ((-1 : Int32), r9, (0 : Int32))).bind (fun e3_L24 => fX4_nextTry_J71 S e3_L24)))))))
set_option maxHeartbeats 4000000 in
set_option maxRecDepth 100000 in
theorem kX4_nextTry (l : Launch) (D : va_G) (cC cI cJ cZ : ClassId) (o : Nat) (a : Nat → Nat) (S : Ob) (x1 : Int32) (r : Int32) (h : fX4_nextTry S x1 = some r) : gMi l yX4_nextTry cX4_nextTry 7 (some .int) (gR 6) D (tysG cC cI cJ cZ) [.ref o, .int x1] (wTab cI cZ o a S) r (wTab cI cZ o a S) := by
  refine gMi_of (by decide) (Nat.le_of_ble_eq_true rfl) rfl ?_
  intro p e s m args below meth c A Q C hQ
  have j71 : ∀ (x3_J71 : Int32), fX4_nextTry_J71 S x3_J71 = some r → gG p l e (gR 6) s m args below meth c 7 D A 0 0 Q 71 [(3, .int x3_J71)] [] (wTab cI cZ o a S) := by
    intro x3_J71 h
    unfold fX4_nextTry_J71 at h
    refine g_iload_n C dX4_nextTry_71 rfl 0 rfl ?_
    cases sinj h
    exact g_iret C dX4_nextTry_72 rfl rfl hQ
  unfold fX4_nextTry at h
  refine g_aload_n C dX4_nextTry_0 rfl 0 rfl ?_
  refine g_iload_n C dX4_nextTry_1 rfl 1 rfl ?_
  obtain ⟨r2, h2, h⟩ := obd h
  refine g_callVi (st := []) (ws2 := wTab cI cZ o a S) C yv_X4_sorts ml_X4_87 dX4_nextTry_2 (kX4_sorts l D cC cI cJ cZ o a S x1 r2 h2) gCut_all ⟨by decide, by decide⟩ ⟨rfl, rfl⟩ ⟨Nat.zero_le _, Nat.zero_le _⟩ rfl rfl (Nat.le_of_ble_eq_true rfl) 3 0 rfl rfl rfl ?_
  refine g_istore_n (lv' := [(2, .int r2), (0, .ref o), (1, .int x1)]) C dX4_nextTry_5 rfl (by decide) rfl ?_
  refine g_iconst (v := (-1 : Int32)) C dX4_nextTry_6 (by decide) ?_
  refine g_istore_n (lv' := [(3, .int (-1 : Int32)), (2, .int r2), (0, .ref o), (1, .int x1)]) C dX4_nextTry_7 rfl (by decide) rfl ?_
  refine g_iload_n C dX4_nextTry_8 rfl 1 rfl ?_
  obtain ⟨r9, h9, h⟩ := obd h
  refine g_callSi (st := []) (ws2 := wTab cI cZ o a S) C ys_J6_bitCount_0f7a4 ml_X4_68 dX4_nextTry_9 (kbitCount l D cC cI cJ cZ r2 r9 h9) gCut_nil ⟨by decide, by decide⟩ ⟨rfl, rfl⟩ ⟨Nat.zero_le _, Nat.zero_le _⟩ rfl rfl (Nat.le_of_ble_eq_true rfl) ?_
  refine g_istore (lv' := [(4, .int r9), (3, .int (-1 : Int32)), (2, .int r2), (0, .ref o), (1, .int x1)]) C dX4_nextTry_12 (by decide) rfl ?_
  refine g_iload C dX4_nextTry_14 0 rfl ?_
  refine g_if_ne (tgt := 21) C dX4_nextTry_16 (by decide) (fun c16 => ?_) (fun c16 => ?_)
  · have h := ifn h c16
    refine g_iconst (v := (0 : Int32)) C dX4_nextTry_21 (by decide) ?_
    refine g_istore (lv' := [(5, .int (0 : Int32)), (4, .int r9), (3, .int (-1 : Int32)), (2, .int r2), (0, .ref o), (1, .int x1)]) C dX4_nextTry_22 (by decide) rfl ?_
    obtain ⟨X24, hW24, hK24⟩ := obd h
    have l24 : ∀ (fu24 : Nat) (x3_L24 : Int32) (x4_L24 : Int32) (x5_L24 : Int32), wh (σ := Int32 × Int32 × Int32) (ρ := Int32) (fun t => fX4_nextTry_L24 S x1 r2 t.1 t.2.1 t.2.2) fu24 (x3_L24, x4_L24, x5_L24) = some X24 → gG p l e (gR 6) s m args below meth c 7 D A 0 0 Q 24 [(0, .ref o), (1, .int x1), (2, .int r2), (3, .int x3_L24), (4, .int x4_L24), (5, .int x5_L24)] [] (wTab cI cZ o a S) := by
      intro fu24
      induction fu24 with
      | zero => intro x3_L24 x4_L24 x5_L24 hW; exact (wh_0 hW).elim
      | succ fu24 ih24 =>
        intro x3_L24 x4_L24 x5_L24 hW
        obtain ⟨z24, h, hw24⟩ := wh_s hW
        replace h : fX4_nextTry_L24 S x1 r2 x3_L24 x4_L24 x5_L24 = some z24 := h
        unfold fX4_nextTry_L24 at h
        refine g_iload C dX4_nextTry_24 5 rfl ?_
        refine g_iconst (v := (1 : Int32)) C dX4_nextTry_26 (by decide) ?_
        refine g_aload_n C dX4_nextTry_27 rfl 0 rfl ?_
        refine g_iload_n C dX4_nextTry_28 rfl 1 rfl ?_
        obtain ⟨r29, h29, h⟩ := obd h
        refine g_callVi (st := [.int (1 : Int32), .int x5_L24]) (ws2 := wTab cI cZ o a S) C yv_X4_length ml_X4_57 dX4_nextTry_29 (kX4_length l D cC cI cJ cZ o a S x1 r29 h29) gCut_all ⟨by decide, by decide⟩ ⟨rfl, rfl⟩ ⟨Nat.zero_le _, Nat.zero_le _⟩ rfl rfl (Nat.le_of_ble_eq_true rfl) 3 0 rfl rfl rfl ?_
        refine g_ishl C dX4_nextTry_32 ?_
        refine g_icmp_ge (tgt := 71) C dX4_nextTry_33 (by decide) (fun c33 => ?_) (fun c33 => ?_)
        · have h := ifp h c33
          obtain rfl := sinj h
          obtain rfl := wk_r hw24
          have h := hK24
          refine g_lv [3] rfl ?_
          exact j71 x3_L24 h
        · have h := ifn h c33
          refine g_aload_n C dX4_nextTry_36 rfl 0 rfl ?_
          refine g_iload_n C dX4_nextTry_37 rfl 1 rfl ?_
          refine g_iload_n C dX4_nextTry_38 rfl 2 rfl ?_
          refine g_iload C dX4_nextTry_39 5 rfl ?_
          obtain ⟨r41, h41, h⟩ := obd h
          refine g_callVi (st := []) (ws2 := wTab cI cZ o a S) C yv_X4_worstOfTry ml_X4_90 dX4_nextTry_41 (kX4_worstOfTry l D cC cI cJ cZ o a S x1 r2 x5_L24 r41 h41) gCut_all ⟨by decide, by decide⟩ ⟨rfl, rfl⟩ ⟨Nat.zero_le _, Nat.zero_le _⟩ rfl rfl (Nat.le_of_ble_eq_true rfl) 3 0 rfl rfl rfl ?_
          refine g_istore (lv' := [(6, .int r41), (0, .ref o), (1, .int x1), (2, .int r2), (3, .int x3_L24), (4, .int x4_L24), (5, .int x5_L24)]) C dX4_nextTry_44 (by decide) rfl ?_
          refine g_iload_n C dX4_nextTry_46 rfl 4 rfl ?_
          refine g_iconst (v := (-1 : Int32)) C dX4_nextTry_47 (by decide) ?_
          refine g_icmp_eq (tgt := 58) C dX4_nextTry_48 (by decide) (fun c48 => ?_) (fun c48 => ?_)
          · have h := ifp h c48
            refine g_iload C dX4_nextTry_58 6 rfl ?_
            refine g_istore_n (lv' := [(3, .int x5_L24), (6, .int r41), (0, .ref o), (1, .int x1), (2, .int r2), (4, .int x4_L24), (5, .int x5_L24)]) C dX4_nextTry_60 rfl (by decide) rfl ?_
            refine g_iload C dX4_nextTry_61 1 rfl ?_
            refine g_istore (lv' := [(4, .int r41), (3, .int x5_L24), (6, .int r41), (0, .ref o), (1, .int x1), (2, .int r2), (5, .int x5_L24)]) C dX4_nextTry_63 (by decide) rfl ?_
            refine g_iinc (j := 6) (v := (x5_L24 + (1 : Int32))) (lv' := [(5, .int (x5_L24 + (1 : Int32))), (4, .int r41), (3, .int x5_L24), (6, .int r41), (0, .ref o), (1, .int x1), (2, .int r2)]) C dX4_nextTry_65 rfl rfl (by decide) rfl ?_
            refine g_goto (tgt := 24) C dX4_nextTry_68 (by decide) ?_
            obtain rfl := sinj h
            refine g_lv [4, 5, 6, 2, 1, 0] rfl ?_
            exact ih24 x5_L24 r41 (x5_L24 + (1 : Int32)) hw24
          · have h := ifn h c48
            refine g_iload C dX4_nextTry_51 0 rfl ?_
            refine g_iload C dX4_nextTry_53 5 rfl ?_
            refine g_icmp_ge (tgt := 65) C dX4_nextTry_55 (by decide) (fun c55 => ?_) (fun c55 => ?_)
            · have h := ifp h c55
              refine g_iinc (j := 6) (v := (x5_L24 + (1 : Int32))) (lv' := [(5, .int (x5_L24 + (1 : Int32))), (6, .int r41), (0, .ref o), (1, .int x1), (2, .int r2), (3, .int x3_L24), (4, .int x4_L24)]) C dX4_nextTry_65 rfl rfl (by decide) rfl ?_
              refine g_goto (tgt := 24) C dX4_nextTry_68 (by decide) ?_
              obtain rfl := sinj h
              refine g_lv [2, 3, 4, 5, 6, 0] rfl ?_
              exact ih24 x3_L24 x4_L24 (x5_L24 + (1 : Int32)) hw24
            · have h := ifn h c55
              refine g_iload C dX4_nextTry_58 6 rfl ?_
              refine g_istore_n (lv' := [(3, .int x5_L24), (6, .int r41), (0, .ref o), (1, .int x1), (2, .int r2), (4, .int x4_L24), (5, .int x5_L24)]) C dX4_nextTry_60 rfl (by decide) rfl ?_
              refine g_iload C dX4_nextTry_61 1 rfl ?_
              refine g_istore (lv' := [(4, .int r41), (3, .int x5_L24), (6, .int r41), (0, .ref o), (1, .int x1), (2, .int r2), (5, .int x5_L24)]) C dX4_nextTry_63 (by decide) rfl ?_
              refine g_iinc (j := 6) (v := (x5_L24 + (1 : Int32))) (lv' := [(5, .int (x5_L24 + (1 : Int32))), (4, .int r41), (3, .int x5_L24), (6, .int r41), (0, .ref o), (1, .int x1), (2, .int r2)]) C dX4_nextTry_65 rfl rfl (by decide) rfl ?_
              refine g_goto (tgt := 24) C dX4_nextTry_68 (by decide) ?_
              obtain rfl := sinj h
              refine g_lv [4, 5, 6, 2, 1, 0] rfl ?_
              exact ih24 x5_L24 r41 (x5_L24 + (1 : Int32)) hw24
    refine g_lv [4, 5, 3, 2, 1, 0] rfl ?_
    exact l24 100000 (-1 : Int32) r9 (0 : Int32) hW24
  · have h := ifp h c16
    refine g_iconst (v := (-1 : Int32)) C dX4_nextTry_19 (by decide) ?_
    cases sinj h
    exact g_iret C dX4_nextTry_20 rfl rfl hQ
