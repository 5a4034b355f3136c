def fX6_isCell (M : OM) (x1 : Int32) : Option (Int32) :=
  ((fX6_in x1.toInt64 (0 : Int64) ((((M.1 9) * (M.1 10)) - (1 : Int32)).toInt64)).bind (fun r15 => (if okZ r15 = true then some r15 else none)))
set_option maxHeartbeats 4000000 in
set_option maxRecDepth 100000 in
theorem kX6_isCell (l : Launch) (D : va_G) (cC cI cJ cZ : ClassId) (o : Nat) (a : Nat → Nat) (M : OM) (x1 : Int32) (r : Int32) (h : fX6_isCell M x1 = some r) : gMi l yX6_isCell cX6_isCell 2 (some .boolean) (gR 2) D (tysG cC cI cJ cZ) [.ref o, .int x1] (wMod cI cJ o a M) r (wMod cI cJ o a M) := by
  refine gMi_of (by decide) (Nat.le_of_ble_eq_true rfl) rfl ?_
  intro p e s m args below meth c A Q C hQ
  unfold fX6_isCell at h
  refine g_iload_n C dX6_isCell_0 rfl 1 rfl ?_
  refine g_i2l C dX6_isCell_1 ?_
  refine g_lconst (v := (0 : Int64)) C dX6_isCell_2 (by decide) ?_
  refine g_aload_n C dX6_isCell_3 rfl 0 rfl ?_
  refine g_get (v := .int (M.1 9)) C fl_X6_141 dX6_isCell_4 0 rfl rfl ?_
  refine g_aload_n C dX6_isCell_7 rfl 0 rfl ?_
  refine g_get (v := .int (M.1 10)) C fl_X6_144 dX6_isCell_8 0 rfl rfl ?_
  refine g_imul C dX6_isCell_11 ?_
  refine g_iconst (v := (1 : Int32)) C dX6_isCell_12 (by decide) ?_
  refine g_isub C dX6_isCell_13 ?_
  refine g_i2l C dX6_isCell_14 ?_
  obtain ⟨r15, h15, h⟩ := obd h
  refine g_callSi (st := []) (ws2 := wMod cI cJ o a M) C ys_X6_in ml_X6_78 dX6_isCell_15 (kX6_in l D cC cI cJ cZ x1.toInt64 (0 : Int64) ((((M.1 9) * (M.1 10)) - (1 : Int32)).toInt64) r15 h15) gCut_nil ⟨by decide, by decide⟩ ⟨rfl, rfl⟩ ⟨Nat.zero_le _, Nat.zero_le _⟩ rfl rfl (Nat.le_of_ble_eq_true rfl) ?_
  obtain ⟨hz18, h⟩ := ifg h
  cases sinj h
  exact g_zret C dX6_isCell_18 (okZ_n hz18) rfl rfl hQ
def fX6_cellsOf (M : OM) (x1 : Int32) : Option (Int32) :=
  (if (M.1 9) ≤ x1 then some (M.1 9)
 else some (M.1 10))
set_option maxHeartbeats 4000000 in
set_option maxRecDepth 100000 in
theorem kX6_cellsOf (l : Launch) (D : va_G) (cC cI cJ cZ : ClassId) (o : Nat) (a : Nat → Nat) (M : OM) (x1 : Int32) (r : Int32) (h : fX6_cellsOf M x1 = some r) : gMi l yX6_cellsOf cX6_cellsOf 2 (some .int) (gR 1) D (tysG cC cI cJ cZ) [.ref o, .int x1] (wMod cI cJ o a M) r (wMod cI cJ o a M) := by
  refine gMi_of (by decide) (Nat.le_of_ble_eq_true rfl) rfl ?_
  intro p e s m args below meth c A Q C hQ
  unfold fX6_cellsOf at h
  refine g_iload_n C dX6_cellsOf_0 rfl 1 rfl ?_
  refine g_aload_n C dX6_cellsOf_1 rfl 0 rfl ?_
  refine g_get (v := .int (M.1 9)) C fl_X6_141 dX6_cellsOf_2 0 rfl rfl ?_
  refine g_icmp_ge (tgt := 15) C dX6_cellsOf_5 (by decide) (fun c5 => ?_) (fun c5 => ?_)
  · have h := ifp h c5
    refine g_aload_n C dX6_cellsOf_15 rfl 0 rfl ?_
    refine g_get (v := .int (M.1 9)) C fl_X6_141 dX6_cellsOf_16 0 rfl rfl ?_
    cases sinj h
    exact g_iret C dX6_cellsOf_19 rfl rfl hQ
  · have h := ifn h c5
    refine g_aload_n C dX6_cellsOf_8 rfl 0 rfl ?_
    refine g_get (v := .int (M.1 10)) C fl_X6_144 dX6_cellsOf_9 0 rfl rfl ?_
    refine g_goto (tgt := 19) C dX6_cellsOf_12 (by decide) ?_
    cases sinj h
    exact g_iret C dX6_cellsOf_19 rfl rfl hQ
def fX6_layRuns_J95 (x1_L24 : Int32) (x2_J95 : Int32) (x3_J95 : Int32) (s0_J95 : Int32) (M_J95 : OM) : Option ((Int32 × Int32 × OM) ⊕ (OM)) :=
  (if x2_J95 ≤ (M_J95.1 17) then some (.inl ((0 : Int32), (x3_J95 + (1 : Int32)), ((va_up (va_up M_J95.1 17 (M_J95.1 17)) 19 s0_J95), M_J95.2.1, M_J95.2.2.1, M_J95.2.2.2)))
 else some (.inl ((0 : Int32), (x3_J95 + (1 : Int32)), ((va_up (va_up M_J95.1 17 x2_J95) 19 s0_J95), M_J95.2.1, M_J95.2.2.1, M_J95.2.2.2))))
def fX6_layRuns_J75 (x1_L24 : Int32) (x2_J75 : Int32) (x3_J75 : Int32) (s0_J75 : Int32) (M_J75 : OM) : Option ((Int32 × Int32 × OM) ⊕ (OM)) :=
  (if (M_J75.1 16) = (2 : Int32) then fX6_layRuns_J95 x1_L24 x2_J75 x3_J75 x2_J75 ((va_up M_J75.1 18 s0_J75), M_J75.2.1, M_J75.2.2.1, M_J75.2.2.2)
 else fX6_layRuns_J95 x1_L24 x2_J75 x3_J75 (M_J75.1 19) ((va_up M_J75.1 18 s0_J75), M_J75.2.1, M_J75.2.2.1, M_J75.2.2.2))
def fX6_layRuns_L24 (x1_L24 : Int32) (x2_L24 : Int32) (x3_L24 : Int32) (M_L24 : OM) : Option ((Int32 × Int32 × OM) ⊕ (OM)) :=
  (if (5 : Int32) ≤ x3_L24 then some (.inr M_L24)
 else (if ((x1_L24 >>> (x3_L24 &&& 31)) &&& (1 : Int32)) = (1 : Int32) then some (.inl ((x2_L24 + (1 : Int32)), (x3_L24 + (1 : Int32)), M_L24))
 else (if x2_L24 ≤ 0 then some (.inl ((0 : Int32), (x3_L24 + (1 : Int32)), M_L24))
 else (if ((M_L24.1 16) + (1 : Int32)) = (1 : Int32) then fX6_layRuns_J75 x1_L24 x2_L24 x3_L24 x2_L24 ((va_up M_L24.1 16 ((M_L24.1 16) + (1 : Int32))), M_L24.2.1, M_L24.2.2.1, M_L24.2.2.2)
 else fX6_layRuns_J75 x1_L24 x2_L24 x3_L24 (M_L24.1 18) ((va_up M_L24.1 16 ((M_L24.1 16) + (1 : Int32))), M_L24.2.1, M_L24.2.2.1, M_L24.2.2.2)))))
def fX6_layRuns_J126 (M_J126 : OM) : Option (OM) :=
  some M_J126
def fX6_layRuns (M : OM) (x1 : Int32) : Option (OM) :=
  ((wh (σ := Int32 × Int32 × OM) (ρ := OM) (fun t => fX6_layRuns_L24 x1 t.1 t.2.1 t.2.2) 100000 ((0 : Int32), (0 : Int32), ((va_up (va_up (va_up (va_up M.1 16 (0 : Int32)) 17 (0 : Int32)) 18 (0 : Int32)) 19 (0 : Int32)), M.2.1, M.2.2.1, M.2.2.2))).bind (fun M_E24 => fX6_layRuns_J126 M_E24))
set_option maxHeartbeats 4000000 in
set_option maxRecDepth 100000 in
theorem kX6_layRuns (l : Launch) (D : va_G) (cC cI cJ cZ : ClassId) (o : Nat) (a : Nat → Nat) (M : OM) (x1 : Int32) (M' : OM) (h : fX6_layRuns M x1 = some M') : gMv l yX6_layRuns cX6_layRuns 4 none (gR 1) D (tysG cC cI cJ cZ) [.ref o, .int x1] (wMod cI cJ o a M) (wMod cI cJ o a M') := by
  refine gMv_of (by decide) (Nat.le_of_ble_eq_true rfl) rfl ?_
  intro p e s m args below meth c A Q C hQ
  have j126 : ∀ (M_J126 : OM), fX6_layRuns_J126 M_J126 = some M' → gG p l e (gR 1) s m args below meth c 4 D A 0 0 Q 126 [] [] (wMod cI cJ o a M_J126) := by
    intro M_J126 h
    unfold fX6_layRuns_J126 at h
    cases sinj h
    exact g_vret C dX6_layRuns_126 rfl hQ
  unfold fX6_layRuns at h
  refine g_aload_n C dX6_layRuns_0 rfl 0 rfl ?_
  refine g_iconst (v := (0 : Int32)) C dX6_layRuns_1 (by decide) ?_
  refine g_put (ws2 := wMod cI cJ o a ((va_up M.1 16 (0 : Int32)), M.2.1, M.2.2.1, M.2.2.2)) C fp_X6_157 dX6_layRuns_2 0 rfl rfl rfl (Nat.le_of_ble_eq_true rfl) rfl ?_
  refine g_aload_n C dX6_layRuns_5 rfl 0 rfl ?_
  refine g_iconst (v := (0 : Int32)) C dX6_layRuns_6 (by decide) ?_
  refine g_put (ws2 := wMod cI cJ o a ((va_up (va_up M.1 16 (0 : Int32)) 17 (0 : Int32)), M.2.1, M.2.2.1, M.2.2.2)) C fp_X6_160 dX6_layRuns_7 0 rfl rfl rfl (Nat.le_of_ble_eq_true rfl) rfl ?_
  refine g_aload_n C dX6_layRuns_10 rfl 0 rfl ?_
  refine g_iconst (v := (0 : Int32)) C dX6_layRuns_11 (by decide) ?_
  refine g_put (ws2 := wMod cI cJ o a ((va_up (va_up (va_up M.1 16 (0 : Int32)) 17 (0 : Int32)) 18 (0 : Int32)), M.2.1, M.2.2.1, M.2.2.2)) C fp_X6_163 dX6_layRuns_12 0 rfl rfl rfl (Nat.le_of_ble_eq_true rfl) rfl ?_
  refine g_aload_n C dX6_layRuns_15 rfl 0 rfl ?_
  refine g_iconst (v := (0 : Int32)) C dX6_layRuns_16 (by decide) ?_
  refine g_put (ws2 := wMod cI cJ o a ((va_up (va_up (va_up (va_up M.1 16 (0 : Int32)) 17 (0 : Int32)) 18 (0 : Int32)) 19 (0 : Int32)), M.2.1, M.2.2.1, M.2.2.2)) C fp_X6_166 dX6_layRuns_17 0 rfl rfl rfl (Nat.le_of_ble_eq_true rfl) rfl ?_
  refine g_iconst (v := (0 : Int32)) C dX6_layRuns_20 (by decide) ?_
  refine g_istore_n (lv' := [(2, .int (0 : Int32)), (0, .ref o), (1, .int x1)]) C dX6_layRuns_21 rfl (by decide) rfl ?_
  refine g_iconst (v := (0 : Int32)) C dX6_layRuns_22 (by decide) ?_
  refine g_istore_n (lv' := [(3, .int (0 : Int32)), (2, .int (0 : Int32)), (0, .ref o), (1, .int x1)]) C dX6_layRuns_23 rfl (by decide) rfl ?_
  obtain ⟨X24, hW24, hK24⟩ := obd h
  have l24 : ∀ (fu24 : Nat) (x2_L24 : Int32) (x3_L24 : Int32) (M_L24 : OM), wh (σ := Int32 × Int32 × OM) (ρ := OM) (fun t => fX6_layRuns_L24 x1 t.1 t.2.1 t.2.2) fu24 (x2_L24, x3_L24, M_L24) = some X24 → gG p l e (gR 1) s m args below meth c 4 D A 0 0 Q 24 [(0, .ref o), (1, .int x1), (2, .int x2_L24), (3, .int x3_L24)] [] (wMod cI cJ o a M_L24) := by
    intro fu24
    induction fu24 with
    | zero => intro x2_L24 x3_L24 M_L24 hW; exact (wh_0 hW).elim
    | succ fu24 ih24 =>
      intro x2_L24 x3_L24 M_L24 hW
      obtain ⟨z24, h, hw24⟩ := wh_s hW
      have j95 : ∀ (x2_J95 : Int32) (x3_J95 : Int32) (s0_J95 : Int32) (M_J95 : OM) (z24 : (Int32 × Int32 × OM) ⊕ (OM)), fX6_layRuns_J95 x1 x2_J95 x3_J95 s0_J95 M_J95 = some z24 → wk (fun t => fX6_layRuns_L24 x1 t.1 t.2.1 t.2.2) fu24 z24 = some X24 → gG p l e (gR 1) s m args below meth c 4 D A 0 0 Q 95 [(0, .ref o), (1, .int x1), (2, .int x2_J95), (3, .int x3_J95)] [.int s0_J95, .ref o] (wMod cI cJ o a M_J95) := by
        intro x2_J95 x3_J95 s0_J95 M_J95 z24 h hw24
        unfold fX6_layRuns_J95 at h
        refine g_put (ws2 := wMod cI cJ o a ((va_up M_J95.1 19 s0_J95), M_J95.2.1, M_J95.2.2.1, M_J95.2.2.2)) C fp_X6_166 dX6_layRuns_95 0 rfl rfl rfl (Nat.le_of_ble_eq_true rfl) rfl ?_
        refine g_aload_n C dX6_layRuns_98 rfl 0 rfl ?_
        refine g_iload_n C dX6_layRuns_99 rfl 2 rfl ?_
        refine g_aload_n C dX6_layRuns_100 rfl 0 rfl ?_
        refine g_get (v := .int (M_J95.1 17)) C fl_X6_160 dX6_layRuns_101 0 rfl rfl ?_
        refine g_icmp_le (tgt := 111) C dX6_layRuns_104 (by decide) (fun c104 => ?_) (fun c104 => ?_)
        · have h := ifp h c104
          refine g_aload_n C dX6_layRuns_111 rfl 0 rfl ?_
          refine g_get (v := .int (M_J95.1 17)) C fl_X6_160 dX6_layRuns_112 0 rfl rfl ?_
          refine g_put (ws2 := wMod cI cJ o a ((va_up (va_up M_J95.1 17 (M_J95.1 17)) 19 s0_J95), M_J95.2.1, M_J95.2.2.1, M_J95.2.2.2)) C fp_X6_160 dX6_layRuns_115 0 rfl rfl rfl (Nat.le_of_ble_eq_true rfl) rfl ?_
          refine g_iconst (v := (0 : Int32)) C dX6_layRuns_118 (by decide) ?_
          refine g_istore_n (lv' := [(2, .int (0 : Int32)), (0, .ref o), (1, .int x1), (3, .int x3_J95)]) C dX6_layRuns_119 rfl (by decide) rfl ?_
          refine g_iinc (j := 3) (v := (x3_J95 + (1 : Int32))) (lv' := [(3, .int (x3_J95 + (1 : Int32))), (2, .int (0 : Int32)), (0, .ref o), (1, .int x1)]) C dX6_layRuns_120 rfl rfl (by decide) rfl ?_
          refine g_goto (tgt := 24) C dX6_layRuns_123 (by decide) ?_
          obtain rfl := sinj h
          refine g_lv [2, 3, 1, 0] rfl ?_
          exact ih24 (0 : Int32) (x3_J95 + (1 : Int32)) ((va_up (va_up M_J95.1 17 (M_J95.1 17)) 19 s0_J95), M_J95.2.1, M_J95.2.2.1, M_J95.2.2.2) hw24
        · have h := ifn h c104
          refine g_iload_n C dX6_layRuns_107 rfl 2 rfl ?_
          refine g_goto (tgt := 115) C dX6_layRuns_108 (by decide) ?_
          refine g_put (ws2 := wMod cI cJ o a ((va_up (va_up M_J95.1 17 x2_J95) 19 s0_J95), M_J95.2.1, M_J95.2.2.1, M_J95.2.2.2)) C fp_X6_160 dX6_layRuns_115 0 rfl rfl rfl (Nat.le_of_ble_eq_true rfl) rfl ?_
          refine g_iconst (v := (0 : Int32)) C dX6_layRuns_118 (by decide) ?_
          refine g_istore_n (lv' := [(2, .int (0 : Int32)), (0, .ref o), (1, .int x1), (3, .int x3_J95)]) C dX6_layRuns_119 rfl (by decide) rfl ?_
          refine g_iinc (j := 3) (v := (x3_J95 + (1 : Int32))) (lv' := [(3, .int (x3_J95 + (1 : Int32))), (2, .int (0 : Int32)), (0, .ref o), (1, .int x1)]) C dX6_layRuns_120 rfl rfl (by decide) rfl ?_
          refine g_goto (tgt := 24) C dX6_layRuns_123 (by decide) ?_
          obtain rfl := sinj h
          refine g_lv [2, 3, 1, 0] rfl ?_
          exact ih24 (0 : Int32) (x3_J95 + (1 : Int32)) ((va_up (va_up M_J95.1 17 x2_J95) 19 s0_J95), M_J95.2.1, M_J95.2.2.1, M_J95.2.2.2) hw24
      have j75 : ∀ (x2_J75 : Int32) (x3_J75 : Int32) (s0_J75 : Int32) (M_J75 : OM) (z24 : (Int32 × Int32 × OM) ⊕ (OM)), fX6_layRuns_J75 x1 x2_J75 x3_J75 s0_J75 M_J75 = some z24 → wk (fun t => fX6_layRuns_L24 x1 t.1 t.2.1 t.2.2) fu24 z24 = some X24 → gG p l e (gR 1) s m args below meth c 4 D A 0 0 Q 75 [(0, .ref o), (1, .int x1), (2, .int x2_J75), (3, .int x3_J75)] [.int s0_J75, .ref o] (wMod cI cJ o a M_J75) := by
        intro x2_J75 x3_J75 s0_J75 M_J75 z24 h hw24
        unfold fX6_layRuns_J75 at h
        refine g_put (ws2 := wMod cI cJ o a ((va_up M_J75.1 18 s0_J75), M_J75.2.1, M_J75.2.2.1, M_J75.2.2.2)) C fp_X6_163 dX6_layRuns_75 0 rfl rfl rfl (Nat.le_of_ble_eq_true rfl) rfl ?_
        refine g_aload_n C dX6_layRuns_78 rfl 0 rfl ?_
        refine g_aload_n C dX6_layRuns_79 rfl 0 rfl ?_
        refine g_get (v := .int (M_J75.1 16)) C fl_X6_157 dX6_layRuns_80 0 rfl rfl ?_
        refine g_iconst (v := (2 : Int32)) C dX6_layRuns_83 (by decide) ?_
        refine g_icmp_ne (tgt := 91) C dX6_layRuns_84 (by decide) (fun c84 => ?_) (fun c84 => ?_)
        · have h := ifn h c84
          refine g_aload_n C dX6_layRuns_91 rfl 0 rfl ?_
          refine g_get (v := .int (M_J75.1 19)) C fl_X6_166 dX6_layRuns_92 0 rfl rfl ?_
          refine g_lv [0, 1, 2, 3] rfl ?_
          exact j95 x2_J75 x3_J75 (M_J75.1 19) ((va_up M_J75.1 18 s0_J75), M_J75.2.1, M_J75.2.2.1, M_J75.2.2.2) _ h hw24
        · have h := ifp h c84
          refine g_iload_n C dX6_layRuns_87 rfl 2 rfl ?_
          refine g_goto (tgt := 95) C dX6_layRuns_88 (by decide) ?_
          refine g_lv [0, 1, 2, 3] rfl ?_
          exact j95 x2_J75 x3_J75 x2_J75 ((va_up M_J75.1 18 s0_J75), M_J75.2.1, M_J75.2.2.1, M_J75.2.2.2) _ h hw24
      replace h : fX6_layRuns_L24 x1 x2_L24 x3_L24 M_L24 = some z24 := h
      unfold fX6_layRuns_L24 at h
      refine g_iload_n C dX6_layRuns_24 rfl 3 rfl ?_
      refine g_iconst (v := (5 : Int32)) C dX6_layRuns_25 (by decide) ?_
      refine g_icmp_ge (tgt := 126) C dX6_layRuns_26 (by decide) (fun c26 => ?_) (fun c26 => ?_)
      · have h := ifp h c26
        obtain rfl := sinj h
        obtain rfl := wk_r hw24
        have h := hK24
        refine g_lv [] rfl ?_
        exact j126 M_L24 h
      · have h := ifn h c26
        refine g_iload_n C dX6_layRuns_29 rfl 1 rfl ?_
        refine g_iload_n C dX6_layRuns_30 rfl 3 rfl ?_
        refine g_ishr C dX6_layRuns_31 ?_
        refine g_iconst (v := (1 : Int32)) C dX6_layRuns_32 (by decide) ?_
        refine g_iand C dX6_layRuns_33 ?_
        refine g_iconst (v := (1 : Int32)) C dX6_layRuns_34 (by decide) ?_
        refine g_icmp_ne (tgt := 44) C dX6_layRuns_35 (by decide) (fun c35 => ?_) (fun c35 => ?_)
        · have h := ifn h c35
          refine g_iload_n C dX6_layRuns_44 rfl 2 rfl ?_
          refine g_if_le (tgt := 118) C dX6_layRuns_45 (by decide) (fun c45 => ?_) (fun c45 => ?_)
          · have h := ifp h c45
            refine g_iconst (v := (0 : Int32)) C dX6_layRuns_118 (by decide) ?_
            refine g_istore_n (lv' := [(2, .int (0 : Int32)), (0, .ref o), (1, .int x1), (3, .int x3_L24)]) C dX6_layRuns_119 rfl (by decide) rfl ?_
            refine g_iinc (j := 3) (v := (x3_L24 + (1 : Int32))) (lv' := [(3, .int (x3_L24 + (1 : Int32))), (2, .int (0 : Int32)), (0, .ref o), (1, .int x1)]) C dX6_layRuns_120 rfl rfl (by decide) rfl ?_
            refine g_goto (tgt := 24) C dX6_layRuns_123 (by decide) ?_
            obtain rfl := sinj h
            refine g_lv [2, 3, 1, 0] rfl ?_
            exact ih24 (0 : Int32) (x3_L24 + (1 : Int32)) M_L24 hw24
          · have h := ifn h c45
            refine g_aload_n C dX6_layRuns_48 rfl 0 rfl ?_
            refine g_dup C dX6_layRuns_49 rfl ?_
            refine g_get (v := .int (M_L24.1 16)) C fl_X6_157 dX6_layRuns_50 0 rfl rfl ?_
            refine g_iconst (v := (1 : Int32)) C dX6_layRuns_53 (by decide) ?_
            refine g_iadd C dX6_layRuns_54 ?_
            refine g_put (ws2 := wMod cI cJ o a ((va_up M_L24.1 16 ((M_L24.1 16) + (1 : Int32))), M_L24.2.1, M_L24.2.2.1, M_L24.2.2.2)) C fp_X6_157 dX6_layRuns_55 0 rfl rfl rfl (Nat.le_of_ble_eq_true rfl) rfl ?_
            refine g_aload_n C dX6_layRuns_58 rfl 0 rfl ?_
            refine g_aload_n C dX6_layRuns_59 rfl 0 rfl ?_
            refine g_get (v := .int ((M_L24.1 16) + (1 : Int32))) C fl_X6_157 dX6_layRuns_60 0 rfl rfl ?_
            refine g_iconst (v := (1 : Int32)) C dX6_layRuns_63 (by decide) ?_
            refine g_icmp_ne (tgt := 71) C dX6_layRuns_64 (by decide) (fun c64 => ?_) (fun c64 => ?_)
            · have h := ifn h c64
              refine g_aload_n C dX6_layRuns_71 rfl 0 rfl ?_
              refine g_get (v := .int (M_L24.1 18)) C fl_X6_163 dX6_layRuns_72 0 rfl rfl ?_
              refine g_lv [0, 1, 2, 3] rfl ?_
              exact j75 x2_L24 x3_L24 (M_L24.1 18) ((va_up M_L24.1 16 ((M_L24.1 16) + (1 : Int32))), M_L24.2.1, M_L24.2.2.1, M_L24.2.2.2) _ h hw24
            · have h := ifp h c64
              refine g_iload_n C dX6_layRuns_67 rfl 2 rfl ?_
              refine g_goto (tgt := 75) C dX6_layRuns_68 (by decide) ?_
              refine g_lv [0, 1, 2, 3] rfl ?_
              exact j75 x2_L24 x3_L24 x2_L24 ((va_up M_L24.1 16 ((M_L24.1 16) + (1 : Int32))), M_L24.2.1, M_L24.2.2.1, M_L24.2.2.2) _ h hw24
        · have h := ifp h c35
          refine g_iinc (j := 2) (v := (x2_L24 + (1 : Int32))) (lv' := [(2, .int (x2_L24 + (1 : Int32))), (0, .ref o), (1, .int x1), (3, .int x3_L24)]) C dX6_layRuns_38 rfl rfl (by decide) rfl ?_
          refine g_goto (tgt := 120) C dX6_layRuns_41 (by decide) ?_
          refine g_iinc (j := 3) (v := (x3_L24 + (1 : Int32))) (lv' := [(3, .int (x3_L24 + (1 : Int32))), (2, .int (x2_L24 + (1 : Int32))), (0, .ref o), (1, .int x1)]) C dX6_layRuns_120 rfl rfl (by decide) rfl ?_
          refine g_goto (tgt := 24) C dX6_layRuns_123 (by decide) ?_
          obtain rfl := sinj h
          refine g_lv [2, 3, 1, 0] rfl ?_
          exact ih24 (x2_L24 + (1 : Int32)) (x3_L24 + (1 : Int32)) M_L24 hw24
  refine g_lv [2, 3, 1, 0] rfl ?_
  exact l24 100000 (0 : Int32) (0 : Int32) ((va_up (va_up (va_up (va_up M.1 16 (0 : Int32)) 17 (0 : Int32)) 18 (0 : Int32)) 19 (0 : Int32)), M.2.1, M.2.2.1, M.2.2.2) hW24
def fX6_isKept_J74 (x2_J74 : Int32) (x3_J74 : Int32) (M_J74 : OM) : Option (Int32 × OM) :=
  (if (M_J74.1 16) = (2 : Int32) then (if (M_J74.1 18) = x3_J74 then (if (M_J74.1 19) = x2_J74 then some ((1 : Int32), M_J74)
 else some ((0 : Int32), M_J74))
 else some ((0 : Int32), M_J74))
 else some ((0 : Int32), M_J74))
def fX6_isKept (M : OM) (x1 : Int32) (x2 : Int32) (x3 : Int32) (x4 : Int32) : Option (Int32 × OM) :=
  ((fX6_layRuns M x4).bind (fun T3 => (if x1 = 1 then (if (T3.1 18) = x2 then (if (T3.1 19) = x3 then some ((1 : Int32), T3)
 else some ((0 : Int32), T3))
 else some ((0 : Int32), T3))
 else (if x1 = 2 then (if (T3.1 16) = x2 then some ((1 : Int32), T3)
 else some ((0 : Int32), T3))
 else (if x1 = 3 then (if (T3.1 17) = x2 then some ((1 : Int32), T3)
 else some ((0 : Int32), T3))
 else (if x1 = 4 then (if (T3.1 18) = x2 then (if (T3.1 19) = x3 then some ((1 : Int32), T3)
 else fX6_isKept_J74 x2 x3 T3)
 else fX6_isKept_J74 x2 x3 T3)
 else ((fX6_ones x4).bind (fun r134 => (if r134 = x2 then some ((1 : Int32), T3)
 else some ((0 : Int32), T3))))))))))
set_option maxHeartbeats 4000000 in
set_option maxRecDepth 100000 in
theorem kX6_isKept (l : Launch) (D : va_G) (cC cI cJ cZ : ClassId) (o : Nat) (a : Nat → Nat) (M : OM) (x1 : Int32) (x2 : Int32) (x3 : Int32) (x4 : Int32) (r : Int32) (M' : OM) (h : fX6_isKept M x1 x2 x3 x4 = some (r, M')) : gMi l yX6_isKept cX6_isKept 5 (some .boolean) (gR 2) D (tysG cC cI cJ cZ) [.ref o, .int x1, .int x2, .int x3, .int x4] (wMod cI cJ o a M) r (wMod cI cJ o a M') := by
  refine gMi_of (by decide) (Nat.le_of_ble_eq_true rfl) rfl ?_
  intro p e s m args below meth c A Q C hQ
  have j74 : ∀ (x2_J74 : Int32) (x3_J74 : Int32) (M_J74 : OM), fX6_isKept_J74 x2_J74 x3_J74 M_J74 = some (r, M') → gG p l e (gR 2) s m args below meth c 5 D A 0 0 Q 74 [(0, .ref o), (2, .int x2_J74), (3, .int x3_J74)] [] (wMod cI cJ o a M_J74) := by
    intro x2_J74 x3_J74 M_J74 h
    unfold fX6_isKept_J74 at h
    refine g_aload_n C dX6_isKept_74 rfl 0 rfl ?_
    refine g_get (v := .int (M_J74.1 16)) C fl_X6_157 dX6_isKept_75 0 rfl rfl ?_
    refine g_iconst (v := (2 : Int32)) C dX6_isKept_78 (by decide) ?_
    refine g_icmp_ne (tgt := 102) C dX6_isKept_79 (by decide) (fun c79 => ?_) (fun c79 => ?_)
    · have h := ifn h c79
      refine g_iconst (v := (0 : Int32)) C dX6_isKept_102 (by decide) ?_
      cases sinj h
      exact g_zret C dX6_isKept_103 rfl rfl rfl hQ
    · have h := ifp h c79
      refine g_aload_n C dX6_isKept_82 rfl 0 rfl ?_
      refine g_get (v := .int (M_J74.1 18)) C fl_X6_163 dX6_isKept_83 0 rfl rfl ?_
      refine g_iload_n C dX6_isKept_86 rfl 2 rfl ?_
      refine g_icmp_ne (tgt := 102) C dX6_isKept_87 (by decide) (fun c87 => ?_) (fun c87 => ?_)
      · have h := ifn h c87
        refine g_iconst (v := (0 : Int32)) C dX6_isKept_102 (by decide) ?_
        cases sinj h
        exact g_zret C dX6_isKept_103 rfl rfl rfl hQ
      · have h := ifp h c87
        refine g_aload_n C dX6_isKept_90 rfl 0 rfl ?_
        refine g_get (v := .int (M_J74.1 19)) C fl_X6_166 dX6_isKept_91 0 rfl rfl ?_
        refine g_iload_n C dX6_isKept_94 rfl 1 rfl ?_
        refine g_icmp_ne (tgt := 102) C dX6_isKept_95 (by decide) (fun c95 => ?_) (fun c95 => ?_)
        · have h := ifn h c95
          refine g_iconst (v := (0 : Int32)) C dX6_isKept_102 (by decide) ?_
          cases sinj h
          exact g_zret C dX6_isKept_103 rfl rfl rfl hQ
        · have h := ifp h c95
          refine g_iconst (v := (1 : Int32)) C dX6_isKept_98 (by decide) ?_
          refine g_goto (tgt := 103) C dX6_isKept_99 (by decide) ?_
          cases sinj h
          exact g_zret C dX6_isKept_103 rfl rfl rfl hQ
  unfold fX6_isKept at h
  refine g_aload_n C dX6_isKept_0 rfl 0 rfl ?_
  refine g_iload C dX6_isKept_1 4 rfl ?_
  obtain ⟨T3, h3, h⟩ := obd h
  refine g_callVv (st := []) (ws2 := wMod cI cJ o a T3) C yv_X6_layRuns ml_X6_169 dX6_isKept_3 (kX6_layRuns l D cC cI cJ cZ o a M x4 T3 h3) gCut_all ⟨by decide, by decide⟩ ⟨rfl, rfl⟩ ⟨Nat.zero_le _, Nat.zero_le _⟩ rfl rfl (Nat.le_of_ble_eq_true rfl) 5 0 rfl rfl rfl ?_
  refine g_iload_n C dX6_isKept_6 rfl 1 rfl ?_
  by_cases c7_1 : x1 = 1
  · have h := ifp h c7_1
    refine g_tableAt (v := 1) (off := 29) (tgt := 36) C dX6_isKept_7 c7_1 (by decide) (by decide) rfl (by decide) ?_
    refine g_aload_n C dX6_isKept_36 rfl 0 rfl ?_
    refine g_get (v := .int (T3.1 18)) C fl_X6_163 dX6_isKept_37 0 rfl rfl ?_
    refine g_iload_n C dX6_isKept_40 rfl 2 rfl ?_
    refine g_icmp_ne (tgt := 56) C dX6_isKept_41 (by decide) (fun c41 => ?_) (fun c41 => ?_)
    · have h := ifn h c41
      refine g_iconst (v := (0 : Int32)) C dX6_isKept_56 (by decide) ?_
      cases sinj h
      exact g_zret C dX6_isKept_57 rfl rfl rfl hQ
    · have h := ifp h c41
      refine g_aload_n C dX6_isKept_44 rfl 0 rfl ?_
      refine g_get (v := .int (T3.1 19)) C fl_X6_166 dX6_isKept_45 0 rfl rfl ?_
      refine g_iload_n C dX6_isKept_48 rfl 3 rfl ?_
      refine g_icmp_ne (tgt := 56) C dX6_isKept_49 (by decide) (fun c49 => ?_) (fun c49 => ?_)
      · have h := ifn h c49
        refine g_iconst (v := (0 : Int32)) C dX6_isKept_56 (by decide) ?_
        cases sinj h
        exact g_zret C dX6_isKept_57 rfl rfl rfl hQ
      · have h := ifp h c49
        refine g_iconst (v := (1 : Int32)) C dX6_isKept_52 (by decide) ?_
        refine g_goto (tgt := 57) C dX6_isKept_53 (by decide) ?_
        cases sinj h
        exact g_zret C dX6_isKept_57 rfl rfl rfl hQ
  · have h := ifn h c7_1
    by_cases c7_2 : x1 = 2
    · have h := ifp h c7_2
      refine g_tableAt (v := 2) (off := 97) (tgt := 104) C dX6_isKept_7 c7_2 (by decide) (by decide) rfl (by decide) ?_
      refine g_aload_n C dX6_isKept_104 rfl 0 rfl ?_
      refine g_get (v := .int (T3.1 16)) C fl_X6_157 dX6_isKept_105 0 rfl rfl ?_
      refine g_iload_n C dX6_isKept_108 rfl 2 rfl ?_
      refine g_icmp_ne (tgt := 116) C dX6_isKept_109 (by decide) (fun c109 => ?_) (fun c109 => ?_)
      · have h := ifn h c109
        refine g_iconst (v := (0 : Int32)) C dX6_isKept_116 (by decide) ?_
        cases sinj h
        exact g_zret C dX6_isKept_117 rfl rfl rfl hQ
      · have h := ifp h c109
        refine g_iconst (v := (1 : Int32)) C dX6_isKept_112 (by decide) ?_
        refine g_goto (tgt := 117) C dX6_isKept_113 (by decide) ?_
        cases sinj h
        exact g_zret C dX6_isKept_117 rfl rfl rfl hQ
    · have h := ifn h c7_2
      by_cases c7_3 : x1 = 3
      · have h := ifp h c7_3
        refine g_tableAt (v := 3) (off := 111) (tgt := 118) C dX6_isKept_7 c7_3 (by decide) (by decide) rfl (by decide) ?_
        refine g_aload_n C dX6_isKept_118 rfl 0 rfl ?_
        refine g_get (v := .int (T3.1 17)) C fl_X6_160 dX6_isKept_119 0 rfl rfl ?_
        refine g_iload_n C dX6_isKept_122 rfl 2 rfl ?_
        refine g_icmp_ne (tgt := 130) C dX6_isKept_123 (by decide) (fun c123 => ?_) (fun c123 => ?_)
        · have h := ifn h c123
          refine g_iconst (v := (0 : Int32)) C dX6_isKept_130 (by decide) ?_
          cases sinj h
          exact g_zret C dX6_isKept_131 rfl rfl rfl hQ
        · have h := ifp h c123
          refine g_iconst (v := (1 : Int32)) C dX6_isKept_126 (by decide) ?_
          refine g_goto (tgt := 131) C dX6_isKept_127 (by decide) ?_
          cases sinj h
          exact g_zret C dX6_isKept_131 rfl rfl rfl hQ
      · have h := ifn h c7_3
        by_cases c7_4 : x1 = 4
        · have h := ifp h c7_4
          refine g_tableAt (v := 4) (off := 51) (tgt := 58) C dX6_isKept_7 c7_4 (by decide) (by decide) rfl (by decide) ?_
          refine g_aload_n C dX6_isKept_58 rfl 0 rfl ?_
          refine g_get (v := .int (T3.1 18)) C fl_X6_163 dX6_isKept_59 0 rfl rfl ?_
          refine g_iload_n C dX6_isKept_62 rfl 2 rfl ?_
          refine g_icmp_ne (tgt := 74) C dX6_isKept_63 (by decide) (fun c63 => ?_) (fun c63 => ?_)
          · have h := ifn h c63
            refine g_lv [0, 2, 3] rfl ?_
            exact j74 x2 x3 T3 h
          · have h := ifp h c63
            refine g_aload_n C dX6_isKept_66 rfl 0 rfl ?_
            refine g_get (v := .int (T3.1 19)) C fl_X6_166 dX6_isKept_67 0 rfl rfl ?_
            refine g_iload_n C dX6_isKept_70 rfl 3 rfl ?_
            refine g_icmp_eq (tgt := 98) C dX6_isKept_71 (by decide) (fun c71 => ?_) (fun c71 => ?_)
            · have h := ifp h c71
              refine g_iconst (v := (1 : Int32)) C dX6_isKept_98 (by decide) ?_
              refine g_goto (tgt := 103) C dX6_isKept_99 (by decide) ?_
              cases sinj h
              exact g_zret C dX6_isKept_103 rfl rfl rfl hQ
            · have h := ifn h c71
              refine g_lv [0, 2, 3] rfl ?_
              exact j74 x2 x3 T3 h
        · have h := ifn h c7_4
          refine g_tableOut (tgt := 132) C dX6_isKept_7 (by have q1 := lv_neT (a := 1) c7_1 (by decide); have q2 := lv_neT (a := 2) c7_2 (by decide); have q3 := lv_neT (a := 3) c7_3 (by decide); have q4 := lv_neT (a := 4) c7_4 (by decide); omega) (by decide) ?_
          refine g_iload C dX6_isKept_132 4 rfl ?_
          obtain ⟨r134, h134, h⟩ := obd h
          refine g_callSi (st := []) (ws2 := wMod cI cJ o a T3) C ys_X6_ones ml_X6_173 dX6_isKept_134 (kX6_ones l D cC cI cJ cZ x4 r134 h134) gCut_nil ⟨by decide, by decide⟩ ⟨rfl, rfl⟩ ⟨Nat.zero_le _, Nat.zero_le _⟩ rfl rfl (Nat.le_of_ble_eq_true rfl) ?_
          refine g_iload_n C dX6_isKept_137 rfl 2 rfl ?_
          refine g_icmp_ne (tgt := 145) C dX6_isKept_138 (by decide) (fun c138 => ?_) (fun c138 => ?_)
          · have h := ifn h c138
            refine g_iconst (v := (0 : Int32)) C dX6_isKept_145 (by decide) ?_
            cases sinj h
            exact g_zret C dX6_isKept_146 rfl rfl rfl hQ
          · have h := ifp h c138
            refine g_iconst (v := (1 : Int32)) C dX6_isKept_141 (by decide) ?_
            refine g_goto (tgt := 146) C dX6_isKept_142 (by decide) ?_
            cases sinj h
            exact g_zret C dX6_isKept_146 rfl rfl rfl hQ
def fX6_keepsOf (M : OM) (x1 : Int32) (x2 : Int32) : Option (Int32 × OM) :=
  (if okI x1 8 = true then (if okI x1 8 = true then (if okI x1 8 = true then ((fX6_isKept M ((M.2.1 12) x1.toNatClampNeg) ((M.2.1 13) x1.toNatClampNeg) ((M.2.1 14) x1.toNatClampNeg) x2).bind (fun r => (fun r20 T20 => (if r20 = 0 then some ((0 : Int32), T20)
 else some ((1 : Int32), T20))) r.1 r.2)) else none) else none) else none)
set_option maxHeartbeats 4000000 in
set_option maxRecDepth 100000 in
theorem kX6_keepsOf (l : Launch) (D : va_G) (cC cI cJ cZ : ClassId) (o : Nat) (a : Nat → Nat) (M : OM) (x1 : Int32) (x2 : Int32) (r : Int32) (M' : OM) (h : fX6_keepsOf M x1 x2 = some (r, M')) : gMi l yX6_keepsOf cX6_keepsOf 3 (some .int) (gR 3) D (tysG cC cI cJ cZ) [.ref o, .int x1, .int x2] (wMod cI cJ o a M) r (wMod cI cJ o a M') := by
  refine gMi_of (by decide) (Nat.le_of_ble_eq_true rfl) rfl ?_
  intro p e s m args below meth c A Q C hQ
  unfold fX6_keepsOf at h
  refine g_aload_n C dX6_keepsOf_0 rfl 0 rfl ?_
  refine g_aload_n C dX6_keepsOf_1 rfl 0 rfl ?_
  refine g_get (v := .ref (a 12)) C fl_X6_22 dX6_keepsOf_2 0 rfl rfl ?_
  refine g_iload_n C dX6_keepsOf_5 rfl 1 rfl ?_
  obtain ⟨hg6, h⟩ := ifg h
  refine g_iald (f := (M.2.1 12)) C dX6_keepsOf_6 5 0 rfl rfl hg6 ?_
  refine g_aload_n C dX6_keepsOf_7 rfl 0 rfl ?_
  refine g_get (v := .ref (a 13)) C fl_X6_25 dX6_keepsOf_8 0 rfl rfl ?_
  refine g_iload_n C dX6_keepsOf_11 rfl 1 rfl ?_
  obtain ⟨hg12, h⟩ := ifg h
  refine g_iald (f := (M.2.1 13)) C dX6_keepsOf_12 6 0 rfl rfl hg12 ?_
  refine g_aload_n C dX6_keepsOf_13 rfl 0 rfl ?_
  refine g_get (v := .ref (a 14)) C fl_X6_28 dX6_keepsOf_14 0 rfl rfl ?_
  refine g_iload_n C dX6_keepsOf_17 rfl 1 rfl ?_
  obtain ⟨hg18, h⟩ := ifg h
  refine g_iald (f := (M.2.1 14)) C dX6_keepsOf_18 7 0 rfl rfl hg18 ?_
  refine g_iload_n C dX6_keepsOf_19 rfl 2 rfl ?_
  obtain ⟨⟨r20, T20⟩, h20, h⟩ := obd h
  refine g_callVi (st := []) (ws2 := wMod cI cJ o a T20) C yv_X6_isKept ml_X6_176 dX6_keepsOf_20 (kX6_isKept l D cC cI cJ cZ o a M ((M.2.1 12) x1.toNatClampNeg) ((M.2.1 13) x1.toNatClampNeg) ((M.2.1 14) x1.toNatClampNeg) x2 r20 T20 h20) gCut_all ⟨by decide, by decide⟩ ⟨rfl, rfl⟩ ⟨Nat.zero_le _, Nat.zero_le _⟩ rfl rfl (Nat.le_of_ble_eq_true rfl) 5 0 rfl rfl rfl ?_
  refine g_if_eq (tgt := 30) C dX6_keepsOf_23 (by decide) (fun c23 => ?_) (fun c23 => ?_)
  · have h := ifp h c23
    refine g_iconst (v := (0 : Int32)) C dX6_keepsOf_30 (by decide) ?_
    cases sinj h
    exact g_iret C dX6_keepsOf_31 rfl rfl hQ
  · have h := ifn h c23
    refine g_iconst (v := (1 : Int32)) C dX6_keepsOf_26 (by decide) ?_
    refine g_goto (tgt := 31) C dX6_keepsOf_27 (by decide) ?_
    cases sinj h
    exact g_iret C dX6_keepsOf_31 rfl rfl hQ
def fX6_keeps (M : OM) (x1 : Int32) (x2 : Int32) : Option (Int32 × OM) :=
  ((fX6_isLine M x1).bind (fun r2 => (if r2 = 0 then some ((-101 : Int32), M)
 else ((fX6_cellsOf M x1).bind (fun r17 => ((fX6_in x2.toInt64 (0 : Int64) ((((1 : Int32) <<< (r17 &&& 31)) - (1 : Int32)).toInt64)).bind (fun r24 => (if r24 = 0 then some ((-102 : Int32), M)
 else ((fX6_keepsOf M x1 x2).bind (fun r => (fun r33 T33 => some (r33, T33)) r.1 r.2))))))))))
set_option maxHeartbeats 4000000 in
set_option maxRecDepth 100000 in
theorem kX6_keeps (l : Launch) (D : va_G) (cC cI cJ cZ : ClassId) (o : Nat) (a : Nat → Nat) (M : OM) (x1 : Int32) (x2 : Int32) (r : Int32) (M' : OM) (h : fX6_keeps M x1 x2 = some (r, M')) : gMi l yX6_keeps cX6_keeps 3 (some .int) (gR 4) D (tysG cC cI cJ cZ) [.ref o, .int x1, .int x2] (wMod cI cJ o a M) r (wMod cI cJ o a M') := by
  refine gMi_of (by decide) (Nat.le_of_ble_eq_true rfl) rfl ?_
  intro p e s m args below meth c A Q C hQ
  unfold fX6_keeps at h
  refine g_aload_n C dX6_keeps_0 rfl 0 rfl ?_
  refine g_iload_n C dX6_keeps_1 rfl 1 rfl ?_
  obtain ⟨r2, h2, h⟩ := obd h
  refine g_callVi (st := []) (ws2 := wMod cI cJ o a M) C yv_X6_isLine ml_X6_180 dX6_keeps_2 (kX6_isLine l D cC cI cJ cZ o a M x1 r2 h2) gCut_all ⟨by decide, by decide⟩ ⟨rfl, rfl⟩ ⟨Nat.zero_le _, Nat.zero_le _⟩ rfl rfl (Nat.le_of_ble_eq_true rfl) 5 0 rfl rfl rfl ?_
  refine g_if_ne (tgt := 11) C dX6_keeps_5 (by decide) (fun c5 => ?_) (fun c5 => ?_)
  · have h := ifn h c5
    refine g_iload_n C dX6_keeps_11 rfl 2 rfl ?_
    refine g_i2l C dX6_keeps_12 ?_
    refine g_lconst (v := (0 : Int64)) C dX6_keeps_13 (by decide) ?_
    refine g_iconst (v := (1 : Int32)) C dX6_keeps_14 (by decide) ?_
    refine g_aload_n C dX6_keeps_15 rfl 0 rfl ?_
    refine g_iload_n C dX6_keeps_16 rfl 1 rfl ?_
    obtain ⟨r17, h17, h⟩ := obd h
    refine g_callVi (st := [.int (1 : Int32), .long (0 : Int64), .long x2.toInt64]) (ws2 := wMod cI cJ o a M) C yv_X6_cellsOf ml_X6_183 dX6_keeps_17 (kX6_cellsOf l D cC cI cJ cZ o a M x1 r17 h17) gCut_all ⟨by decide, by decide⟩ ⟨rfl, rfl⟩ ⟨Nat.zero_le _, Nat.zero_le _⟩ rfl rfl (Nat.le_of_ble_eq_true rfl) 5 0 rfl rfl rfl ?_
    refine g_ishl C dX6_keeps_20 ?_
    refine g_iconst (v := (1 : Int32)) C dX6_keeps_21 (by decide) ?_
    refine g_isub C dX6_keeps_22 ?_
    refine g_i2l C dX6_keeps_23 ?_
    obtain ⟨r24, h24, h⟩ := obd h
    refine g_callSi (st := []) (ws2 := wMod cI cJ o a M) C ys_X6_in ml_X6_78 dX6_keeps_24 (kX6_in l D cC cI cJ cZ x2.toInt64 (0 : Int64) ((((1 : Int32) <<< (r17 &&& 31)) - (1 : Int32)).toInt64) r24 h24) gCut_nil ⟨by decide, by decide⟩ ⟨rfl, rfl⟩ ⟨Nat.zero_le _, Nat.zero_le _⟩ rfl rfl (Nat.le_of_ble_eq_true rfl) ?_
    refine g_if_eq (tgt := 39) C dX6_keeps_27 (by decide) (fun c27 => ?_) (fun c27 => ?_)
    · have h := ifp h c27
      refine g_bipush (v := (-102 : Int32)) C dX6_keeps_39 (by decide) ?_
      cases sinj h
      exact g_iret C dX6_keeps_41 rfl rfl hQ
    · have h := ifn h c27
      refine g_aload_n C dX6_keeps_30 rfl 0 rfl ?_
      refine g_iload_n C dX6_keeps_31 rfl 1 rfl ?_
      refine g_iload_n C dX6_keeps_32 rfl 2 rfl ?_
      obtain ⟨⟨r33, T33⟩, h33, h⟩ := obd h
      refine g_callVi (st := []) (ws2 := wMod cI cJ o a T33) C yv_X6_keepsOf ml_X6_186 dX6_keeps_33 (kX6_keepsOf l D cC cI cJ cZ o a M x1 x2 r33 T33 h33) gCut_all ⟨by decide, by decide⟩ ⟨rfl, rfl⟩ ⟨Nat.zero_le _, Nat.zero_le _⟩ rfl rfl (Nat.le_of_ble_eq_true rfl) 5 0 rfl rfl rfl ?_
      refine g_goto (tgt := 41) C dX6_keeps_36 (by decide) ?_
      cases sinj h
      exact g_iret C dX6_keeps_41 rfl rfl hQ
  · have h := ifp h c5
    refine g_bipush (v := (-101 : Int32)) C dX6_keeps_8 (by decide) ?_
    cases sinj h
    exact g_iret C dX6_keeps_10 rfl rfl hQ
def fX6_layTable_L2 (x1_L2 : Int32) (M_L2 : OM) : Option ((Int32 × OM) ⊕ (OM)) :=
  (if (128 : Int32) ≤ x1_L2 then some (.inr M_L2)
 else (if ¬ (16 : Int32) = 0 then (if (x1_L2 / (16 : Int32)) = (M_L2.1 25) then (if okI x1_L2 128 = true then some (.inl ((x1_L2 + (1 : Int32)), (M_L2.1, (va_up M_L2.2.1 24 (upd (M_L2.2.1 24) x1_L2.toNatClampNeg (1 : Int32))), M_L2.2.2.1, M_L2.2.2.2))) else none)
 else ((fX6_isLine M_L2 (x1_L2 / (16 : Int32))).bind (fun r29 => (if r29 = 0 then (if okI x1_L2 128 = true then some (.inl ((x1_L2 + (1 : Int32)), (M_L2.1, (va_up M_L2.2.1 24 (upd (M_L2.2.1 24) x1_L2.toNatClampNeg (0 : Int32))), M_L2.2.2.1, M_L2.2.2.2))) else none)
 else (if ¬ (16 : Int32) = 0 then ((fX6_keepsOf M_L2 (x1_L2 / (16 : Int32)) (x1_L2 - x1_L2 / (16 : Int32) * (16 : Int32))).bind (fun r => (fun r41 T41 => (if r41 = (1 : Int32) then (if okI x1_L2 128 = true then some (.inl ((x1_L2 + (1 : Int32)), (T41.1, (va_up T41.2.1 24 (upd (T41.2.1 24) x1_L2.toNatClampNeg (1 : Int32))), T41.2.2.1, T41.2.2.2))) else none)
 else (if okI x1_L2 128 = true then some (.inl ((x1_L2 + (1 : Int32)), (T41.1, (va_up T41.2.1 24 (upd (T41.2.1 24) x1_L2.toNatClampNeg (0 : Int32))), T41.2.2.1, T41.2.2.2))) else none))) r.1 r.2)) else none))))) else none))
def fX6_layTable_J60 (M_J60 : OM) : Option (OM) :=
  some M_J60
def fX6_layTable (M : OM)  : Option (OM) :=
  ((wh (σ := Int32 × OM) (ρ := OM) (fun t => fX6_layTable_L2 t.1 t.2) 100000 ((0 : Int32), M)).bind (fun M_E2 => fX6_layTable_J60 M_E2))
set_option maxHeartbeats 4000000 in
set_option maxRecDepth 100000 in
theorem kX6_layTable (l : Launch) (D : va_G) (cC cI cJ cZ : ClassId) (o : Nat) (a : Nat → Nat) (M : OM)  (M' : OM) (h : fX6_layTable M = some M') : gMv l yX6_layTable cX6_layTable 3 none (gR 4) D (tysG cC cI cJ cZ) [.ref o] (wMod cI cJ o a M) (wMod cI cJ o a M') := by
  refine gMv_of (by decide) (Nat.le_of_ble_eq_true rfl) rfl ?_
  intro p e s m args below meth c A Q C hQ
  have j60 : ∀ (M_J60 : OM), fX6_layTable_J60 M_J60 = some M' → gG p l e (gR 4) s m args below meth c 3 D A 0 0 Q 60 [] [] (wMod cI cJ o a M_J60) := by
    intro M_J60 h
    unfold fX6_layTable_J60 at h
    cases sinj h
    exact g_vret C dX6_layTable_60 rfl hQ
  unfold fX6_layTable at h
  refine g_iconst (v := (0 : Int32)) C dX6_layTable_0 (by decide) ?_
  refine g_istore_n (lv' := [(1, .int (0 : Int32)), (0, .ref o)]) C dX6_layTable_1 rfl (by decide) rfl ?_
  obtain ⟨X2, hW2, hK2⟩ := obd h
  have l2 : ∀ (fu2 : Nat) (x1_L2 : Int32) (M_L2 : OM), wh (σ := Int32 × OM) (ρ := OM) (fun t => fX6_layTable_L2 t.1 t.2) fu2 (x1_L2, M_L2) = some X2 → gG p l e (gR 4) s m args below meth c 3 D A 0 0 Q 2 [(0, .ref o), (1, .int x1_L2)] [] (wMod cI cJ o a M_L2) := by
    intro fu2
    induction fu2 with
    | zero => intro x1_L2 M_L2 hW; exact (wh_0 hW).elim
    | succ fu2 ih2 =>
      intro x1_L2 M_L2 hW
      obtain ⟨z2, h, hw2⟩ := wh_s hW
      replace h : fX6_layTable_L2 x1_L2 M_L2 = some z2 := h
      unfold fX6_layTable_L2 at h
      refine g_iload_n C dX6_layTable_2 rfl 1 rfl ?_
      refine g_sipush (v := (128 : Int32)) C dX6_layTable_3 (by decide) ?_
      refine g_icmp_ge (tgt := 60) C dX6_layTable_6 (by decide) (fun c6 => ?_) (fun c6 => ?_)
      · have h := ifp h c6
        obtain rfl := sinj h
        obtain rfl := wk_r hw2
        have h := hK2
        refine g_lv [] rfl ?_
        exact j60 M_L2 h
      · have h := ifn h c6
        refine g_iload_n C dX6_layTable_9 rfl 1 rfl ?_
        refine g_bipush (v := (16 : Int32)) C dX6_layTable_10 (by decide) ?_
        obtain ⟨hg12, h⟩ := ifg h
        refine g_idiv C dX6_layTable_12 hg12 ?_
        refine g_istore_n (lv' := [(2, .int (x1_L2 / (16 : Int32))), (0, .ref o), (1, .int x1_L2)]) C dX6_layTable_13 rfl (by decide) rfl ?_
        refine g_aload_n C dX6_layTable_14 rfl 1 rfl ?_
        refine g_get (v := .ref (a 24)) C fl_X6_41 dX6_layTable_15 0 rfl rfl ?_
        refine g_iload_n C dX6_layTable_18 rfl 2 rfl ?_
        refine g_iload_n C dX6_layTable_19 rfl 0 rfl ?_
        refine g_aload_n C dX6_layTable_20 rfl 1 rfl ?_
        refine g_get (v := .int (M_L2.1 25)) C fl_X6_189 dX6_layTable_21 0 rfl rfl ?_
        refine g_icmp_eq (tgt := 48) C dX6_layTable_24 (by decide) (fun c24 => ?_) (fun c24 => ?_)
        · have h := ifp h c24
          refine g_iconst (v := (1 : Int32)) C dX6_layTable_48 (by decide) ?_
          refine g_goto (tgt := 53) C dX6_layTable_49 (by decide) ?_
          obtain ⟨hg53, h⟩ := ifg h
          refine g_iast (f := (M_L2.2.1 24)) (ws2 := wMod cI cJ o a (M_L2.1, (va_up M_L2.2.1 24 (upd (M_L2.2.1 24) x1_L2.toNatClampNeg (1 : Int32))), M_L2.2.2.1, M_L2.2.2.2)) C dX6_layTable_53 11 0 rfl rfl hg53 rfl ?_
          refine g_iinc (j := 2) (v := (x1_L2 + (1 : Int32))) (lv' := [(1, .int (x1_L2 + (1 : Int32))), (2, .int (x1_L2 / (16 : Int32))), (0, .ref o)]) C dX6_layTable_54 rfl rfl (by decide) rfl ?_
          refine g_goto (tgt := 2) C dX6_layTable_57 (by decide) ?_
          obtain rfl := sinj h
          refine g_lv [2, 0] rfl ?_
          exact ih2 (x1_L2 + (1 : Int32)) (M_L2.1, (va_up M_L2.2.1 24 (upd (M_L2.2.1 24) x1_L2.toNatClampNeg (1 : Int32))), M_L2.2.2.1, M_L2.2.2.2) hw2
        · have h := ifn h c24
          refine g_aload_n C dX6_layTable_27 rfl 1 rfl ?_
          refine g_iload_n C dX6_layTable_28 rfl 0 rfl ?_
          obtain ⟨r29, h29, h⟩ := obd h
          refine g_callVi (st := [.int x1_L2, .ref (a 24)]) (ws2 := wMod cI cJ o a M_L2) C yv_X6_isLine ml_X6_180 dX6_layTable_29 (kX6_isLine l D cC cI cJ cZ o a M_L2 (x1_L2 / (16 : Int32)) r29 h29) gCut_all ⟨by decide, by decide⟩ ⟨rfl, rfl⟩ ⟨Nat.zero_le _, Nat.zero_le _⟩ rfl rfl (Nat.le_of_ble_eq_true rfl) 5 0 rfl rfl rfl ?_
          refine g_if_eq (tgt := 52) C dX6_layTable_32 (by decide) (fun c32 => ?_) (fun c32 => ?_)
          · have h := ifp h c32
            refine g_iconst (v := (0 : Int32)) C dX6_layTable_52 (by decide) ?_
            obtain ⟨hg53, h⟩ := ifg h
            refine g_iast (f := (M_L2.2.1 24)) (ws2 := wMod cI cJ o a (M_L2.1, (va_up M_L2.2.1 24 (upd (M_L2.2.1 24) x1_L2.toNatClampNeg (0 : Int32))), M_L2.2.2.1, M_L2.2.2.2)) C dX6_layTable_53 11 0 rfl rfl hg53 rfl ?_
            refine g_iinc (j := 2) (v := (x1_L2 + (1 : Int32))) (lv' := [(1, .int (x1_L2 + (1 : Int32))), (2, .int (x1_L2 / (16 : Int32))), (0, .ref o)]) C dX6_layTable_54 rfl rfl (by decide) rfl ?_
            refine g_goto (tgt := 2) C dX6_layTable_57 (by decide) ?_
            obtain rfl := sinj h
            refine g_lv [2, 0] rfl ?_
            exact ih2 (x1_L2 + (1 : Int32)) (M_L2.1, (va_up M_L2.2.1 24 (upd (M_L2.2.1 24) x1_L2.toNatClampNeg (0 : Int32))), M_L2.2.2.1, M_L2.2.2.2) hw2
          · have h := ifn h c32
            refine g_aload_n C dX6_layTable_35 rfl 1 rfl ?_
            refine g_iload_n C dX6_layTable_36 rfl 0 rfl ?_
            refine g_iload_n C dX6_layTable_37 rfl 2 rfl ?_
            refine g_bipush (v := (16 : Int32)) C dX6_layTable_38 (by decide) ?_
            obtain ⟨hg40, h⟩ := ifg h
            refine g_irem C dX6_layTable_40 hg40 ?_
            obtain ⟨⟨r41, T41⟩, h41, h⟩ := obd h
            refine g_callVi (st := [.int x1_L2, .ref (a 24)]) (ws2 := wMod cI cJ o a T41) C yv_X6_keepsOf ml_X6_186 dX6_layTable_41 (kX6_keepsOf l D cC cI cJ cZ o a M_L2 (x1_L2 / (16 : Int32)) (x1_L2 - x1_L2 / (16 : Int32) * (16 : Int32)) r41 T41 h41) gCut_all ⟨by decide, by decide⟩ ⟨rfl, rfl⟩ ⟨Nat.zero_le _, Nat.zero_le _⟩ rfl rfl (Nat.le_of_ble_eq_true rfl) 5 0 rfl rfl rfl ?_
            refine g_iconst (v := (1 : Int32)) C dX6_layTable_44 (by decide) ?_
            refine g_icmp_ne (tgt := 52) C dX6_layTable_45 (by decide) (fun c45 => ?_) (fun c45 => ?_)
            · have h := ifn h c45
              refine g_iconst (v := (0 : Int32)) C dX6_layTable_52 (by decide) ?_
              obtain ⟨hg53, h⟩ := ifg h
              refine g_iast (f := (T41.2.1 24)) (ws2 := wMod cI cJ o a (T41.1, (va_up T41.2.1 24 (upd (T41.2.1 24) x1_L2.toNatClampNeg (0 : Int32))), T41.2.2.1, T41.2.2.2)) C dX6_layTable_53 11 0 rfl rfl hg53 rfl ?_
              refine g_iinc (j := 2) (v := (x1_L2 + (1 : Int32))) (lv' := [(1, .int (x1_L2 + (1 : Int32))), (2, .int (x1_L2 / (16 : Int32))), (0, .ref o)]) C dX6_layTable_54 rfl rfl (by decide) rfl ?_
              refine g_goto (tgt := 2) C dX6_layTable_57 (by decide) ?_
              obtain rfl := sinj h
              refine g_lv [2, 0] rfl ?_
              exact ih2 (x1_L2 + (1 : Int32)) (T41.1, (va_up T41.2.1 24 (upd (T41.2.1 24) x1_L2.toNatClampNeg (0 : Int32))), T41.2.2.1, T41.2.2.2) hw2
            · have h := ifp h c45
              refine g_iconst (v := (1 : Int32)) C dX6_layTable_48 (by decide) ?_
              refine g_goto (tgt := 53) C dX6_layTable_49 (by decide) ?_
              obtain ⟨hg53, h⟩ := ifg h
              refine g_iast (f := (T41.2.1 24)) (ws2 := wMod cI cJ o a (T41.1, (va_up T41.2.1 24 (upd (T41.2.1 24) x1_L2.toNatClampNeg (1 : Int32))), T41.2.2.1, T41.2.2.2)) C dX6_layTable_53 11 0 rfl rfl hg53 rfl ?_
              refine g_iinc (j := 2) (v := (x1_L2 + (1 : Int32))) (lv' := [(1, .int (x1_L2 + (1 : Int32))), (2, .int (x1_L2 / (16 : Int32))), (0, .ref o)]) C dX6_layTable_54 rfl rfl (by decide) rfl ?_
              refine g_goto (tgt := 2) C dX6_layTable_57 (by decide) ?_
              obtain rfl := sinj h
              refine g_lv [2, 0] rfl ?_
              exact ih2 (x1_L2 + (1 : Int32)) (T41.1, (va_up T41.2.1 24 (upd (T41.2.1 24) x1_L2.toNatClampNeg (1 : Int32))), T41.2.2.1, T41.2.2.2) hw2
  refine g_lv [1, 0] rfl ?_
  exact l2 100000 (0 : Int32) M hW2
def fX6_rowOf (M : OM) (x1 : Int32) (x2 : Int32) : Option (Int32) :=
  some ((x1 >>> (((M.1 10) * x2) &&& 31)) &&& (((1 : Int32) <<< ((M.1 10) &&& 31)) - (1 : Int32)))
set_option maxHeartbeats 4000000 in
set_option maxRecDepth 100000 in
theorem kX6_rowOf (l : Launch) (D : va_G) (cC cI cJ cZ : ClassId) (o : Nat) (a : Nat → Nat) (M : OM) (x1 : Int32) (x2 : Int32) (r : Int32) (h : fX6_rowOf M x1 x2 = some r) : gMi l yX6_rowOf cX6_rowOf 3 (some .int) (gR 1) D (tysG cC cI cJ cZ) [.ref o, .int x1, .int x2] (wMod cI cJ o a M) r (wMod cI cJ o a M) := by
  refine gMi_of (by decide) (Nat.le_of_ble_eq_true rfl) rfl ?_
  intro p e s m args below meth c A Q C hQ
  unfold fX6_rowOf at h
  refine g_iload_n C dX6_rowOf_0 rfl 1 rfl ?_
  refine g_aload_n C dX6_rowOf_1 rfl 0 rfl ?_
  refine g_get (v := .int (M.1 10)) C fl_X6_144 dX6_rowOf_2 0 rfl rfl ?_
  refine g_iload_n C dX6_rowOf_5 rfl 2 rfl ?_
  refine g_imul C dX6_rowOf_6 ?_
  refine g_ishr C dX6_rowOf_7 ?_
  refine g_iconst (v := (1 : Int32)) C dX6_rowOf_8 (by decide) ?_
  refine g_aload_n C dX6_rowOf_9 rfl 0 rfl ?_
  refine g_get (v := .int (M.1 10)) C fl_X6_144 dX6_rowOf_10 0 rfl rfl ?_
  refine g_ishl C dX6_rowOf_13 ?_
  refine g_iconst (v := (1 : Int32)) C dX6_rowOf_14 (by decide) ?_
  refine g_isub C dX6_rowOf_15 ?_
  refine g_iand C dX6_rowOf_16 ?_
  cases sinj h
  exact g_iret C dX6_rowOf_17 rfl rfl hQ
def fX6_columnOf_L5 (M : OM) (x1_L5 : Int32) (x2_L5 : Int32) (x3_L5 : Int32) (x4_L5 : Int32) : Option ((Int32 × Int32) ⊕ (Int32)) :=
  (if (M.1 9) ≤ x4_L5 then some (.inr x3_L5)
 else some (.inl ((x3_L5 ||| (((x1_L5 >>> ((((M.1 10) * x4_L5) + x2_L5) &&& 31)) &&& (1 : Int32)) <<< (x4_L5 &&& 31))), (x4_L5 + (1 : Int32)))))
def fX6_columnOf_J39 (M : OM) (x3_J39 : Int32) : Option (Int32) :=
  some x3_J39
def fX6_columnOf (M : OM) (x1 : Int32) (x2 : Int32) : Option (Int32) :=
  ((wh (σ := Int32 × Int32) (ρ := Int32) (fun t => fX6_columnOf_L5 M x1 x2 t.1 t.2) 100000 ((0 : Int32), (0 : Int32))).bind (fun e3_L5 => fX6_columnOf_J39 M e3_L5))
set_option maxHeartbeats 4000000 in
set_option maxRecDepth 100000 in
theorem kX6_columnOf (l : Launch) (D : va_G) (cC cI cJ cZ : ClassId) (o : Nat) (a : Nat → Nat) (M : OM) (x1 : Int32) (x2 : Int32) (r : Int32) (h : fX6_columnOf M x1 x2 = some r) : gMi l yX6_columnOf cX6_columnOf 5 (some .int) (gR 1) D (tysG cC cI cJ cZ) [.ref o, .int x1, .int x2] (wMod cI cJ o a M) r (wMod cI cJ o a M) := by
  refine gMi_of (by decide) (Nat.le_of_ble_eq_true rfl) rfl ?_
  intro p e s m args below meth c A Q C hQ
  have j39 : ∀ (x3_J39 : Int32), fX6_columnOf_J39 M x3_J39 = some r → gG p l e (gR 1) s m args below meth c 5 D A 0 0 Q 39 [(3, .int x3_J39)] [] (wMod cI cJ o a M) := by
    intro x3_J39 h
    unfold fX6_columnOf_J39 at h
    refine g_iload_n C dX6_columnOf_39 rfl 0 rfl ?_
    cases sinj h
    exact g_iret C dX6_columnOf_40 rfl rfl hQ
  unfold fX6_columnOf at h
  refine g_iconst (v := (0 : Int32)) C dX6_columnOf_0 (by decide) ?_
  refine g_istore_n (lv' := [(3, .int (0 : Int32)), (0, .ref o), (1, .int x1), (2, .int x2)]) C dX6_columnOf_1 rfl (by decide) rfl ?_
  refine g_iconst (v := (0 : Int32)) C dX6_columnOf_2 (by decide) ?_
  refine g_istore (lv' := [(4, .int (0 : Int32)), (3, .int (0 : Int32)), (0, .ref o), (1, .int x1), (2, .int x2)]) C dX6_columnOf_3 (by decide) rfl ?_
  obtain ⟨X5, hW5, hK5⟩ := obd h
  have l5 : ∀ (fu5 : Nat) (x3_L5 : Int32) (x4_L5 : Int32), wh (σ := Int32 × Int32) (ρ := Int32) (fun t => fX6_columnOf_L5 M x1 x2 t.1 t.2) fu5 (x3_L5, x4_L5) = some X5 → gG p l e (gR 1) s m args below meth c 5 D A 0 0 Q 5 [(0, .ref o), (1, .int x1), (2, .int x2), (3, .int x3_L5), (4, .int x4_L5)] [] (wMod cI cJ o a M) := by
    intro fu5
    induction fu5 with
    | zero => intro x3_L5 x4_L5 hW; exact (wh_0 hW).elim
    | succ fu5 ih5 =>
      intro x3_L5 x4_L5 hW
      obtain ⟨z5, h, hw5⟩ := wh_s hW
      replace h : fX6_columnOf_L5 M x1 x2 x3_L5 x4_L5 = some z5 := h
      unfold fX6_columnOf_L5 at h
      refine g_iload C dX6_columnOf_5 4 rfl ?_
      refine g_aload_n C dX6_columnOf_7 rfl 0 rfl ?_
      refine g_get (v := .int (M.1 9)) C fl_X6_141 dX6_columnOf_8 0 rfl rfl ?_
      refine g_icmp_ge (tgt := 39) C dX6_columnOf_11 (by decide) (fun c11 => ?_) (fun c11 => ?_)
      · have h := ifp h c11
        obtain rfl := sinj h
        obtain rfl := wk_r hw5
        have h := hK5
        refine g_lv [3] rfl ?_
        exact j39 x3_L5 h
      · have h := ifn h c11
        refine g_iload_n C dX6_columnOf_14 rfl 3 rfl ?_
        refine g_iload_n C dX6_columnOf_15 rfl 1 rfl ?_
        refine g_aload_n C dX6_columnOf_16 rfl 0 rfl ?_
        refine g_get (v := .int (M.1 10)) C fl_X6_144 dX6_columnOf_17 0 rfl rfl ?_
        refine g_iload C dX6_columnOf_20 4 rfl ?_
        refine g_imul C dX6_columnOf_22 ?_
        refine g_iload_n C dX6_columnOf_23 rfl 2 rfl ?_
        refine g_iadd C dX6_columnOf_24 ?_
        refine g_ishr C dX6_columnOf_25 ?_
        refine g_iconst (v := (1 : Int32)) C dX6_columnOf_26 (by decide) ?_
        refine g_iand C dX6_columnOf_27 ?_
        refine g_iload C dX6_columnOf_28 4 rfl ?_
        refine g_ishl C dX6_columnOf_30 ?_
        refine g_ior C dX6_columnOf_31 ?_
        refine g_istore_n (lv' := [(3, .int (x3_L5 ||| (((x1 >>> ((((M.1 10) * x4_L5) + x2) &&& 31)) &&& (1 : Int32)) <<< (x4_L5 &&& 31)))), (0, .ref o), (1, .int x1), (2, .int x2), (4, .int x4_L5)]) C dX6_columnOf_32 rfl (by decide) rfl ?_
        refine g_iinc (j := 4) (v := (x4_L5 + (1 : Int32))) (lv' := [(4, .int (x4_L5 + (1 : Int32))), (3, .int (x3_L5 ||| (((x1 >>> ((((M.1 10) * x4_L5) + x2) &&& 31)) &&& (1 : Int32)) <<< (x4_L5 &&& 31)))), (0, .ref o), (1, .int x1), (2, .int x2)]) C dX6_columnOf_33 rfl rfl (by decide) rfl ?_
        refine g_goto (tgt := 5) C dX6_columnOf_36 (by decide) ?_
        obtain rfl := sinj h
        refine g_lv [2, 3, 4, 1, 0] rfl ?_
        exact ih5 (x3_L5 ||| (((x1 >>> ((((M.1 10) * x4_L5) + x2) &&& 31)) &&& (1 : Int32)) <<< (x4_L5 &&& 31))) (x4_L5 + (1 : Int32)) hw5
  refine g_lv [2, 3, 4, 1, 0] rfl ?_
  exact l5 100000 (0 : Int32) (0 : Int32) hW5
def fX6_isFitting_L18 (M : OM) (x1_L18 : Int32) (x4_L18 : Int32) : Option ((Int32) ⊕ ((Int32) ⊕ (Unit))) :=
  (if (M.1 9) ≤ x4_L18 then some (.inr (.inr ()))
 else ((fX6_rowOf M x1_L18 x4_L18).bind (fun r40 => (if okI (((16 : Int32) * x4_L18) + r40) 128 = true then (if ((M.2.1 24) (((16 : Int32) * x4_L18) + r40).toNatClampNeg) = 0 then some (.inr (.inl (0 : Int32)))
 else some (.inl (x4_L18 + (1 : Int32)))) else none))))
def fX6_isFitting_L59 (M : OM) (x1_L59 : Int32) (x4_L59 : Int32) : Option ((Int32) ⊕ ((Int32) ⊕ (Unit))) :=
  (if (M.1 10) ≤ x4_L59 then some (.inr (.inr ()))
 else ((fX6_columnOf M x1_L59 x4_L59).bind (fun r86 => (if okI (((16 : Int32) * ((M.1 9) + x4_L59)) + r86) 128 = true then (if ((M.2.1 24) (((16 : Int32) * ((M.1 9) + x4_L59)) + r86).toNatClampNeg) = 0 then some (.inr (.inl (0 : Int32)))
 else some (.inl (x4_L59 + (1 : Int32)))) else none))))
def fX6_isFitting_J102 (M : OM) : Option (Int32) :=
  some (1 : Int32)
def fX6_isFitting_J56 (M : OM) (x1_J56 : Int32) : Option (Int32) :=
  ((wh (σ := Int32) (ρ := (Int32) ⊕ (Unit)) (fun t => fX6_isFitting_L59 M x1_J56 t) 100000 (0 : Int32)).bind (fun X => Sum.elim (fun r => some r) (fun _ => fX6_isFitting_J102 M) X))
def fX6_isFitting (M : OM) (x1 : Int32) (x2 : Int32) (x3 : Int32) : Option (Int32) :=
  (if (x1 &&& x2) = x2 then (if (x1 &&& x3) = 0 then ((wh (σ := Int32) (ρ := (Int32) ⊕ (Unit)) (fun t => fX6_isFitting_L18 M x1 t) 100000 (0 : Int32)).bind (fun X => Sum.elim (fun r => some r) (fun _ => fX6_isFitting_J56 M x1) X))
 else some (0 : Int32))
 else some (0 : Int32))
set_option maxHeartbeats 4000000 in
set_option maxRecDepth 100000 in
theorem kX6_isFitting (l : Launch) (D : va_G) (cC cI cJ cZ : ClassId) (o : Nat) (a : Nat → Nat) (M : OM) (x1 : Int32) (x2 : Int32) (x3 : Int32) (r : Int32) (h : fX6_isFitting M x1 x2 x3 = some r) : gMi l yX6_isFitting cX6_isFitting 5 (some .boolean) (gR 2) D (tysG cC cI cJ cZ) [.ref o, .int x1, .int x2, .int x3] (wMod cI cJ o a M) r (wMod cI cJ o a M) := by
  refine gMi_of (by decide) (Nat.le_of_ble_eq_true rfl) rfl ?_
  intro p e s m args below meth c A Q C hQ
  have j102 : fX6_isFitting_J102 M = some r → gG p l e (gR 2) s m args below meth c 5 D A 0 0 Q 102 [] [] (wMod cI cJ o a M) := by
    intro h
    unfold fX6_isFitting_J102 at h
    refine g_iconst (v := (1 : Int32)) C dX6_isFitting_102 (by decide) ?_
    cases sinj h
    exact g_zret C dX6_isFitting_103 rfl rfl rfl hQ
  have j56 : ∀ (x1_J56 : Int32), fX6_isFitting_J56 M x1_J56 = some r → gG p l e (gR 2) s m args below meth c 5 D A 0 0 Q 56 [(0, .ref o), (1, .int x1_J56)] [] (wMod cI cJ o a M) := by
    intro x1_J56 h
    unfold fX6_isFitting_J56 at h
    refine g_iconst (v := (0 : Int32)) C dX6_isFitting_56 (by decide) ?_
    refine g_istore (lv' := [(4, .int (0 : Int32)), (0, .ref o), (1, .int x1_J56)]) C dX6_isFitting_57 (by decide) rfl ?_
    obtain ⟨X59, hW59, hK59⟩ := obd h
    have l59 : ∀ (fu59 : Nat) (x4_L59 : Int32), wh (σ := Int32) (ρ := (Int32) ⊕ (Unit)) (fun t => fX6_isFitting_L59 M x1_J56 t) fu59 x4_L59 = some X59 → gG p l e (gR 2) s m args below meth c 5 D A 0 0 Q 59 [(0, .ref o), (1, .int x1_J56), (4, .int x4_L59)] [] (wMod cI cJ o a M) := by
      intro fu59
      induction fu59 with
      | zero => intro x4_L59 hW; exact (wh_0 hW).elim
      | succ fu59 ih59 =>
        intro x4_L59 hW
        obtain ⟨z59, h, hw59⟩ := wh_s hW
        replace h : fX6_isFitting_L59 M x1_J56 x4_L59 = some z59 := h
        unfold fX6_isFitting_L59 at h
        refine g_iload C dX6_isFitting_59 2 rfl ?_
        refine g_aload_n C dX6_isFitting_61 rfl 0 rfl ?_
        refine g_get (v := .int (M.1 10)) C fl_X6_144 dX6_isFitting_62 0 rfl rfl ?_
        refine g_icmp_ge (tgt := 102) C dX6_isFitting_65 (by decide) (fun c65 => ?_) (fun c65 => ?_)
        · have h := ifp h c65
          obtain rfl := sinj h
          obtain rfl := wk_r hw59
          have h := ser hK59
          refine g_lv [] rfl ?_
          exact j102  h
        · have h := ifn h c65
          refine g_aload_n C dX6_isFitting_68 rfl 0 rfl ?_
          refine g_get (v := .ref (a 24)) C fl_X6_41 dX6_isFitting_69 0 rfl rfl ?_
          refine g_bipush (v := (16 : Int32)) C dX6_isFitting_72 (by decide) ?_
          refine g_aload_n C dX6_isFitting_74 rfl 0 rfl ?_
          refine g_get (v := .int (M.1 9)) C fl_X6_141 dX6_isFitting_75 0 rfl rfl ?_
          refine g_iload C dX6_isFitting_78 2 rfl ?_
          refine g_iadd C dX6_isFitting_80 ?_
          refine g_imul C dX6_isFitting_81 ?_
          refine g_aload_n C dX6_isFitting_82 rfl 0 rfl ?_
          refine g_iload_n C dX6_isFitting_83 rfl 1 rfl ?_
          refine g_iload C dX6_isFitting_84 2 rfl ?_
          obtain ⟨r86, h86, h⟩ := obd h
          refine g_callVi (st := [.int ((16 : Int32) * ((M.1 9) + x4_L59)), .ref (a 24)]) (ws2 := wMod cI cJ o a M) C yv_X6_columnOf ml_X6_195 dX6_isFitting_86 (kX6_columnOf l D cC cI cJ cZ o a M x1_J56 x4_L59 r86 h86) gCut_all ⟨by decide, by decide⟩ ⟨rfl, rfl⟩ ⟨Nat.zero_le _, Nat.zero_le _⟩ rfl rfl (Nat.le_of_ble_eq_true rfl) 5 0 rfl rfl rfl ?_
          refine g_iadd C dX6_isFitting_89 ?_
          obtain ⟨hg90, h⟩ := ifg h
          refine g_iald (f := (M.2.1 24)) C dX6_isFitting_90 11 0 rfl rfl hg90 ?_
          refine g_if_ne (tgt := 96) C dX6_isFitting_91 (by decide) (fun c91 => ?_) (fun c91 => ?_)
          · have h := ifn h c91
            refine g_iinc (j := 2) (v := (x4_L59 + (1 : Int32))) (lv' := [(4, .int (x4_L59 + (1 : Int32))), (0, .ref o), (1, .int x1_J56)]) C dX6_isFitting_96 rfl rfl (by decide) rfl ?_
            refine g_goto (tgt := 59) C dX6_isFitting_99 (by decide) ?_
            obtain rfl := sinj h
            refine g_lv [1, 2, 0] rfl ?_
            exact ih59 (x4_L59 + (1 : Int32)) hw59
          · have h := ifp h c91
            refine g_iconst (v := (0 : Int32)) C dX6_isFitting_94 (by decide) ?_
            obtain rfl := sinj h
            obtain rfl := wk_r hw59
            have h := sel hK59
            cases sinj h
            exact g_zret C dX6_isFitting_95 rfl rfl rfl hQ
    refine g_lv [1, 2, 0] rfl ?_
    exact l59 100000 (0 : Int32) hW59
  unfold fX6_isFitting at h
  refine g_iload_n C dX6_isFitting_0 rfl 1 rfl ?_
  refine g_iload_n C dX6_isFitting_1 rfl 2 rfl ?_
  refine g_iand C dX6_isFitting_2 ?_
  refine g_iload_n C dX6_isFitting_3 rfl 2 rfl ?_
  refine g_icmp_ne (tgt := 13) C dX6_isFitting_4 (by decide) (fun c4 => ?_) (fun c4 => ?_)
  · have h := ifn h c4
    refine g_iconst (v := (0 : Int32)) C dX6_isFitting_13 (by decide) ?_
    cases sinj h
    exact g_zret C dX6_isFitting_14 rfl rfl rfl hQ
  · have h := ifp h c4
    refine g_iload_n C dX6_isFitting_7 rfl 1 rfl ?_
    refine g_iload_n C dX6_isFitting_8 rfl 3 rfl ?_
    refine g_iand C dX6_isFitting_9 ?_
    refine g_if_eq (tgt := 15) C dX6_isFitting_10 (by decide) (fun c10 => ?_) (fun c10 => ?_)
    · have h := ifp h c10
      refine g_iconst (v := (0 : Int32)) C dX6_isFitting_15 (by decide) ?_
      refine g_istore (lv' := [(4, .int (0 : Int32)), (0, .ref o), (1, .int x1), (2, .int x2), (3, .int x3)]) C dX6_isFitting_16 (by decide) rfl ?_
      obtain ⟨X18, hW18, hK18⟩ := obd h
      have l18 : ∀ (fu18 : Nat) (x4_L18 : Int32), wh (σ := Int32) (ρ := (Int32) ⊕ (Unit)) (fun t => fX6_isFitting_L18 M x1 t) fu18 x4_L18 = some X18 → gG p l e (gR 2) s m args below meth c 5 D A 0 0 Q 18 [(0, .ref o), (1, .int x1), (4, .int x4_L18)] [] (wMod cI cJ o a M) := by
        intro fu18
        induction fu18 with
        | zero => intro x4_L18 hW; exact (wh_0 hW).elim
        | succ fu18 ih18 =>
          intro x4_L18 hW
          obtain ⟨z18, h, hw18⟩ := wh_s hW
          replace h : fX6_isFitting_L18 M x1 x4_L18 = some z18 := h
          unfold fX6_isFitting_L18 at h
          refine g_iload C dX6_isFitting_18 2 rfl ?_
          refine g_aload_n C dX6_isFitting_20 rfl 0 rfl ?_
          refine g_get (v := .int (M.1 9)) C fl_X6_141 dX6_isFitting_21 0 rfl rfl ?_
          refine g_icmp_ge (tgt := 56) C dX6_isFitting_24 (by decide) (fun c24 => ?_) (fun c24 => ?_)
          · have h := ifp h c24
            obtain rfl := sinj h
            obtain rfl := wk_r hw18
            have h := ser hK18
            refine g_lv [0, 1] rfl ?_
            exact j56 x1 h
          · have h := ifn h c24
            refine g_aload_n C dX6_isFitting_27 rfl 0 rfl ?_
            refine g_get (v := .ref (a 24)) C fl_X6_41 dX6_isFitting_28 0 rfl rfl ?_
            refine g_bipush (v := (16 : Int32)) C dX6_isFitting_31 (by decide) ?_
            refine g_iload C dX6_isFitting_33 2 rfl ?_
            refine g_imul C dX6_isFitting_35 ?_
            refine g_aload_n C dX6_isFitting_36 rfl 0 rfl ?_
            refine g_iload_n C dX6_isFitting_37 rfl 1 rfl ?_
            refine g_iload C dX6_isFitting_38 2 rfl ?_
            obtain ⟨r40, h40, h⟩ := obd h
            refine g_callVi (st := [.int ((16 : Int32) * x4_L18), .ref (a 24)]) (ws2 := wMod cI cJ o a M) C yv_X6_rowOf ml_X6_192 dX6_isFitting_40 (kX6_rowOf l D cC cI cJ cZ o a M x1 x4_L18 r40 h40) gCut_all ⟨by decide, by decide⟩ ⟨rfl, rfl⟩ ⟨Nat.zero_le _, Nat.zero_le _⟩ rfl rfl (Nat.le_of_ble_eq_true rfl) 5 0 rfl rfl rfl ?_
            refine g_iadd C dX6_isFitting_43 ?_
            obtain ⟨hg44, h⟩ := ifg h
            refine g_iald (f := (M.2.1 24)) C dX6_isFitting_44 11 0 rfl rfl hg44 ?_
            refine g_if_ne (tgt := 50) C dX6_isFitting_45 (by decide) (fun c45 => ?_) (fun c45 => ?_)
            · have h := ifn h c45
              refine g_iinc (j := 2) (v := (x4_L18 + (1 : Int32))) (lv' := [(4, .int (x4_L18 + (1 : Int32))), (0, .ref o), (1, .int x1)]) C dX6_isFitting_50 rfl rfl (by decide) rfl ?_
              refine g_goto (tgt := 18) C dX6_isFitting_53 (by decide) ?_
              obtain rfl := sinj h
              refine g_lv [1, 2, 0] rfl ?_
              exact ih18 (x4_L18 + (1 : Int32)) hw18
            · have h := ifp h c45
              refine g_iconst (v := (0 : Int32)) C dX6_isFitting_48 (by decide) ?_
              obtain rfl := sinj h
              obtain rfl := wk_r hw18
              have h := sel hK18
              cases sinj h
              exact g_zret C dX6_isFitting_49 rfl rfl rfl hQ
      refine g_lv [1, 2, 0] rfl ?_
      exact l18 100000 (0 : Int32) hW18
    · have h := ifn h c10
      refine g_iconst (v := (0 : Int32)) C dX6_isFitting_13 (by decide) ?_
      cases sinj h
      exact g_zret C dX6_isFitting_14 rfl rfl rfl hQ
def fX6_marked_L4 (M : OM) (x1_L4 : Int32) (x2_L4 : Int32) (x3_L4 : Int32) : Option ((Int32 × Int32) ⊕ (Int32)) :=
  (if ((M.1 9) * (M.1 10)) ≤ x3_L4 then some (.inr x2_L4)
 else (if okI x3_L4 16 = true then (if ((M.2.1 15) x3_L4.toNatClampNeg) = x1_L4 then some (.inl ((x2_L4 ||| ((1 : Int32) <<< (x3_L4 &&& 31))), (x3_L4 + (1 : Int32))))
 else some (.inl ((x2_L4 ||| (0 : Int32)), (x3_L4 + (1 : Int32))))) else none))
def fX6_marked_J43 (M : OM) (x2_J43 : Int32) : Option (Int32) :=
  some x2_J43
def fX6_marked (M : OM) (x1 : Int32) : Option (Int32) :=
  ((wh (σ := Int32 × Int32) (ρ := Int32) (fun t => fX6_marked_L4 M x1 t.1 t.2) 100000 ((0 : Int32), (0 : Int32))).bind (fun e2_L4 => fX6_marked_J43 M e2_L4))
set_option maxHeartbeats 4000000 in
set_option maxRecDepth 100000 in
theorem kX6_marked (l : Launch) (D : va_G) (cC cI cJ cZ : ClassId) (o : Nat) (a : Nat → Nat) (M : OM) (x1 : Int32) (r : Int32) (h : fX6_marked M x1 = some r) : gMi l yX6_marked cX6_marked 4 (some .int) (gR 1) D (tysG cC cI cJ cZ) [.ref o, .int x1] (wMod cI cJ o a M) r (wMod cI cJ o a M) := by
  refine gMi_of (by decide) (Nat.le_of_ble_eq_true rfl) rfl ?_
  intro p e s m args below meth c A Q C hQ
  have j43 : ∀ (x2_J43 : Int32), fX6_marked_J43 M x2_J43 = some r → gG p l e (gR 1) s m args below meth c 4 D A 0 0 Q 43 [(2, .int x2_J43)] [] (wMod cI cJ o a M) := by
    intro x2_J43 h
    unfold fX6_marked_J43 at h
    refine g_iload_n C dX6_marked_43 rfl 0 rfl ?_
    cases sinj h
    exact g_iret C dX6_marked_44 rfl rfl hQ
  unfold fX6_marked at h
  refine g_iconst (v := (0 : Int32)) C dX6_marked_0 (by decide) ?_
  refine g_istore_n (lv' := [(2, .int (0 : Int32)), (0, .ref o), (1, .int x1)]) C dX6_marked_1 rfl (by decide) rfl ?_
  refine g_iconst (v := (0 : Int32)) C dX6_marked_2 (by decide) ?_
  refine g_istore_n (lv' := [(3, .int (0 : Int32)), (2, .int (0 : Int32)), (0, .ref o), (1, .int x1)]) C dX6_marked_3 rfl (by decide) rfl ?_
  obtain ⟨X4, hW4, hK4⟩ := obd h
  have l4 : ∀ (fu4 : Nat) (x2_L4 : Int32) (x3_L4 : Int32), wh (σ := Int32 × Int32) (ρ := Int32) (fun t => fX6_marked_L4 M x1 t.1 t.2) fu4 (x2_L4, x3_L4) = some X4 → gG p l e (gR 1) s m args below meth c 4 D A 0 0 Q 4 [(0, .ref o), (1, .int x1), (2, .int x2_L4), (3, .int x3_L4)] [] (wMod cI cJ o a M) := by
    intro fu4
    induction fu4 with
    | zero => intro x2_L4 x3_L4 hW; exact (wh_0 hW).elim
    | succ fu4 ih4 =>
      intro x2_L4 x3_L4 hW
      obtain ⟨z4, h, hw4⟩ := wh_s hW
      replace h : fX6_marked_L4 M x1 x2_L4 x3_L4 = some z4 := h
      unfold fX6_marked_L4 at h
      refine g_iload_n C dX6_marked_4 rfl 3 rfl ?_
      refine g_aload_n C dX6_marked_5 rfl 0 rfl ?_
      refine g_get (v := .int (M.1 9)) C fl_X6_141 dX6_marked_6 0 rfl rfl ?_
      refine g_aload_n C dX6_marked_9 rfl 0 rfl ?_
      refine g_get (v := .int (M.1 10)) C fl_X6_144 dX6_marked_10 0 rfl rfl ?_
      refine g_imul C dX6_marked_13 ?_
      refine g_icmp_ge (tgt := 43) C dX6_marked_14 (by decide) (fun c14 => ?_) (fun c14 => ?_)
      · have h := ifp h c14
        obtain rfl := sinj h
        obtain rfl := wk_r hw4
        have h := hK4
        refine g_lv [2] rfl ?_
        exact j43 x2_L4 h
      · have h := ifn h c14
        refine g_iload_n C dX6_marked_17 rfl 2 rfl ?_
        refine g_aload_n C dX6_marked_18 rfl 0 rfl ?_
        refine g_get (v := .ref (a 15)) C fl_X6_31 dX6_marked_19 0 rfl rfl ?_
        refine g_iload_n C dX6_marked_22 rfl 3 rfl ?_
        obtain ⟨hg23, h⟩ := ifg h
        refine g_iald (f := (M.2.1 15)) C dX6_marked_23 8 0 rfl rfl hg23 ?_
        refine g_iload_n C dX6_marked_24 rfl 1 rfl ?_
        refine g_icmp_ne (tgt := 34) C dX6_marked_25 (by decide) (fun c25 => ?_) (fun c25 => ?_)
        · have h := ifn h c25
          refine g_iconst (v := (0 : Int32)) C dX6_marked_34 (by decide) ?_
          refine g_ior C dX6_marked_35 ?_
          refine g_istore_n (lv' := [(2, .int (x2_L4 ||| (0 : Int32))), (0, .ref o), (1, .int x1), (3, .int x3_L4)]) C dX6_marked_36 rfl (by decide) rfl ?_
          refine g_iinc (j := 3) (v := (x3_L4 + (1 : Int32))) (lv' := [(3, .int (x3_L4 + (1 : Int32))), (2, .int (x2_L4 ||| (0 : Int32))), (0, .ref o), (1, .int x1)]) C dX6_marked_37 rfl rfl (by decide) rfl ?_
          refine g_goto (tgt := 4) C dX6_marked_40 (by decide) ?_
          obtain rfl := sinj h
          refine g_lv [2, 3, 1, 0] rfl ?_
          exact ih4 (x2_L4 ||| (0 : Int32)) (x3_L4 + (1 : Int32)) hw4
        · have h := ifp h c25
          refine g_iconst (v := (1 : Int32)) C dX6_marked_28 (by decide) ?_
          refine g_iload_n C dX6_marked_29 rfl 3 rfl ?_
          refine g_ishl C dX6_marked_30 ?_
          refine g_goto (tgt := 35) C dX6_marked_31 (by decide) ?_
          refine g_ior C dX6_marked_35 ?_
          refine g_istore_n (lv' := [(2, .int (x2_L4 ||| ((1 : Int32) <<< (x3_L4 &&& 31)))), (0, .ref o), (1, .int x1), (3, .int x3_L4)]) C dX6_marked_36 rfl (by decide) rfl ?_
          refine g_iinc (j := 3) (v := (x3_L4 + (1 : Int32))) (lv' := [(3, .int (x3_L4 + (1 : Int32))), (2, .int (x2_L4 ||| ((1 : Int32) <<< (x3_L4 &&& 31)))), (0, .ref o), (1, .int x1)]) C dX6_marked_37 rfl rfl (by decide) rfl ?_
          refine g_goto (tgt := 4) C dX6_marked_40 (by decide) ?_
          obtain rfl := sinj h
          refine g_lv [2, 3, 1, 0] rfl ?_
          exact ih4 (x2_L4 ||| ((1 : Int32) <<< (x3_L4 &&& 31))) (x3_L4 + (1 : Int32)) hw4
  refine g_lv [2, 3, 1, 0] rfl ?_
  exact l4 100000 (0 : Int32) (0 : Int32) hW4
def fX6_layFit_L6 (x1_L6 : Int32) (M_L6 : OM) : Option ((Int32 × OM) ⊕ (OM)) :=
  (if (1024 : Int32) ≤ x1_L6 then some (.inr M_L6)
 else (if okI x1_L6 1024 = true then some (.inl ((x1_L6 + (1 : Int32)), (M_L6.1, M_L6.2.1, M_L6.2.2.1, (vp_updL M_L6.2.2.2 x1_L6.toNatClampNeg (0 : Int64))))) else none))
def fX6_layFit_L28 (x1_L28 : Int32) (M_L28 : OM) : Option ((Int32 × OM) ⊕ (OM)) :=
  (if (16 : Int32) ≤ x1_L28 then some (.inr M_L28)
 else (if okI x1_L28 16 = true then some (.inl ((x1_L28 + (1 : Int32)), (M_L28.1, (va_up M_L28.2.1 23 (upd (M_L28.2.1 23) x1_L28.toNatClampNeg (0 : Int32))), M_L28.2.2.1, M_L28.2.2.2))) else none))
def fX6_layFit_J151 (x1_L66 : Int32) (x2_L66 : Int32) (x3_J151 : Int32) (M_J151 : OM) : Option ((Int32 × OM) ⊕ (OM)) :=
  some (.inl ((x3_J151 + (1 : Int32)), M_J151))
def fX6_layFit_L122 (x1_L122 : Int32) (x2_L122 : Int32) (x3_L122 : Int32) (x4_L122 : Int32) (M_L122 : OM) : Option ((Int32 × OM) ⊕ (OM)) :=
  (if (16 : Int32) ≤ x4_L122 then some (.inr M_L122)
 else (if okI x4_L122 16 = true then (if okI x4_L122 16 = true then some (.inl ((x4_L122 + (1 : Int32)), (M_L122.1, (va_up M_L122.2.1 23 (upd (M_L122.2.1 23) x4_L122.toNatClampNeg (((M_L122.2.1 23) x4_L122.toNatClampNeg) + ((x3_L122 >>> (x4_L122 &&& 31)) &&& (1 : Int32))))), M_L122.2.2.1, M_L122.2.2.2))) else none) else none))
def fX6_layFit_L66 (x1_L66 : Int32) (x2_L66 : Int32) (x3_L66 : Int32) (M_L66 : OM) : Option ((Int32 × OM) ⊕ (OM)) :=
  (if ((1 : Int32) <<< (((M_L66.1 9) * (M_L66.1 10)) &&& 31)) ≤ x3_L66 then some (.inr M_L66)
 else ((fX6_isFitting M_L66 x3_L66 x1_L66 x2_L66).bind (fun r85 => (if r85 = 0 then fX6_layFit_J151 x1_L66 x2_L66 x3_L66 M_L66
 else (if ¬ (64 : Int32) = 0 then (if okI (x3_L66 / (64 : Int32)) 1024 = true then (if ¬ (64 : Int32) = 0 then (if okI (x3_L66 / (64 : Int32)) 1024 = true then ((wh (σ := Int32 × OM) (ρ := OM) (fun t => fX6_layFit_L122 x1_L66 x2_L66 x3_L66 t.1 t.2) 100000 ((0 : Int32), ((va_up M_L66.1 22 ((M_L66.1 22) + (1 : Int32))), M_L66.2.1, M_L66.2.2.1, (vp_updL M_L66.2.2.2 (x3_L66 / (64 : Int32)).toNatClampNeg ((M_L66.2.2.2 (x3_L66 / (64 : Int32)).toNatClampNeg) ||| ((1 : Int64) <<< ((x3_L66 - x3_L66 / (64 : Int32) * (64 : Int32)).toInt64 &&& 63))))))).bind (fun M_E122 => fX6_layFit_J151 x1_L66 x2_L66 x3_L66 M_E122)) else none) else none) else none) else none)))))
def fX6_layFit_J157 (M_J157 : OM) : Option (OM) :=
  some M_J157
def fX6_layFit_J47 (M_J47 : OM) : Option (OM) :=
  ((fX6_marked ((va_up M_J47.1 22 (0 : Int32)), M_J47.2.1, M_J47.2.2.1, M_J47.2.2.2) (1 : Int32)).bind (fun r54 => ((fX6_marked ((va_up M_J47.1 22 (0 : Int32)), M_J47.2.1, M_J47.2.2.1, M_J47.2.2.2) (2 : Int32)).bind (fun r60 => ((wh (σ := Int32 × OM) (ρ := OM) (fun t => fX6_layFit_L66 r54 r60 t.1 t.2) 100000 ((0 : Int32), ((va_up M_J47.1 22 (0 : Int32)), M_J47.2.1, M_J47.2.2.1, M_J47.2.2.2))).bind (fun M_E66 => fX6_layFit_J157 M_E66))))))
def fX6_layFit_J26 (M_J26 : OM) : Option (OM) :=
  ((wh (σ := Int32 × OM) (ρ := OM) (fun t => fX6_layFit_L28 t.1 t.2) 100000 ((0 : Int32), M_J26)).bind (fun M_E28 => fX6_layFit_J47 M_E28))
def fX6_layFit (M : OM)  : Option (OM) :=
  ((fX6_layTable M).bind (fun T1 => ((wh (σ := Int32 × OM) (ρ := OM) (fun t => fX6_layFit_L6 t.1 t.2) 100000 ((0 : Int32), T1)).bind (fun M_E6 => fX6_layFit_J26 M_E6))))
set_option maxHeartbeats 4000000 in
set_option maxRecDepth 100000 in
theorem kX6_layFit (l : Launch) (D : va_G) (cC cI cJ cZ : ClassId) (o : Nat) (a : Nat → Nat) (M : OM)  (M' : OM) (h : fX6_layFit M = some M') : gMv l yX6_layFit cX6_layFit 5 none (gR 5) D (tysG cC cI cJ cZ) [.ref o] (wMod cI cJ o a M) (wMod cI cJ o a M') := by
  refine gMv_of (by decide) (Nat.le_of_ble_eq_true rfl) rfl ?_
  intro p e s m args below meth c A Q C hQ
  have j157 : ∀ (M_J157 : OM), fX6_layFit_J157 M_J157 = some M' → gG p l e (gR 5) s m args below meth c 5 D A 0 0 Q 157 [] [] (wMod cI cJ o a M_J157) := by
    intro M_J157 h
    unfold fX6_layFit_J157 at h
    cases sinj h
    exact g_vret C dX6_layFit_157 rfl hQ
  have j47 : ∀ (M_J47 : OM), fX6_layFit_J47 M_J47 = some M' → gG p l e (gR 5) s m args below meth c 5 D A 0 0 Q 47 [(0, .ref o)] [] (wMod cI cJ o a M_J47) := by
    intro M_J47 h
    unfold fX6_layFit_J47 at h
    refine g_aload_n C dX6_layFit_47 rfl 0 rfl ?_
    refine g_iconst (v := (0 : Int32)) C dX6_layFit_48 (by decide) ?_
    refine g_put (ws2 := wMod cI cJ o a ((va_up M_J47.1 22 (0 : Int32)), M_J47.2.1, M_J47.2.2.1, M_J47.2.2.2)) C fp_X6_201 dX6_layFit_49 0 rfl rfl rfl (Nat.le_of_ble_eq_true rfl) rfl ?_
    refine g_aload_n C dX6_layFit_52 rfl 0 rfl ?_
    refine g_iconst (v := (1 : Int32)) C dX6_layFit_53 (by decide) ?_
    obtain ⟨r54, h54, h⟩ := obd h
    refine g_callVi (st := []) (ws2 := wMod cI cJ o a ((va_up M_J47.1 22 (0 : Int32)), M_J47.2.1, M_J47.2.2.1, M_J47.2.2.2)) C yv_X6_marked ml_X6_204 dX6_layFit_54 (kX6_marked l D cC cI cJ cZ o a ((va_up M_J47.1 22 (0 : Int32)), M_J47.2.1, M_J47.2.2.1, M_J47.2.2.2) (1 : Int32) r54 h54) gCut_all ⟨by decide, by decide⟩ ⟨rfl, rfl⟩ ⟨Nat.zero_le _, Nat.zero_le _⟩ rfl rfl (Nat.le_of_ble_eq_true rfl) 5 0 rfl rfl rfl ?_
    refine g_istore_n (lv' := [(1, .int r54), (0, .ref o)]) C dX6_layFit_57 rfl (by decide) rfl ?_
    refine g_aload_n C dX6_layFit_58 rfl 1 rfl ?_
    refine g_iconst (v := (2 : Int32)) C dX6_layFit_59 (by decide) ?_
    obtain ⟨r60, h60, h⟩ := obd h
    refine g_callVi (st := []) (ws2 := wMod cI cJ o a ((va_up M_J47.1 22 (0 : Int32)), M_J47.2.1, M_J47.2.2.1, M_J47.2.2.2)) C yv_X6_marked ml_X6_204 dX6_layFit_60 (kX6_marked l D cC cI cJ cZ o a ((va_up M_J47.1 22 (0 : Int32)), M_J47.2.1, M_J47.2.2.1, M_J47.2.2.2) (2 : Int32) r60 h60) gCut_all ⟨by decide, by decide⟩ ⟨rfl, rfl⟩ ⟨Nat.zero_le _, Nat.zero_le _⟩ rfl rfl (Nat.le_of_ble_eq_true rfl) 5 0 rfl rfl rfl ?_
    refine g_istore_n (lv' := [(2, .int r60), (1, .int r54), (0, .ref o)]) C dX6_layFit_63 rfl (by decide) rfl ?_
    refine g_iconst (v := (0 : Int32)) C dX6_layFit_64 (by decide) ?_
    refine g_istore_n (lv' := [(3, .int (0 : Int32)), (2, .int r60), (1, .int r54), (0, .ref o)]) C dX6_layFit_65 rfl (by decide) rfl ?_
    obtain ⟨X66, hW66, hK66⟩ := obd h
    have l66 : ∀ (fu66 : Nat) (x3_L66 : Int32) (M_L66 : OM), wh (σ := Int32 × OM) (ρ := OM) (fun t => fX6_layFit_L66 r54 r60 t.1 t.2) fu66 (x3_L66, M_L66) = some X66 → gG p l e (gR 5) s m args below meth c 5 D A 0 0 Q 66 [(0, .ref o), (1, .int r54), (2, .int r60), (3, .int x3_L66)] [] (wMod cI cJ o a M_L66) := by
      intro fu66
      induction fu66 with
      | zero => intro x3_L66 M_L66 hW; exact (wh_0 hW).elim
      | succ fu66 ih66 =>
        intro x3_L66 M_L66 hW
        obtain ⟨z66, h, hw66⟩ := wh_s hW
        have j151 : ∀ (x3_J151 : Int32) (M_J151 : OM) (z66 : (Int32 × OM) ⊕ (OM)), fX6_layFit_J151 r54 r60 x3_J151 M_J151 = some z66 → wk (fun t => fX6_layFit_L66 r54 r60 t.1 t.2) fu66 z66 = some X66 → gG p l e (gR 5) s m args below meth c 5 D A 0 0 Q 151 [(0, .ref o), (1, .int r54), (2, .int r60), (3, .int x3_J151)] [] (wMod cI cJ o a M_J151) := by
          intro x3_J151 M_J151 z66 h hw66
          unfold fX6_layFit_J151 at h
          refine g_iinc (j := 3) (v := (x3_J151 + (1 : Int32))) (lv' := [(3, .int (x3_J151 + (1 : Int32))), (0, .ref o), (1, .int r54), (2, .int r60)]) C dX6_layFit_151 rfl rfl (by decide) rfl ?_
          refine g_goto (tgt := 66) C dX6_layFit_154 (by decide) ?_
          obtain rfl := sinj h
          refine g_lv [1, 2, 3, 0] rfl ?_
          exact ih66 (x3_J151 + (1 : Int32)) M_J151 hw66
        replace h : fX6_layFit_L66 r54 r60 x3_L66 M_L66 = some z66 := h
        unfold fX6_layFit_L66 at h
        refine g_iload_n C dX6_layFit_66 rfl 3 rfl ?_
        refine g_iconst (v := (1 : Int32)) C dX6_layFit_67 (by decide) ?_
        refine g_aload_n C dX6_layFit_68 rfl 0 rfl ?_
        refine g_get (v := .int (M_L66.1 9)) C fl_X6_141 dX6_layFit_69 0 rfl rfl ?_
        refine g_aload_n C dX6_layFit_72 rfl 0 rfl ?_
        refine g_get (v := .int (M_L66.1 10)) C fl_X6_144 dX6_layFit_73 0 rfl rfl ?_
        refine g_imul C dX6_layFit_76 ?_
        refine g_ishl C dX6_layFit_77 ?_
        refine g_icmp_ge (tgt := 157) C dX6_layFit_78 (by decide) (fun c78 => ?_) (fun c78 => ?_)
        · have h := ifp h c78
          obtain rfl := sinj h
          obtain rfl := wk_r hw66
          have h := hK66
          refine g_lv [] rfl ?_
          exact j157 M_L66 h
        · have h := ifn h c78
          refine g_aload_n C dX6_layFit_81 rfl 0 rfl ?_
          refine g_iload_n C dX6_layFit_82 rfl 3 rfl ?_
          refine g_iload_n C dX6_layFit_83 rfl 1 rfl ?_
          refine g_iload_n C dX6_layFit_84 rfl 2 rfl ?_
          obtain ⟨r85, h85, h⟩ := obd h
          refine g_callVi (st := []) (ws2 := wMod cI cJ o a M_L66) C yv_X6_isFitting ml_X6_207 dX6_layFit_85 (kX6_isFitting l D cC cI cJ cZ o a M_L66 x3_L66 r54 r60 r85 h85) gCut_all ⟨by decide, by decide⟩ ⟨rfl, rfl⟩ ⟨Nat.zero_le _, Nat.zero_le _⟩ rfl rfl (Nat.le_of_ble_eq_true rfl) 5 0 rfl rfl rfl ?_
          refine g_if_eq (tgt := 151) C dX6_layFit_88 (by decide) (fun c88 => ?_) (fun c88 => ?_)
          · have h := ifp h c88
            refine g_lv [0, 1, 2, 3] rfl ?_
            exact j151 x3_L66 M_L66 _ h hw66
          · have h := ifn h c88
            refine g_aload_n C dX6_layFit_91 rfl 0 rfl ?_
            refine g_get (v := .ref (a 21)) C fl_X6_34 dX6_layFit_92 0 rfl rfl ?_
            refine g_iload_n C dX6_layFit_95 rfl 3 rfl ?_
            refine g_bipush (v := (64 : Int32)) C dX6_layFit_96 (by decide) ?_
            obtain ⟨hg98, h⟩ := ifg h
            refine g_idiv C dX6_layFit_98 hg98 ?_
            refine g_dup2 C dX6_layFit_99 rfl rfl ?_
            obtain ⟨hg100, h⟩ := ifg h
            refine g_lald (f := M_L66.2.2.2) C dX6_layFit_100 9 3 rfl rfl hg100 ?_
            refine g_lconst (v := (1 : Int64)) C dX6_layFit_101 (by decide) ?_
            refine g_iload_n C dX6_layFit_102 rfl 3 rfl ?_
            refine g_bipush (v := (64 : Int32)) C dX6_layFit_103 (by decide) ?_
            obtain ⟨hg105, h⟩ := ifg h
            refine g_irem C dX6_layFit_105 hg105 ?_
            refine g_lshl C dX6_layFit_106 ?_
            refine g_lor C dX6_layFit_107 ?_
            obtain ⟨hg108, h⟩ := ifg h
            refine g_last (f := M_L66.2.2.2) (ws2 := wMod cI cJ o a (M_L66.1, M_L66.2.1, M_L66.2.2.1, (vp_updL M_L66.2.2.2 (x3_L66 / (64 : Int32)).toNatClampNeg ((M_L66.2.2.2 (x3_L66 / (64 : Int32)).toNatClampNeg) ||| ((1 : Int64) <<< ((x3_L66 - x3_L66 / (64 : Int32) * (64 : Int32)).toInt64 &&& 63)))))) C dX6_layFit_108 9 3 rfl rfl hg108 rfl ?_
            refine g_aload_n C dX6_layFit_109 rfl 0 rfl ?_
            refine g_dup C dX6_layFit_110 rfl ?_
            refine g_get (v := .int (M_L66.1 22)) C fl_X6_201 dX6_layFit_111 0 rfl rfl ?_
            refine g_iconst (v := (1 : Int32)) C dX6_layFit_114 (by decide) ?_
            refine g_iadd C dX6_layFit_115 ?_
            refine g_put (ws2 := wMod cI cJ o a ((va_up M_L66.1 22 ((M_L66.1 22) + (1 : Int32))), M_L66.2.1, M_L66.2.2.1, (vp_updL M_L66.2.2.2 (x3_L66 / (64 : Int32)).toNatClampNeg ((M_L66.2.2.2 (x3_L66 / (64 : Int32)).toNatClampNeg) ||| ((1 : Int64) <<< ((x3_L66 - x3_L66 / (64 : Int32) * (64 : Int32)).toInt64 &&& 63)))))) C fp_X6_201 dX6_layFit_116 0 rfl rfl rfl (Nat.le_of_ble_eq_true rfl) rfl ?_
            refine g_iconst (v := (0 : Int32)) C dX6_layFit_119 (by decide) ?_
            refine g_istore (lv' := [(4, .int (0 : Int32)), (0, .ref o), (1, .int r54), (2, .int r60), (3, .int x3_L66)]) C dX6_layFit_120 (by decide) rfl ?_
            obtain ⟨X122, hW122, hK122⟩ := obd h
            have l122 : ∀ (fu122 : Nat) (x4_L122 : Int32) (M_L122 : OM), wh (σ := Int32 × OM) (ρ := OM) (fun t => fX6_layFit_L122 r54 r60 x3_L66 t.1 t.2) fu122 (x4_L122, M_L122) = some X122 → gG p l e (gR 5) s m args below meth c 5 D A 0 0 Q 122 [(0, .ref o), (1, .int r54), (2, .int r60), (3, .int x3_L66), (4, .int x4_L122)] [] (wMod cI cJ o a M_L122) := by
              intro fu122
              induction fu122 with
              | zero => intro x4_L122 M_L122 hW; exact (wh_0 hW).elim
              | succ fu122 ih122 =>
                intro x4_L122 M_L122 hW
                obtain ⟨z122, h, hw122⟩ := wh_s hW
                replace h : fX6_layFit_L122 r54 r60 x3_L66 x4_L122 M_L122 = some z122 := h
                unfold fX6_layFit_L122 at h
                refine g_iload C dX6_layFit_122 4 rfl ?_
                refine g_bipush (v := (16 : Int32)) C dX6_layFit_124 (by decide) ?_
                refine g_icmp_ge (tgt := 151) C dX6_layFit_126 (by decide) (fun c126 => ?_) (fun c126 => ?_)
                · have h := ifp h c126
                  obtain rfl := sinj h
                  obtain rfl := wk_r hw122
                  have h := hK122
                  refine g_lv [0, 1, 2, 3] rfl ?_
                  exact j151 x3_L66 M_L122 _ h hw66
                · have h := ifn h c126
                  refine g_aload_n C dX6_layFit_129 rfl 0 rfl ?_
                  refine g_get (v := .ref (a 23)) C fl_X6_38 dX6_layFit_130 0 rfl rfl ?_
                  refine g_iload C dX6_layFit_133 4 rfl ?_
                  refine g_dup2 C dX6_layFit_135 rfl rfl ?_
                  obtain ⟨hg136, h⟩ := ifg h
                  refine g_iald (f := (M_L122.2.1 23)) C dX6_layFit_136 10 0 rfl rfl hg136 ?_
                  refine g_iload_n C dX6_layFit_137 rfl 3 rfl ?_
                  refine g_iload C dX6_layFit_138 4 rfl ?_
                  refine g_ishr C dX6_layFit_140 ?_
                  refine g_iconst (v := (1 : Int32)) C dX6_layFit_141 (by decide) ?_
                  refine g_iand C dX6_layFit_142 ?_
                  refine g_iadd C dX6_layFit_143 ?_
                  obtain ⟨hg144, h⟩ := ifg h
                  refine g_iast (f := (M_L122.2.1 23)) (ws2 := wMod cI cJ o a (M_L122.1, (va_up M_L122.2.1 23 (upd (M_L122.2.1 23) x4_L122.toNatClampNeg (((M_L122.2.1 23) x4_L122.toNatClampNeg) + ((x3_L66 >>> (x4_L122 &&& 31)) &&& (1 : Int32))))), M_L122.2.2.1, M_L122.2.2.2)) C dX6_layFit_144 10 0 rfl rfl hg144 rfl ?_
                  refine g_iinc (j := 4) (v := (x4_L122 + (1 : Int32))) (lv' := [(4, .int (x4_L122 + (1 : Int32))), (0, .ref o), (1, .int r54), (2, .int r60), (3, .int x3_L66)]) C dX6_layFit_145 rfl rfl (by decide) rfl ?_
                  refine g_goto (tgt := 122) C dX6_layFit_148 (by decide) ?_
                  obtain rfl := sinj h
                  refine g_lv [1, 2, 3, 4, 0] rfl ?_
                  exact ih122 (x4_L122 + (1 : Int32)) (M_L122.1, (va_up M_L122.2.1 23 (upd (M_L122.2.1 23) x4_L122.toNatClampNeg (((M_L122.2.1 23) x4_L122.toNatClampNeg) + ((x3_L66 >>> (x4_L122 &&& 31)) &&& (1 : Int32))))), M_L122.2.2.1, M_L122.2.2.2) hw122
            refine g_lv [1, 2, 3, 4, 0] rfl ?_
            exact l122 100000 (0 : Int32) ((va_up M_L66.1 22 ((M_L66.1 22) + (1 : Int32))), M_L66.2.1, M_L66.2.2.1, (vp_updL M_L66.2.2.2 (x3_L66 / (64 : Int32)).toNatClampNeg ((M_L66.2.2.2 (x3_L66 / (64 : Int32)).toNatClampNeg) ||| ((1 : Int64) <<< ((x3_L66 - x3_L66 / (64 : Int32) * (64 : Int32)).toInt64 &&& 63))))) hW122
    refine g_lv [3, 2, 1, 0] rfl ?_
    exact l66 100000 (0 : Int32) ((va_up M_J47.1 22 (0 : Int32)), M_J47.2.1, M_J47.2.2.1, M_J47.2.2.2) hW66
  have j26 : ∀ (M_J26 : OM), fX6_layFit_J26 M_J26 = some M' → gG p l e (gR 5) s m args below meth c 5 D A 0 0 Q 26 [(0, .ref o)] [] (wMod cI cJ o a M_J26) := by
    intro M_J26 h
    unfold fX6_layFit_J26 at h
    refine g_iconst (v := (0 : Int32)) C dX6_layFit_26 (by decide) ?_
    refine g_istore_n (lv' := [(1, .int (0 : Int32)), (0, .ref o)]) C dX6_layFit_27 rfl (by decide) rfl ?_
    obtain ⟨X28, hW28, hK28⟩ := obd h
    have l28 : ∀ (fu28 : Nat) (x1_L28 : Int32) (M_L28 : OM), wh (σ := Int32 × OM) (ρ := OM) (fun t => fX6_layFit_L28 t.1 t.2) fu28 (x1_L28, M_L28) = some X28 → gG p l e (gR 5) s m args below meth c 5 D A 0 0 Q 28 [(0, .ref o), (1, .int x1_L28)] [] (wMod cI cJ o a M_L28) := by
      intro fu28
      induction fu28 with
      | zero => intro x1_L28 M_L28 hW; exact (wh_0 hW).elim
      | succ fu28 ih28 =>
        intro x1_L28 M_L28 hW
        obtain ⟨z28, h, hw28⟩ := wh_s hW
        replace h : fX6_layFit_L28 x1_L28 M_L28 = some z28 := h
        unfold fX6_layFit_L28 at h
        refine g_iload_n C dX6_layFit_28 rfl 1 rfl ?_
        refine g_bipush (v := (16 : Int32)) C dX6_layFit_29 (by decide) ?_
        refine g_icmp_ge (tgt := 47) C dX6_layFit_31 (by decide) (fun c31 => ?_) (fun c31 => ?_)
        · have h := ifp h c31
          obtain rfl := sinj h
          obtain rfl := wk_r hw28
          have h := hK28
          refine g_lv [0] rfl ?_
          exact j47 M_L28 h
        · have h := ifn h c31
          refine g_aload_n C dX6_layFit_34 rfl 0 rfl ?_
          refine g_get (v := .ref (a 23)) C fl_X6_38 dX6_layFit_35 0 rfl rfl ?_
          refine g_iload_n C dX6_layFit_38 rfl 1 rfl ?_
          refine g_iconst (v := (0 : Int32)) C dX6_layFit_39 (by decide) ?_
          obtain ⟨hg40, h⟩ := ifg h
          refine g_iast (f := (M_L28.2.1 23)) (ws2 := wMod cI cJ o a (M_L28.1, (va_up M_L28.2.1 23 (upd (M_L28.2.1 23) x1_L28.toNatClampNeg (0 : Int32))), M_L28.2.2.1, M_L28.2.2.2)) C dX6_layFit_40 10 0 rfl rfl hg40 rfl ?_
          refine g_iinc (j := 1) (v := (x1_L28 + (1 : Int32))) (lv' := [(1, .int (x1_L28 + (1 : Int32))), (0, .ref o)]) C dX6_layFit_41 rfl rfl (by decide) rfl ?_
          refine g_goto (tgt := 28) C dX6_layFit_44 (by decide) ?_
          obtain rfl := sinj h
          refine g_lv [1, 0] rfl ?_
          exact ih28 (x1_L28 + (1 : Int32)) (M_L28.1, (va_up M_L28.2.1 23 (upd (M_L28.2.1 23) x1_L28.toNatClampNeg (0 : Int32))), M_L28.2.2.1, M_L28.2.2.2) hw28
    refine g_lv [1, 0] rfl ?_
    exact l28 100000 (0 : Int32) M_J26 hW28
  unfold fX6_layFit at h
  refine g_aload_n C dX6_layFit_0 rfl 0 rfl ?_
  obtain ⟨T1, h1, h⟩ := obd h
  refine g_callVv (st := []) (ws2 := wMod cI cJ o a T1) C yv_X6_layTable ml_X6_198 dX6_layFit_1 (kX6_layTable l D cC cI cJ cZ o a M T1 h1) gCut_all ⟨by decide, by decide⟩ ⟨rfl, rfl⟩ ⟨Nat.zero_le _, Nat.zero_le _⟩ rfl rfl (Nat.le_of_ble_eq_true rfl) 5 0 rfl rfl rfl ?_
  refine g_iconst (v := (0 : Int32)) C dX6_layFit_4 (by decide) ?_
  refine g_istore_n (lv' := [(1, .int (0 : Int32)), (0, .ref o)]) C dX6_layFit_5 rfl (by decide) rfl ?_
  obtain ⟨X6, hW6, hK6⟩ := obd h
  have l6 : ∀ (fu6 : Nat) (x1_L6 : Int32) (M_L6 : OM), wh (σ := Int32 × OM) (ρ := OM) (fun t => fX6_layFit_L6 t.1 t.2) fu6 (x1_L6, M_L6) = some X6 → gG p l e (gR 5) s m args below meth c 5 D A 0 0 Q 6 [(0, .ref o), (1, .int x1_L6)] [] (wMod cI cJ o a M_L6) := by
    intro fu6
    induction fu6 with
    | zero => intro x1_L6 M_L6 hW; exact (wh_0 hW).elim
    | succ fu6 ih6 =>
      intro x1_L6 M_L6 hW
      obtain ⟨z6, h, hw6⟩ := wh_s hW
      replace h : fX6_layFit_L6 x1_L6 M_L6 = some z6 := h
      unfold fX6_layFit_L6 at h
      refine g_iload_n C dX6_layFit_6 rfl 1 rfl ?_
      refine g_sipush (v := (1024 : Int32)) C dX6_layFit_7 (by decide) ?_
      refine g_icmp_ge (tgt := 26) C dX6_layFit_10 (by decide) (fun c10 => ?_) (fun c10 => ?_)
      · have h := ifp h c10
        obtain rfl := sinj h
        obtain rfl := wk_r hw6
        have h := hK6
        refine g_lv [0] rfl ?_
        exact j26 M_L6 h
      · have h := ifn h c10
        refine g_aload_n C dX6_layFit_13 rfl 0 rfl ?_
        refine g_get (v := .ref (a 21)) C fl_X6_34 dX6_layFit_14 0 rfl rfl ?_
        refine g_iload_n C dX6_layFit_17 rfl 1 rfl ?_
        refine g_lconst (v := (0 : Int64)) C dX6_layFit_18 (by decide) ?_
        obtain ⟨hg19, h⟩ := ifg h
        refine g_last (f := M_L6.2.2.2) (ws2 := wMod cI cJ o a (M_L6.1, M_L6.2.1, M_L6.2.2.1, (vp_updL M_L6.2.2.2 x1_L6.toNatClampNeg (0 : Int64)))) C dX6_layFit_19 9 3 rfl rfl hg19 rfl ?_
        refine g_iinc (j := 1) (v := (x1_L6 + (1 : Int32))) (lv' := [(1, .int (x1_L6 + (1 : Int32))), (0, .ref o)]) C dX6_layFit_20 rfl rfl (by decide) rfl ?_
        refine g_goto (tgt := 6) C dX6_layFit_23 (by decide) ?_
        obtain rfl := sinj h
        refine g_lv [1, 0] rfl ?_
        exact ih6 (x1_L6 + (1 : Int32)) (M_L6.1, M_L6.2.1, M_L6.2.2.1, (vp_updL M_L6.2.2.2 x1_L6.toNatClampNeg (0 : Int64))) hw6
  refine g_lv [1, 0] rfl ?_
  exact l6 100000 (0 : Int32) T1 hW6
def fX6_freshen (M : OM)  : Option (OM) :=
  (if (M.1 20) = 0 then some M
 else ((fX6_layFit ((va_up M.1 25 (-1 : Int32)), M.2.1, M.2.2.1, M.2.2.2)).bind (fun T13 => some ((va_up T13.1 20 (0 : Int32)), T13.2.1, T13.2.2.1, T13.2.2.2))))
set_option maxHeartbeats 4000000 in
set_option maxRecDepth 100000 in
theorem kX6_freshen (l : Launch) (D : va_G) (cC cI cJ cZ : ClassId) (o : Nat) (a : Nat → Nat) (M : OM)  (M' : OM) (h : fX6_freshen M = some M') : gMv l yX6_freshen cX6_freshen 1 none (gR 6) D (tysG cC cI cJ cZ) [.ref o] (wMod cI cJ o a M) (wMod cI cJ o a M') := by
  refine gMv_of (by decide) (Nat.le_of_ble_eq_true rfl) rfl ?_
  intro p e s m args below meth c A Q C hQ
  unfold fX6_freshen at h
  refine g_aload_n C dX6_freshen_0 rfl 0 rfl ?_
  refine g_get (v := .int (M.1 20)) C fl_X6_72 dX6_freshen_1 0 rfl rfl ?_
  refine g_if_eq (tgt := 21) C dX6_freshen_4 (by decide) (fun c4 => ?_) (fun c4 => ?_)
  · have h := ifp h c4
    cases sinj h
    exact g_vret C dX6_freshen_21 rfl hQ
  · have h := ifn h c4
    refine g_aload_n C dX6_freshen_7 rfl 0 rfl ?_
    refine g_iconst (v := (-1 : Int32)) C dX6_freshen_8 (by decide) ?_
    refine g_put (ws2 := wMod cI cJ o a ((va_up M.1 25 (-1 : Int32)), M.2.1, M.2.2.1, M.2.2.2)) C fp_X6_189 dX6_freshen_9 0 rfl rfl rfl (Nat.le_of_ble_eq_true rfl) rfl ?_
    refine g_aload_n C dX6_freshen_12 rfl 0 rfl ?_
    obtain ⟨T13, h13, h⟩ := obd h
    refine g_callVv (st := []) (ws2 := wMod cI cJ o a T13) C yv_X6_layFit ml_X6_211 dX6_freshen_13 (kX6_layFit l D cC cI cJ cZ o a ((va_up M.1 25 (-1 : Int32)), M.2.1, M.2.2.1, M.2.2.2) T13 h13) gCut_all ⟨by decide, by decide⟩ ⟨rfl, rfl⟩ ⟨Nat.zero_le _, Nat.zero_le _⟩ rfl rfl (Nat.le_of_ble_eq_true rfl) 5 0 rfl rfl rfl ?_
    refine g_aload_n C dX6_freshen_16 rfl 0 rfl ?_
    refine g_iconst (v := (0 : Int32)) C dX6_freshen_17 (by decide) ?_
    refine g_put (ws2 := wMod cI cJ o a ((va_up T13.1 20 (0 : Int32)), T13.2.1, T13.2.2.1, T13.2.2.2)) C fp_X6_72 dX6_freshen_18 0 rfl rfl rfl (Nat.le_of_ble_eq_true rfl) rfl ?_
    cases sinj h
    exact g_vret C dX6_freshen_21 rfl hQ
def fX6_isFit (M : OM) (x1 : Int32) : Option (Int32) :=
  (if ¬ (64 : Int32) = 0 then (if okI (x1 / (64 : Int32)) 1024 = true then (if ¬ (64 : Int32) = 0 then (if (lg_cmp (((M.2.2.2 (x1 / (64 : Int32)).toNatClampNeg) >>> ((x1 - x1 / (64 : Int32) * (64 : Int32)).toInt64 &&& 63)) &&& (1 : Int64)) (1 : Int64)) = 0 then some (1 : Int32)
 else some (0 : Int32)) else none) else none) else none)
set_option maxHeartbeats 4000000 in
set_option maxRecDepth 100000 in
theorem kX6_isFit (l : Launch) (D : va_G) (cC cI cJ cZ : ClassId) (o : Nat) (a : Nat → Nat) (M : OM) (x1 : Int32) (r : Int32) (h : fX6_isFit M x1 = some r) : gMi l yX6_isFit cX6_isFit 2 (some .boolean) (gR 1) D (tysG cC cI cJ cZ) [.ref o, .int x1] (wMod cI cJ o a M) r (wMod cI cJ o a M) := by
  refine gMi_of (by decide) (Nat.le_of_ble_eq_true rfl) rfl ?_
  intro p e s m args below meth c A Q C hQ
  unfold fX6_isFit at h
  refine g_aload_n C dX6_isFit_0 rfl 0 rfl ?_
  refine g_get (v := .ref (a 21)) C fl_X6_34 dX6_isFit_1 0 rfl rfl ?_
  refine g_iload_n C dX6_isFit_4 rfl 1 rfl ?_
  refine g_bipush (v := (64 : Int32)) C dX6_isFit_5 (by decide) ?_
  obtain ⟨hg7, h⟩ := ifg h
  refine g_idiv C dX6_isFit_7 hg7 ?_
  obtain ⟨hg8, h⟩ := ifg h
  refine g_lald (f := M.2.2.2) C dX6_isFit_8 9 3 rfl rfl hg8 ?_
  refine g_iload_n C dX6_isFit_9 rfl 1 rfl ?_
  refine g_bipush (v := (64 : Int32)) C dX6_isFit_10 (by decide) ?_
  obtain ⟨hg12, h⟩ := ifg h
  refine g_irem C dX6_isFit_12 hg12 ?_
  refine g_lshr C dX6_isFit_13 ?_
  refine g_lconst (v := (1 : Int64)) C dX6_isFit_14 (by decide) ?_
  refine g_land C dX6_isFit_15 ?_
  refine g_lconst (v := (1 : Int64)) C dX6_isFit_16 (by decide) ?_
  refine g_lcmp C dX6_isFit_17 ?_
  refine g_if_ne (tgt := 25) C dX6_isFit_18 (by decide) (fun c18 => ?_) (fun c18 => ?_)
  · have h := ifn h c18
    refine g_iconst (v := (0 : Int32)) C dX6_isFit_25 (by decide) ?_
    cases sinj h
    exact g_zret C dX6_isFit_26 rfl rfl rfl hQ
  · have h := ifp h c18
    refine g_iconst (v := (1 : Int32)) C dX6_isFit_21 (by decide) ?_
    refine g_goto (tgt := 26) C dX6_isFit_22 (by decide) ?_
    cases sinj h
    exact g_zret C dX6_isFit_26 rfl rfl rfl hQ
def fX6_nextFit_L4 (M : OM) (x2_L4 : Int32) : Option ((Int32) ⊕ ((Int32) ⊕ (Unit))) :=
  (if ((1 : Int32) <<< (((M.1 9) * (M.1 10)) &&& 31)) ≤ x2_L4 then some (.inr (.inr ()))
 else (if ¬ (64 : Int32) = 0 then (if okI (x2_L4 / (64 : Int32)) 1024 = true then (if (lg_cmp (M.2.2.2 (x2_L4 / (64 : Int32)).toNatClampNeg) (0 : Int64)) = 0 then (if ¬ (64 : Int32) = 0 then some (.inl (((64 : Int32) * (x2_L4 / (64 : Int32))) + (64 : Int32))) else none)
 else ((fX6_isFit M x2_L4).bind (fun r49 => (if r49 = 0 then some (.inl (x2_L4 + (1 : Int32)))
 else some (.inr (.inl x2_L4)))))) else none) else none))
def fX6_nextFit_J63 (M : OM) : Option (Int32) :=
  some (-1 : Int32)
def fX6_nextFit (M : OM) (x1 : Int32) : Option (Int32) :=
  ((wh (σ := Int32) (ρ := (Int32) ⊕ (Unit)) (fun t => fX6_nextFit_L4 M t) 100000 (x1 + (1 : Int32))).bind (fun X => Sum.elim (fun r => some r) (fun _ => fX6_nextFit_J63 M) X))
set_option maxHeartbeats 4000000 in
set_option maxRecDepth 100000 in
theorem kX6_nextFit (l : Launch) (D : va_G) (cC cI cJ cZ : ClassId) (o : Nat) (a : Nat → Nat) (M : OM) (x1 : Int32) (r : Int32) (h : fX6_nextFit M x1 = some r) : gMi l yX6_nextFit cX6_nextFit 3 (some .int) (gR 2) D (tysG cC cI cJ cZ) [.ref o, .int x1] (wMod cI cJ o a M) r (wMod cI cJ o a M) := by
  refine gMi_of (by decide) (Nat.le_of_ble_eq_true rfl) rfl ?_
  intro p e s m args below meth c A Q C hQ
  have j63 : fX6_nextFit_J63 M = some r → gG p l e (gR 2) s m args below meth c 3 D A 0 0 Q 63 [] [] (wMod cI cJ o a M) := by
    intro h
    unfold fX6_nextFit_J63 at h
    refine g_iconst (v := (-1 : Int32)) C dX6_nextFit_63 (by decide) ?_
    cases sinj h
    exact g_iret C dX6_nextFit_64 rfl rfl hQ
  unfold fX6_nextFit at h
  refine g_iload_n C dX6_nextFit_0 rfl 1 rfl ?_
  refine g_iconst (v := (1 : Int32)) C dX6_nextFit_1 (by decide) ?_
  refine g_iadd C dX6_nextFit_2 ?_
  refine g_istore_n (lv' := [(2, .int (x1 + (1 : Int32))), (0, .ref o), (1, .int x1)]) C dX6_nextFit_3 rfl (by decide) rfl ?_
  obtain ⟨X4, hW4, hK4⟩ := obd h
  have l4 : ∀ (fu4 : Nat) (x2_L4 : Int32), wh (σ := Int32) (ρ := (Int32) ⊕ (Unit)) (fun t => fX6_nextFit_L4 M t) fu4 x2_L4 = some X4 → gG p l e (gR 2) s m args below meth c 3 D A 0 0 Q 4 [(0, .ref o), (2, .int x2_L4)] [] (wMod cI cJ o a M) := by
    intro fu4
    induction fu4 with
    | zero => intro x2_L4 hW; exact (wh_0 hW).elim
    | succ fu4 ih4 =>
      intro x2_L4 hW
      obtain ⟨z4, h, hw4⟩ := wh_s hW
      replace h : fX6_nextFit_L4 M x2_L4 = some z4 := h
      unfold fX6_nextFit_L4 at h
      refine g_iload_n C dX6_nextFit_4 rfl 1 rfl ?_
      refine g_iconst (v := (1 : Int32)) C dX6_nextFit_5 (by decide) ?_
      refine g_aload_n C dX6_nextFit_6 rfl 0 rfl ?_
      refine g_get (v := .int (M.1 9)) C fl_X6_141 dX6_nextFit_7 0 rfl rfl ?_
      refine g_aload_n C dX6_nextFit_10 rfl 0 rfl ?_
      refine g_get (v := .int (M.1 10)) C fl_X6_144 dX6_nextFit_11 0 rfl rfl ?_
      refine g_imul C dX6_nextFit_14 ?_
      refine g_ishl C dX6_nextFit_15 ?_
      refine g_icmp_ge (tgt := 63) C dX6_nextFit_16 (by decide) (fun c16 => ?_) (fun c16 => ?_)
      · have h := ifp h c16
        obtain rfl := sinj h
        obtain rfl := wk_r hw4
        have h := ser hK4
        refine g_lv [] rfl ?_
        exact j63  h
      · have h := ifn h c16
        refine g_aload_n C dX6_nextFit_19 rfl 0 rfl ?_
        refine g_get (v := .ref (a 21)) C fl_X6_34 dX6_nextFit_20 0 rfl rfl ?_
        refine g_iload_n C dX6_nextFit_23 rfl 1 rfl ?_
        refine g_bipush (v := (64 : Int32)) C dX6_nextFit_24 (by decide) ?_
        obtain ⟨hg26, h⟩ := ifg h
        refine g_idiv C dX6_nextFit_26 hg26 ?_
        obtain ⟨hg27, h⟩ := ifg h
        refine g_lald (f := M.2.2.2) C dX6_nextFit_27 9 3 rfl rfl hg27 ?_
        refine g_lconst (v := (0 : Int64)) C dX6_nextFit_28 (by decide) ?_
        refine g_lcmp C dX6_nextFit_29 ?_
        refine g_if_ne (tgt := 47) C dX6_nextFit_30 (by decide) (fun c30 => ?_) (fun c30 => ?_)
        · have h := ifn h c30
          refine g_aload_n C dX6_nextFit_47 rfl 0 rfl ?_
          refine g_iload_n C dX6_nextFit_48 rfl 1 rfl ?_
          obtain ⟨r49, h49, h⟩ := obd h
          refine g_callVi (st := []) (ws2 := wMod cI cJ o a M) C yv_X6_isFit ml_X6_214 dX6_nextFit_49 (kX6_isFit l D cC cI cJ cZ o a M x2_L4 r49 h49) gCut_all ⟨by decide, by decide⟩ ⟨rfl, rfl⟩ ⟨Nat.zero_le _, Nat.zero_le _⟩ rfl rfl (Nat.le_of_ble_eq_true rfl) 5 0 rfl rfl rfl ?_
          refine g_if_eq (tgt := 57) C dX6_nextFit_52 (by decide) (fun c52 => ?_) (fun c52 => ?_)
          · have h := ifp h c52
            refine g_iinc (j := 1) (v := (x2_L4 + (1 : Int32))) (lv' := [(2, .int (x2_L4 + (1 : Int32))), (0, .ref o)]) C dX6_nextFit_57 rfl rfl (by decide) rfl ?_
            refine g_goto (tgt := 4) C dX6_nextFit_60 (by decide) ?_
            obtain rfl := sinj h
            refine g_lv [1, 0] rfl ?_
            exact ih4 (x2_L4 + (1 : Int32)) hw4
          · have h := ifn h c52
            refine g_iload_n C dX6_nextFit_55 rfl 1 rfl ?_
            obtain rfl := sinj h
            obtain rfl := wk_r hw4
            have h := sel hK4
            cases sinj h
            exact g_iret C dX6_nextFit_56 rfl rfl hQ
        · have h := ifp h c30
          refine g_bipush (v := (64 : Int32)) C dX6_nextFit_33 (by decide) ?_
          refine g_iload_n C dX6_nextFit_35 rfl 1 rfl ?_
          refine g_bipush (v := (64 : Int32)) C dX6_nextFit_36 (by decide) ?_
          obtain ⟨hg38, h⟩ := ifg h
          refine g_idiv C dX6_nextFit_38 hg38 ?_
          refine g_imul C dX6_nextFit_39 ?_
          refine g_bipush (v := (64 : Int32)) C dX6_nextFit_40 (by decide) ?_
          refine g_iadd C dX6_nextFit_42 ?_
          refine g_istore_n (lv' := [(2, .int (((64 : Int32) * (x2_L4 / (64 : Int32))) + (64 : Int32))), (0, .ref o)]) C dX6_nextFit_43 rfl (by decide) rfl ?_
          refine g_goto (tgt := 4) C dX6_nextFit_44 (by decide) ?_
          obtain rfl := sinj h
          refine g_lv [1, 0] rfl ?_
          exact ih4 (((64 : Int32) * (x2_L4 / (64 : Int32))) + (64 : Int32)) hw4
  refine g_lv [1, 0] rfl ?_
  exact l4 100000 (x1 + (1 : Int32)) hW4
def fX6_soManieth_L8 (M : OM) (x1_L8 : Int32) (x2_L8 : Int32) (x3_L8 : Int32) : Option ((Int32 × Int32) ⊕ (Int32)) :=
  (if x1_L8 ≤ x3_L8 then some (.inr x2_L8)
 else (if x2_L8 = (-1 : Int32) then some (.inr x2_L8)
 else ((fX6_nextFit M x2_L8).bind (fun r20 => some (.inl (r20, (x3_L8 + (1 : Int32))))))))
def fX6_soManieth_J30 (M : OM) (x2_J30 : Int32) : Option (Int32) :=
  some x2_J30
def fX6_soManieth (M : OM) (x1 : Int32) : Option (Int32) :=
  ((fX6_nextFit M (-1 : Int32)).bind (fun r2 => ((wh (σ := Int32 × Int32) (ρ := Int32) (fun t => fX6_soManieth_L8 M x1 t.1 t.2) 100000 (r2, (0 : Int32))).bind (fun e2_L8 => fX6_soManieth_J30 M e2_L8))))
set_option maxHeartbeats 4000000 in
set_option maxRecDepth 100000 in
theorem kX6_soManieth (l : Launch) (D : va_G) (cC cI cJ cZ : ClassId) (o : Nat) (a : Nat → Nat) (M : OM) (x1 : Int32) (r : Int32) (h : fX6_soManieth M x1 = some r) : gMi l yX6_soManieth cX6_soManieth 4 (some .int) (gR 3) D (tysG cC cI cJ cZ) [.ref o, .int x1] (wMod cI cJ o a M) r (wMod cI cJ o a M) := by
  refine gMi_of (by decide) (Nat.le_of_ble_eq_true rfl) rfl ?_
  intro p e s m args below meth c A Q C hQ
  have j30 : ∀ (x2_J30 : Int32), fX6_soManieth_J30 M x2_J30 = some r → gG p l e (gR 3) s m args below meth c 4 D A 0 0 Q 30 [(2, .int x2_J30)] [] (wMod cI cJ o a M) := by
    intro x2_J30 h
    unfold fX6_soManieth_J30 at h
    refine g_iload_n C dX6_soManieth_30 rfl 0 rfl ?_
    cases sinj h
    exact g_iret C dX6_soManieth_31 rfl rfl hQ
  unfold fX6_soManieth at h
  refine g_aload_n C dX6_soManieth_0 rfl 0 rfl ?_
  refine g_iconst (v := (-1 : Int32)) C dX6_soManieth_1 (by decide) ?_
  obtain ⟨r2, h2, h⟩ := obd h
  refine g_callVi (st := []) (ws2 := wMod cI cJ o a M) C yv_X6_nextFit ml_X6_217 dX6_soManieth_2 (kX6_nextFit l D cC cI cJ cZ o a M (-1 : Int32) r2 h2) gCut_all ⟨by decide, by decide⟩ ⟨rfl, rfl⟩ ⟨Nat.zero_le _, Nat.zero_le _⟩ rfl rfl (Nat.le_of_ble_eq_true rfl) 5 0 rfl rfl rfl ?_
  refine g_istore_n (lv' := [(2, .int r2), (0, .ref o), (1, .int x1)]) C dX6_soManieth_5 rfl (by decide) rfl ?_
  refine g_iconst (v := (0 : Int32)) C dX6_soManieth_6 (by decide) ?_
  refine g_istore_n (lv' := [(3, .int (0 : Int32)), (2, .int r2), (0, .ref o), (1, .int x1)]) C dX6_soManieth_7 rfl (by decide) rfl ?_
  obtain ⟨X8, hW8, hK8⟩ := obd h
  have l8 : ∀ (fu8 : Nat) (x2_L8 : Int32) (x3_L8 : Int32), wh (σ := Int32 × Int32) (ρ := Int32) (fun t => fX6_soManieth_L8 M x1 t.1 t.2) fu8 (x2_L8, x3_L8) = some X8 → gG p l e (gR 3) s m args below meth c 4 D A 0 0 Q 8 [(0, .ref o), (1, .int x1), (2, .int x2_L8), (3, .int x3_L8)] [] (wMod cI cJ o a M) := by
    intro fu8
    induction fu8 with
    | zero => intro x2_L8 x3_L8 hW; exact (wh_0 hW).elim
    | succ fu8 ih8 =>
      intro x2_L8 x3_L8 hW
      obtain ⟨z8, h, hw8⟩ := wh_s hW
      replace h : fX6_soManieth_L8 M x1 x2_L8 x3_L8 = some z8 := h
      unfold fX6_soManieth_L8 at h
      refine g_iload_n C dX6_soManieth_8 rfl 3 rfl ?_
      refine g_iload_n C dX6_soManieth_9 rfl 1 rfl ?_
      refine g_icmp_ge (tgt := 30) C dX6_soManieth_10 (by decide) (fun c10 => ?_) (fun c10 => ?_)
      · have h := ifp h c10
        obtain rfl := sinj h
        obtain rfl := wk_r hw8
        have h := hK8
        refine g_lv [2] rfl ?_
        exact j30 x2_L8 h
      · have h := ifn h c10
        refine g_iload_n C dX6_soManieth_13 rfl 2 rfl ?_
        refine g_iconst (v := (-1 : Int32)) C dX6_soManieth_14 (by decide) ?_
        refine g_icmp_eq (tgt := 30) C dX6_soManieth_15 (by decide) (fun c15 => ?_) (fun c15 => ?_)
        · have h := ifp h c15
          obtain rfl := sinj h
          obtain rfl := wk_r hw8
          have h := hK8
          refine g_lv [2] rfl ?_
          exact j30 x2_L8 h
        · have h := ifn h c15
          refine g_aload_n C dX6_soManieth_18 rfl 0 rfl ?_
          refine g_iload_n C dX6_soManieth_19 rfl 2 rfl ?_
          obtain ⟨r20, h20, h⟩ := obd h
          refine g_callVi (st := []) (ws2 := wMod cI cJ o a M) C yv_X6_nextFit ml_X6_217 dX6_soManieth_20 (kX6_nextFit l D cC cI cJ cZ o a M x2_L8 r20 h20) gCut_all ⟨by decide, by decide⟩ ⟨rfl, rfl⟩ ⟨Nat.zero_le _, Nat.zero_le _⟩ rfl rfl (Nat.le_of_ble_eq_true rfl) 5 0 rfl rfl rfl ?_
          refine g_istore_n (lv' := [(2, .int r20), (0, .ref o), (1, .int x1), (3, .int x3_L8)]) C dX6_soManieth_23 rfl (by decide) rfl ?_
          refine g_iinc (j := 3) (v := (x3_L8 + (1 : Int32))) (lv' := [(3, .int (x3_L8 + (1 : Int32))), (2, .int r20), (0, .ref o), (1, .int x1)]) C dX6_soManieth_24 rfl rfl (by decide) rfl ?_
          refine g_goto (tgt := 8) C dX6_soManieth_27 (by decide) ?_
          obtain rfl := sinj h
          refine g_lv [2, 3, 1, 0] rfl ?_
          exact ih8 r20 (x3_L8 + (1 : Int32)) hw8
  refine g_lv [2, 3, 1, 0] rfl ?_
  exact l8 100000 r2 (0 : Int32) hW8
def fX6_leftOf (M : OM)  : Option (Int32 × OM) :=
  ((fX6_freshen M).bind (fun T1 => some ((T1.1 22), T1)))
set_option maxHeartbeats 4000000 in
set_option maxRecDepth 100000 in
theorem kX6_leftOf (l : Launch) (D : va_G) (cC cI cJ cZ : ClassId) (o : Nat) (a : Nat → Nat) (M : OM)  (r : Int32) (M' : OM) (h : fX6_leftOf M = some (r, M')) : gMi l yX6_leftOf cX6_leftOf 1 (some .int) (gR 7) D (tysG cC cI cJ cZ) [.ref o] (wMod cI cJ o a M) r (wMod cI cJ o a M') := by
  refine gMi_of (by decide) (Nat.le_of_ble_eq_true rfl) rfl ?_
  intro p e s m args below meth c A Q C hQ
  unfold fX6_leftOf at h
  refine g_aload_n C dX6_leftOf_0 rfl 0 rfl ?_
  obtain ⟨T1, h1, h⟩ := obd h
  refine g_callVv (st := []) (ws2 := wMod cI cJ o a T1) C yv_X6_freshen ml_X6_220 dX6_leftOf_1 (kX6_freshen l D cC cI cJ cZ o a M T1 h1) gCut_all ⟨by decide, by decide⟩ ⟨rfl, rfl⟩ ⟨Nat.zero_le _, Nat.zero_le _⟩ rfl rfl (Nat.le_of_ble_eq_true rfl) 5 0 rfl rfl rfl ?_
  refine g_aload_n C dX6_leftOf_4 rfl 0 rfl ?_
  refine g_get (v := .int (T1.1 22)) C fl_X6_201 dX6_leftOf_5 0 rfl rfl ?_
  cases sinj h
  exact g_iret C dX6_leftOf_8 rfl rfl hQ
def fX6_left (M : OM)  : Option (Int32 × OM) :=
  ((fX6_lacks M).bind (fun r1 => (if r1 = 0 then ((fX6_leftOf M).bind (fun r => (fun r13 T13 => some (r13, T13)) r.1 r.2))
 else some ((-103 : Int32), M))))
set_option maxHeartbeats 4000000 in
set_option maxRecDepth 100000 in
theorem kX6_left (l : Launch) (D : va_G) (cC cI cJ cZ : ClassId) (o : Nat) (a : Nat → Nat) (M : OM)  (r : Int32) (M' : OM) (h : fX6_left M = some (r, M')) : gMi l yX6_left cX6_left 1 (some .int) (gR 8) D (tysG cC cI cJ cZ) [.ref o] (wMod cI cJ o a M) r (wMod cI cJ o a M') := by
  refine gMi_of (by decide) (Nat.le_of_ble_eq_true rfl) rfl ?_
  intro p e s m args below meth c A Q C hQ
  unfold fX6_left at h
  refine g_aload_n C dX6_left_0 rfl 0 rfl ?_
  obtain ⟨r1, h1, h⟩ := obd h
  refine g_callVi (st := []) (ws2 := wMod cI cJ o a M) C yv_X6_lacks ml_X6_223 dX6_left_1 (kX6_lacks l D cC cI cJ cZ o a M r1 h1) gCut_all ⟨by decide, by decide⟩ ⟨rfl, rfl⟩ ⟨Nat.zero_le _, Nat.zero_le _⟩ rfl rfl (Nat.le_of_ble_eq_true rfl) 5 0 rfl rfl rfl ?_
  refine g_if_eq (tgt := 12) C dX6_left_4 (by decide) (fun c4 => ?_) (fun c4 => ?_)
  · have h := ifp h c4
    refine g_aload_n C dX6_left_12 rfl 0 rfl ?_
    obtain ⟨⟨r13, T13⟩, h13, h⟩ := obd h
    refine g_callVi (st := []) (ws2 := wMod cI cJ o a T13) C yv_X6_leftOf ml_X6_227 dX6_left_13 (kX6_leftOf l D cC cI cJ cZ o a M r13 T13 h13) gCut_all ⟨by decide, by decide⟩ ⟨rfl, rfl⟩ ⟨Nat.zero_le _, Nat.zero_le _⟩ rfl rfl (Nat.le_of_ble_eq_true rfl) 5 0 rfl rfl rfl ?_
    cases sinj h
    exact g_iret C dX6_left_16 rfl rfl hQ
  · have h := ifn h c4
    refine g_bipush (v := (-103 : Int32)) C dX6_left_7 (by decide) ?_
    refine g_goto (tgt := 16) C dX6_left_9 (by decide) ?_
    cases sinj h
    exact g_iret C dX6_left_16 rfl rfl hQ
def fX6_pictureOf (M : OM) (x1 : Int32) : Option (Int32 × OM) :=
  ((fX6_freshen M).bind (fun T1 => (if (T1.1 22) ≤ x1 then some ((-1 : Int32), T1)
 else ((fX6_soManieth T1 x1).bind (fun r14 => some (r14, T1))))))
set_option maxHeartbeats 4000000 in
set_option maxRecDepth 100000 in
theorem kX6_pictureOf (l : Launch) (D : va_G) (cC cI cJ cZ : ClassId) (o : Nat) (a : Nat → Nat) (M : OM) (x1 : Int32) (r : Int32) (M' : OM) (h : fX6_pictureOf M x1 = some (r, M')) : gMi l yX6_pictureOf cX6_pictureOf 2 (some .int) (gR 7) D (tysG cC cI cJ cZ) [.ref o, .int x1] (wMod cI cJ o a M) r (wMod cI cJ o a M') := by
  refine gMi_of (by decide) (Nat.le_of_ble_eq_true rfl) rfl ?_
  intro p e s m args below meth c A Q C hQ
  unfold fX6_pictureOf at h
  refine g_aload_n C dX6_pictureOf_0 rfl 0 rfl ?_
  obtain ⟨T1, h1, h⟩ := obd h
  refine g_callVv (st := []) (ws2 := wMod cI cJ o a T1) C yv_X6_freshen ml_X6_220 dX6_pictureOf_1 (kX6_freshen l D cC cI cJ cZ o a M T1 h1) gCut_all ⟨by decide, by decide⟩ ⟨rfl, rfl⟩ ⟨Nat.zero_le _, Nat.zero_le _⟩ rfl rfl (Nat.le_of_ble_eq_true rfl) 5 0 rfl rfl rfl ?_
  refine g_iload_n C dX6_pictureOf_4 rfl 1 rfl ?_
  refine g_aload_n C dX6_pictureOf_5 rfl 0 rfl ?_
  refine g_get (v := .int (T1.1 22)) C fl_X6_201 dX6_pictureOf_6 0 rfl rfl ?_
  refine g_icmp_ge (tgt := 20) C dX6_pictureOf_9 (by decide) (fun c9 => ?_) (fun c9 => ?_)
  · have h := ifp h c9
    refine g_iconst (v := (-1 : Int32)) C dX6_pictureOf_20 (by decide) ?_
    cases sinj h
    exact g_iret C dX6_pictureOf_21 rfl rfl hQ
  · have h := ifn h c9
    refine g_aload_n C dX6_pictureOf_12 rfl 0 rfl ?_
    refine g_iload_n C dX6_pictureOf_13 rfl 1 rfl ?_
    obtain ⟨r14, h14, h⟩ := obd h
    refine g_callVi (st := []) (ws2 := wMod cI cJ o a T1) C yv_X6_soManieth ml_X6_230 dX6_pictureOf_14 (kX6_soManieth l D cC cI cJ cZ o a T1 x1 r14 h14) gCut_all ⟨by decide, by decide⟩ ⟨rfl, rfl⟩ ⟨Nat.zero_le _, Nat.zero_le _⟩ rfl rfl (Nat.le_of_ble_eq_true rfl) 5 0 rfl rfl rfl ?_
    refine g_goto (tgt := 21) C dX6_pictureOf_17 (by decide) ?_
    cases sinj h
    exact g_iret C dX6_pictureOf_21 rfl rfl hQ
def fX6_picture (M : OM) (x1 : Int32) : Option (Int32 × OM) :=
  (if 0 ≤ x1 then ((fX6_lacks M).bind (fun r8 => (if r8 = 0 then ((fX6_pictureOf M x1).bind (fun r => (fun r21 T21 => some (r21, T21)) r.1 r.2))
 else some ((-103 : Int32), M))))
 else some ((-102 : Int32), M))
set_option maxHeartbeats 4000000 in
set_option maxRecDepth 100000 in
theorem kX6_picture (l : Launch) (D : va_G) (cC cI cJ cZ : ClassId) (o : Nat) (a : Nat → Nat) (M : OM) (x1 : Int32) (r : Int32) (M' : OM) (h : fX6_picture M x1 = some (r, M')) : gMi l yX6_picture cX6_picture 2 (some .int) (gR 8) D (tysG cC cI cJ cZ) [.ref o, .int x1] (wMod cI cJ o a M) r (wMod cI cJ o a M') := by
  refine gMi_of (by decide) (Nat.le_of_ble_eq_true rfl) rfl ?_
  intro p e s m args below meth c A Q C hQ
  unfold fX6_picture at h
  refine g_iload_n C dX6_picture_0 rfl 1 rfl ?_
  refine g_if_ge (tgt := 7) C dX6_picture_1 (by decide) (fun c1 => ?_) (fun c1 => ?_)
  · have h := ifp h c1
    refine g_aload_n C dX6_picture_7 rfl 0 rfl ?_
    obtain ⟨r8, h8, h⟩ := obd h
    refine g_callVi (st := []) (ws2 := wMod cI cJ o a M) C yv_X6_lacks ml_X6_223 dX6_picture_8 (kX6_lacks l D cC cI cJ cZ o a M r8 h8) gCut_all ⟨by decide, by decide⟩ ⟨rfl, rfl⟩ ⟨Nat.zero_le _, Nat.zero_le _⟩ rfl rfl (Nat.le_of_ble_eq_true rfl) 5 0 rfl rfl rfl ?_
    refine g_if_eq (tgt := 19) C dX6_picture_11 (by decide) (fun c11 => ?_) (fun c11 => ?_)
    · have h := ifp h c11
      refine g_aload_n C dX6_picture_19 rfl 0 rfl ?_
      refine g_iload_n C dX6_picture_20 rfl 1 rfl ?_
      obtain ⟨⟨r21, T21⟩, h21, h⟩ := obd h
      refine g_callVi (st := []) (ws2 := wMod cI cJ o a T21) C yv_X6_pictureOf ml_X6_233 dX6_picture_21 (kX6_pictureOf l D cC cI cJ cZ o a M x1 r21 T21 h21) gCut_all ⟨by decide, by decide⟩ ⟨rfl, rfl⟩ ⟨Nat.zero_le _, Nat.zero_le _⟩ rfl rfl (Nat.le_of_ble_eq_true rfl) 5 0 rfl rfl rfl ?_
      cases sinj h
      exact g_iret C dX6_picture_24 rfl rfl hQ
    · have h := ifn h c11
      refine g_bipush (v := (-103 : Int32)) C dX6_picture_14 (by decide) ?_
      refine g_goto (tgt := 24) C dX6_picture_16 (by decide) ?_
      cases sinj h
      exact g_iret C dX6_picture_24 rfl rfl hQ
  · have h := ifn h c1
    refine g_bipush (v := (-102 : Int32)) C dX6_picture_4 (by decide) ?_
    cases sinj h
    exact g_iret C dX6_picture_6 rfl rfl hQ
def fX6_sureOf (M : OM) (x1 : Int32) : Option (Int32 × OM) :=
  ((fX6_freshen M).bind (fun T1 => (if (T1.1 22) = 0 then some ((-1 : Int32), T1)
 else (if okI x1 16 = true then (if ((T1.2.1 23) x1.toNatClampNeg) = (T1.1 22) then some ((1 : Int32), T1)
 else (if okI x1 16 = true then (if ((T1.2.1 23) x1.toNatClampNeg) = 0 then some ((0 : Int32), T1)
 else some ((-1 : Int32), T1)) else none)) else none))))
set_option maxHeartbeats 4000000 in
set_option maxRecDepth 100000 in
theorem kX6_sureOf (l : Launch) (D : va_G) (cC cI cJ cZ : ClassId) (o : Nat) (a : Nat → Nat) (M : OM) (x1 : Int32) (r : Int32) (M' : OM) (h : fX6_sureOf M x1 = some (r, M')) : gMi l yX6_sureOf cX6_sureOf 2 (some .int) (gR 7) D (tysG cC cI cJ cZ) [.ref o, .int x1] (wMod cI cJ o a M) r (wMod cI cJ o a M') := by
  refine gMi_of (by decide) (Nat.le_of_ble_eq_true rfl) rfl ?_
  intro p e s m args below meth c A Q C hQ
  unfold fX6_sureOf at h
  refine g_aload_n C dX6_sureOf_0 rfl 0 rfl ?_
  obtain ⟨T1, h1, h⟩ := obd h
  refine g_callVv (st := []) (ws2 := wMod cI cJ o a T1) C yv_X6_freshen ml_X6_220 dX6_sureOf_1 (kX6_freshen l D cC cI cJ cZ o a M T1 h1) gCut_all ⟨by decide, by decide⟩ ⟨rfl, rfl⟩ ⟨Nat.zero_le _, Nat.zero_le _⟩ rfl rfl (Nat.le_of_ble_eq_true rfl) 5 0 rfl rfl rfl ?_
  refine g_aload_n C dX6_sureOf_4 rfl 0 rfl ?_
  refine g_get (v := .int (T1.1 22)) C fl_X6_201 dX6_sureOf_5 0 rfl rfl ?_
  refine g_if_ne (tgt := 15) C dX6_sureOf_8 (by decide) (fun c8 => ?_) (fun c8 => ?_)
  · have h := ifn h c8
    refine g_aload_n C dX6_sureOf_15 rfl 0 rfl ?_
    refine g_get (v := .ref (a 23)) C fl_X6_38 dX6_sureOf_16 0 rfl rfl ?_
    refine g_iload_n C dX6_sureOf_19 rfl 1 rfl ?_
    obtain ⟨hg20, h⟩ := ifg h
    refine g_iald (f := (T1.2.1 23)) C dX6_sureOf_20 10 0 rfl rfl hg20 ?_
    refine g_aload_n C dX6_sureOf_21 rfl 0 rfl ?_
    refine g_get (v := .int (T1.1 22)) C fl_X6_201 dX6_sureOf_22 0 rfl rfl ?_
    refine g_icmp_ne (tgt := 32) C dX6_sureOf_25 (by decide) (fun c25 => ?_) (fun c25 => ?_)
    · have h := ifn h c25
      refine g_aload_n C dX6_sureOf_32 rfl 0 rfl ?_
      refine g_get (v := .ref (a 23)) C fl_X6_38 dX6_sureOf_33 0 rfl rfl ?_
      refine g_iload_n C dX6_sureOf_36 rfl 1 rfl ?_
      obtain ⟨hg37, h⟩ := ifg h
      refine g_iald (f := (T1.2.1 23)) C dX6_sureOf_37 10 0 rfl rfl hg37 ?_
      refine g_if_ne (tgt := 45) C dX6_sureOf_38 (by decide) (fun c38 => ?_) (fun c38 => ?_)
      · have h := ifn h c38
        refine g_iconst (v := (-1 : Int32)) C dX6_sureOf_45 (by decide) ?_
        cases sinj h
        exact g_iret C dX6_sureOf_46 rfl rfl hQ
      · have h := ifp h c38
        refine g_iconst (v := (0 : Int32)) C dX6_sureOf_41 (by decide) ?_
        refine g_goto (tgt := 46) C dX6_sureOf_42 (by decide) ?_
        cases sinj h
        exact g_iret C dX6_sureOf_46 rfl rfl hQ
    · have h := ifp h c25
      refine g_iconst (v := (1 : Int32)) C dX6_sureOf_28 (by decide) ?_
      refine g_goto (tgt := 46) C dX6_sureOf_29 (by decide) ?_
      cases sinj h
      exact g_iret C dX6_sureOf_46 rfl rfl hQ
  · have h := ifp h c8
    refine g_iconst (v := (-1 : Int32)) C dX6_sureOf_11 (by decide) ?_
    refine g_goto (tgt := 46) C dX6_sureOf_12 (by decide) ?_
    cases sinj h
    exact g_iret C dX6_sureOf_46 rfl rfl hQ
