def fX1_isKind  (x0 : Int32) : Option (Int32) :=
  (if x0 < 0 then some (0 : Int32)
 else (if (5 : Int32) ≤ x0 then some (0 : Int32)
 else some (1 : Int32)))
set_option maxHeartbeats 4000000 in
set_option maxRecDepth 100000 in
theorem kX1_isKind (l : Launch) (D : va_G) (cC cI cJ cZ : ClassId)  (x0 : Int32) (r : Int32) (h : fX1_isKind x0 = some r) : gMi l yX1_isKind cX1_isKind 1 (some .boolean) (gR 1) D (tysG cC cI cJ cZ) [.int x0] ([]) r ([]) := by
  refine gMi_of (by decide) (Nat.le_of_ble_eq_true rfl) rfl ?_
  intro p e s m args below meth c A Q C hQ
  unfold fX1_isKind at h
  refine g_iload_n C dX1_isKind_0 rfl 0 rfl ?_
  refine g_if_lt (tgt := 13) C dX1_isKind_1 (by decide) (fun c1 => ?_) (fun c1 => ?_)
  · have h := ifp h c1
    refine g_iconst (v := (0 : Int32)) C dX1_isKind_13 (by decide) ?_
    cases sinj h
    exact g_zret C dX1_isKind_14 rfl rfl rfl hQ
  · have h := ifn h c1
    refine g_iload_n C dX1_isKind_4 rfl 0 rfl ?_
    refine g_iconst (v := (5 : Int32)) C dX1_isKind_5 (by decide) ?_
    refine g_icmp_ge (tgt := 13) C dX1_isKind_6 (by decide) (fun c6 => ?_) (fun c6 => ?_)
    · have h := ifp h c6
      refine g_iconst (v := (0 : Int32)) C dX1_isKind_13 (by decide) ?_
      cases sinj h
      exact g_zret C dX1_isKind_14 rfl rfl rfl hQ
    · have h := ifn h c6
      refine g_iconst (v := (1 : Int32)) C dX1_isKind_9 (by decide) ?_
      refine g_goto (tgt := 14) C dX1_isKind_10 (by decide) ?_
      cases sinj h
      exact g_zret C dX1_isKind_14 rfl rfl rfl hQ
def fX1_isSuch  (x0 : Int32) (x1 : Int32) : Option (Int32) :=
  (if x1 = 0 then some (1 : Int32)
 else (if x1 = x0 then some (1 : Int32)
 else (if x1 = (1 : Int32) then (if x0 = (4 : Int32) then some (1 : Int32)
 else some (0 : Int32))
 else some (0 : Int32))))
set_option maxHeartbeats 4000000 in
set_option maxRecDepth 100000 in
theorem kX1_isSuch (l : Launch) (D : va_G) (cC cI cJ cZ : ClassId)  (x0 : Int32) (x1 : Int32) (r : Int32) (h : fX1_isSuch x0 x1 = some r) : gMi l yX1_isSuch cX1_isSuch 2 (some .boolean) (gR 1) D (tysG cC cI cJ cZ) [.int x0, .int x1] ([]) r ([]) := by
  refine gMi_of (by decide) (Nat.le_of_ble_eq_true rfl) rfl ?_
  intro p e s m args below meth c A Q C hQ
  unfold fX1_isSuch at h
  refine g_iload_n C dX1_isSuch_0 rfl 1 rfl ?_
  refine g_if_eq (tgt := 19) C dX1_isSuch_1 (by decide) (fun c1 => ?_) (fun c1 => ?_)
  · have h := ifp h c1
    refine g_iconst (v := (1 : Int32)) C dX1_isSuch_19 (by decide) ?_
    refine g_goto (tgt := 24) C dX1_isSuch_20 (by decide) ?_
    cases sinj h
    exact g_zret C dX1_isSuch_24 rfl rfl rfl hQ
  · have h := ifn h c1
    refine g_iload_n C dX1_isSuch_4 rfl 1 rfl ?_
    refine g_iload_n C dX1_isSuch_5 rfl 0 rfl ?_
    refine g_icmp_eq (tgt := 19) C dX1_isSuch_6 (by decide) (fun c6 => ?_) (fun c6 => ?_)
    · have h := ifp h c6
      refine g_iconst (v := (1 : Int32)) C dX1_isSuch_19 (by decide) ?_
      refine g_goto (tgt := 24) C dX1_isSuch_20 (by decide) ?_
      cases sinj h
      exact g_zret C dX1_isSuch_24 rfl rfl rfl hQ
    · have h := ifn h c6
      refine g_iload_n C dX1_isSuch_9 rfl 1 rfl ?_
      refine g_iconst (v := (1 : Int32)) C dX1_isSuch_10 (by decide) ?_
      refine g_icmp_ne (tgt := 23) C dX1_isSuch_11 (by decide) (fun c11 => ?_) (fun c11 => ?_)
      · have h := ifn h c11
        refine g_iconst (v := (0 : Int32)) C dX1_isSuch_23 (by decide) ?_
        cases sinj h
        exact g_zret C dX1_isSuch_24 rfl rfl rfl hQ
      · have h := ifp h c11
        refine g_iload_n C dX1_isSuch_14 rfl 0 rfl ?_
        refine g_iconst (v := (4 : Int32)) C dX1_isSuch_15 (by decide) ?_
        refine g_icmp_ne (tgt := 23) C dX1_isSuch_16 (by decide) (fun c16 => ?_) (fun c16 => ?_)
        · have h := ifn h c16
          refine g_iconst (v := (0 : Int32)) C dX1_isSuch_23 (by decide) ?_
          cases sinj h
          exact g_zret C dX1_isSuch_24 rfl rfl rfl hQ
        · have h := ifp h c16
          refine g_iconst (v := (1 : Int32)) C dX1_isSuch_19 (by decide) ?_
          refine g_goto (tgt := 24) C dX1_isSuch_20 (by decide) ?_
          cases sinj h
          exact g_zret C dX1_isSuch_24 rfl rfl rfl hQ
def fX1_hasSecond  (x0 : Int32) : Option (Int32) :=
  ((fX1_isSuch x0 (1 : Int32)).bind (fun r2 => (if okZ r2 = true then some r2 else none)))
set_option maxHeartbeats 4000000 in
set_option maxRecDepth 100000 in
theorem kX1_hasSecond (l : Launch) (D : va_G) (cC cI cJ cZ : ClassId)  (x0 : Int32) (r : Int32) (h : fX1_hasSecond x0 = some r) : gMi l yX1_hasSecond cX1_hasSecond 1 (some .boolean) (gR 2) D (tysG cC cI cJ cZ) [.int x0] ([]) r ([]) := by
  refine gMi_of (by decide) (Nat.le_of_ble_eq_true rfl) rfl ?_
  intro p e s m args below meth c A Q C hQ
  unfold fX1_hasSecond at h
  refine g_iload_n C dX1_hasSecond_0 rfl 0 rfl ?_
  refine g_iconst (v := (1 : Int32)) C dX1_hasSecond_1 (by decide) ?_
  obtain ⟨r2, h2, h⟩ := obd h
  refine g_callSi (st := []) (ws2 := []) C ys_X1_isSuch ml_X1_9 dX1_hasSecond_2 (kX1_isSuch l D cC cI cJ cZ x0 (1 : Int32) r2 h2) gCut_nil ⟨by decide, by decide⟩ ⟨rfl, rfl⟩ ⟨Nat.zero_le _, Nat.zero_le _⟩ rfl rfl (Nat.le_of_ble_eq_true rfl) ?_
  obtain ⟨hz5, h⟩ := ifg h
  cases sinj h
  exact g_zret C dX1_hasSecond_5 (okZ_n hz5) rfl rfl hQ
def fX1_mostSecond  (x0 : Int32) (x1 : Int32) : Option (Int32) :=
  (if x1 = 0 then some (0 : Int32)
 else some (if (0 : Int32) < ((x0 - x1) - (1 : Int32)) then ((x0 - x1) - (1 : Int32)) else (0 : Int32)))
set_option maxHeartbeats 4000000 in
set_option maxRecDepth 100000 in
theorem kX1_mostSecond (l : Launch) (D : va_G) (cC cI cJ cZ : ClassId)  (x0 : Int32) (x1 : Int32) (r : Int32) (h : fX1_mostSecond x0 x1 = some r) : gMi l yX1_mostSecond cX1_mostSecond 2 (some .int) (gR 1) D (tysG cC cI cJ cZ) [.int x0, .int x1] ([]) r ([]) := by
  refine gMi_of (by decide) (Nat.le_of_ble_eq_true rfl) rfl ?_
  intro p e s m args below meth c A Q C hQ
  unfold fX1_mostSecond at h
  refine g_iload_n C dX1_mostSecond_0 rfl 1 rfl ?_
  refine g_if_ne (tgt := 8) C dX1_mostSecond_1 (by decide) (fun c1 => ?_) (fun c1 => ?_)
  · have h := ifn h c1
    refine g_iconst (v := (0 : Int32)) C dX1_mostSecond_8 (by decide) ?_
    refine g_iload_n C dX1_mostSecond_9 rfl 0 rfl ?_
    refine g_iload_n C dX1_mostSecond_10 rfl 1 rfl ?_
    refine g_isub C dX1_mostSecond_11 ?_
    refine g_iconst (v := (1 : Int32)) C dX1_mostSecond_12 (by decide) ?_
    refine g_isub C dX1_mostSecond_13 ?_
    refine g_mmax C dX1_mostSecond_14 ml_X1_15 mm_st mm_in mm_co (Nat.le_of_ble_eq_true rfl) (Nat.le_of_ble_eq_true rfl) (Nat.zero_le _) (Nat.zero_le _) ?_
    cases sinj h
    exact g_iret C dX1_mostSecond_17 rfl rfl hQ
  · have h := ifp h c1
    refine g_iconst (v := (0 : Int32)) C dX1_mostSecond_4 (by decide) ?_
    refine g_goto (tgt := 17) C dX1_mostSecond_5 (by decide) ?_
    cases sinj h
    exact g_iret C dX1_mostSecond_17 rfl rfl hQ
def fX1_allows_J39 (s0_J39 : Int32) (s1_J39 : Int32) : Option (Int32) :=
  (if s0_J39 < s1_J39 then some (0 : Int32)
 else some (1 : Int32))
def fX1_allows  (x0 : Int32) (x1 : Int32) (x2 : Int32) (x3 : Int32) : Option (Int32) :=
  ((fX1_isKind x1).bind (fun r1 => (if r1 = 0 then some (0 : Int32)
 else (if x2 < 0 then some (0 : Int32)
 else (if x2 ≤ x0 then (if x3 < 0 then some (0 : Int32)
 else ((fX1_hasSecond x1).bind (fun r24 => (if r24 = 0 then fX1_allows_J39 (0 : Int32) x3
 else ((fX1_mostSecond x0 x2).bind (fun r32 => fX1_allows_J39 r32 x3))))))
 else some (0 : Int32))))))
set_option maxHeartbeats 4000000 in
set_option maxRecDepth 100000 in
theorem kX1_allows (l : Launch) (D : va_G) (cC cI cJ cZ : ClassId)  (x0 : Int32) (x1 : Int32) (x2 : Int32) (x3 : Int32) (r : Int32) (h : fX1_allows x0 x1 x2 x3 = some r) : gMi l yX1_allows cX1_allows 4 (some .boolean) (gR 3) D (tysG cC cI cJ cZ) [.int x0, .int x1, .int x2, .int x3] ([]) r ([]) := by
  refine gMi_of (by decide) (Nat.le_of_ble_eq_true rfl) rfl ?_
  intro p e s m args below meth c A Q C hQ
  have j39 : ∀ (s0_J39 : Int32) (s1_J39 : Int32), fX1_allows_J39 s0_J39 s1_J39 = some r → gG p l e (gR 3) s m args below meth c 4 D A 0 0 Q 39 [] [.int s0_J39, .int s1_J39] ([]) := by
    intro s0_J39 s1_J39 h
    unfold fX1_allows_J39 at h
    refine g_icmp_gt (tgt := 46) C dX1_allows_39 (by decide) (fun c39 => ?_) (fun c39 => ?_)
    · have h := ifp h c39
      refine g_iconst (v := (0 : Int32)) C dX1_allows_46 (by decide) ?_
      cases sinj h
      exact g_zret C dX1_allows_47 rfl rfl rfl hQ
    · have h := ifn h c39
      refine g_iconst (v := (1 : Int32)) C dX1_allows_42 (by decide) ?_
      refine g_goto (tgt := 47) C dX1_allows_43 (by decide) ?_
      cases sinj h
      exact g_zret C dX1_allows_47 rfl rfl rfl hQ
  unfold fX1_allows at h
  refine g_iload_n C dX1_allows_0 rfl 1 rfl ?_
  obtain ⟨r1, h1, h⟩ := obd h
  refine g_callSi (st := []) (ws2 := []) C ys_X1_isKind ml_X1_21 dX1_allows_1 (kX1_isKind l D cC cI cJ cZ x1 r1 h1) gCut_nil ⟨by decide, by decide⟩ ⟨rfl, rfl⟩ ⟨Nat.zero_le _, Nat.zero_le _⟩ rfl rfl (Nat.le_of_ble_eq_true rfl) ?_
  refine g_if_eq (tgt := 16) C dX1_allows_4 (by decide) (fun c4 => ?_) (fun c4 => ?_)
  · have h := ifp h c4
    refine g_iconst (v := (0 : Int32)) C dX1_allows_16 (by decide) ?_
    cases sinj h
    exact g_zret C dX1_allows_17 rfl rfl rfl hQ
  · have h := ifn h c4
    refine g_iload_n C dX1_allows_7 rfl 2 rfl ?_
    refine g_if_lt (tgt := 16) C dX1_allows_8 (by decide) (fun c8 => ?_) (fun c8 => ?_)
    · have h := ifp h c8
      refine g_iconst (v := (0 : Int32)) C dX1_allows_16 (by decide) ?_
      cases sinj h
      exact g_zret C dX1_allows_17 rfl rfl rfl hQ
    · have h := ifn h c8
      refine g_iload_n C dX1_allows_11 rfl 2 rfl ?_
      refine g_iload_n C dX1_allows_12 rfl 0 rfl ?_
      refine g_icmp_le (tgt := 18) C dX1_allows_13 (by decide) (fun c13 => ?_) (fun c13 => ?_)
      · have h := ifp h c13
        refine g_iload_n C dX1_allows_18 rfl 3 rfl ?_
        refine g_if_lt (tgt := 46) C dX1_allows_19 (by decide) (fun c19 => ?_) (fun c19 => ?_)
        · have h := ifp h c19
          refine g_iconst (v := (0 : Int32)) C dX1_allows_46 (by decide) ?_
          cases sinj h
          exact g_zret C dX1_allows_47 rfl rfl rfl hQ
        · have h := ifn h c19
          refine g_iload_n C dX1_allows_22 rfl 3 rfl ?_
          refine g_iload_n C dX1_allows_23 rfl 1 rfl ?_
          obtain ⟨r24, h24, h⟩ := obd h
          refine g_callSi (st := [.int x3]) (ws2 := []) C ys_X1_hasSecond ml_X1_25 dX1_allows_24 (kX1_hasSecond l D cC cI cJ cZ x1 r24 h24) gCut_nil ⟨by decide, by decide⟩ ⟨rfl, rfl⟩ ⟨Nat.zero_le _, Nat.zero_le _⟩ rfl rfl (Nat.le_of_ble_eq_true rfl) ?_
          refine g_if_eq (tgt := 38) C dX1_allows_27 (by decide) (fun c27 => ?_) (fun c27 => ?_)
          · have h := ifp h c27
            refine g_iconst (v := (0 : Int32)) C dX1_allows_38 (by decide) ?_
            refine g_lv [] rfl ?_
            exact j39 (0 : Int32) x3 h
          · have h := ifn h c27
            refine g_iload_n C dX1_allows_30 rfl 0 rfl ?_
            refine g_iload_n C dX1_allows_31 rfl 2 rfl ?_
            obtain ⟨r32, h32, h⟩ := obd h
            refine g_callSi (st := [.int x3]) (ws2 := []) C ys_X1_mostSecond ml_X1_28 dX1_allows_32 (kX1_mostSecond l D cC cI cJ cZ x0 x2 r32 h32) gCut_nil ⟨by decide, by decide⟩ ⟨rfl, rfl⟩ ⟨Nat.zero_le _, Nat.zero_le _⟩ rfl rfl (Nat.le_of_ble_eq_true rfl) ?_
            refine g_goto (tgt := 39) C dX1_allows_35 (by decide) ?_
            refine g_lv [] rfl ?_
            exact j39 r32 x3 h
      · have h := ifn h c13
        refine g_iconst (v := (0 : Int32)) C dX1_allows_16 (by decide) ?_
        cases sinj h
        exact g_zret C dX1_allows_17 rfl rfl rfl hQ
def fX1_anyCells  (x0 : Int32) : Option (Int32) :=
  some (((1 : Int32) <<< (((1 : Int32) <<< (x0 &&& 31)) &&& 31)) - (1 : Int32))
set_option maxHeartbeats 4000000 in
set_option maxRecDepth 100000 in
theorem kX1_anyCells (l : Launch) (D : va_G) (cC cI cJ cZ : ClassId)  (x0 : Int32) (r : Int32) (h : fX1_anyCells x0 = some r) : gMi l yX1_anyCells cX1_anyCells 1 (some .int) (gR 1) D (tysG cC cI cJ cZ) [.int x0] ([]) r ([]) := by
  refine gMi_of (by decide) (Nat.le_of_ble_eq_true rfl) rfl ?_
  intro p e s m args below meth c A Q C hQ
  unfold fX1_anyCells at h
  refine g_iconst (v := (1 : Int32)) C dX1_anyCells_0 (by decide) ?_
  refine g_iconst (v := (1 : Int32)) C dX1_anyCells_1 (by decide) ?_
  refine g_iload_n C dX1_anyCells_2 rfl 0 rfl ?_
  refine g_ishl C dX1_anyCells_3 ?_
  refine g_ishl C dX1_anyCells_4 ?_
  refine g_iconst (v := (1 : Int32)) C dX1_anyCells_5 (by decide) ?_
  refine g_isub C dX1_anyCells_6 ?_
  cases sinj h
  exact g_iret C dX1_anyCells_7 rfl rfl hQ
def fbitCount  (x0 : Int32) : Option (Int32) :=
  some ((((((((x0 - (((x0.toUInt32 >>> ((1 : Int32).toUInt32 &&& Int32.toUInt32 31)).toInt32) &&& (1431655765 : Int32))) &&& (858993459 : Int32)) + ((((x0 - (((x0.toUInt32 >>> ((1 : Int32).toUInt32 &&& Int32.toUInt32 31)).toInt32) &&& (1431655765 : Int32))).toUInt32 >>> ((2 : Int32).toUInt32 &&& Int32.toUInt32 31)).toInt32) &&& (858993459 : Int32))) + (((((x0 - (((x0.toUInt32 >>> ((1 : Int32).toUInt32 &&& Int32.toUInt32 31)).toInt32) &&& (1431655765 : Int32))) &&& (858993459 : Int32)) + ((((x0 - (((x0.toUInt32 >>> ((1 : Int32).toUInt32 &&& Int32.toUInt32 31)).toInt32) &&& (1431655765 : Int32))).toUInt32 >>> ((2 : Int32).toUInt32 &&& Int32.toUInt32 31)).toInt32) &&& (858993459 : Int32))).toUInt32 >>> ((4 : Int32).toUInt32 &&& Int32.toUInt32 31)).toInt32)) &&& (252645135 : Int32)) + (((((((x0 - (((x0.toUInt32 >>> ((1 : Int32).toUInt32 &&& Int32.toUInt32 31)).toInt32) &&& (1431655765 : Int32))) &&& (858993459 : Int32)) + ((((x0 - (((x0.toUInt32 >>> ((1 : Int32).toUInt32 &&& Int32.toUInt32 31)).toInt32) &&& (1431655765 : Int32))).toUInt32 >>> ((2 : Int32).toUInt32 &&& Int32.toUInt32 31)).toInt32) &&& (858993459 : Int32))) + (((((x0 - (((x0.toUInt32 >>> ((1 : Int32).toUInt32 &&& Int32.toUInt32 31)).toInt32) &&& (1431655765 : Int32))) &&& (858993459 : Int32)) + ((((x0 - (((x0.toUInt32 >>> ((1 : Int32).toUInt32 &&& Int32.toUInt32 31)).toInt32) &&& (1431655765 : Int32))).toUInt32 >>> ((2 : Int32).toUInt32 &&& Int32.toUInt32 31)).toInt32) &&& (858993459 : Int32))).toUInt32 >>> ((4 : Int32).toUInt32 &&& Int32.toUInt32 31)).toInt32)) &&& (252645135 : Int32)).toUInt32 >>> ((8 : Int32).toUInt32 &&& Int32.toUInt32 31)).toInt32)) + ((((((((x0 - (((x0.toUInt32 >>> ((1 : Int32).toUInt32 &&& Int32.toUInt32 31)).toInt32) &&& (1431655765 : Int32))) &&& (858993459 : Int32)) + ((((x0 - (((x0.toUInt32 >>> ((1 : Int32).toUInt32 &&& Int32.toUInt32 31)).toInt32) &&& (1431655765 : Int32))).toUInt32 >>> ((2 : Int32).toUInt32 &&& Int32.toUInt32 31)).toInt32) &&& (858993459 : Int32))) + (((((x0 - (((x0.toUInt32 >>> ((1 : Int32).toUInt32 &&& Int32.toUInt32 31)).toInt32) &&& (1431655765 : Int32))) &&& (858993459 : Int32)) + ((((x0 - (((x0.toUInt32 >>> ((1 : Int32).toUInt32 &&& Int32.toUInt32 31)).toInt32) &&& (1431655765 : Int32))).toUInt32 >>> ((2 : Int32).toUInt32 &&& Int32.toUInt32 31)).toInt32) &&& (858993459 : Int32))).toUInt32 >>> ((4 : Int32).toUInt32 &&& Int32.toUInt32 31)).toInt32)) &&& (252645135 : Int32)) + (((((((x0 - (((x0.toUInt32 >>> ((1 : Int32).toUInt32 &&& Int32.toUInt32 31)).toInt32) &&& (1431655765 : Int32))) &&& (858993459 : Int32)) + ((((x0 - (((x0.toUInt32 >>> ((1 : Int32).toUInt32 &&& Int32.toUInt32 31)).toInt32) &&& (1431655765 : Int32))).toUInt32 >>> ((2 : Int32).toUInt32 &&& Int32.toUInt32 31)).toInt32) &&& (858993459 : Int32))) + (((((x0 - (((x0.toUInt32 >>> ((1 : Int32).toUInt32 &&& Int32.toUInt32 31)).toInt32) &&& (1431655765 : Int32))) &&& (858993459 : Int32)) + ((((x0 - (((x0.toUInt32 >>> ((1 : Int32).toUInt32 &&& Int32.toUInt32 31)).toInt32) &&& (1431655765 : Int32))).toUInt32 >>> ((2 : Int32).toUInt32 &&& Int32.toUInt32 31)).toInt32) &&& (858993459 : Int32))).toUInt32 >>> ((4 : Int32).toUInt32 &&& Int32.toUInt32 31)).toInt32)) &&& (252645135 : Int32)).toUInt32 >>> ((8 : Int32).toUInt32 &&& Int32.toUInt32 31)).toInt32)).toUInt32 >>> ((16 : Int32).toUInt32 &&& Int32.toUInt32 31)).toInt32)) &&& (63 : Int32))
set_option maxHeartbeats 4000000 in
set_option maxRecDepth 100000 in
theorem kbitCount (l : Launch) (D : va_G) (cC cI cJ cZ : ClassId)  (x0 : Int32) (r : Int32) (h : fbitCount x0 = some r) : gMi l yJ6_bitCount_0f7a4 cJ6_bitCount_0f7a4 1 (some .int) (gR 1) D (tysG cC cI cJ cZ) [.int x0] ([]) r ([]) := by
  refine gMi_of (by decide) (Nat.le_of_ble_eq_true rfl) rfl ?_
  intro p e s m args below meth c A Q C hQ
  unfold fbitCount at h
  refine g_iload_n C dJ6_bitCount_0f7a4_0 rfl 0 rfl ?_
  refine g_iload_n C dJ6_bitCount_0f7a4_1 rfl 0 rfl ?_
  refine g_iconst (v := (1 : Int32)) C dJ6_bitCount_0f7a4_2 (by decide) ?_
  refine g_iushr C dJ6_bitCount_0f7a4_3 ?_
  refine g_ldcw C dJ6_bitCount_0f7a4_4 ck_J6_265 ?_
  refine g_iand C dJ6_bitCount_0f7a4_7 ?_
  refine g_isub C dJ6_bitCount_0f7a4_8 ?_
  refine g_istore_n (lv' := [(0, .int (x0 - (((x0.toUInt32 >>> ((1 : Int32).toUInt32 &&& Int32.toUInt32 31)).toInt32) &&& (1431655765 : Int32))))]) C dJ6_bitCount_0f7a4_9 rfl (by decide) rfl ?_
  refine g_iload_n C dJ6_bitCount_0f7a4_10 rfl 0 rfl ?_
  refine g_ldcw C dJ6_bitCount_0f7a4_11 ck_J6_266 ?_
  refine g_iand C dJ6_bitCount_0f7a4_14 ?_
  refine g_iload_n C dJ6_bitCount_0f7a4_15 rfl 0 rfl ?_
  refine g_iconst (v := (2 : Int32)) C dJ6_bitCount_0f7a4_16 (by decide) ?_
  refine g_iushr C dJ6_bitCount_0f7a4_17 ?_
  refine g_ldcw C dJ6_bitCount_0f7a4_18 ck_J6_266 ?_
  refine g_iand C dJ6_bitCount_0f7a4_21 ?_
  refine g_iadd C dJ6_bitCount_0f7a4_22 ?_
  refine g_istore_n (lv' := [(0, .int (((x0 - (((x0.toUInt32 >>> ((1 : Int32).toUInt32 &&& Int32.toUInt32 31)).toInt32) &&& (1431655765 : Int32))) &&& (858993459 : Int32)) + ((((x0 - (((x0.toUInt32 >>> ((1 : Int32).toUInt32 &&& Int32.toUInt32 31)).toInt32) &&& (1431655765 : Int32))).toUInt32 >>> ((2 : Int32).toUInt32 &&& Int32.toUInt32 31)).toInt32) &&& (858993459 : Int32))))]) C dJ6_bitCount_0f7a4_23 rfl (by decide) rfl ?_
  refine g_iload_n C dJ6_bitCount_0f7a4_24 rfl 0 rfl ?_
  refine g_iload_n C dJ6_bitCount_0f7a4_25 rfl 0 rfl ?_
  refine g_iconst (v := (4 : Int32)) C dJ6_bitCount_0f7a4_26 (by decide) ?_
  refine g_iushr C dJ6_bitCount_0f7a4_27 ?_
  refine g_iadd C dJ6_bitCount_0f7a4_28 ?_
  refine g_ldcw C dJ6_bitCount_0f7a4_29 ck_J6_267 ?_
  refine g_iand C dJ6_bitCount_0f7a4_32 ?_
  refine g_istore_n (lv' := [(0, .int (((((x0 - (((x0.toUInt32 >>> ((1 : Int32).toUInt32 &&& Int32.toUInt32 31)).toInt32) &&& (1431655765 : Int32))) &&& (858993459 : Int32)) + ((((x0 - (((x0.toUInt32 >>> ((1 : Int32).toUInt32 &&& Int32.toUInt32 31)).toInt32) &&& (1431655765 : Int32))).toUInt32 >>> ((2 : Int32).toUInt32 &&& Int32.toUInt32 31)).toInt32) &&& (858993459 : Int32))) + (((((x0 - (((x0.toUInt32 >>> ((1 : Int32).toUInt32 &&& Int32.toUInt32 31)).toInt32) &&& (1431655765 : Int32))) &&& (858993459 : Int32)) + ((((x0 - (((x0.toUInt32 >>> ((1 : Int32).toUInt32 &&& Int32.toUInt32 31)).toInt32) &&& (1431655765 : Int32))).toUInt32 >>> ((2 : Int32).toUInt32 &&& Int32.toUInt32 31)).toInt32) &&& (858993459 : Int32))).toUInt32 >>> ((4 : Int32).toUInt32 &&& Int32.toUInt32 31)).toInt32)) &&& (252645135 : Int32)))]) C dJ6_bitCount_0f7a4_33 rfl (by decide) rfl ?_
  refine g_iload_n C dJ6_bitCount_0f7a4_34 rfl 0 rfl ?_
  refine g_iload_n C dJ6_bitCount_0f7a4_35 rfl 0 rfl ?_
  refine g_bipush (v := (8 : Int32)) C dJ6_bitCount_0f7a4_36 (by decide) ?_
  refine g_iushr C dJ6_bitCount_0f7a4_38 ?_
  refine g_iadd C dJ6_bitCount_0f7a4_39 ?_
  refine g_istore_n (lv' := [(0, .int ((((((x0 - (((x0.toUInt32 >>> ((1 : Int32).toUInt32 &&& Int32.toUInt32 31)).toInt32) &&& (1431655765 : Int32))) &&& (858993459 : Int32)) + ((((x0 - (((x0.toUInt32 >>> ((1 : Int32).toUInt32 &&& Int32.toUInt32 31)).toInt32) &&& (1431655765 : Int32))).toUInt32 >>> ((2 : Int32).toUInt32 &&& Int32.toUInt32 31)).toInt32) &&& (858993459 : Int32))) + (((((x0 - (((x0.toUInt32 >>> ((1 : Int32).toUInt32 &&& Int32.toUInt32 31)).toInt32) &&& (1431655765 : Int32))) &&& (858993459 : Int32)) + ((((x0 - (((x0.toUInt32 >>> ((1 : Int32).toUInt32 &&& Int32.toUInt32 31)).toInt32) &&& (1431655765 : Int32))).toUInt32 >>> ((2 : Int32).toUInt32 &&& Int32.toUInt32 31)).toInt32) &&& (858993459 : Int32))).toUInt32 >>> ((4 : Int32).toUInt32 &&& Int32.toUInt32 31)).toInt32)) &&& (252645135 : Int32)) + (((((((x0 - (((x0.toUInt32 >>> ((1 : Int32).toUInt32 &&& Int32.toUInt32 31)).toInt32) &&& (1431655765 : Int32))) &&& (858993459 : Int32)) + ((((x0 - (((x0.toUInt32 >>> ((1 : Int32).toUInt32 &&& Int32.toUInt32 31)).toInt32) &&& (1431655765 : Int32))).toUInt32 >>> ((2 : Int32).toUInt32 &&& Int32.toUInt32 31)).toInt32) &&& (858993459 : Int32))) + (((((x0 - (((x0.toUInt32 >>> ((1 : Int32).toUInt32 &&& Int32.toUInt32 31)).toInt32) &&& (1431655765 : Int32))) &&& (858993459 : Int32)) + ((((x0 - (((x0.toUInt32 >>> ((1 : Int32).toUInt32 &&& Int32.toUInt32 31)).toInt32) &&& (1431655765 : Int32))).toUInt32 >>> ((2 : Int32).toUInt32 &&& Int32.toUInt32 31)).toInt32) &&& (858993459 : Int32))).toUInt32 >>> ((4 : Int32).toUInt32 &&& Int32.toUInt32 31)).toInt32)) &&& (252645135 : Int32)).toUInt32 >>> ((8 : Int32).toUInt32 &&& Int32.toUInt32 31)).toInt32)))]) C dJ6_bitCount_0f7a4_40 rfl (by decide) rfl ?_
  refine g_iload_n C dJ6_bitCount_0f7a4_41 rfl 0 rfl ?_
  refine g_iload_n C dJ6_bitCount_0f7a4_42 rfl 0 rfl ?_
  refine g_bipush (v := (16 : Int32)) C dJ6_bitCount_0f7a4_43 (by decide) ?_
  refine g_iushr C dJ6_bitCount_0f7a4_45 ?_
  refine g_iadd C dJ6_bitCount_0f7a4_46 ?_
  refine g_istore_n (lv' := [(0, .int (((((((x0 - (((x0.toUInt32 >>> ((1 : Int32).toUInt32 &&& Int32.toUInt32 31)).toInt32) &&& (1431655765 : Int32))) &&& (858993459 : Int32)) + ((((x0 - (((x0.toUInt32 >>> ((1 : Int32).toUInt32 &&& Int32.toUInt32 31)).toInt32) &&& (1431655765 : Int32))).toUInt32 >>> ((2 : Int32).toUInt32 &&& Int32.toUInt32 31)).toInt32) &&& (858993459 : Int32))) + (((((x0 - (((x0.toUInt32 >>> ((1 : Int32).toUInt32 &&& Int32.toUInt32 31)).toInt32) &&& (1431655765 : Int32))) &&& (858993459 : Int32)) + ((((x0 - (((x0.toUInt32 >>> ((1 : Int32).toUInt32 &&& Int32.toUInt32 31)).toInt32) &&& (1431655765 : Int32))).toUInt32 >>> ((2 : Int32).toUInt32 &&& Int32.toUInt32 31)).toInt32) &&& (858993459 : Int32))).toUInt32 >>> ((4 : Int32).toUInt32 &&& Int32.toUInt32 31)).toInt32)) &&& (252645135 : Int32)) + (((((((x0 - (((x0.toUInt32 >>> ((1 : Int32).toUInt32 &&& Int32.toUInt32 31)).toInt32) &&& (1431655765 : Int32))) &&& (858993459 : Int32)) + ((((x0 - (((x0.toUInt32 >>> ((1 : Int32).toUInt32 &&& Int32.toUInt32 31)).toInt32) &&& (1431655765 : Int32))).toUInt32 >>> ((2 : Int32).toUInt32 &&& Int32.toUInt32 31)).toInt32) &&& (858993459 : Int32))) + (((((x0 - (((x0.toUInt32 >>> ((1 : Int32).toUInt32 &&& Int32.toUInt32 31)).toInt32) &&& (1431655765 : Int32))) &&& (858993459 : Int32)) + ((((x0 - (((x0.toUInt32 >>> ((1 : Int32).toUInt32 &&& Int32.toUInt32 31)).toInt32) &&& (1431655765 : Int32))).toUInt32 >>> ((2 : Int32).toUInt32 &&& Int32.toUInt32 31)).toInt32) &&& (858993459 : Int32))).toUInt32 >>> ((4 : Int32).toUInt32 &&& Int32.toUInt32 31)).toInt32)) &&& (252645135 : Int32)).toUInt32 >>> ((8 : Int32).toUInt32 &&& Int32.toUInt32 31)).toInt32)) + ((((((((x0 - (((x0.toUInt32 >>> ((1 : Int32).toUInt32 &&& Int32.toUInt32 31)).toInt32) &&& (1431655765 : Int32))) &&& (858993459 : Int32)) + ((((x0 - (((x0.toUInt32 >>> ((1 : Int32).toUInt32 &&& Int32.toUInt32 31)).toInt32) &&& (1431655765 : Int32))).toUInt32 >>> ((2 : Int32).toUInt32 &&& Int32.toUInt32 31)).toInt32) &&& (858993459 : Int32))) + (((((x0 - (((x0.toUInt32 >>> ((1 : Int32).toUInt32 &&& Int32.toUInt32 31)).toInt32) &&& (1431655765 : Int32))) &&& (858993459 : Int32)) + ((((x0 - (((x0.toUInt32 >>> ((1 : Int32).toUInt32 &&& Int32.toUInt32 31)).toInt32) &&& (1431655765 : Int32))).toUInt32 >>> ((2 : Int32).toUInt32 &&& Int32.toUInt32 31)).toInt32) &&& (858993459 : Int32))).toUInt32 >>> ((4 : Int32).toUInt32 &&& Int32.toUInt32 31)).toInt32)) &&& (252645135 : Int32)) + (((((((x0 - (((x0.toUInt32 >>> ((1 : Int32).toUInt32 &&& Int32.toUInt32 31)).toInt32) &&& (1431655765 : Int32))) &&& (858993459 : Int32)) + ((((x0 - (((x0.toUInt32 >>> ((1 : Int32).toUInt32 &&& Int32.toUInt32 31)).toInt32) &&& (1431655765 : Int32))).toUInt32 >>> ((2 : Int32).toUInt32 &&& Int32.toUInt32 31)).toInt32) &&& (858993459 : Int32))) + (((((x0 - (((x0.toUInt32 >>> ((1 : Int32).toUInt32 &&& Int32.toUInt32 31)).toInt32) &&& (1431655765 : Int32))) &&& (858993459 : Int32)) + ((((x0 - (((x0.toUInt32 >>> ((1 : Int32).toUInt32 &&& Int32.toUInt32 31)).toInt32) &&& (1431655765 : Int32))).toUInt32 >>> ((2 : Int32).toUInt32 &&& Int32.toUInt32 31)).toInt32) &&& (858993459 : Int32))).toUInt32 >>> ((4 : Int32).toUInt32 &&& Int32.toUInt32 31)).toInt32)) &&& (252645135 : Int32)).toUInt32 >>> ((8 : Int32).toUInt32 &&& Int32.toUInt32 31)).toInt32)).toUInt32 >>> ((16 : Int32).toUInt32 &&& Int32.toUInt32 31)).toInt32)))]) C dJ6_bitCount_0f7a4_47 rfl (by decide) rfl ?_
  refine g_iload_n C dJ6_bitCount_0f7a4_48 rfl 0 rfl ?_
  refine g_bipush (v := (63 : Int32)) C dJ6_bitCount_0f7a4_49 (by decide) ?_
  refine g_iand C dJ6_bitCount_0f7a4_51 ?_
  cases sinj h
  exact g_iret C dJ6_bitCount_0f7a4_52 rfl rfl hQ
def fX1_isKept_J60 (x0_L18 : Int32) (x1_L18 : Int32) (x2_L18 : Int32) (x3_L18 : Int32) (x4_J60 : Int32) (x5_J60 : Int32) (x6_J60 : Int32) (x7_J60 : Int32) (x8_J60 : Int32) (x9_J60 : Int32) : Option ((Int32 × Int32 × Int32 × Int32 × Int32 × Int32) ⊕ (Int32 × Int32 × Int32 × Int32)) :=
  (if x8_J60 ≤ x7_J60 then some (.inl ((x4_J60 + (1 : Int32)), x5_J60, x6_J60, x7_J60, (0 : Int32), (x9_J60 + (1 : Int32))))
 else some (.inl ((x4_J60 + (1 : Int32)), x5_J60, x6_J60, x8_J60, (0 : Int32), (x9_J60 + (1 : Int32)))))
def fX1_isKept_L18 (x0_L18 : Int32) (x1_L18 : Int32) (x2_L18 : Int32) (x3_L18 : Int32) (x4_L18 : Int32) (x5_L18 : Int32) (x6_L18 : Int32) (x7_L18 : Int32) (x8_L18 : Int32) (x9_L18 : Int32) : Option ((Int32 × Int32 × Int32 × Int32 × Int32 × Int32) ⊕ (Int32 × Int32 × Int32 × Int32)) :=
  (if (4 : Int32) < x9_L18 then some (.inr (x4_L18, x5_L18, x6_L18, x7_L18))
 else (if ((x3_L18 >>> (x9_L18 &&& 31)) &&& (1 : Int32)) = 0 then (if x8_L18 ≤ 0 then some (.inl (x4_L18, x5_L18, x6_L18, x7_L18, x8_L18, (x9_L18 + (1 : Int32))))
 else (if x4_L18 = 0 then fX1_isKept_J60 x0_L18 x1_L18 x2_L18 x3_L18 x4_L18 x8_L18 x6_L18 x7_L18 x8_L18 x9_L18
 else fX1_isKept_J60 x0_L18 x1_L18 x2_L18 x3_L18 x4_L18 x5_L18 x8_L18 x7_L18 x8_L18 x9_L18))
 else some (.inl (x4_L18, x5_L18, x6_L18, x7_L18, (x8_L18 + (1 : Int32)), (x9_L18 + (1 : Int32))))))
def fX1_isKept_J100 (x0_J100 : Int32) (x1_J100 : Int32) (x2_J100 : Int32) (x3_J100 : Int32) (x4_J100 : Int32) (x5_J100 : Int32) (x6_J100 : Int32) (x7_J100 : Int32) (s0_J100 : Int32) : Option (Int32) :=
  (if x0_J100 = 1 then (if okZ s0_J100 = true then some s0_J100 else none)
 else (if x0_J100 = 2 then (if x4_J100 = x1_J100 then some (1 : Int32)
 else some (0 : Int32))
 else (if x0_J100 = 3 then (if x7_J100 = x1_J100 then some (1 : Int32)
 else some (0 : Int32))
 else (if x0_J100 = 4 then (if s0_J100 = 0 then (if x5_J100 = x2_J100 then (if x6_J100 = x1_J100 then some (1 : Int32)
 else some (0 : Int32))
 else some (0 : Int32))
 else some (1 : Int32))
 else ((fbitCount x3_J100).bind (fun r183 => (if r183 = x1_J100 then some (1 : Int32)
 else some (0 : Int32))))))))
def fX1_isKept_J99 (x0_J99 : Int32) (x1_J99 : Int32) (x2_J99 : Int32) (x3_J99 : Int32) (x4_J99 : Int32) (x5_J99 : Int32) (x6_J99 : Int32) (x7_J99 : Int32) : Option (Int32) :=
  fX1_isKept_J100 x0_J99 x1_J99 x2_J99 x3_J99 x4_J99 x5_J99 x6_J99 x7_J99 (0 : Int32)
def fX1_isKept_J83 (x0_J83 : Int32) (x1_J83 : Int32) (x2_J83 : Int32) (x3_J83 : Int32) (x4_J83 : Int32) (x5_J83 : Int32) (x6_J83 : Int32) (x7_J83 : Int32) : Option (Int32) :=
  (if x5_J83 = x1_J83 then (if x6_J83 = x2_J83 then fX1_isKept_J100 x0_J83 x1_J83 x2_J83 x3_J83 x4_J83 x5_J83 x6_J83 x7_J83 (1 : Int32)
 else fX1_isKept_J99 x0_J83 x1_J83 x2_J83 x3_J83 x4_J83 x5_J83 x6_J83 x7_J83)
 else fX1_isKept_J99 x0_J83 x1_J83 x2_J83 x3_J83 x4_J83 x5_J83 x6_J83 x7_J83)
def fX1_isKept  (x0 : Int32) (x1 : Int32) (x2 : Int32) (x3 : Int32) : Option (Int32) :=
  ((wh (σ := Int32 × Int32 × Int32 × Int32 × Int32 × Int32) (ρ := Int32 × Int32 × Int32 × Int32) (fun t => fX1_isKept_L18 x0 x1 x2 x3 t.1 t.2.1 t.2.2.1 t.2.2.2.1 t.2.2.2.2.1 t.2.2.2.2.2) 100000 ((0 : Int32), (0 : Int32), (0 : Int32), (0 : Int32), (0 : Int32), (0 : Int32))).bind (fun X => (fun e4_L18 e5_L18 e6_L18 e7_L18 => fX1_isKept_J83 x0 x1 x2 x3 e4_L18 e5_L18 e6_L18 e7_L18) X.1 X.2.1 X.2.2.1 X.2.2.2))
set_option maxHeartbeats 4000000 in
set_option maxRecDepth 100000 in
theorem kX1_isKept (l : Launch) (D : va_G) (cC cI cJ cZ : ClassId)  (x0 : Int32) (x1 : Int32) (x2 : Int32) (x3 : Int32) (r : Int32) (h : fX1_isKept x0 x1 x2 x3 = some r) : gMi l yX1_isKept cX1_isKept 10 (some .boolean) (gR 2) D (tysG cC cI cJ cZ) [.int x0, .int x1, .int x2, .int x3] ([]) r ([]) := by
  refine gMi_of (by decide) (Nat.le_of_ble_eq_true rfl) rfl ?_
  intro p e s m args below meth c A Q C hQ
  have j100 : ∀ (x0_J100 : Int32) (x1_J100 : Int32) (x2_J100 : Int32) (x3_J100 : Int32) (x4_J100 : Int32) (x5_J100 : Int32) (x6_J100 : Int32) (x7_J100 : Int32) (s0_J100 : Int32), fX1_isKept_J100 x0_J100 x1_J100 x2_J100 x3_J100 x4_J100 x5_J100 x6_J100 x7_J100 s0_J100 = some r → gG p l e (gR 2) s m args below meth c 10 D A 0 0 Q 100 [(0, .int x0_J100), (1, .int x1_J100), (2, .int x2_J100), (3, .int x3_J100), (4, .int x4_J100), (5, .int x5_J100), (6, .int x6_J100), (7, .int x7_J100)] [.int s0_J100] ([]) := by
    intro x0_J100 x1_J100 x2_J100 x3_J100 x4_J100 x5_J100 x6_J100 x7_J100 s0_J100 h
    unfold fX1_isKept_J100 at h
    refine g_istore (lv' := [(9, .int s0_J100), (0, .int x0_J100), (1, .int x1_J100), (2, .int x2_J100), (3, .int x3_J100), (4, .int x4_J100), (5, .int x5_J100), (6, .int x6_J100), (7, .int x7_J100)]) C dX1_isKept_100 (by decide) rfl ?_
    refine g_iload_n C dX1_isKept_102 rfl 1 rfl ?_
    by_cases c103_1 : x0_J100 = 1
    · have h := ifp h c103_1
      refine g_tableAt (v := 1) (off := 29) (tgt := 132) C dX1_isKept_103 c103_1 (by decide) (by decide) rfl (by decide) ?_
      refine g_iload C dX1_isKept_132 0 rfl ?_
      obtain ⟨hz134, h⟩ := ifg h
      cases sinj h
      exact g_zret C dX1_isKept_134 (okZ_n hz134) rfl rfl hQ
    · have h := ifn h c103_1
      by_cases c103_2 : x0_J100 = 2
      · have h := ifp h c103_2
        refine g_tableAt (v := 2) (off := 32) (tgt := 135) C dX1_isKept_103 c103_2 (by decide) (by decide) rfl (by decide) ?_
        refine g_iload C dX1_isKept_135 5 rfl ?_
        refine g_iload_n C dX1_isKept_137 rfl 2 rfl ?_
        refine g_icmp_ne (tgt := 145) C dX1_isKept_138 (by decide) (fun c138 => ?_) (fun c138 => ?_)
        · have h := ifn h c138
          refine g_iconst (v := (0 : Int32)) C dX1_isKept_145 (by decide) ?_
          cases sinj h
          exact g_zret C dX1_isKept_146 rfl rfl rfl hQ
        · have h := ifp h c138
          refine g_iconst (v := (1 : Int32)) C dX1_isKept_141 (by decide) ?_
          refine g_goto (tgt := 146) C dX1_isKept_142 (by decide) ?_
          cases sinj h
          exact g_zret C dX1_isKept_146 rfl rfl rfl hQ
      · have h := ifn h c103_2
        by_cases c103_3 : x0_J100 = 3
        · have h := ifp h c103_3
          refine g_tableAt (v := 3) (off := 44) (tgt := 147) C dX1_isKept_103 c103_3 (by decide) (by decide) rfl (by decide) ?_
          refine g_iload C dX1_isKept_147 8 rfl ?_
          refine g_iload_n C dX1_isKept_149 rfl 2 rfl ?_
          refine g_icmp_ne (tgt := 157) C dX1_isKept_150 (by decide) (fun c150 => ?_) (fun c150 => ?_)
          · have h := ifn h c150
            refine g_iconst (v := (0 : Int32)) C dX1_isKept_157 (by decide) ?_
            cases sinj h
            exact g_zret C dX1_isKept_158 rfl rfl rfl hQ
          · have h := ifp h c150
            refine g_iconst (v := (1 : Int32)) C dX1_isKept_153 (by decide) ?_
            refine g_goto (tgt := 158) C dX1_isKept_154 (by decide) ?_
            cases sinj h
            exact g_zret C dX1_isKept_158 rfl rfl rfl hQ
        · have h := ifn h c103_3
          by_cases c103_4 : x0_J100 = 4
          · have h := ifp h c103_4
            refine g_tableAt (v := 4) (off := 56) (tgt := 159) C dX1_isKept_103 c103_4 (by decide) (by decide) rfl (by decide) ?_
            refine g_iload C dX1_isKept_159 0 rfl ?_
            refine g_if_ne (tgt := 176) C dX1_isKept_161 (by decide) (fun c161 => ?_) (fun c161 => ?_)
            · have h := ifn h c161
              refine g_iconst (v := (1 : Int32)) C dX1_isKept_176 (by decide) ?_
              refine g_goto (tgt := 181) C dX1_isKept_177 (by decide) ?_
              cases sinj h
              exact g_zret C dX1_isKept_181 rfl rfl rfl hQ
            · have h := ifp h c161
              refine g_iload C dX1_isKept_164 6 rfl ?_
              refine g_iload_n C dX1_isKept_166 rfl 3 rfl ?_
              refine g_icmp_ne (tgt := 180) C dX1_isKept_167 (by decide) (fun c167 => ?_) (fun c167 => ?_)
              · have h := ifn h c167
                refine g_iconst (v := (0 : Int32)) C dX1_isKept_180 (by decide) ?_
                cases sinj h
                exact g_zret C dX1_isKept_181 rfl rfl rfl hQ
              · have h := ifp h c167
                refine g_iload C dX1_isKept_170 7 rfl ?_
                refine g_iload_n C dX1_isKept_172 rfl 2 rfl ?_
                refine g_icmp_ne (tgt := 180) C dX1_isKept_173 (by decide) (fun c173 => ?_) (fun c173 => ?_)
                · have h := ifn h c173
                  refine g_iconst (v := (0 : Int32)) C dX1_isKept_180 (by decide) ?_
                  cases sinj h
                  exact g_zret C dX1_isKept_181 rfl rfl rfl hQ
                · have h := ifp h c173
                  refine g_iconst (v := (1 : Int32)) C dX1_isKept_176 (by decide) ?_
                  refine g_goto (tgt := 181) C dX1_isKept_177 (by decide) ?_
                  cases sinj h
                  exact g_zret C dX1_isKept_181 rfl rfl rfl hQ
          · have h := ifn h c103_4
            refine g_tableOut (tgt := 182) C dX1_isKept_103 (by have q1 := lv_neT (a := 1) c103_1 (by decide); have q2 := lv_neT (a := 2) c103_2 (by decide); have q3 := lv_neT (a := 3) c103_3 (by decide); have q4 := lv_neT (a := 4) c103_4 (by decide); omega) (by decide) ?_
            refine g_iload_n C dX1_isKept_182 rfl 4 rfl ?_
            obtain ⟨r183, h183, h⟩ := obd h
            refine g_callSi (st := []) (ws2 := []) C ys_J6_bitCount_0f7a4 ml_X1_35 dX1_isKept_183 (kbitCount l D cC cI cJ cZ x3_J100 r183 h183) gCut_nil ⟨by decide, by decide⟩ ⟨rfl, rfl⟩ ⟨Nat.zero_le _, Nat.zero_le _⟩ rfl rfl (Nat.le_of_ble_eq_true rfl) ?_
            refine g_iload_n C dX1_isKept_186 rfl 2 rfl ?_
            refine g_icmp_ne (tgt := 194) C dX1_isKept_187 (by decide) (fun c187 => ?_) (fun c187 => ?_)
            · have h := ifn h c187
              refine g_iconst (v := (0 : Int32)) C dX1_isKept_194 (by decide) ?_
              cases sinj h
              exact g_zret C dX1_isKept_195 rfl rfl rfl hQ
            · have h := ifp h c187
              refine g_iconst (v := (1 : Int32)) C dX1_isKept_190 (by decide) ?_
              refine g_goto (tgt := 195) C dX1_isKept_191 (by decide) ?_
              cases sinj h
              exact g_zret C dX1_isKept_195 rfl rfl rfl hQ
  have j99 : ∀ (x0_J99 : Int32) (x1_J99 : Int32) (x2_J99 : Int32) (x3_J99 : Int32) (x4_J99 : Int32) (x5_J99 : Int32) (x6_J99 : Int32) (x7_J99 : Int32), fX1_isKept_J99 x0_J99 x1_J99 x2_J99 x3_J99 x4_J99 x5_J99 x6_J99 x7_J99 = some r → gG p l e (gR 2) s m args below meth c 10 D A 0 0 Q 99 [(0, .int x0_J99), (1, .int x1_J99), (2, .int x2_J99), (3, .int x3_J99), (4, .int x4_J99), (5, .int x5_J99), (6, .int x6_J99), (7, .int x7_J99)] [] ([]) := by
    intro x0_J99 x1_J99 x2_J99 x3_J99 x4_J99 x5_J99 x6_J99 x7_J99 h
    unfold fX1_isKept_J99 at h
    refine g_iconst (v := (0 : Int32)) C dX1_isKept_99 (by decide) ?_
    refine g_lv [0, 1, 2, 3, 4, 5, 6, 7] rfl ?_
    exact j100 x0_J99 x1_J99 x2_J99 x3_J99 x4_J99 x5_J99 x6_J99 x7_J99 (0 : Int32) h
  have j83 : ∀ (x0_J83 : Int32) (x1_J83 : Int32) (x2_J83 : Int32) (x3_J83 : Int32) (x4_J83 : Int32) (x5_J83 : Int32) (x6_J83 : Int32) (x7_J83 : Int32), fX1_isKept_J83 x0_J83 x1_J83 x2_J83 x3_J83 x4_J83 x5_J83 x6_J83 x7_J83 = some r → gG p l e (gR 2) s m args below meth c 10 D A 0 0 Q 83 [(0, .int x0_J83), (1, .int x1_J83), (2, .int x2_J83), (3, .int x3_J83), (4, .int x4_J83), (5, .int x5_J83), (6, .int x6_J83), (7, .int x7_J83)] [] ([]) := by
    intro x0_J83 x1_J83 x2_J83 x3_J83 x4_J83 x5_J83 x6_J83 x7_J83 h
    unfold fX1_isKept_J83 at h
    refine g_iload C dX1_isKept_83 5 rfl ?_
    refine g_iload_n C dX1_isKept_85 rfl 1 rfl ?_
    refine g_icmp_ne (tgt := 99) C dX1_isKept_86 (by decide) (fun c86 => ?_) (fun c86 => ?_)
    · have h := ifn h c86
      refine g_lv [0, 1, 2, 3, 4, 5, 6, 7] rfl ?_
      exact j99 x0_J83 x1_J83 x2_J83 x3_J83 x4_J83 x5_J83 x6_J83 x7_J83 h
    · have h := ifp h c86
      refine g_iload C dX1_isKept_89 6 rfl ?_
      refine g_iload_n C dX1_isKept_91 rfl 2 rfl ?_
      refine g_icmp_ne (tgt := 99) C dX1_isKept_92 (by decide) (fun c92 => ?_) (fun c92 => ?_)
      · have h := ifn h c92
        refine g_lv [0, 1, 2, 3, 4, 5, 6, 7] rfl ?_
        exact j99 x0_J83 x1_J83 x2_J83 x3_J83 x4_J83 x5_J83 x6_J83 x7_J83 h
      · have h := ifp h c92
        refine g_iconst (v := (1 : Int32)) C dX1_isKept_95 (by decide) ?_
        refine g_goto (tgt := 100) C dX1_isKept_96 (by decide) ?_
        refine g_lv [0, 1, 2, 3, 4, 5, 6, 7] rfl ?_
        exact j100 x0_J83 x1_J83 x2_J83 x3_J83 x4_J83 x5_J83 x6_J83 x7_J83 (1 : Int32) h
  unfold fX1_isKept at h
  refine g_iconst (v := (0 : Int32)) C dX1_isKept_0 (by decide) ?_
  refine g_istore (lv' := [(4, .int (0 : Int32)), (0, .int x0), (1, .int x1), (2, .int x2), (3, .int x3)]) C dX1_isKept_1 (by decide) rfl ?_
  refine g_iconst (v := (0 : Int32)) C dX1_isKept_3 (by decide) ?_
  refine g_istore (lv' := [(5, .int (0 : Int32)), (4, .int (0 : Int32)), (0, .int x0), (1, .int x1), (2, .int x2), (3, .int x3)]) C dX1_isKept_4 (by decide) rfl ?_
  refine g_iconst (v := (0 : Int32)) C dX1_isKept_6 (by decide) ?_
  refine g_istore (lv' := [(6, .int (0 : Int32)), (5, .int (0 : Int32)), (4, .int (0 : Int32)), (0, .int x0), (1, .int x1), (2, .int x2), (3, .int x3)]) C dX1_isKept_7 (by decide) rfl ?_
  refine g_iconst (v := (0 : Int32)) C dX1_isKept_9 (by decide) ?_
  refine g_istore (lv' := [(7, .int (0 : Int32)), (6, .int (0 : Int32)), (5, .int (0 : Int32)), (4, .int (0 : Int32)), (0, .int x0), (1, .int x1), (2, .int x2), (3, .int x3)]) C dX1_isKept_10 (by decide) rfl ?_
  refine g_iconst (v := (0 : Int32)) C dX1_isKept_12 (by decide) ?_
  refine g_istore (lv' := [(8, .int (0 : Int32)), (7, .int (0 : Int32)), (6, .int (0 : Int32)), (5, .int (0 : Int32)), (4, .int (0 : Int32)), (0, .int x0), (1, .int x1), (2, .int x2), (3, .int x3)]) C dX1_isKept_13 (by decide) rfl ?_
  refine g_iconst (v := (0 : Int32)) C dX1_isKept_15 (by decide) ?_
  refine g_istore (lv' := [(9, .int (0 : Int32)), (8, .int (0 : Int32)), (7, .int (0 : Int32)), (6, .int (0 : Int32)), (5, .int (0 : Int32)), (4, .int (0 : Int32)), (0, .int x0), (1, .int x1), (2, .int x2), (3, .int x3)]) C dX1_isKept_16 (by decide) rfl ?_
  obtain ⟨X18, hW18, hK18⟩ := obd h
  have l18 : ∀ (fu18 : Nat) (x4_L18 : Int32) (x5_L18 : Int32) (x6_L18 : Int32) (x7_L18 : Int32) (x8_L18 : Int32) (x9_L18 : Int32), wh (σ := Int32 × Int32 × Int32 × Int32 × Int32 × Int32) (ρ := Int32 × Int32 × Int32 × Int32) (fun t => fX1_isKept_L18 x0 x1 x2 x3 t.1 t.2.1 t.2.2.1 t.2.2.2.1 t.2.2.2.2.1 t.2.2.2.2.2) fu18 (x4_L18, x5_L18, x6_L18, x7_L18, x8_L18, x9_L18) = some X18 → gG p l e (gR 2) s m args below meth c 10 D A 0 0 Q 18 [(0, .int x0), (1, .int x1), (2, .int x2), (3, .int x3), (4, .int x4_L18), (5, .int x5_L18), (6, .int x6_L18), (7, .int x7_L18), (8, .int x8_L18), (9, .int x9_L18)] [] ([]) := by
    intro fu18
    induction fu18 with
    | zero => intro x4_L18 x5_L18 x6_L18 x7_L18 x8_L18 x9_L18 hW; exact (wh_0 hW).elim
    | succ fu18 ih18 =>
      intro x4_L18 x5_L18 x6_L18 x7_L18 x8_L18 x9_L18 hW
      obtain ⟨z18, h, hw18⟩ := wh_s hW
      have j60 : ∀ (x4_J60 : Int32) (x5_J60 : Int32) (x6_J60 : Int32) (x7_J60 : Int32) (x8_J60 : Int32) (x9_J60 : Int32) (z18 : (Int32 × Int32 × Int32 × Int32 × Int32 × Int32) ⊕ (Int32 × Int32 × Int32 × Int32)), fX1_isKept_J60 x0 x1 x2 x3 x4_J60 x5_J60 x6_J60 x7_J60 x8_J60 x9_J60 = some z18 → wk (fun t => fX1_isKept_L18 x0 x1 x2 x3 t.1 t.2.1 t.2.2.1 t.2.2.2.1 t.2.2.2.2.1 t.2.2.2.2.2) fu18 z18 = some X18 → gG p l e (gR 2) s m args below meth c 10 D A 0 0 Q 60 [(0, .int x0), (1, .int x1), (2, .int x2), (3, .int x3), (4, .int x4_J60), (5, .int x5_J60), (6, .int x6_J60), (7, .int x7_J60), (8, .int x8_J60), (9, .int x9_J60)] [] ([]) := by
        intro x4_J60 x5_J60 x6_J60 x7_J60 x8_J60 x9_J60 z18 h hw18
        unfold fX1_isKept_J60 at h
        refine g_iinc (j := 4) (v := (x4_J60 + (1 : Int32))) (lv' := [(4, .int (x4_J60 + (1 : Int32))), (0, .int x0), (1, .int x1), (2, .int x2), (3, .int x3), (5, .int x5_J60), (6, .int x6_J60), (7, .int x7_J60), (8, .int x8_J60), (9, .int x9_J60)]) C dX1_isKept_60 rfl rfl (by decide) rfl ?_
        refine g_iload C dX1_isKept_63 8 rfl ?_
        refine g_iload C dX1_isKept_65 7 rfl ?_
        refine g_icmp_le (tgt := 74) C dX1_isKept_67 (by decide) (fun c67 => ?_) (fun c67 => ?_)
        · have h := ifp h c67
          refine g_iconst (v := (0 : Int32)) C dX1_isKept_74 (by decide) ?_
          refine g_istore (lv' := [(8, .int (0 : Int32)), (4, .int (x4_J60 + (1 : Int32))), (0, .int x0), (1, .int x1), (2, .int x2), (3, .int x3), (5, .int x5_J60), (6, .int x6_J60), (7, .int x7_J60), (9, .int x9_J60)]) C dX1_isKept_75 (by decide) rfl ?_
          refine g_iinc (j := 9) (v := (x9_J60 + (1 : Int32))) (lv' := [(9, .int (x9_J60 + (1 : Int32))), (8, .int (0 : Int32)), (4, .int (x4_J60 + (1 : Int32))), (0, .int x0), (1, .int x1), (2, .int x2), (3, .int x3), (5, .int x5_J60), (6, .int x6_J60), (7, .int x7_J60)]) C dX1_isKept_77 rfl rfl (by decide) rfl ?_
          refine g_goto (tgt := 18) C dX1_isKept_80 (by decide) ?_
          obtain rfl := sinj h
          refine g_lv [3, 4, 5, 6, 2, 7, 8, 9, 1, 0] rfl ?_
          exact ih18 (x4_J60 + (1 : Int32)) x5_J60 x6_J60 x7_J60 (0 : Int32) (x9_J60 + (1 : Int32)) hw18
        · have h := ifn h c67
          refine g_iload C dX1_isKept_70 8 rfl ?_
          refine g_istore (lv' := [(7, .int x8_J60), (4, .int (x4_J60 + (1 : Int32))), (0, .int x0), (1, .int x1), (2, .int x2), (3, .int x3), (5, .int x5_J60), (6, .int x6_J60), (8, .int x8_J60), (9, .int x9_J60)]) C dX1_isKept_72 (by decide) rfl ?_
          refine g_iconst (v := (0 : Int32)) C dX1_isKept_74 (by decide) ?_
          refine g_istore (lv' := [(8, .int (0 : Int32)), (7, .int x8_J60), (4, .int (x4_J60 + (1 : Int32))), (0, .int x0), (1, .int x1), (2, .int x2), (3, .int x3), (5, .int x5_J60), (6, .int x6_J60), (9, .int x9_J60)]) C dX1_isKept_75 (by decide) rfl ?_
          refine g_iinc (j := 9) (v := (x9_J60 + (1 : Int32))) (lv' := [(9, .int (x9_J60 + (1 : Int32))), (8, .int (0 : Int32)), (7, .int x8_J60), (4, .int (x4_J60 + (1 : Int32))), (0, .int x0), (1, .int x1), (2, .int x2), (3, .int x3), (5, .int x5_J60), (6, .int x6_J60)]) C dX1_isKept_77 rfl rfl (by decide) rfl ?_
          refine g_goto (tgt := 18) C dX1_isKept_80 (by decide) ?_
          obtain rfl := sinj h
          refine g_lv [4, 5, 6, 7, 3, 8, 9, 2, 1, 0] rfl ?_
          exact ih18 (x4_J60 + (1 : Int32)) x5_J60 x6_J60 x8_J60 (0 : Int32) (x9_J60 + (1 : Int32)) hw18
      replace h : fX1_isKept_L18 x0 x1 x2 x3 x4_L18 x5_L18 x6_L18 x7_L18 x8_L18 x9_L18 = some z18 := h
      unfold fX1_isKept_L18 at h
      refine g_iload C dX1_isKept_18 9 rfl ?_
      refine g_iconst (v := (4 : Int32)) C dX1_isKept_20 (by decide) ?_
      refine g_icmp_gt (tgt := 83) C dX1_isKept_21 (by decide) (fun c21 => ?_) (fun c21 => ?_)
      · have h := ifp h c21
        obtain rfl := sinj h
        obtain rfl := wk_r hw18
        have h := hK18
        refine g_lv [0, 1, 2, 3, 4, 5, 6, 7] rfl ?_
        exact j83 x0 x1 x2 x3 x4_L18 x5_L18 x6_L18 x7_L18 h
      · have h := ifn h c21
        refine g_iload_n C dX1_isKept_24 rfl 3 rfl ?_
        refine g_iload C dX1_isKept_25 9 rfl ?_
        refine g_ishr C dX1_isKept_27 ?_
        refine g_iconst (v := (1 : Int32)) C dX1_isKept_28 (by decide) ?_
        refine g_iand C dX1_isKept_29 ?_
        refine g_if_eq (tgt := 39) C dX1_isKept_30 (by decide) (fun c30 => ?_) (fun c30 => ?_)
        · have h := ifp h c30
          refine g_iload C dX1_isKept_39 8 rfl ?_
          refine g_if_le (tgt := 77) C dX1_isKept_41 (by decide) (fun c41 => ?_) (fun c41 => ?_)
          · have h := ifp h c41
            refine g_iinc (j := 9) (v := (x9_L18 + (1 : Int32))) (lv' := [(9, .int (x9_L18 + (1 : Int32))), (0, .int x0), (1, .int x1), (2, .int x2), (3, .int x3), (4, .int x4_L18), (5, .int x5_L18), (6, .int x6_L18), (7, .int x7_L18), (8, .int x8_L18)]) C dX1_isKept_77 rfl rfl (by decide) rfl ?_
            refine g_goto (tgt := 18) C dX1_isKept_80 (by decide) ?_
            obtain rfl := sinj h
            refine g_lv [1, 2, 3, 4, 5, 6, 7, 8, 9, 0] rfl ?_
            exact ih18 x4_L18 x5_L18 x6_L18 x7_L18 x8_L18 (x9_L18 + (1 : Int32)) hw18
          · have h := ifn h c41
            refine g_iload C dX1_isKept_44 4 rfl ?_
            refine g_if_ne (tgt := 56) C dX1_isKept_46 (by decide) (fun c46 => ?_) (fun c46 => ?_)
            · have h := ifn h c46
              refine g_iload C dX1_isKept_56 8 rfl ?_
              refine g_istore (lv' := [(6, .int x8_L18), (0, .int x0), (1, .int x1), (2, .int x2), (3, .int x3), (4, .int x4_L18), (5, .int x5_L18), (7, .int x7_L18), (8, .int x8_L18), (9, .int x9_L18)]) C dX1_isKept_58 (by decide) rfl ?_
              refine g_lv [1, 2, 3, 4, 5, 6, 0, 7, 8, 9] rfl ?_
              exact j60 x4_L18 x5_L18 x8_L18 x7_L18 x8_L18 x9_L18 _ h hw18
            · have h := ifp h c46
              refine g_iload C dX1_isKept_49 8 rfl ?_
              refine g_istore (lv' := [(5, .int x8_L18), (0, .int x0), (1, .int x1), (2, .int x2), (3, .int x3), (4, .int x4_L18), (6, .int x6_L18), (7, .int x7_L18), (8, .int x8_L18), (9, .int x9_L18)]) C dX1_isKept_51 (by decide) rfl ?_
              refine g_goto (tgt := 60) C dX1_isKept_53 (by decide) ?_
              refine g_lv [1, 2, 3, 4, 5, 0, 6, 7, 8, 9] rfl ?_
              exact j60 x4_L18 x8_L18 x6_L18 x7_L18 x8_L18 x9_L18 _ h hw18
        · have h := ifn h c30
          refine g_iinc (j := 8) (v := (x8_L18 + (1 : Int32))) (lv' := [(8, .int (x8_L18 + (1 : Int32))), (0, .int x0), (1, .int x1), (2, .int x2), (3, .int x3), (4, .int x4_L18), (5, .int x5_L18), (6, .int x6_L18), (7, .int x7_L18), (9, .int x9_L18)]) C dX1_isKept_33 rfl rfl (by decide) rfl ?_
          refine g_goto (tgt := 77) C dX1_isKept_36 (by decide) ?_
          refine g_iinc (j := 9) (v := (x9_L18 + (1 : Int32))) (lv' := [(9, .int (x9_L18 + (1 : Int32))), (8, .int (x8_L18 + (1 : Int32))), (0, .int x0), (1, .int x1), (2, .int x2), (3, .int x3), (4, .int x4_L18), (5, .int x5_L18), (6, .int x6_L18), (7, .int x7_L18)]) C dX1_isKept_77 rfl rfl (by decide) rfl ?_
          refine g_goto (tgt := 18) C dX1_isKept_80 (by decide) ?_
          obtain rfl := sinj h
          refine g_lv [2, 3, 4, 5, 6, 7, 8, 9, 1, 0] rfl ?_
          exact ih18 x4_L18 x5_L18 x6_L18 x7_L18 (x8_L18 + (1 : Int32)) (x9_L18 + (1 : Int32)) hw18
  refine g_lv [6, 7, 8, 9, 5, 4, 3, 2, 1, 0] rfl ?_
  exact l18 100000 (0 : Int32) (0 : Int32) (0 : Int32) (0 : Int32) (0 : Int32) (0 : Int32) hW18
def fX1_keeping_L6 (x0_L6 : Int32) (x1_L6 : Int32) (x2_L6 : Int32) (x3_L6 : Int32) (x4_L6 : Int32) (x5_L6 : Int32) : Option ((Int32 × Int32) ⊕ (Int32)) :=
  (if ((1 : Int32) <<< (x0_L6 &&& 31)) ≤ x5_L6 then some (.inr x4_L6)
 else ((fX1_isKept x1_L6 x2_L6 x3_L6 x5_L6).bind (fun r19 => (if r19 = 0 then some (.inl (x4_L6, (x5_L6 + (1 : Int32))))
 else some (.inl ((x4_L6 ||| ((1 : Int32) <<< (x5_L6 &&& 31))), (x5_L6 + (1 : Int32))))))))
def fX1_keeping_J40 (x4_J40 : Int32) : Option (Int32) :=
  some x4_J40
def fX1_keeping  (x0 : Int32) (x1 : Int32) (x2 : Int32) (x3 : Int32) : Option (Int32) :=
  ((wh (σ := Int32 × Int32) (ρ := Int32) (fun t => fX1_keeping_L6 x0 x1 x2 x3 t.1 t.2) 100000 ((0 : Int32), (0 : Int32))).bind (fun e4_L6 => fX1_keeping_J40 e4_L6))
set_option maxHeartbeats 4000000 in
set_option maxRecDepth 100000 in
theorem kX1_keeping (l : Launch) (D : va_G) (cC cI cJ cZ : ClassId)  (x0 : Int32) (x1 : Int32) (x2 : Int32) (x3 : Int32) (r : Int32) (h : fX1_keeping x0 x1 x2 x3 = some r) : gMi l yX1_keeping cX1_keeping 6 (some .int) (gR 3) D (tysG cC cI cJ cZ) [.int x0, .int x1, .int x2, .int x3] ([]) r ([]) := by
  refine gMi_of (by decide) (Nat.le_of_ble_eq_true rfl) rfl ?_
  intro p e s m args below meth c A Q C hQ
  have j40 : ∀ (x4_J40 : Int32), fX1_keeping_J40 x4_J40 = some r → gG p l e (gR 3) s m args below meth c 6 D A 0 0 Q 40 [(4, .int x4_J40)] [] ([]) := by
    intro x4_J40 h
    unfold fX1_keeping_J40 at h
    refine g_iload C dX1_keeping_40 0 rfl ?_
    cases sinj h
    exact g_iret C dX1_keeping_42 rfl rfl hQ
  unfold fX1_keeping at h
  refine g_iconst (v := (0 : Int32)) C dX1_keeping_0 (by decide) ?_
  refine g_istore (lv' := [(4, .int (0 : Int32)), (0, .int x0), (1, .int x1), (2, .int x2), (3, .int x3)]) C dX1_keeping_1 (by decide) rfl ?_
  refine g_iconst (v := (0 : Int32)) C dX1_keeping_3 (by decide) ?_
  refine g_istore (lv' := [(5, .int (0 : Int32)), (4, .int (0 : Int32)), (0, .int x0), (1, .int x1), (2, .int x2), (3, .int x3)]) C dX1_keeping_4 (by decide) rfl ?_
  obtain ⟨X6, hW6, hK6⟩ := obd h
  have l6 : ∀ (fu6 : Nat) (x4_L6 : Int32) (x5_L6 : Int32), wh (σ := Int32 × Int32) (ρ := Int32) (fun t => fX1_keeping_L6 x0 x1 x2 x3 t.1 t.2) fu6 (x4_L6, x5_L6) = some X6 → gG p l e (gR 3) s m args below meth c 6 D A 0 0 Q 6 [(0, .int x0), (1, .int x1), (2, .int x2), (3, .int x3), (4, .int x4_L6), (5, .int x5_L6)] [] ([]) := by
    intro fu6
    induction fu6 with
    | zero => intro x4_L6 x5_L6 hW; exact (wh_0 hW).elim
    | succ fu6 ih6 =>
      intro x4_L6 x5_L6 hW
      obtain ⟨z6, h, hw6⟩ := wh_s hW
      replace h : fX1_keeping_L6 x0 x1 x2 x3 x4_L6 x5_L6 = some z6 := h
      unfold fX1_keeping_L6 at h
      refine g_iload C dX1_keeping_6 5 rfl ?_
      refine g_iconst (v := (1 : Int32)) C dX1_keeping_8 (by decide) ?_
      refine g_iload_n C dX1_keeping_9 rfl 0 rfl ?_
      refine g_ishl C dX1_keeping_10 ?_
      refine g_icmp_ge (tgt := 40) C dX1_keeping_11 (by decide) (fun c11 => ?_) (fun c11 => ?_)
      · have h := ifp h c11
        obtain rfl := sinj h
        obtain rfl := wk_r hw6
        have h := hK6
        refine g_lv [4] rfl ?_
        exact j40 x4_L6 h
      · have h := ifn h c11
        refine g_iload_n C dX1_keeping_14 rfl 1 rfl ?_
        refine g_iload_n C dX1_keeping_15 rfl 2 rfl ?_
        refine g_iload_n C dX1_keeping_16 rfl 3 rfl ?_
        refine g_iload C dX1_keeping_17 5 rfl ?_
        obtain ⟨r19, h19, h⟩ := obd h
        refine g_callSi (st := []) (ws2 := []) C ys_X1_isKept ml_X1_31 dX1_keeping_19 (kX1_isKept l D cC cI cJ cZ x1 x2 x3 x5_L6 r19 h19) gCut_nil ⟨by decide, by decide⟩ ⟨rfl, rfl⟩ ⟨Nat.zero_le _, Nat.zero_le _⟩ rfl rfl (Nat.le_of_ble_eq_true rfl) ?_
        refine g_if_eq (tgt := 34) C dX1_keeping_22 (by decide) (fun c22 => ?_) (fun c22 => ?_)
        · have h := ifp h c22
          refine g_iinc (j := 5) (v := (x5_L6 + (1 : Int32))) (lv' := [(5, .int (x5_L6 + (1 : Int32))), (0, .int x0), (1, .int x1), (2, .int x2), (3, .int x3), (4, .int x4_L6)]) C dX1_keeping_34 rfl rfl (by decide) rfl ?_
          refine g_goto (tgt := 6) C dX1_keeping_37 (by decide) ?_
          obtain rfl := sinj h
          refine g_lv [1, 2, 3, 4, 5, 0] rfl ?_
          exact ih6 x4_L6 (x5_L6 + (1 : Int32)) hw6
        · have h := ifn h c22
          refine g_iload C dX1_keeping_25 4 rfl ?_
          refine g_iconst (v := (1 : Int32)) C dX1_keeping_27 (by decide) ?_
          refine g_iload C dX1_keeping_28 5 rfl ?_
          refine g_ishl C dX1_keeping_30 ?_
          refine g_ior C dX1_keeping_31 ?_
          refine g_istore (lv' := [(4, .int (x4_L6 ||| ((1 : Int32) <<< (x5_L6 &&& 31)))), (0, .int x0), (1, .int x1), (2, .int x2), (3, .int x3), (5, .int x5_L6)]) C dX1_keeping_32 (by decide) rfl ?_
          refine g_iinc (j := 5) (v := (x5_L6 + (1 : Int32))) (lv' := [(5, .int (x5_L6 + (1 : Int32))), (4, .int (x4_L6 ||| ((1 : Int32) <<< (x5_L6 &&& 31)))), (0, .int x0), (1, .int x1), (2, .int x2), (3, .int x3)]) C dX1_keeping_34 rfl rfl (by decide) rfl ?_
          refine g_goto (tgt := 6) C dX1_keeping_37 (by decide) ?_
          obtain rfl := sinj h
          refine g_lv [2, 3, 4, 5, 1, 0] rfl ?_
          exact ih6 (x4_L6 ||| ((1 : Int32) <<< (x5_L6 &&& 31))) (x5_L6 + (1 : Int32)) hw6
  refine g_lv [2, 3, 4, 5, 1, 0] rfl ?_
  exact l6 100000 (0 : Int32) (0 : Int32) hW6
def fJ0_isLatin1_aae02   : Option (Int32) :=
  (if (1 : Int32) = 0 then some (0 : Int32)
 else (if (0 : Int32) = 0 then some (1 : Int32)
 else some (0 : Int32)))
set_option maxHeartbeats 4000000 in
set_option maxRecDepth 100000 in
theorem kJ0_isLatin1_aae02 (l : Launch) (D : va_G) (cC cI cJ cZ : ClassId)   (r : Int32) (h : fJ0_isLatin1_aae02 = some r) : gMi l yJ0_isLatin1_aae02 cJ0_isLatin1_aae02 1 (some .boolean) (gR 1) D (tysG cC cI cJ cZ) [.ref (D.2 77 0)] ([]) r ([]) := by
  refine gMi_of (by decide) (Nat.le_of_ble_eq_true rfl) rfl ?_
  intro p e s m args below meth c A Q C hQ
  unfold fJ0_isLatin1_aae02 at h
  refine g_gets C dJ0_isLatin1_aae02_0 fk_J0_38 ?_
  refine g_if_eq (tgt := 17) C dJ0_isLatin1_aae02_3 (by decide) (fun c3 => ?_) (fun c3 => ?_)
  · have h := ifp h c3
    refine g_iconst (v := (0 : Int32)) C dJ0_isLatin1_aae02_17 (by decide) ?_
    cases sinj h
    exact g_zret C dJ0_isLatin1_aae02_18 rfl rfl rfl hQ
  · have h := ifn h c3
    refine g_aload_n C dJ0_isLatin1_aae02_6 rfl 0 rfl ?_
    refine g_kcod C dJ0_isLatin1_aae02_7 fk_J0_15 ?_
    refine g_if_ne (tgt := 17) C dJ0_isLatin1_aae02_10 (by decide) (fun c10 => ?_) (fun c10 => ?_)
    · have h := ifn h c10
      refine g_iconst (v := (0 : Int32)) C dJ0_isLatin1_aae02_17 (by decide) ?_
      cases sinj h
      exact g_zret C dJ0_isLatin1_aae02_18 rfl rfl rfl hQ
    · have h := ifp h c10
      refine g_iconst (v := (1 : Int32)) C dJ0_isLatin1_aae02_13 (by decide) ?_
      refine g_goto (tgt := 18) C dJ0_isLatin1_aae02_14 (by decide) ?_
      cases sinj h
      exact g_zret C dJ0_isLatin1_aae02_18 rfl rfl rfl hQ
def fJ0_coder_7d493   : Option (Int32) :=
  (if (1 : Int32) = 0 then some (1 : Int32)
 else some (0 : Int32))
set_option maxHeartbeats 4000000 in
set_option maxRecDepth 100000 in
theorem kJ0_coder_7d493 (l : Launch) (D : va_G) (cC cI cJ cZ : ClassId)   (r : Int32) (h : fJ0_coder_7d493 = some r) : gMi l yJ0_coder_7d493 cJ0_coder_7d493 1 (some .byte) (gR 1) D (tysG cC cI cJ cZ) [.ref (D.2 77 0)] ([]) r ([]) := by
  refine gMi_of (by decide) (Nat.le_of_ble_eq_true rfl) rfl ?_
  intro p e s m args below meth c A Q C hQ
  unfold fJ0_coder_7d493 at h
  refine g_gets C dJ0_coder_7d493_0 fk_J0_38 ?_
  refine g_if_eq (tgt := 13) C dJ0_coder_7d493_3 (by decide) (fun c3 => ?_) (fun c3 => ?_)
  · have h := ifp h c3
    refine g_iconst (v := (1 : Int32)) C dJ0_coder_7d493_13 (by decide) ?_
    cases sinj h
    exact g_zret C dJ0_coder_7d493_14 rfl rfl rfl hQ
  · have h := ifn h c3
    refine g_aload_n C dJ0_coder_7d493_6 rfl 0 rfl ?_
    refine g_kcod C dJ0_coder_7d493_7 fk_J0_15 ?_
    refine g_goto (tgt := 14) C dJ0_coder_7d493_10 (by decide) ?_
    cases sinj h
    exact g_zret C dJ0_coder_7d493_14 rfl rfl rfl hQ
def fJ0_length_8abf5   : Option (Int32) :=
  ((fJ0_coder_7d493).bind (fun r6 => some ((Int32.ofNat 5) >>> (r6 &&& 31))))
set_option maxHeartbeats 4000000 in
set_option maxRecDepth 100000 in
theorem kJ0_length_8abf5 (l : Launch) (D : va_G) (cC cI cJ cZ : ClassId)   (r : Int32) (h : fJ0_length_8abf5 = some r) : gMi l yJ0_length_8abf5 cJ0_length_8abf5 1 (some .int) (gR 2) D (tysG cC cI cJ cZ) [.ref (D.2 77 0)] ([]) r ([]) := by
  refine gMi_of (by decide) (Nat.le_of_ble_eq_true rfl) rfl ?_
  intro p e s m args below meth c A Q C hQ
  unfold fJ0_length_8abf5 at h
  refine g_aload_n C dJ0_length_8abf5_0 rfl 0 rfl ?_
  refine g_kval C dJ0_length_8abf5_1 fk_J0_9 ?_
  refine g_klen C dJ0_length_8abf5_4 ?_
  refine g_aload_n C dJ0_length_8abf5_5 rfl 0 rfl ?_
  obtain ⟨r6, h6, h⟩ := obd h
  refine g_callKi (st := [.int (Int32.ofNat 5)]) (ws2 := []) C yv_J0_coder_7d493 ml_J0_335 dJ0_length_8abf5_6 (kJ0_coder_7d493 l D cC cI cJ cZ r6 h6) gCut_nil ⟨by decide, by decide⟩ ⟨rfl, rfl⟩ ⟨Nat.zero_le _, Nat.zero_le _⟩ rfl rfl (Nat.le_of_ble_eq_true rfl) rfl ?_
  refine g_ishr C dJ0_length_8abf5_9 ?_
  cases sinj h
  exact g_iret C dJ0_length_8abf5_10 rfl rfl hQ
def fJ1_canEncode_9a6ad  (x0 : Int32) : Option (Int32) :=
  (if x0 < 0 then some (0 : Int32)
 else (if (255 : Int32) < x0 then some (0 : Int32)
 else some (1 : Int32)))
set_option maxHeartbeats 4000000 in
set_option maxRecDepth 100000 in
theorem kJ1_canEncode_9a6ad (l : Launch) (D : va_G) (cC cI cJ cZ : ClassId)  (x0 : Int32) (r : Int32) (h : fJ1_canEncode_9a6ad x0 = some r) : gMi l yJ1_canEncode_9a6ad cJ1_canEncode_9a6ad 1 (some .boolean) (gR 1) D (tysG cC cI cJ cZ) [.int x0] ([]) r ([]) := by
  refine gMi_of (by decide) (Nat.le_of_ble_eq_true rfl) rfl ?_
  intro p e s m args below meth c A Q C hQ
  unfold fJ1_canEncode_9a6ad at h
  refine g_iload_n C dJ1_canEncode_9a6ad_0 rfl 0 rfl ?_
  refine g_if_lt (tgt := 15) C dJ1_canEncode_9a6ad_1 (by decide) (fun c1 => ?_) (fun c1 => ?_)
  · have h := ifp h c1
    refine g_iconst (v := (0 : Int32)) C dJ1_canEncode_9a6ad_15 (by decide) ?_
    cases sinj h
    exact g_zret C dJ1_canEncode_9a6ad_16 rfl rfl rfl hQ
  · have h := ifn h c1
    refine g_iload_n C dJ1_canEncode_9a6ad_4 rfl 0 rfl ?_
    refine g_sipush (v := (255 : Int32)) C dJ1_canEncode_9a6ad_5 (by decide) ?_
    refine g_icmp_gt (tgt := 15) C dJ1_canEncode_9a6ad_8 (by decide) (fun c8 => ?_) (fun c8 => ?_)
    · have h := ifp h c8
      refine g_iconst (v := (0 : Int32)) C dJ1_canEncode_9a6ad_15 (by decide) ?_
      cases sinj h
      exact g_zret C dJ1_canEncode_9a6ad_16 rfl rfl rfl hQ
    · have h := ifn h c8
      refine g_iconst (v := (1 : Int32)) C dJ1_canEncode_9a6ad_11 (by decide) ?_
      refine g_goto (tgt := 16) C dJ1_canEncode_9a6ad_12 (by decide) ?_
      cases sinj h
      exact g_zret C dJ1_canEncode_9a6ad_16 rfl rfl rfl hQ
def fJ1_indexOfChar_4cfef_L7 (x3_L7 : Int32) (x4_L7 : Int32) (x5_L7 : Int32) : Option ((Int32) ⊕ ((Int32) ⊕ (Unit))) :=
  (if x3_L7 ≤ x5_L7 then some (.inr (.inr ()))
 else (if okI x5_L7 5 = true then (if (kB x5_L7.toNatClampNeg) = x4_L7 then some (.inr (.inl x5_L7))
 else some (.inl (x5_L7 + (1 : Int32)))) else none))
def fJ1_indexOfChar_4cfef_J31 : Option (Int32) :=
  some (-1 : Int32)
def fJ1_indexOfChar_4cfef  (x1 : Int32) (x2 : Int32) (x3 : Int32) : Option (Int32) :=
  ((wh (σ := Int32) (ρ := (Int32) ⊕ (Unit)) (fun t => fJ1_indexOfChar_4cfef_L7 x3 x1.toInt8.toInt32 t) 100000 x2).bind (fun X => Sum.elim (fun r => some r) (fun _ => fJ1_indexOfChar_4cfef_J31) X))
set_option maxHeartbeats 4000000 in
set_option maxRecDepth 100000 in
theorem kJ1_indexOfChar_4cfef (l : Launch) (D : va_G) (cC cI cJ cZ : ClassId)  (x1 : Int32) (x2 : Int32) (x3 : Int32) (r : Int32) (h : fJ1_indexOfChar_4cfef x1 x2 x3 = some r) : gMi l yJ1_indexOfChar_4cfef cJ1_indexOfChar_4cfef 6 (some .int) (gR 1) D (tysG cC cI cJ cZ) [.ref (D.2 77 1), .int x1, .int x2, .int x3] ([]) r ([]) := by
  refine gMi_of (by decide) (Nat.le_of_ble_eq_true rfl) rfl ?_
  intro p e s m args below meth c A Q C hQ
  have j31 : fJ1_indexOfChar_4cfef_J31 = some r → gG p l e (gR 1) s m args below meth c 6 D A 0 0 Q 31 [] [] ([]) := by
    intro h
    unfold fJ1_indexOfChar_4cfef_J31 at h
    refine g_iconst (v := (-1 : Int32)) C dJ1_indexOfChar_4cfef_31 (by decide) ?_
    cases sinj h
    exact g_iret C dJ1_indexOfChar_4cfef_32 rfl rfl hQ
  unfold fJ1_indexOfChar_4cfef at h
  refine g_iload_n C dJ1_indexOfChar_4cfef_0 rfl 1 rfl ?_
  refine g_i2b C dJ1_indexOfChar_4cfef_1 ?_
  refine g_istore (lv' := [(4, .int x1.toInt8.toInt32), (0, .ref (D.2 77 1)), (1, .int x1), (2, .int x2), (3, .int x3)]) C dJ1_indexOfChar_4cfef_2 (by decide) rfl ?_
  refine g_iload_n C dJ1_indexOfChar_4cfef_4 rfl 3 rfl ?_
  refine g_istore (lv' := [(5, .int x2), (4, .int x1.toInt8.toInt32), (0, .ref (D.2 77 1)), (1, .int x1), (2, .int x2), (3, .int x3)]) C dJ1_indexOfChar_4cfef_5 (by decide) rfl ?_
  obtain ⟨X7, hW7, hK7⟩ := obd h
  have l7 : ∀ (fu7 : Nat) (x5_L7 : Int32), wh (σ := Int32) (ρ := (Int32) ⊕ (Unit)) (fun t => fJ1_indexOfChar_4cfef_L7 x3 x1.toInt8.toInt32 t) fu7 x5_L7 = some X7 → gG p l e (gR 1) s m args below meth c 6 D A 0 0 Q 7 [(0, .ref (D.2 77 1)), (3, .int x3), (4, .int x1.toInt8.toInt32), (5, .int x5_L7)] [] ([]) := by
    intro fu7
    induction fu7 with
    | zero => intro x5_L7 hW; exact (wh_0 hW).elim
    | succ fu7 ih7 =>
      intro x5_L7 hW
      obtain ⟨z7, h, hw7⟩ := wh_s hW
      replace h : fJ1_indexOfChar_4cfef_L7 x3 x1.toInt8.toInt32 x5_L7 = some z7 := h
      unfold fJ1_indexOfChar_4cfef_L7 at h
      refine g_iload C dJ1_indexOfChar_4cfef_7 3 rfl ?_
      refine g_iload_n C dJ1_indexOfChar_4cfef_9 rfl 1 rfl ?_
      refine g_icmp_ge (tgt := 31) C dJ1_indexOfChar_4cfef_10 (by decide) (fun c10 => ?_) (fun c10 => ?_)
      · have h := ifp h c10
        obtain rfl := sinj h
        obtain rfl := wk_r hw7
        have h := ser hK7
        refine g_lv [] rfl ?_
        exact j31  h
      · have h := ifn h c10
        refine g_aload_n C dJ1_indexOfChar_4cfef_13 rfl 0 rfl ?_
        refine g_iload C dJ1_indexOfChar_4cfef_14 3 rfl ?_
        obtain ⟨hg16, h⟩ := ifg h
        refine g_kbald C dJ1_indexOfChar_4cfef_16 hg16 ?_
        refine g_iload C dJ1_indexOfChar_4cfef_17 2 rfl ?_
        refine g_icmp_ne (tgt := 25) C dJ1_indexOfChar_4cfef_19 (by decide) (fun c19 => ?_) (fun c19 => ?_)
        · have h := ifn h c19
          refine g_iinc (j := 3) (v := (x5_L7 + (1 : Int32))) (lv' := [(5, .int (x5_L7 + (1 : Int32))), (0, .ref (D.2 77 1)), (3, .int x3), (4, .int x1.toInt8.toInt32)]) C dJ1_indexOfChar_4cfef_25 rfl rfl (by decide) rfl ?_
          refine g_goto (tgt := 7) C dJ1_indexOfChar_4cfef_28 (by decide) ?_
          obtain rfl := sinj h
          refine g_lv [1, 2, 3, 0] rfl ?_
          exact ih7 (x5_L7 + (1 : Int32)) hw7
        · have h := ifp h c19
          refine g_iload C dJ1_indexOfChar_4cfef_22 3 rfl ?_
          obtain rfl := sinj h
          obtain rfl := wk_r hw7
          have h := sel hK7
          cases sinj h
          exact g_iret C dJ1_indexOfChar_4cfef_24 rfl rfl hQ
  refine g_lv [2, 5, 1, 0] rfl ?_
  exact l7 100000 x2 hW7
def fJ1_indexOf_4cfef  (x1 : Int32) (x2 : Int32) (x3 : Int32) : Option (Int32) :=
  ((fJ1_canEncode_9a6ad x1).bind (fun r1 => (if r1 = 0 then some (-1 : Int32)
 else (if (if x2 < (0 : Int32) then (0 : Int32) else x2) < (if (Int32.ofNat 5) < x3 then (Int32.ofNat 5) else x3) then ((fJ1_indexOfChar_4cfef x1 (if x2 < (0 : Int32) then (0 : Int32) else x2) (if (Int32.ofNat 5) < x3 then (Int32.ofNat 5) else x3)).bind (fun r33 => some r33))
 else some (-1 : Int32)))))
set_option maxHeartbeats 4000000 in
set_option maxRecDepth 100000 in
theorem kJ1_indexOf_4cfef (l : Launch) (D : va_G) (cC cI cJ cZ : ClassId)  (x1 : Int32) (x2 : Int32) (x3 : Int32) (r : Int32) (h : fJ1_indexOf_4cfef x1 x2 x3 = some r) : gMi l yJ1_indexOf_4cfef cJ1_indexOf_4cfef 4 (some .int) (gR 2) D (tysG cC cI cJ cZ) [.ref (D.2 77 1), .int x1, .int x2, .int x3] ([]) r ([]) := by
  refine gMi_of (by decide) (Nat.le_of_ble_eq_true rfl) rfl ?_
  intro p e s m args below meth c A Q C hQ
  unfold fJ1_indexOf_4cfef at h
  refine g_iload_n C dJ1_indexOf_4cfef_0 rfl 1 rfl ?_
  obtain ⟨r1, h1, h⟩ := obd h
  refine g_callSi (st := []) (ws2 := []) C ys_J1_canEncode_9a6ad ml_J1_88 dJ1_indexOf_4cfef_1 (kJ1_canEncode_9a6ad l D cC cI cJ cZ x1 r1 h1) gCut_nil ⟨by decide, by decide⟩ ⟨rfl, rfl⟩ ⟨Nat.zero_le _, Nat.zero_le _⟩ rfl rfl (Nat.le_of_ble_eq_true rfl) ?_
  refine g_if_ne (tgt := 9) C dJ1_indexOf_4cfef_4 (by decide) (fun c4 => ?_) (fun c4 => ?_)
  · have h := ifn h c4
    refine g_iload_n C dJ1_indexOf_4cfef_9 rfl 2 rfl ?_
    refine g_iconst (v := (0 : Int32)) C dJ1_indexOf_4cfef_10 (by decide) ?_
    refine g_mmax C dJ1_indexOf_4cfef_11 ml_J1_92 mm_st mm_in mm_co (Nat.le_of_ble_eq_true rfl) (Nat.le_of_ble_eq_true rfl) (Nat.zero_le _) (Nat.zero_le _) ?_
    refine g_istore_n (lv' := [(2, .int (if x2 < (0 : Int32) then (0 : Int32) else x2)), (0, .ref (D.2 77 1)), (1, .int x1), (3, .int x3)]) C dJ1_indexOf_4cfef_14 rfl (by decide) rfl ?_
    refine g_iload_n C dJ1_indexOf_4cfef_15 rfl 3 rfl ?_
    refine g_aload_n C dJ1_indexOf_4cfef_16 rfl 1 rfl ?_
    refine g_klen C dJ1_indexOf_4cfef_17 ?_
    refine g_mmin C dJ1_indexOf_4cfef_18 ml_J1_38 mi_st mm_in mi_co (Nat.le_of_ble_eq_true rfl) (Nat.le_of_ble_eq_true rfl) (Nat.zero_le _) (Nat.zero_le _) ?_
    refine g_istore_n (lv' := [(3, .int (if (Int32.ofNat 5) < x3 then (Int32.ofNat 5) else x3)), (2, .int (if x2 < (0 : Int32) then (0 : Int32) else x2)), (0, .ref (D.2 77 1)), (1, .int x1)]) C dJ1_indexOf_4cfef_21 rfl (by decide) rfl ?_
    refine g_iload_n C dJ1_indexOf_4cfef_22 rfl 1 rfl ?_
    refine g_iload_n C dJ1_indexOf_4cfef_23 rfl 0 rfl ?_
    refine g_icmp_lt (tgt := 29) C dJ1_indexOf_4cfef_24 (by decide) (fun c24 => ?_) (fun c24 => ?_)
    · have h := ifp h c24
      refine g_aload_n C dJ1_indexOf_4cfef_29 rfl 2 rfl ?_
      refine g_iload_n C dJ1_indexOf_4cfef_30 rfl 3 rfl ?_
      refine g_iload_n C dJ1_indexOf_4cfef_31 rfl 1 rfl ?_
      refine g_iload_n C dJ1_indexOf_4cfef_32 rfl 0 rfl ?_
      obtain ⟨r33, h33, h⟩ := obd h
      refine g_callSi (st := []) (ws2 := []) C ys_J1_indexOfChar_4cfef ml_J1_95 dJ1_indexOf_4cfef_33 (kJ1_indexOfChar_4cfef l D cC cI cJ cZ x1 (if x2 < (0 : Int32) then (0 : Int32) else x2) (if (Int32.ofNat 5) < x3 then (Int32.ofNat 5) else x3) r33 h33) gCut_nil ⟨by decide, by decide⟩ ⟨rfl, rfl⟩ ⟨Nat.zero_le _, Nat.zero_le _⟩ rfl rfl (Nat.le_of_ble_eq_true rfl) ?_
      cases sinj h
      exact g_iret C dJ1_indexOf_4cfef_36 rfl rfl hQ
    · have h := ifn h c24
      refine g_iconst (v := (-1 : Int32)) C dJ1_indexOf_4cfef_27 (by decide) ?_
      cases sinj h
      exact g_iret C dJ1_indexOf_4cfef_28 rfl rfl hQ
  · have h := ifp h c4
    refine g_iconst (v := (-1 : Int32)) C dJ1_indexOf_4cfef_7 (by decide) ?_
    cases sinj h
    exact g_iret C dJ1_indexOf_4cfef_8 rfl rfl hQ
def fJ0_indexOf_7cf53  (x1 : Int32) (x2 : Int32) : Option (Int32) :=
  ((fJ0_isLatin1_aae02).bind (fun r1 => (if r1 = 0 then ((fJ0_length_8abf5).bind (fun r30 => none))
 else ((fJ0_length_8abf5).bind (fun r14 => ((fJ1_indexOf_4cfef x1 x2 r14).bind (fun r17 => some r17)))))))
set_option maxHeartbeats 4000000 in
set_option maxRecDepth 100000 in
theorem kJ0_indexOf_7cf53 (l : Launch) (D : va_G) (cC cI cJ cZ : ClassId)  (x1 : Int32) (x2 : Int32) (r : Int32) (h : fJ0_indexOf_7cf53 x1 x2 = some r) : gMi l yJ0_indexOf_7cf53 cJ0_indexOf_7cf53 3 (some .int) (gR 3) D (tysG cC cI cJ cZ) [.ref (D.2 77 0), .int x1, .int x2] ([]) r ([]) := by
  refine gMi_of (by decide) (Nat.le_of_ble_eq_true rfl) rfl ?_
  intro p e s m args below meth c A Q C hQ
  unfold fJ0_indexOf_7cf53 at h
  refine g_aload_n C dJ0_indexOf_7cf53_0 rfl 0 rfl ?_
  obtain ⟨r1, h1, h⟩ := obd h
  refine g_callKi (st := []) (ws2 := []) C yv_J0_isLatin1_aae02 ml_J0_492 dJ0_indexOf_7cf53_1 (kJ0_isLatin1_aae02 l D cC cI cJ cZ r1 h1) gCut_nil ⟨by decide, by decide⟩ ⟨rfl, rfl⟩ ⟨Nat.zero_le _, Nat.zero_le _⟩ rfl rfl (Nat.le_of_ble_eq_true rfl) rfl ?_
  refine g_if_eq (tgt := 23) C dJ0_indexOf_7cf53_4 (by decide) (fun c4 => ?_) (fun c4 => ?_)
  · have h := ifp h c4
    refine g_aload_n C dJ0_indexOf_7cf53_23 rfl 0 rfl ?_
    refine g_kval C dJ0_indexOf_7cf53_24 fk_J0_9 ?_
    refine g_iload_n C dJ0_indexOf_7cf53_27 rfl 1 rfl ?_
    refine g_iload_n C dJ0_indexOf_7cf53_28 rfl 2 rfl ?_
    refine g_aload_n C dJ0_indexOf_7cf53_29 rfl 0 rfl ?_
    obtain ⟨r30, h30, h⟩ := obd h
    refine g_callKi (st := [.int x2, .int x1, .ref (D.2 77 1)]) (ws2 := []) C yv_J0_length_8abf5 ml_J0_505 dJ0_indexOf_7cf53_30 (kJ0_length_8abf5 l D cC cI cJ cZ r30 h30) gCut_nil ⟨by decide, by decide⟩ ⟨rfl, rfl⟩ ⟨Nat.zero_le _, Nat.zero_le _⟩ rfl rfl (Nat.le_of_ble_eq_true rfl) rfl ?_
    cases h
  · have h := ifn h c4
    refine g_aload_n C dJ0_indexOf_7cf53_7 rfl 0 rfl ?_
    refine g_kval C dJ0_indexOf_7cf53_8 fk_J0_9 ?_
    refine g_iload_n C dJ0_indexOf_7cf53_11 rfl 1 rfl ?_
    refine g_iload_n C dJ0_indexOf_7cf53_12 rfl 2 rfl ?_
    refine g_aload_n C dJ0_indexOf_7cf53_13 rfl 0 rfl ?_
    obtain ⟨r14, h14, h⟩ := obd h
    refine g_callKi (st := [.int x2, .int x1, .ref (D.2 77 1)]) (ws2 := []) C yv_J0_length_8abf5 ml_J0_505 dJ0_indexOf_7cf53_14 (kJ0_length_8abf5 l D cC cI cJ cZ r14 h14) gCut_nil ⟨by decide, by decide⟩ ⟨rfl, rfl⟩ ⟨Nat.zero_le _, Nat.zero_le _⟩ rfl rfl (Nat.le_of_ble_eq_true rfl) rfl ?_
    obtain ⟨r17, h17, h⟩ := obd h
    refine g_callSi (st := []) (ws2 := []) C ys_J1_indexOf_4cfef ml_J0_637 dJ0_indexOf_7cf53_17 (kJ1_indexOf_4cfef l D cC cI cJ cZ x1 x2 r14 r17 h17) gCut_nil ⟨by decide, by decide⟩ ⟨rfl, rfl⟩ ⟨Nat.zero_le _, Nat.zero_le _⟩ rfl rfl (Nat.le_of_ble_eq_true rfl) ?_
    refine g_goto (tgt := 36) C dJ0_indexOf_7cf53_20 (by decide) ?_
    cases sinj h
    exact g_iret C dJ0_indexOf_7cf53_36 rfl rfl hQ
def fJ0_indexOf_0f7a4  (x1 : Int32) : Option (Int32) :=
  ((fJ0_indexOf_7cf53 x1 (0 : Int32)).bind (fun r3 => some r3))
set_option maxHeartbeats 4000000 in
set_option maxRecDepth 100000 in
theorem kJ0_indexOf_0f7a4 (l : Launch) (D : va_G) (cC cI cJ cZ : ClassId)  (x1 : Int32) (r : Int32) (h : fJ0_indexOf_0f7a4 x1 = some r) : gMi l yJ0_indexOf_0f7a4 cJ0_indexOf_0f7a4 2 (some .int) (gR 4) D (tysG cC cI cJ cZ) [.ref (D.2 77 0), .int x1] ([]) r ([]) := by
  refine gMi_of (by decide) (Nat.le_of_ble_eq_true rfl) rfl ?_
  intro p e s m args below meth c A Q C hQ
  unfold fJ0_indexOf_0f7a4 at h
  refine g_aload_n C dJ0_indexOf_0f7a4_0 rfl 0 rfl ?_
  refine g_iload_n C dJ0_indexOf_0f7a4_1 rfl 1 rfl ?_
  refine g_iconst (v := (0 : Int32)) C dJ0_indexOf_0f7a4_2 (by decide) ?_
  obtain ⟨r3, h3, h⟩ := obd h
  refine g_callKi (st := []) (ws2 := []) C yv_J0_indexOf_7cf53 ml_J0_633 dJ0_indexOf_0f7a4_3 (kJ0_indexOf_7cf53 l D cC cI cJ cZ x1 (0 : Int32) r3 h3) gCut_nil ⟨by decide, by decide⟩ ⟨rfl, rfl⟩ ⟨Nat.zero_le _, Nat.zero_le _⟩ rfl rfl (Nat.le_of_ble_eq_true rfl) rfl ?_
  cases sinj h
  exact g_iret C dJ0_indexOf_0f7a4_6 rfl rfl hQ
