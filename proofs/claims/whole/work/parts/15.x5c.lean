def fX5_changeToOne_J80 (x1_L57 : Int32) (x2_L57 : Int32) (x3_L57 : Int32) (x4_L57 : Int32) (x5_L57 : Int32) (x6_J80 : Int32) (s0_J80 : Int32) (E_J80 : OE) : Option ((Int32 × OE) ⊕ ((Int32 × OE) ⊕ (OE))) :=
  (if x6_J80 = x4_L57 then some (.inl ((x6_J80 + (1 : Int32)), E_J80))
 else ((fX5_leavesOne E_J80 x1_L57 x3_L57 x6_J80 s0_J80).bind (fun r => (fun r96 T96 => (if r96 = 0 then some (.inl ((x6_J80 + (1 : Int32)), T96))
 else some (.inr (.inl (x6_J80, T96))))) r.1 r.2)))
def fX5_changeToOne_L57 (x1_L57 : Int32) (x2_L57 : Int32) (x3_L57 : Int32) (x4_L57 : Int32) (x5_L57 : Int32) (x6_L57 : Int32) (E_L57 : OE) : Option ((Int32 × OE) ⊕ ((Int32 × OE) ⊕ (OE))) :=
  (if x2_L57 < x6_L57 then some (.inr (.inr E_L57))
 else ((fX1_mostSecond x2_L57 x6_L57).bind (fun r68 => (if x5_L57 ≤ r68 then fX5_changeToOne_J80 x1_L57 x2_L57 x3_L57 x4_L57 x5_L57 x6_L57 x5_L57 E_L57
 else fX5_changeToOne_J80 x1_L57 x2_L57 x3_L57 x4_L57 x5_L57 x6_L57 (0 : Int32) E_L57))))
def fX5_changeToOne_J134 (x1_L114 : Int32) (x3_L114 : Int32) (x4_L114 : Int32) (x5_L114 : Int32) (x6_J134 : Int32) (s0_J134 : Int32) (E_J134 : OE) : Option ((Int32 × OE) ⊕ ((Int32 × OE) ⊕ (OE))) :=
  (if x6_J134 = x3_L114 then some (.inl ((x6_J134 + (1 : Int32)), E_J134))
 else ((fX5_leavesOne E_J134 x1_L114 x6_J134 x4_L114 s0_J134).bind (fun r => (fun r150 T150 => (if r150 = 0 then some (.inl ((x6_J134 + (1 : Int32)), T150))
 else some (.inr (.inl (((10 : Int32) + x6_J134), T150))))) r.1 r.2)))
def fX5_changeToOne_L114 (x1_L114 : Int32) (x3_L114 : Int32) (x4_L114 : Int32) (x5_L114 : Int32) (x6_L114 : Int32) (E_L114 : OE) : Option ((Int32 × OE) ⊕ ((Int32 × OE) ⊕ (OE))) :=
  (if (5 : Int32) ≤ x6_L114 then some (.inr (.inr E_L114))
 else ((fX1_hasSecond x6_L114).bind (fun r122 => (if r122 = 0 then fX5_changeToOne_J134 x1_L114 x3_L114 x4_L114 x5_L114 x6_L114 (0 : Int32) E_L114
 else fX5_changeToOne_J134 x1_L114 x3_L114 x4_L114 x5_L114 x6_L114 x5_L114 E_L114))))
def fX5_changeToOne_J168 (E_J168 : OE) : Option (Int32 × OE) :=
  some ((-1 : Int32), E_J168)
def fX5_changeToOne_J111 (x1_J111 : Int32) (x3_J111 : Int32) (x4_J111 : Int32) (x5_J111 : Int32) (E_J111 : OE) : Option (Int32 × OE) :=
  ((wh (σ := Int32 × OE) (ρ := (Int32 × OE) ⊕ (OE)) (fun t => fX5_changeToOne_L114 x1_J111 x3_J111 x4_J111 x5_J111 t.1 t.2) 100000 ((0 : Int32), E_J111)).bind (fun X => Sum.elim (fun r => some r) (fun E_E114 => fX5_changeToOne_J168 E_E114) X))
def fX5_changeToOne (E : OE) (x1 : Int32) : Option (Int32 × OE) :=
  ((fX4_hasLine (E.2 1) x1).bind (fun r5 => (if r5 = 0 then some ((-1 : Int32), E)
 else ((fX4_length (E.2 1) x1).bind (fun r18 => (if okI x1 8 = true then (if okI x1 8 = true then (if okI x1 8 = true then ((wh (σ := Int32 × OE) (ρ := (Int32 × OE) ⊕ (OE)) (fun t => fX5_changeToOne_L57 x1 r18 (((E.2 1).2 2) x1.toNatClampNeg) (((E.2 1).2 3) x1.toNatClampNeg) (((E.2 1).2 4) x1.toNatClampNeg) t.1 t.2) 100000 ((0 : Int32), E)).bind (fun X => Sum.elim (fun r => some r) (fun E_E57 => fX5_changeToOne_J111 x1 (((E.2 1).2 2) x1.toNatClampNeg) (((E.2 1).2 3) x1.toNatClampNeg) (((E.2 1).2 4) x1.toNatClampNeg) E_E57) X)) else none) else none) else none))))))
set_option maxHeartbeats 4000000 in
set_option maxRecDepth 100000 in
theorem kX5_changeToOne (l : Launch) (D : va_G) (cC cI cJ cZ : ClassId) (o : Nat) (so : Nat → Nat) (sa : Nat → Nat → Nat) (E : OE) (x1 : Int32) (r : Int32) (E' : OE) (h : fX5_changeToOne E x1 = some (r, E')) : gMi l yX5_changeToOne cX5_changeToOne 8 (some .int) (gR 12) D (tysG cC cI cJ cZ) [.ref o, .int x1] (wEP cC cI cZ o so sa E) r (wEP cC cI cZ o so sa E') := by
  refine gMi_of (by decide) (Nat.le_of_ble_eq_true rfl) rfl ?_
  intro p e s m args below meth c A Q C hQ
  have j168 : ∀ (E_J168 : OE), fX5_changeToOne_J168 E_J168 = some (r, E') → gG p l e (gR 12) s m args below meth c 8 D A 0 0 Q 168 [] [] (wEP cC cI cZ o so sa E_J168) := by
    intro E_J168 h
    unfold fX5_changeToOne_J168 at h
    refine g_iconst (v := (-1 : Int32)) C dX5_changeToOne_168 (by decide) ?_
    cases sinj h
    exact g_iret C dX5_changeToOne_169 rfl rfl hQ
  have j111 : ∀ (x1_J111 : Int32) (x3_J111 : Int32) (x4_J111 : Int32) (x5_J111 : Int32) (E_J111 : OE), fX5_changeToOne_J111 x1_J111 x3_J111 x4_J111 x5_J111 E_J111 = some (r, E') → gG p l e (gR 12) s m args below meth c 8 D A 0 0 Q 111 [(0, .ref o), (1, .int x1_J111), (3, .int x3_J111), (4, .int x4_J111), (5, .int x5_J111)] [] (wEP cC cI cZ o so sa E_J111) := by
    intro x1_J111 x3_J111 x4_J111 x5_J111 E_J111 h
    unfold fX5_changeToOne_J111 at h
    refine g_iconst (v := (0 : Int32)) C dX5_changeToOne_111 (by decide) ?_
    refine g_istore (lv' := [(6, .int (0 : Int32)), (0, .ref o), (1, .int x1_J111), (3, .int x3_J111), (4, .int x4_J111), (5, .int x5_J111)]) C dX5_changeToOne_112 (by decide) rfl ?_
    obtain ⟨X114, hW114, hK114⟩ := obd h
    have l114 : ∀ (fu114 : Nat) (x6_L114 : Int32) (E_L114 : OE), wh (σ := Int32 × OE) (ρ := (Int32 × OE) ⊕ (OE)) (fun t => fX5_changeToOne_L114 x1_J111 x3_J111 x4_J111 x5_J111 t.1 t.2) fu114 (x6_L114, E_L114) = some X114 → gG p l e (gR 12) s m args below meth c 8 D A 0 0 Q 114 [(0, .ref o), (1, .int x1_J111), (3, .int x3_J111), (4, .int x4_J111), (5, .int x5_J111), (6, .int x6_L114)] [] (wEP cC cI cZ o so sa E_L114) := by
      intro fu114
      induction fu114 with
      | zero => intro x6_L114 E_L114 hW; exact (wh_0 hW).elim
      | succ fu114 ih114 =>
        intro x6_L114 E_L114 hW
        obtain ⟨z114, h, hw114⟩ := wh_s hW
        have j134 : ∀ (x6_J134 : Int32) (s0_J134 : Int32) (E_J134 : OE) (z114 : (Int32 × OE) ⊕ ((Int32 × OE) ⊕ (OE))), fX5_changeToOne_J134 x1_J111 x3_J111 x4_J111 x5_J111 x6_J134 s0_J134 E_J134 = some z114 → wk (fun t => fX5_changeToOne_L114 x1_J111 x3_J111 x4_J111 x5_J111 t.1 t.2) fu114 z114 = some X114 → gG p l e (gR 12) s m args below meth c 8 D A 0 0 Q 134 [(0, .ref o), (1, .int x1_J111), (3, .int x3_J111), (4, .int x4_J111), (5, .int x5_J111), (6, .int x6_J134)] [.int s0_J134] (wEP cC cI cZ o so sa E_J134) := by
          intro x6_J134 s0_J134 E_J134 z114 h hw114
          unfold fX5_changeToOne_J134 at h
          refine g_istore (lv' := [(7, .int s0_J134), (0, .ref o), (1, .int x1_J111), (3, .int x3_J111), (4, .int x4_J111), (5, .int x5_J111), (6, .int x6_J134)]) C dX5_changeToOne_134 (by decide) rfl ?_
          refine g_iload C dX5_changeToOne_136 6 rfl ?_
          refine g_iload_n C dX5_changeToOne_138 rfl 3 rfl ?_
          refine g_icmp_eq (tgt := 162) C dX5_changeToOne_139 (by decide) (fun c139 => ?_) (fun c139 => ?_)
          · have h := ifp h c139
            refine g_iinc (j := 6) (v := (x6_J134 + (1 : Int32))) (lv' := [(6, .int (x6_J134 + (1 : Int32))), (7, .int s0_J134), (0, .ref o), (1, .int x1_J111), (3, .int x3_J111), (4, .int x4_J111), (5, .int x5_J111)]) C dX5_changeToOne_162 rfl rfl (by decide) rfl ?_
            refine g_goto (tgt := 114) C dX5_changeToOne_165 (by decide) ?_
            obtain rfl := sinj h
            refine g_lv [2, 3, 4, 5, 6, 0] rfl ?_
            exact ih114 (x6_J134 + (1 : Int32)) E_J134 hw114
          · have h := ifn h c139
            refine g_aload_n C dX5_changeToOne_142 rfl 1 rfl ?_
            refine g_iload_n C dX5_changeToOne_143 rfl 2 rfl ?_
            refine g_iload C dX5_changeToOne_144 6 rfl ?_
            refine g_iload C dX5_changeToOne_146 4 rfl ?_
            refine g_iload C dX5_changeToOne_148 0 rfl ?_
            obtain ⟨⟨r150, T150⟩, h150, h⟩ := obd h
            refine g_callVi (st := []) (ws2 := wEP cC cI cZ o so sa T150) C yv_X5_leavesOne ml_X5_283 dX5_changeToOne_150 (kX5_leavesOne l D cC cI cJ cZ o so sa E_J134 x1_J111 x6_J134 x4_J111 s0_J134 r150 T150 h150) gCut_all ⟨by decide, by decide⟩ ⟨rfl, rfl⟩ ⟨Nat.zero_le _, Nat.zero_le _⟩ rfl rfl (Nat.le_of_ble_eq_true rfl) 4 0 rfl rfl rfl ?_
            refine g_if_eq (tgt := 162) C dX5_changeToOne_153 (by decide) (fun c153 => ?_) (fun c153 => ?_)
            · have h := ifp h c153
              refine g_iinc (j := 6) (v := (x6_J134 + (1 : Int32))) (lv' := [(6, .int (x6_J134 + (1 : Int32))), (7, .int s0_J134), (0, .ref o), (1, .int x1_J111), (3, .int x3_J111), (4, .int x4_J111), (5, .int x5_J111)]) C dX5_changeToOne_162 rfl rfl (by decide) rfl ?_
              refine g_goto (tgt := 114) C dX5_changeToOne_165 (by decide) ?_
              obtain rfl := sinj h
              refine g_lv [2, 3, 4, 5, 6, 0] rfl ?_
              exact ih114 (x6_J134 + (1 : Int32)) T150 hw114
            · have h := ifn h c153
              refine g_bipush (v := (10 : Int32)) C dX5_changeToOne_156 (by decide) ?_
              refine g_iload C dX5_changeToOne_158 6 rfl ?_
              refine g_iadd C dX5_changeToOne_160 ?_
              obtain rfl := sinj h
              obtain rfl := wk_r hw114
              have h := sel hK114
              cases sinj h
              exact g_iret C dX5_changeToOne_161 rfl rfl hQ
        replace h : fX5_changeToOne_L114 x1_J111 x3_J111 x4_J111 x5_J111 x6_L114 E_L114 = some z114 := h
        unfold fX5_changeToOne_L114 at h
        refine g_iload C dX5_changeToOne_114 5 rfl ?_
        refine g_iconst (v := (5 : Int32)) C dX5_changeToOne_116 (by decide) ?_
        refine g_icmp_ge (tgt := 168) C dX5_changeToOne_117 (by decide) (fun c117 => ?_) (fun c117 => ?_)
        · have h := ifp h c117
          obtain rfl := sinj h
          obtain rfl := wk_r hw114
          have h := ser hK114
          refine g_lv [] rfl ?_
          exact j168 E_L114 h
        · have h := ifn h c117
          refine g_iload C dX5_changeToOne_120 5 rfl ?_
          obtain ⟨r122, h122, h⟩ := obd h
          refine g_callSi (st := []) (ws2 := wEP cC cI cZ o so sa E_L114) C ys_X1_hasSecond ml_X5_286 dX5_changeToOne_122 (kX1_hasSecond l D cC cI cJ cZ x6_L114 r122 h122) gCut_nil ⟨by decide, by decide⟩ ⟨rfl, rfl⟩ ⟨Nat.zero_le _, Nat.zero_le _⟩ rfl rfl (Nat.le_of_ble_eq_true rfl) ?_
          refine g_if_eq (tgt := 133) C dX5_changeToOne_125 (by decide) (fun c125 => ?_) (fun c125 => ?_)
          · have h := ifp h c125
            refine g_iconst (v := (0 : Int32)) C dX5_changeToOne_133 (by decide) ?_
            refine g_lv [0, 1, 2, 3, 4, 5] rfl ?_
            exact j134 x6_L114 (0 : Int32) E_L114 _ h hw114
          · have h := ifn h c125
            refine g_iload C dX5_changeToOne_128 4 rfl ?_
            refine g_goto (tgt := 134) C dX5_changeToOne_130 (by decide) ?_
            refine g_lv [0, 1, 2, 3, 4, 5] rfl ?_
            exact j134 x6_L114 x5_J111 E_L114 _ h hw114
    refine g_lv [1, 2, 3, 4, 5, 0] rfl ?_
    exact l114 100000 (0 : Int32) E_J111 hW114
  unfold fX5_changeToOne at h
  refine g_aload_n C dX5_changeToOne_0 rfl 0 rfl ?_
  refine g_get (v := .ref (so 1)) C fl_X5_19 dX5_changeToOne_1 0 rfl rfl ?_
  refine g_iload_n C dX5_changeToOne_4 rfl 1 rfl ?_
  obtain ⟨r5, h5, h⟩ := obd h
  refine g_callVi (st := []) (ws2 := wEP cC cI cZ o so sa E) C yv_X4_hasLine ml_X5_80 dX5_changeToOne_5 (kX4_hasLine l D cC cI cJ cZ (so 1) (sa 1) (E.2 1) x1 r5 h5) (gCut_at [3, 4, 5, 6, 7, 8, 9] [0, 1, 2, 10, 11, 12, 13, 14, 15, 16, 17, 18, 19, 20, 21, 22, 23, 24, 25, 26, 27, 28, 29, 30, 31, 32] [0, 1, 2, 26, 27, 28, 29, 30, 31, 32, 3, 4, 5, 6, 7, 8, 9, 10, 11, 12, 13, 14, 15, 16, 17, 18, 19, 20, 21, 22, 23, 24, 25] rfl rfl rfl rfl (by decide) rfl rfl) ⟨by decide, by decide⟩ ⟨rfl, rfl⟩ ⟨Nat.zero_le _, Nat.zero_le _⟩ rfl rfl (Nat.le_of_ble_eq_true rfl) 3 3 rfl rfl rfl ?_
  refine g_if_ne (tgt := 13) C dX5_changeToOne_8 (by decide) (fun c8 => ?_) (fun c8 => ?_)
  · have h := ifn h c8
    refine g_aload_n C dX5_changeToOne_13 rfl 0 rfl ?_
    refine g_get (v := .ref (so 1)) C fl_X5_19 dX5_changeToOne_14 0 rfl rfl ?_
    refine g_iload_n C dX5_changeToOne_17 rfl 1 rfl ?_
    obtain ⟨r18, h18, h⟩ := obd h
    refine g_callVi (st := []) (ws2 := wEP cC cI cZ o so sa E) C yv_X4_length ml_X5_94 dX5_changeToOne_18 (kX4_length l D cC cI cJ cZ (so 1) (sa 1) (E.2 1) x1 r18 h18) (gCut_at [3, 4, 5, 6, 7, 8, 9] [0, 1, 2, 10, 11, 12, 13, 14, 15, 16, 17, 18, 19, 20, 21, 22, 23, 24, 25, 26, 27, 28, 29, 30, 31, 32] [0, 1, 2, 26, 27, 28, 29, 30, 31, 32, 3, 4, 5, 6, 7, 8, 9, 10, 11, 12, 13, 14, 15, 16, 17, 18, 19, 20, 21, 22, 23, 24, 25] rfl rfl rfl rfl (by decide) rfl rfl) ⟨by decide, by decide⟩ ⟨rfl, rfl⟩ ⟨Nat.zero_le _, Nat.zero_le _⟩ rfl rfl (Nat.le_of_ble_eq_true rfl) 3 3 rfl rfl rfl ?_
    refine g_istore_n (lv' := [(2, .int r18), (0, .ref o), (1, .int x1)]) C dX5_changeToOne_21 rfl (by decide) rfl ?_
    refine g_aload_n C dX5_changeToOne_22 rfl 1 rfl ?_
    refine g_get (v := .ref (so 1)) C fl_X5_19 dX5_changeToOne_23 0 rfl rfl ?_
    refine g_get (v := .ref (sa 1 2)) C fl_X5_84 dX5_changeToOne_26 3 rfl rfl ?_
    refine g_iload_n C dX5_changeToOne_29 rfl 2 rfl ?_
    obtain ⟨hg30, h⟩ := ifg h
    refine g_iald (f := ((E.2 1).2 2)) C dX5_changeToOne_30 4 0 rfl rfl hg30 ?_
    refine g_istore_n (lv' := [(3, .int (((E.2 1).2 2) x1.toNatClampNeg)), (2, .int r18), (0, .ref o), (1, .int x1)]) C dX5_changeToOne_31 rfl (by decide) rfl ?_
    refine g_aload_n C dX5_changeToOne_32 rfl 2 rfl ?_
    refine g_get (v := .ref (so 1)) C fl_X5_19 dX5_changeToOne_33 0 rfl rfl ?_
    refine g_get (v := .ref (sa 1 3)) C fl_X5_88 dX5_changeToOne_36 3 rfl rfl ?_
    refine g_iload_n C dX5_changeToOne_39 rfl 3 rfl ?_
    obtain ⟨hg40, h⟩ := ifg h
    refine g_iald (f := ((E.2 1).2 3)) C dX5_changeToOne_40 5 0 rfl rfl hg40 ?_
    refine g_istore (lv' := [(4, .int (((E.2 1).2 3) x1.toNatClampNeg)), (3, .int (((E.2 1).2 2) x1.toNatClampNeg)), (2, .int r18), (0, .ref o), (1, .int x1)]) C dX5_changeToOne_41 (by decide) rfl ?_
    refine g_aload_n C dX5_changeToOne_43 rfl 3 rfl ?_
    refine g_get (v := .ref (so 1)) C fl_X5_19 dX5_changeToOne_44 0 rfl rfl ?_
    refine g_get (v := .ref (sa 1 4)) C fl_X5_91 dX5_changeToOne_47 3 rfl rfl ?_
    refine g_iload_n C dX5_changeToOne_50 rfl 4 rfl ?_
    obtain ⟨hg51, h⟩ := ifg h
    refine g_iald (f := ((E.2 1).2 4)) C dX5_changeToOne_51 6 0 rfl rfl hg51 ?_
    refine g_istore (lv' := [(5, .int (((E.2 1).2 4) x1.toNatClampNeg)), (4, .int (((E.2 1).2 3) x1.toNatClampNeg)), (3, .int (((E.2 1).2 2) x1.toNatClampNeg)), (2, .int r18), (0, .ref o), (1, .int x1)]) C dX5_changeToOne_52 (by decide) rfl ?_
    refine g_iconst (v := (0 : Int32)) C dX5_changeToOne_54 (by decide) ?_
    refine g_istore (lv' := [(6, .int (0 : Int32)), (5, .int (((E.2 1).2 4) x1.toNatClampNeg)), (4, .int (((E.2 1).2 3) x1.toNatClampNeg)), (3, .int (((E.2 1).2 2) x1.toNatClampNeg)), (2, .int r18), (0, .ref o), (1, .int x1)]) C dX5_changeToOne_55 (by decide) rfl ?_
    obtain ⟨X57, hW57, hK57⟩ := obd h
    have l57 : ∀ (fu57 : Nat) (x6_L57 : Int32) (E_L57 : OE), wh (σ := Int32 × OE) (ρ := (Int32 × OE) ⊕ (OE)) (fun t => fX5_changeToOne_L57 x1 r18 (((E.2 1).2 2) x1.toNatClampNeg) (((E.2 1).2 3) x1.toNatClampNeg) (((E.2 1).2 4) x1.toNatClampNeg) t.1 t.2) fu57 (x6_L57, E_L57) = some X57 → gG p l e (gR 12) s m args below meth c 8 D A 0 0 Q 57 [(0, .ref o), (1, .int x1), (2, .int r18), (3, .int (((E.2 1).2 2) x1.toNatClampNeg)), (4, .int (((E.2 1).2 3) x1.toNatClampNeg)), (5, .int (((E.2 1).2 4) x1.toNatClampNeg)), (6, .int x6_L57)] [] (wEP cC cI cZ o so sa E_L57) := by
      intro fu57
      induction fu57 with
      | zero => intro x6_L57 E_L57 hW; exact (wh_0 hW).elim
      | succ fu57 ih57 =>
        intro x6_L57 E_L57 hW
        obtain ⟨z57, h, hw57⟩ := wh_s hW
        have j80 : ∀ (x6_J80 : Int32) (s0_J80 : Int32) (E_J80 : OE) (z57 : (Int32 × OE) ⊕ ((Int32 × OE) ⊕ (OE))), fX5_changeToOne_J80 x1 r18 (((E.2 1).2 2) x1.toNatClampNeg) (((E.2 1).2 3) x1.toNatClampNeg) (((E.2 1).2 4) x1.toNatClampNeg) x6_J80 s0_J80 E_J80 = some z57 → wk (fun t => fX5_changeToOne_L57 x1 r18 (((E.2 1).2 2) x1.toNatClampNeg) (((E.2 1).2 3) x1.toNatClampNeg) (((E.2 1).2 4) x1.toNatClampNeg) t.1 t.2) fu57 z57 = some X57 → gG p l e (gR 12) s m args below meth c 8 D A 0 0 Q 80 [(0, .ref o), (1, .int x1), (2, .int r18), (3, .int (((E.2 1).2 2) x1.toNatClampNeg)), (4, .int (((E.2 1).2 3) x1.toNatClampNeg)), (5, .int (((E.2 1).2 4) x1.toNatClampNeg)), (6, .int x6_J80)] [.int s0_J80] (wEP cC cI cZ o so sa E_J80) := by
          intro x6_J80 s0_J80 E_J80 z57 h hw57
          unfold fX5_changeToOne_J80 at h
          refine g_istore (lv' := [(7, .int s0_J80), (0, .ref o), (1, .int x1), (2, .int r18), (3, .int (((E.2 1).2 2) x1.toNatClampNeg)), (4, .int (((E.2 1).2 3) x1.toNatClampNeg)), (5, .int (((E.2 1).2 4) x1.toNatClampNeg)), (6, .int x6_J80)]) C dX5_changeToOne_80 (by decide) rfl ?_
          refine g_iload C dX5_changeToOne_82 7 rfl ?_
          refine g_iload C dX5_changeToOne_84 5 rfl ?_
          refine g_icmp_eq (tgt := 105) C dX5_changeToOne_86 (by decide) (fun c86 => ?_) (fun c86 => ?_)
          · have h := ifp h c86
            refine g_iinc (j := 7) (v := (x6_J80 + (1 : Int32))) (lv' := [(6, .int (x6_J80 + (1 : Int32))), (7, .int s0_J80), (0, .ref o), (1, .int x1), (2, .int r18), (3, .int (((E.2 1).2 2) x1.toNatClampNeg)), (4, .int (((E.2 1).2 3) x1.toNatClampNeg)), (5, .int (((E.2 1).2 4) x1.toNatClampNeg))]) C dX5_changeToOne_105 rfl rfl (by decide) rfl ?_
            refine g_goto (tgt := 57) C dX5_changeToOne_108 (by decide) ?_
            obtain rfl := sinj h
            refine g_lv [2, 3, 4, 5, 6, 7, 0] rfl ?_
            exact ih57 (x6_J80 + (1 : Int32)) E_J80 hw57
          · have h := ifn h c86
            refine g_aload_n C dX5_changeToOne_89 rfl 1 rfl ?_
            refine g_iload_n C dX5_changeToOne_90 rfl 2 rfl ?_
            refine g_iload_n C dX5_changeToOne_91 rfl 4 rfl ?_
            refine g_iload C dX5_changeToOne_92 7 rfl ?_
            refine g_iload C dX5_changeToOne_94 0 rfl ?_
            obtain ⟨⟨r96, T96⟩, h96, h⟩ := obd h
            refine g_callVi (st := []) (ws2 := wEP cC cI cZ o so sa T96) C yv_X5_leavesOne ml_X5_283 dX5_changeToOne_96 (kX5_leavesOne l D cC cI cJ cZ o so sa E_J80 x1 (((E.2 1).2 2) x1.toNatClampNeg) x6_J80 s0_J80 r96 T96 h96) gCut_all ⟨by decide, by decide⟩ ⟨rfl, rfl⟩ ⟨Nat.zero_le _, Nat.zero_le _⟩ rfl rfl (Nat.le_of_ble_eq_true rfl) 4 0 rfl rfl rfl ?_
            refine g_if_eq (tgt := 105) C dX5_changeToOne_99 (by decide) (fun c99 => ?_) (fun c99 => ?_)
            · have h := ifp h c99
              refine g_iinc (j := 7) (v := (x6_J80 + (1 : Int32))) (lv' := [(6, .int (x6_J80 + (1 : Int32))), (7, .int s0_J80), (0, .ref o), (1, .int x1), (2, .int r18), (3, .int (((E.2 1).2 2) x1.toNatClampNeg)), (4, .int (((E.2 1).2 3) x1.toNatClampNeg)), (5, .int (((E.2 1).2 4) x1.toNatClampNeg))]) C dX5_changeToOne_105 rfl rfl (by decide) rfl ?_
              refine g_goto (tgt := 57) C dX5_changeToOne_108 (by decide) ?_
              obtain rfl := sinj h
              refine g_lv [2, 3, 4, 5, 6, 7, 0] rfl ?_
              exact ih57 (x6_J80 + (1 : Int32)) T96 hw57
            · have h := ifn h c99
              refine g_iload C dX5_changeToOne_102 7 rfl ?_
              obtain rfl := sinj h
              obtain rfl := wk_r hw57
              have h := sel hK57
              cases sinj h
              exact g_iret C dX5_changeToOne_104 rfl rfl hQ
        replace h : fX5_changeToOne_L57 x1 r18 (((E.2 1).2 2) x1.toNatClampNeg) (((E.2 1).2 3) x1.toNatClampNeg) (((E.2 1).2 4) x1.toNatClampNeg) x6_L57 E_L57 = some z57 := h
        unfold fX5_changeToOne_L57 at h
        refine g_iload C dX5_changeToOne_57 6 rfl ?_
        refine g_iload_n C dX5_changeToOne_59 rfl 2 rfl ?_
        refine g_icmp_gt (tgt := 111) C dX5_changeToOne_60 (by decide) (fun c60 => ?_) (fun c60 => ?_)
        · have h := ifp h c60
          obtain rfl := sinj h
          obtain rfl := wk_r hw57
          have h := ser hK57
          refine g_lv [0, 1, 3, 4, 5] rfl ?_
          exact j111 x1 (((E.2 1).2 2) x1.toNatClampNeg) (((E.2 1).2 3) x1.toNatClampNeg) (((E.2 1).2 4) x1.toNatClampNeg) E_L57 h
        · have h := ifn h c60
          refine g_iload C dX5_changeToOne_63 5 rfl ?_
          refine g_iload_n C dX5_changeToOne_65 rfl 2 rfl ?_
          refine g_iload C dX5_changeToOne_66 6 rfl ?_
          obtain ⟨r68, h68, h⟩ := obd h
          refine g_callSi (st := [.int (((E.2 1).2 4) x1.toNatClampNeg)]) (ws2 := wEP cC cI cZ o so sa E_L57) C ys_X1_mostSecond ml_X5_280 dX5_changeToOne_68 (kX1_mostSecond l D cC cI cJ cZ r18 x6_L57 r68 h68) gCut_nil ⟨by decide, by decide⟩ ⟨rfl, rfl⟩ ⟨Nat.zero_le _, Nat.zero_le _⟩ rfl rfl (Nat.le_of_ble_eq_true rfl) ?_
          refine g_icmp_le (tgt := 78) C dX5_changeToOne_71 (by decide) (fun c71 => ?_) (fun c71 => ?_)
          · have h := ifp h c71
            refine g_iload C dX5_changeToOne_78 5 rfl ?_
            refine g_lv [0, 1, 2, 3, 4, 5, 6] rfl ?_
            exact j80 x6_L57 (((E.2 1).2 4) x1.toNatClampNeg) E_L57 _ h hw57
          · have h := ifn h c71
            refine g_iconst (v := (0 : Int32)) C dX5_changeToOne_74 (by decide) ?_
            refine g_goto (tgt := 80) C dX5_changeToOne_75 (by decide) ?_
            refine g_lv [0, 1, 2, 3, 4, 5, 6] rfl ?_
            exact j80 x6_L57 (0 : Int32) E_L57 _ h hw57
    refine g_lv [5, 6, 4, 3, 2, 1, 0] rfl ?_
    exact l57 100000 (0 : Int32) E hW57
  · have h := ifp h c8
    refine g_iconst (v := (-1 : Int32)) C dX5_changeToOne_11 (by decide) ?_
    cases sinj h
    exact g_iret C dX5_changeToOne_12 rfl rfl hQ
def fX5_one_L48 (x1_L48 : Int32) (E_L48 : OE) : Option ((Int32 × OE) ⊕ ((Int32 × OE) ⊕ (OE))) :=
  ((fX4_lines (E_L48.2 1)).bind (fun r53 => (if r53 ≤ x1_L48 then some (.inr (.inr E_L48))
 else ((fX5_changeToOne E_L48 x1_L48).bind (fun r => (fun r61 T61 => (if r61 = (-1 : Int32) then some (.inl ((x1_L48 + (1 : Int32)), T61))
 else some (.inr (.inl ((((100 : Int32) * x1_L48) + r61), T61))))) r.1 r.2)))))
def fX5_one_J83 (E_J83 : OE) : Option (Int32 × OE) :=
  some ((-1 : Int32), E_J83)
def fX5_one (E : OE)  : Option (Int32 × OE) :=
  ((fX4_isBoard (E.2 1)).bind (fun r4 => (if r4 = 0 then some ((-103 : Int32), E)
 else (if (E.1 11) < (6 : Int32) then ((fX5_settled ((va_up E.1 11 ((E.1 11) + (1 : Int32))), E.2)).bind (fun T33 => (if ((T33.2 5).1 2) = (1 : Int32) then some ((-2 : Int32), T33)
 else ((wh (σ := Int32 × OE) (ρ := (Int32 × OE) ⊕ (OE)) (fun t => fX5_one_L48 t.1 t.2) 100000 ((0 : Int32), T33)).bind (fun X => Sum.elim (fun r => some r) (fun E_E48 => fX5_one_J83 E_E48) X)))))
 else some ((-103 : Int32), E)))))
set_option maxHeartbeats 4000000 in
set_option maxRecDepth 100000 in
theorem kX5_one (l : Launch) (D : va_G) (cC cI cJ cZ : ClassId) (o : Nat) (so : Nat → Nat) (sa : Nat → Nat → Nat) (E : OE)  (r : Int32) (E' : OE) (h : fX5_one E = some (r, E')) : gMi l yX5_one cX5_one 3 (some .int) (gR 13) D (tysG cC cI cJ cZ) [.ref o] (wEP cC cI cZ o so sa E) r (wEP cC cI cZ o so sa E') := by
  refine gMi_of (by decide) (Nat.le_of_ble_eq_true rfl) rfl ?_
  intro p e s m args below meth c A Q C hQ
  have j83 : ∀ (E_J83 : OE), fX5_one_J83 E_J83 = some (r, E') → gG p l e (gR 13) s m args below meth c 3 D A 0 0 Q 83 [] [] (wEP cC cI cZ o so sa E_J83) := by
    intro E_J83 h
    unfold fX5_one_J83 at h
    refine g_iconst (v := (-1 : Int32)) C dX5_one_83 (by decide) ?_
    cases sinj h
    exact g_iret C dX5_one_84 rfl rfl hQ
  unfold fX5_one at h
  refine g_aload_n C dX5_one_0 rfl 0 rfl ?_
  refine g_get (v := .ref (so 1)) C fl_X5_19 dX5_one_1 0 rfl rfl ?_
  obtain ⟨r4, h4, h⟩ := obd h
  refine g_callVi (st := []) (ws2 := wEP cC cI cZ o so sa E) C yv_X4_isBoard ml_X5_156 dX5_one_4 (kX4_isBoard l D cC cI cJ cZ (so 1) (sa 1) (E.2 1) r4 h4) (gCut_at [3, 4, 5, 6, 7, 8, 9] [0, 1, 2, 10, 11, 12, 13, 14, 15, 16, 17, 18, 19, 20, 21, 22, 23, 24, 25, 26, 27, 28, 29, 30, 31, 32] [0, 1, 2, 26, 27, 28, 29, 30, 31, 32, 3, 4, 5, 6, 7, 8, 9, 10, 11, 12, 13, 14, 15, 16, 17, 18, 19, 20, 21, 22, 23, 24, 25] rfl rfl rfl rfl (by decide) rfl rfl) ⟨by decide, by decide⟩ ⟨rfl, rfl⟩ ⟨Nat.zero_le _, Nat.zero_le _⟩ rfl rfl (Nat.le_of_ble_eq_true rfl) 3 3 rfl rfl rfl ?_
  refine g_if_eq (tgt := 19) C dX5_one_7 (by decide) (fun c7 => ?_) (fun c7 => ?_)
  · have h := ifp h c7
    refine g_bipush (v := (-103 : Int32)) C dX5_one_19 (by decide) ?_
    cases sinj h
    exact g_iret C dX5_one_21 rfl rfl hQ
  · have h := ifn h c7
    refine g_aload_n C dX5_one_10 rfl 0 rfl ?_
    refine g_get (v := .int (E.1 11)) C fl_X5_191 dX5_one_11 0 rfl rfl ?_
    refine g_bipush (v := (6 : Int32)) C dX5_one_14 (by decide) ?_
    refine g_icmp_lt (tgt := 22) C dX5_one_16 (by decide) (fun c16 => ?_) (fun c16 => ?_)
    · have h := ifp h c16
      refine g_aload_n C dX5_one_22 rfl 0 rfl ?_
      refine g_dup C dX5_one_23 rfl ?_
      refine g_get (v := .int (E.1 11)) C fl_X5_191 dX5_one_24 0 rfl rfl ?_
      refine g_iconst (v := (1 : Int32)) C dX5_one_27 (by decide) ?_
      refine g_iadd C dX5_one_28 ?_
      refine g_put (ws2 := wEP cC cI cZ o so sa ((va_up E.1 11 ((E.1 11) + (1 : Int32))), E.2)) C fp_X5_191 dX5_one_29 0 rfl rfl rfl (Nat.le_of_ble_eq_true rfl) rfl ?_
      refine g_aload_n C dX5_one_32 rfl 0 rfl ?_
      obtain ⟨T33, h33, h⟩ := obd h
      refine g_callVr (st := []) (ws2 := wEP cC cI cZ o so sa T33) C yv_X5_settled ml_X5_122 dX5_one_33 (kX5_settled l D cC cI cJ cZ o so sa ((va_up E.1 11 ((E.1 11) + (1 : Int32))), E.2) T33 h33) gCut_all ⟨by decide, by decide⟩ ⟨rfl, rfl⟩ ⟨Nat.zero_le _, Nat.zero_le _⟩ rfl rfl (Nat.le_of_ble_eq_true rfl) 4 0 rfl rfl rfl ?_
      refine g_get (v := .int ((T33.2 5).1 2)) C fl_X5_160 dX5_one_36 27 rfl rfl ?_
      refine g_iconst (v := (1 : Int32)) C dX5_one_39 (by decide) ?_
      refine g_icmp_ne (tgt := 46) C dX5_one_40 (by decide) (fun c40 => ?_) (fun c40 => ?_)
      · have h := ifn h c40
        refine g_iconst (v := (0 : Int32)) C dX5_one_46 (by decide) ?_
        refine g_istore_n (lv' := [(1, .int (0 : Int32)), (0, .ref o)]) C dX5_one_47 rfl (by decide) rfl ?_
        obtain ⟨X48, hW48, hK48⟩ := obd h
        have l48 : ∀ (fu48 : Nat) (x1_L48 : Int32) (E_L48 : OE), wh (σ := Int32 × OE) (ρ := (Int32 × OE) ⊕ (OE)) (fun t => fX5_one_L48 t.1 t.2) fu48 (x1_L48, E_L48) = some X48 → gG p l e (gR 13) s m args below meth c 3 D A 0 0 Q 48 [(0, .ref o), (1, .int x1_L48)] [] (wEP cC cI cZ o so sa E_L48) := by
          intro fu48
          induction fu48 with
          | zero => intro x1_L48 E_L48 hW; exact (wh_0 hW).elim
          | succ fu48 ih48 =>
            intro x1_L48 E_L48 hW
            obtain ⟨z48, h, hw48⟩ := wh_s hW
            replace h : fX5_one_L48 x1_L48 E_L48 = some z48 := h
            unfold fX5_one_L48 at h
            refine g_iload_n C dX5_one_48 rfl 1 rfl ?_
            refine g_aload_n C dX5_one_49 rfl 0 rfl ?_
            refine g_get (v := .ref (so 1)) C fl_X5_19 dX5_one_50 0 rfl rfl ?_
            obtain ⟨r53, h53, h⟩ := obd h
            refine g_callVi (st := [.int x1_L48]) (ws2 := wEP cC cI cZ o so sa E_L48) C yv_X4_lines ml_X5_194 dX5_one_53 (kX4_lines l D cC cI cJ cZ (so 1) (sa 1) (E_L48.2 1) r53 h53) (gCut_at [3, 4, 5, 6, 7, 8, 9] [0, 1, 2, 10, 11, 12, 13, 14, 15, 16, 17, 18, 19, 20, 21, 22, 23, 24, 25, 26, 27, 28, 29, 30, 31, 32] [0, 1, 2, 26, 27, 28, 29, 30, 31, 32, 3, 4, 5, 6, 7, 8, 9, 10, 11, 12, 13, 14, 15, 16, 17, 18, 19, 20, 21, 22, 23, 24, 25] rfl rfl rfl rfl (by decide) rfl rfl) ⟨by decide, by decide⟩ ⟨rfl, rfl⟩ ⟨Nat.zero_le _, Nat.zero_le _⟩ rfl rfl (Nat.le_of_ble_eq_true rfl) 3 3 rfl rfl rfl ?_
            refine g_icmp_ge (tgt := 83) C dX5_one_56 (by decide) (fun c56 => ?_) (fun c56 => ?_)
            · have h := ifp h c56
              obtain rfl := sinj h
              obtain rfl := wk_r hw48
              have h := ser hK48
              refine g_lv [] rfl ?_
              exact j83 E_L48 h
            · have h := ifn h c56
              refine g_aload_n C dX5_one_59 rfl 0 rfl ?_
              refine g_iload_n C dX5_one_60 rfl 1 rfl ?_
              obtain ⟨⟨r61, T61⟩, h61, h⟩ := obd h
              refine g_callVi (st := []) (ws2 := wEP cC cI cZ o so sa T61) C yv_X5_changeToOne ml_X5_197 dX5_one_61 (kX5_changeToOne l D cC cI cJ cZ o so sa E_L48 x1_L48 r61 T61 h61) gCut_all ⟨by decide, by decide⟩ ⟨rfl, rfl⟩ ⟨Nat.zero_le _, Nat.zero_le _⟩ rfl rfl (Nat.le_of_ble_eq_true rfl) 4 0 rfl rfl rfl ?_
              refine g_istore_n (lv' := [(2, .int r61), (0, .ref o), (1, .int x1_L48)]) C dX5_one_64 rfl (by decide) rfl ?_
              refine g_iload_n C dX5_one_65 rfl 0 rfl ?_
              refine g_iconst (v := (-1 : Int32)) C dX5_one_66 (by decide) ?_
              refine g_icmp_eq (tgt := 77) C dX5_one_67 (by decide) (fun c67 => ?_) (fun c67 => ?_)
              · have h := ifp h c67
                refine g_iinc (j := 2) (v := (x1_L48 + (1 : Int32))) (lv' := [(1, .int (x1_L48 + (1 : Int32))), (2, .int r61), (0, .ref o)]) C dX5_one_77 rfl rfl (by decide) rfl ?_
                refine g_goto (tgt := 48) C dX5_one_80 (by decide) ?_
                obtain rfl := sinj h
                refine g_lv [2, 0] rfl ?_
                exact ih48 (x1_L48 + (1 : Int32)) T61 hw48
              · have h := ifn h c67
                refine g_bipush (v := (100 : Int32)) C dX5_one_70 (by decide) ?_
                refine g_iload_n C dX5_one_72 rfl 2 rfl ?_
                refine g_imul C dX5_one_73 ?_
                refine g_iload_n C dX5_one_74 rfl 0 rfl ?_
                refine g_iadd C dX5_one_75 ?_
                obtain rfl := sinj h
                obtain rfl := wk_r hw48
                have h := sel hK48
                cases sinj h
                exact g_iret C dX5_one_76 rfl rfl hQ
        refine g_lv [1, 0] rfl ?_
        exact l48 100000 (0 : Int32) T33 hW48
      · have h := ifp h c40
        refine g_bipush (v := (-2 : Int32)) C dX5_one_43 (by decide) ?_
        cases sinj h
        exact g_iret C dX5_one_45 rfl rfl hQ
    · have h := ifn h c16
      refine g_bipush (v := (-103 : Int32)) C dX5_one_19 (by decide) ?_
      cases sinj h
      exact g_iret C dX5_one_21 rfl rfl hQ
def fX5_see (E : OE) (x1 : Int32) (x2 : Int32) (x3 : Int32) : Option (Int32 × OE) :=
  ((fX4_hasLine (E.2 1) x1).bind (fun r5 => (if r5 = 0 then some ((-101 : Int32), E)
 else ((fX4_hasCellsOf (E.2 1) x1 x2).bind (fun r20 => (if r20 = 0 then some ((-102 : Int32), E)
 else (if ((E.2 1).1 10) < (6 : Int32) then ((fX4_addSeen (E.2 1) x1 x2 x3).bind (fun T51 => some ((T51.1 10), (E.1, (va_up E.2 1 T51)))))
 else some ((-104 : Int32), E))))))))
set_option maxHeartbeats 4000000 in
set_option maxRecDepth 100000 in
theorem kX5_see (l : Launch) (D : va_G) (cC cI cJ cZ : ClassId) (o : Nat) (so : Nat → Nat) (sa : Nat → Nat → Nat) (E : OE) (x1 : Int32) (x2 : Int32) (x3 : Int32) (r : Int32) (E' : OE) (h : fX5_see E x1 x2 x3 = some (r, E')) : gMi l yX5_see cX5_see 4 (some .int) (gR 3) D (tysG cC cI cJ cZ) [.ref o, .int x1, .int x2, .int x3] (wEP cC cI cZ o so sa E) r (wEP cC cI cZ o so sa E') := by
  refine gMi_of (by decide) (Nat.le_of_ble_eq_true rfl) rfl ?_
  intro p e s m args below meth c A Q C hQ
  unfold fX5_see at h
  refine g_aload_n C dX5_see_0 rfl 0 rfl ?_
  refine g_get (v := .ref (so 1)) C fl_X5_19 dX5_see_1 0 rfl rfl ?_
  refine g_iload_n C dX5_see_4 rfl 1 rfl ?_
  obtain ⟨r5, h5, h⟩ := obd h
  refine g_callVi (st := []) (ws2 := wEP cC cI cZ o so sa E) C yv_X4_hasLine ml_X5_80 dX5_see_5 (kX4_hasLine l D cC cI cJ cZ (so 1) (sa 1) (E.2 1) x1 r5 h5) (gCut_at [3, 4, 5, 6, 7, 8, 9] [0, 1, 2, 10, 11, 12, 13, 14, 15, 16, 17, 18, 19, 20, 21, 22, 23, 24, 25, 26, 27, 28, 29, 30, 31, 32] [0, 1, 2, 26, 27, 28, 29, 30, 31, 32, 3, 4, 5, 6, 7, 8, 9, 10, 11, 12, 13, 14, 15, 16, 17, 18, 19, 20, 21, 22, 23, 24, 25] rfl rfl rfl rfl (by decide) rfl rfl) ⟨by decide, by decide⟩ ⟨rfl, rfl⟩ ⟨Nat.zero_le _, Nat.zero_le _⟩ rfl rfl (Nat.le_of_ble_eq_true rfl) 3 3 rfl rfl rfl ?_
  refine g_if_ne (tgt := 14) C dX5_see_8 (by decide) (fun c8 => ?_) (fun c8 => ?_)
  · have h := ifn h c8
    refine g_aload_n C dX5_see_14 rfl 0 rfl ?_
    refine g_get (v := .ref (so 1)) C fl_X5_19 dX5_see_15 0 rfl rfl ?_
    refine g_iload_n C dX5_see_18 rfl 1 rfl ?_
    refine g_iload_n C dX5_see_19 rfl 2 rfl ?_
    obtain ⟨r20, h20, h⟩ := obd h
    refine g_callVi (st := []) (ws2 := wEP cC cI cZ o so sa E) C yv_X4_hasCellsOf ml_X5_132 dX5_see_20 (kX4_hasCellsOf l D cC cI cJ cZ (so 1) (sa 1) (E.2 1) x1 x2 r20 h20) (gCut_at [3, 4, 5, 6, 7, 8, 9] [0, 1, 2, 10, 11, 12, 13, 14, 15, 16, 17, 18, 19, 20, 21, 22, 23, 24, 25, 26, 27, 28, 29, 30, 31, 32] [0, 1, 2, 26, 27, 28, 29, 30, 31, 32, 3, 4, 5, 6, 7, 8, 9, 10, 11, 12, 13, 14, 15, 16, 17, 18, 19, 20, 21, 22, 23, 24, 25] rfl rfl rfl rfl (by decide) rfl rfl) ⟨by decide, by decide⟩ ⟨rfl, rfl⟩ ⟨Nat.zero_le _, Nat.zero_le _⟩ rfl rfl (Nat.le_of_ble_eq_true rfl) 3 3 rfl rfl rfl ?_
    refine g_if_ne (tgt := 29) C dX5_see_23 (by decide) (fun c23 => ?_) (fun c23 => ?_)
    · have h := ifn h c23
      refine g_aload_n C dX5_see_29 rfl 0 rfl ?_
      refine g_get (v := .ref (so 1)) C fl_X5_19 dX5_see_30 0 rfl rfl ?_
      refine g_get (v := .int ((E.2 1).1 10)) C fl_X5_200 dX5_see_33 3 rfl rfl ?_
      refine g_bipush (v := (6 : Int32)) C dX5_see_36 (by decide) ?_
      refine g_icmp_lt (tgt := 44) C dX5_see_38 (by decide) (fun c38 => ?_) (fun c38 => ?_)
      · have h := ifp h c38
        refine g_aload_n C dX5_see_44 rfl 0 rfl ?_
        refine g_get (v := .ref (so 1)) C fl_X5_19 dX5_see_45 0 rfl rfl ?_
        refine g_iload_n C dX5_see_48 rfl 1 rfl ?_
        refine g_iload_n C dX5_see_49 rfl 2 rfl ?_
        refine g_iload_n C dX5_see_50 rfl 3 rfl ?_
        obtain ⟨T51, h51, h⟩ := obd h
        refine g_callVv (st := []) (ws2 := wEP cC cI cZ o so sa (E.1, (va_up E.2 1 T51))) C yv_X4_addSeen ml_X5_203 dX5_see_51 (kX4_addSeen l D cC cI cJ cZ (so 1) (sa 1) (E.2 1) x1 x2 x3 T51 h51) (gCut_at [3, 4, 5, 6, 7, 8, 9] [0, 1, 2, 10, 11, 12, 13, 14, 15, 16, 17, 18, 19, 20, 21, 22, 23, 24, 25, 26, 27, 28, 29, 30, 31, 32] [0, 1, 2, 26, 27, 28, 29, 30, 31, 32, 3, 4, 5, 6, 7, 8, 9, 10, 11, 12, 13, 14, 15, 16, 17, 18, 19, 20, 21, 22, 23, 24, 25] rfl rfl rfl rfl (by decide) rfl rfl) ⟨by decide, by decide⟩ ⟨rfl, rfl⟩ ⟨Nat.zero_le _, Nat.zero_le _⟩ rfl rfl (Nat.le_of_ble_eq_true rfl) 3 3 rfl rfl rfl ?_
        refine g_aload_n C dX5_see_54 rfl 0 rfl ?_
        refine g_get (v := .ref (so 1)) C fl_X5_19 dX5_see_55 0 rfl rfl ?_
        refine g_get (v := .int (T51.1 10)) C fl_X5_200 dX5_see_58 3 rfl rfl ?_
        cases sinj h
        exact g_iret C dX5_see_61 rfl rfl hQ
      · have h := ifn h c38
        refine g_bipush (v := (-104 : Int32)) C dX5_see_41 (by decide) ?_
        cases sinj h
        exact g_iret C dX5_see_43 rfl rfl hQ
    · have h := ifp h c23
      refine g_bipush (v := (-102 : Int32)) C dX5_see_26 (by decide) ?_
      cases sinj h
      exact g_iret C dX5_see_28 rfl rfl hQ
  · have h := ifp h c8
    refine g_bipush (v := (-101 : Int32)) C dX5_see_11 (by decide) ?_
    cases sinj h
    exact g_iret C dX5_see_13 rfl rfl hQ
def fX5_forget (E : OE)  : Option (Int32 × OE) :=
  some (((E.2 1).1 10), (E.1, (va_up E.2 1 ((va_up (E.2 1).1 10 (0 : Int32)), (E.2 1).2))))
set_option maxHeartbeats 4000000 in
set_option maxRecDepth 100000 in
theorem kX5_forget (l : Launch) (D : va_G) (cC cI cJ cZ : ClassId) (o : Nat) (so : Nat → Nat) (sa : Nat → Nat → Nat) (E : OE)  (r : Int32) (E' : OE) (h : fX5_forget E = some (r, E')) : gMi l yX5_forget cX5_forget 2 (some .int) (gR 1) D (tysG cC cI cJ cZ) [.ref o] (wEP cC cI cZ o so sa E) r (wEP cC cI cZ o so sa E') := by
  refine gMi_of (by decide) (Nat.le_of_ble_eq_true rfl) rfl ?_
  intro p e s m args below meth c A Q C hQ
  unfold fX5_forget at h
  refine g_aload_n C dX5_forget_0 rfl 0 rfl ?_
  refine g_get (v := .ref (so 1)) C fl_X5_19 dX5_forget_1 0 rfl rfl ?_
  refine g_get (v := .int ((E.2 1).1 10)) C fl_X5_200 dX5_forget_4 3 rfl rfl ?_
  refine g_istore_n (lv' := [(1, .int ((E.2 1).1 10)), (0, .ref o)]) C dX5_forget_7 rfl (by decide) rfl ?_
  refine g_aload_n C dX5_forget_8 rfl 1 rfl ?_
  refine g_get (v := .ref (so 1)) C fl_X5_19 dX5_forget_9 0 rfl rfl ?_
  refine g_iconst (v := (0 : Int32)) C dX5_forget_12 (by decide) ?_
  refine g_put (ws2 := wEP cC cI cZ o so sa (E.1, (va_up E.2 1 ((va_up (E.2 1).1 10 (0 : Int32)), (E.2 1).2)))) C fp_X5_200 dX5_forget_13 3 rfl rfl rfl (Nat.le_of_ble_eq_true rfl) rfl ?_
  refine g_iload_n C dX5_forget_16 rfl 0 rfl ?_
  cases sinj h
  exact g_iret C dX5_forget_17 rfl rfl hQ
def fX5_nextSeed  (x0 : Int64) : Option (Int64) :=
  (if ¬ (2147483648 : Int64) = 0 then some ((((1103515245 : Int64) * x0) + (12345 : Int64)) - (((1103515245 : Int64) * x0) + (12345 : Int64)) / (2147483648 : Int64) * (2147483648 : Int64)) else none)
set_option maxHeartbeats 4000000 in
set_option maxRecDepth 100000 in
theorem kX5_nextSeed (l : Launch) (D : va_G) (cC cI cJ cZ : ClassId)  (x0 : Int64) (r : Int64) (h : fX5_nextSeed x0 = some r) : gMl l yX5_nextSeed cX5_nextSeed 2 (some .long) (gR 1) D (tysG cC cI cJ cZ) [.long x0] ([]) r ([]) := by
  refine gMl_of (by decide) (Nat.le_of_ble_eq_true rfl) rfl ?_
  intro p e s m args below meth c A Q C hQ
  unfold fX5_nextSeed at h
  refine g_ldc2 C dX5_nextSeed_0 ck_X5_292 ?_
  refine g_lload_n C dX5_nextSeed_3 rfl 0 rfl ?_
  refine g_lmul C dX5_nextSeed_4 ?_
  refine g_ldc2 C dX5_nextSeed_5 ck_X5_294 ?_
  refine g_ladd C dX5_nextSeed_8 ?_
  refine g_ldc2 C dX5_nextSeed_9 ck_X5_296 ?_
  obtain ⟨hg12, h⟩ := ifg h
  refine g_lrem C dX5_nextSeed_12 hg12 ?_
  cases sinj h
  exact g_lret C dX5_nextSeed_13 rfl rfl hQ
def fX5_playGame_L21 (x1_L21 : Int32) (x2_L21 : Int32) (x3_L21 : Int32) (E_L21 : OE) : Option ((Int32 × Int32 × OE) ⊕ ((Int32 × OE) ⊕ (Int32 × OE))) :=
  (if ((E_L21.2 6).1 2) ≤ (1 : Int32) then some (.inr (.inr (x3_L21, E_L21)))
 else (if (16 : Int32) ≤ x3_L21 then some (.inr (.inr (x3_L21, E_L21)))
 else ((fX4_cells (E_L21.2 1)).bind (fun r46 => ((fX0_bestLook 200 (E_L21.2 6) r46 x2_L21).bind (fun r50 => (if r50 = (-1 : Int32) then some (.inr (.inl (x3_L21, E_L21)))
 else ((fX0_keepLike 200 (E_L21.2 6) x1_L21 r50).bind (fun T77 => some (.inl ((x2_L21 ||| ((1 : Int32) <<< (r50 &&& 31))), (x3_L21 + (1 : Int32)), (E_L21.1, (va_up E_L21.2 6 T77)))))))))))))
def fX5_playGame_J86 (x3_J86 : Int32) (E_J86 : OE) : Option (Int32 × OE) :=
  some (x3_J86, E_J86)
def fX5_playGame (E : OE) (x1 : Int32) : Option (Int32 × OE) :=
  ((fX4_marked (E.2 1)).bind (fun r4 => ((fX0_copyFrom 200 1690 (E.2 6) (E.2 5)).bind (fun T18 => ((wh (σ := Int32 × Int32 × OE) (ρ := (Int32 × OE) ⊕ (Int32 × OE)) (fun t => fX5_playGame_L21 x1 t.1 t.2.1 t.2.2) 100000 (r4, (0 : Int32), (E.1, (va_up E.2 6 T18)))).bind (fun X => Sum.elim (fun r => some r) (fun X => (fun e3_L21 E_E21 => fX5_playGame_J86 e3_L21 E_E21) X.1 X.2) X))))))
set_option maxHeartbeats 4000000 in
set_option maxRecDepth 100000 in
theorem kX5_playGame (l : Launch) (D : va_G) (cC cI cJ cZ : ClassId) (o : Nat) (so : Nat → Nat) (sa : Nat → Nat → Nat) (E : OE) (x1 : Int32) (r : Int32) (E' : OE) (h : fX5_playGame E x1 = some (r, E')) : gMi l yX5_playGame cX5_playGame 5 (some .int) (gR 3) D (tysG cC cI cJ cZ) [.ref o, .int x1] (wEP cC cI cZ o so sa E) r (wEP cC cI cZ o so sa E') := by
  refine gMi_of (by decide) (Nat.le_of_ble_eq_true rfl) rfl ?_
  intro p e s m args below meth c A Q C hQ
  have j86 : ∀ (x3_J86 : Int32) (E_J86 : OE), fX5_playGame_J86 x3_J86 E_J86 = some (r, E') → gG p l e (gR 3) s m args below meth c 5 D A 0 0 Q 86 [(3, .int x3_J86)] [] (wEP cC cI cZ o so sa E_J86) := by
    intro x3_J86 E_J86 h
    unfold fX5_playGame_J86 at h
    refine g_iload_n C dX5_playGame_86 rfl 0 rfl ?_
    cases sinj h
    exact g_iret C dX5_playGame_87 rfl rfl hQ
  unfold fX5_playGame at h
  refine g_aload_n C dX5_playGame_0 rfl 0 rfl ?_
  refine g_get (v := .ref (so 1)) C fl_X5_19 dX5_playGame_1 0 rfl rfl ?_
  obtain ⟨r4, h4, h⟩ := obd h
  refine g_callVi (st := []) (ws2 := wEP cC cI cZ o so sa E) C yv_X4_marked ml_X5_164 dX5_playGame_4 (kX4_marked l D cC cI cJ cZ (so 1) (sa 1) (E.2 1) r4 h4) (gCut_at [3, 4, 5, 6, 7, 8, 9] [0, 1, 2, 10, 11, 12, 13, 14, 15, 16, 17, 18, 19, 20, 21, 22, 23, 24, 25, 26, 27, 28, 29, 30, 31, 32] [0, 1, 2, 26, 27, 28, 29, 30, 31, 32, 3, 4, 5, 6, 7, 8, 9, 10, 11, 12, 13, 14, 15, 16, 17, 18, 19, 20, 21, 22, 23, 24, 25] rfl rfl rfl rfl (by decide) rfl rfl) ⟨by decide, by decide⟩ ⟨rfl, rfl⟩ ⟨Nat.zero_le _, Nat.zero_le _⟩ rfl rfl (Nat.le_of_ble_eq_true rfl) 3 3 rfl rfl rfl ?_
  refine g_istore_n (lv' := [(2, .int r4), (0, .ref o), (1, .int x1)]) C dX5_playGame_7 rfl (by decide) rfl ?_
  refine g_iconst (v := (0 : Int32)) C dX5_playGame_8 (by decide) ?_
  refine g_istore_n (lv' := [(3, .int (0 : Int32)), (2, .int r4), (0, .ref o), (1, .int x1)]) C dX5_playGame_9 rfl (by decide) rfl ?_
  refine g_aload_n C dX5_playGame_10 rfl 2 rfl ?_
  refine g_get (v := .ref (so 6)) C fl_X5_45 dX5_playGame_11 0 rfl rfl ?_
  refine g_aload_n C dX5_playGame_14 rfl 2 rfl ?_
  refine g_get (v := .ref (so 5)) C fl_X5_41 dX5_playGame_15 0 rfl rfl ?_
  obtain ⟨T18, h18, h⟩ := obd h
  refine g_callVv (st := []) (ws2 := wEP cC cI cZ o so sa (E.1, (va_up E.2 6 T18))) C yv_X0_copyFrom ml_X5_298 dX5_playGame_18 (kX0_copyFrom l D cC cI cJ cZ (so 6) (sa 6) (so 5) (sa 5) 200 1690 (E.2 6) (E.2 5) T18 h18) (gCut_at [30, 31, 32, 27, 28, 29] [0, 1, 2, 3, 4, 5, 6, 7, 8, 9, 10, 11, 12, 13, 14, 15, 16, 17, 18, 19, 20, 21, 22, 23, 24, 25, 26] [0, 1, 2, 3, 4, 5, 6, 7, 8, 9, 10, 11, 12, 13, 14, 15, 16, 17, 18, 19, 20, 21, 22, 23, 24, 25, 26, 30, 31, 32, 27, 28, 29] rfl rfl rfl rfl (by decide) rfl rfl) ⟨by decide, by decide⟩ ⟨rfl, rfl⟩ ⟨Nat.zero_le _, Nat.zero_le _⟩ rfl rfl (Nat.le_of_ble_eq_true rfl) 0 30 rfl rfl rfl ?_
  obtain ⟨X21, hW21, hK21⟩ := obd h
  have l21 : ∀ (fu21 : Nat) (x2_L21 : Int32) (x3_L21 : Int32) (E_L21 : OE), wh (σ := Int32 × Int32 × OE) (ρ := (Int32 × OE) ⊕ (Int32 × OE)) (fun t => fX5_playGame_L21 x1 t.1 t.2.1 t.2.2) fu21 (x2_L21, x3_L21, E_L21) = some X21 → gG p l e (gR 3) s m args below meth c 5 D A 0 0 Q 21 [(0, .ref o), (1, .int x1), (2, .int x2_L21), (3, .int x3_L21)] [] (wEP cC cI cZ o so sa E_L21) := by
    intro fu21
    induction fu21 with
    | zero => intro x2_L21 x3_L21 E_L21 hW; exact (wh_0 hW).elim
    | succ fu21 ih21 =>
      intro x2_L21 x3_L21 E_L21 hW
      obtain ⟨z21, h, hw21⟩ := wh_s hW
      replace h : fX5_playGame_L21 x1 x2_L21 x3_L21 E_L21 = some z21 := h
      unfold fX5_playGame_L21 at h
      refine g_aload_n C dX5_playGame_21 rfl 0 rfl ?_
      refine g_get (v := .ref (so 6)) C fl_X5_45 dX5_playGame_22 0 rfl rfl ?_
      refine g_get (v := .int ((E_L21.2 6).1 2)) C fl_X5_160 dX5_playGame_25 30 rfl rfl ?_
      refine g_iconst (v := (1 : Int32)) C dX5_playGame_28 (by decide) ?_
      refine g_icmp_le (tgt := 86) C dX5_playGame_29 (by decide) (fun c29 => ?_) (fun c29 => ?_)
      · have h := ifp h c29
        obtain rfl := sinj h
        obtain rfl := wk_r hw21
        have h := ser hK21
        refine g_lv [3] rfl ?_
        exact j86 x3_L21 E_L21 h
      · have h := ifn h c29
        refine g_iload_n C dX5_playGame_32 rfl 3 rfl ?_
        refine g_bipush (v := (16 : Int32)) C dX5_playGame_33 (by decide) ?_
        refine g_icmp_ge (tgt := 86) C dX5_playGame_35 (by decide) (fun c35 => ?_) (fun c35 => ?_)
        · have h := ifp h c35
          obtain rfl := sinj h
          obtain rfl := wk_r hw21
          have h := ser hK21
          refine g_lv [3] rfl ?_
          exact j86 x3_L21 E_L21 h
        · have h := ifn h c35
          refine g_aload_n C dX5_playGame_38 rfl 0 rfl ?_
          refine g_get (v := .ref (so 6)) C fl_X5_45 dX5_playGame_39 0 rfl rfl ?_
          refine g_aload_n C dX5_playGame_42 rfl 0 rfl ?_
          refine g_get (v := .ref (so 1)) C fl_X5_19 dX5_playGame_43 0 rfl rfl ?_
          obtain ⟨r46, h46, h⟩ := obd h
          refine g_callVi (st := [.ref (so 6)]) (ws2 := wEP cC cI cZ o so sa E_L21) C yv_X4_cells ml_X5_76 dX5_playGame_46 (kX4_cells l D cC cI cJ cZ (so 1) (sa 1) (E_L21.2 1) r46 h46) (gCut_at [3, 4, 5, 6, 7, 8, 9] [0, 1, 2, 10, 11, 12, 13, 14, 15, 16, 17, 18, 19, 20, 21, 22, 23, 24, 25, 26, 27, 28, 29, 30, 31, 32] [0, 1, 2, 26, 27, 28, 29, 30, 31, 32, 3, 4, 5, 6, 7, 8, 9, 10, 11, 12, 13, 14, 15, 16, 17, 18, 19, 20, 21, 22, 23, 24, 25] rfl rfl rfl rfl (by decide) rfl rfl) ⟨by decide, by decide⟩ ⟨rfl, rfl⟩ ⟨Nat.zero_le _, Nat.zero_le _⟩ rfl rfl (Nat.le_of_ble_eq_true rfl) 3 3 rfl rfl rfl ?_
          refine g_iload_n C dX5_playGame_49 rfl 2 rfl ?_
          obtain ⟨r50, h50, h⟩ := obd h
          refine g_callVi (st := []) (ws2 := wEP cC cI cZ o so sa E_L21) C yv_X0_bestLook ml_X5_167 dX5_playGame_50 (kX0_bestLook l D cC cI cJ cZ (so 6) (sa 6) 200 (E_L21.2 6) r46 x2_L21 r50 h50) (gCut_at [30, 31, 32] [0, 1, 2, 3, 4, 5, 6, 7, 8, 9, 10, 11, 12, 13, 14, 15, 16, 17, 18, 19, 20, 21, 22, 23, 24, 25, 26, 27, 28, 29] [0, 1, 2, 3, 4, 5, 6, 7, 8, 9, 10, 11, 12, 13, 14, 15, 16, 17, 18, 19, 20, 21, 22, 23, 24, 25, 26, 27, 28, 29, 30, 31, 32] rfl rfl rfl rfl (by decide) rfl rfl) ⟨by decide, by decide⟩ ⟨rfl, rfl⟩ ⟨Nat.zero_le _, Nat.zero_le _⟩ rfl rfl (Nat.le_of_ble_eq_true rfl) 0 30 rfl rfl rfl ?_
          refine g_istore (lv' := [(4, .int r50), (0, .ref o), (1, .int x1), (2, .int x2_L21), (3, .int x3_L21)]) C dX5_playGame_53 (by decide) rfl ?_
          refine g_iload C dX5_playGame_55 0 rfl ?_
          refine g_iconst (v := (-1 : Int32)) C dX5_playGame_57 (by decide) ?_
          refine g_icmp_ne (tgt := 63) C dX5_playGame_58 (by decide) (fun c58 => ?_) (fun c58 => ?_)
          · have h := ifn h c58
            refine g_iload_n C dX5_playGame_63 rfl 3 rfl ?_
            refine g_iconst (v := (1 : Int32)) C dX5_playGame_64 (by decide) ?_
            refine g_iload C dX5_playGame_65 0 rfl ?_
            refine g_ishl C dX5_playGame_67 ?_
            refine g_ior C dX5_playGame_68 ?_
            refine g_istore_n (lv' := [(2, .int (x2_L21 ||| ((1 : Int32) <<< (r50 &&& 31)))), (4, .int r50), (0, .ref o), (1, .int x1), (3, .int x3_L21)]) C dX5_playGame_69 rfl (by decide) rfl ?_
            refine g_aload_n C dX5_playGame_70 rfl 2 rfl ?_
            refine g_get (v := .ref (so 6)) C fl_X5_45 dX5_playGame_71 0 rfl rfl ?_
            refine g_iload_n C dX5_playGame_74 rfl 3 rfl ?_
            refine g_iload C dX5_playGame_75 1 rfl ?_
            obtain ⟨T77, h77, h⟩ := obd h
            refine g_callVv (st := []) (ws2 := wEP cC cI cZ o so sa (E_L21.1, (va_up E_L21.2 6 T77))) C yv_X0_keepLike ml_X5_301 dX5_playGame_77 (kX0_keepLike l D cC cI cJ cZ (so 6) (sa 6) 200 (E_L21.2 6) x1 r50 T77 h77) (gCut_at [30, 31, 32] [0, 1, 2, 3, 4, 5, 6, 7, 8, 9, 10, 11, 12, 13, 14, 15, 16, 17, 18, 19, 20, 21, 22, 23, 24, 25, 26, 27, 28, 29] [0, 1, 2, 3, 4, 5, 6, 7, 8, 9, 10, 11, 12, 13, 14, 15, 16, 17, 18, 19, 20, 21, 22, 23, 24, 25, 26, 27, 28, 29, 30, 31, 32] rfl rfl rfl rfl (by decide) rfl rfl) ⟨by decide, by decide⟩ ⟨rfl, rfl⟩ ⟨Nat.zero_le _, Nat.zero_le _⟩ rfl rfl (Nat.le_of_ble_eq_true rfl) 0 30 rfl rfl rfl ?_
            refine g_iinc (j := 4) (v := (x3_L21 + (1 : Int32))) (lv' := [(3, .int (x3_L21 + (1 : Int32))), (2, .int (x2_L21 ||| ((1 : Int32) <<< (r50 &&& 31)))), (4, .int r50), (0, .ref o), (1, .int x1)]) C dX5_playGame_80 rfl rfl (by decide) rfl ?_
            refine g_goto (tgt := 21) C dX5_playGame_83 (by decide) ?_
            obtain rfl := sinj h
            refine g_lv [3, 4, 1, 0] rfl ?_
            exact ih21 (x2_L21 ||| ((1 : Int32) <<< (r50 &&& 31))) (x3_L21 + (1 : Int32)) (E_L21.1, (va_up E_L21.2 6 T77)) hw21
          · have h := ifp h c58
            refine g_iload_n C dX5_playGame_61 rfl 4 rfl ?_
            obtain rfl := sinj h
            obtain rfl := wk_r hw21
            have h := sel hK21
            cases sinj h
            exact g_iret C dX5_playGame_62 rfl rfl hQ
  refine g_lv [2, 3, 1, 0] rfl ?_
  exact l21 100000 r4 (0 : Int32) (E.1, (va_up E.2 6 T18)) hW21
def fX5_games_L79 (x1_L79 : Int32) (x3_L79 : Int32) (x4_L79 : Int32) (x5_L79 : Int64) (x7_L79 : Int32) (x8_L79 : Int32) (x9_L79 : Int32) (E_L79 : OE) : Option ((Int64 × Int32 × Int32 × Int32 × OE) ⊕ (Int64 × Int32 × Int32 × OE)) :=
  (if x1_L79 ≤ x9_L79 then some (.inr (x5_L79, x7_L79, x8_L79, E_L79))
 else ((fX5_nextSeed x5_L79).bind (fun r87 => (if ¬ (65536 : Int64) = 0 then (if ¬ x4_L79.toInt64 = 0 then ((fX0_at 1690 (E_L79.2 5) (((r87 / (65536 : Int64)) - (r87 / (65536 : Int64)) / x4_L79.toInt64 * x4_L79.toInt64).toInt32)).bind (fun r108 => ((fX5_playGame E_L79 r108).bind (fun r => (fun r111 T111 => (if (2 : Int32) < r111 then some (.inl (r87, (x7_L79 + r111), x8_L79, (x9_L79 + (1 : Int32)), T111))
 else some (.inl (r87, (x7_L79 + r111), (x8_L79 + (1 : Int32)), (x9_L79 + (1 : Int32)), T111)))) r.1 r.2)))) else none) else none))))
def fX5_games_J138 (x3_J138 : Int32) (x5_J138 : Int64) (x7_J138 : Int32) (x8_J138 : Int32) (E_J138 : OE) : Option (Int32 × OE) :=
  (if x3_J138 = 0 then some (x7_J138, E_J138)
 else (if x3_J138 = (1 : Int32) then some (x8_J138, E_J138)
 else some (x5_J138.toInt32, E_J138)))
def fX5_games (E : OE) (x1 : Int32) (x2 : Int32) (x3 : Int32) : Option (Int32 × OE) :=
  (if x1 < (1 : Int32) then some ((-102 : Int32), E)
 else (if (10 : Int32) < x1 then some ((-102 : Int32), E)
 else (if x2 < 0 then some ((-102 : Int32), E)
 else (if x3 < 0 then some ((-102 : Int32), E)
 else (if x3 ≤ (2 : Int32) then ((fX4_isBoard (E.2 1)).bind (fun r31 => (if r31 = 0 then some ((-103 : Int32), E)
 else ((fX5_settled E).bind (fun T41 => (if ((T41.2 5).1 2) < (1 : Int32) then some ((-103 : Int32), T41)
 else (if ((T41.2 5).1 2) ≤ (200 : Int32) then ((wh (σ := Int64 × Int32 × Int32 × Int32 × OE) (ρ := Int64 × Int32 × Int32 × OE) (fun t => fX5_games_L79 x1 x3 ((T41.2 5).1 2) t.1 t.2.1 t.2.2.1 t.2.2.2.1 t.2.2.2.2) 100000 (x2.toInt64, (0 : Int32), (0 : Int32), (0 : Int32), T41)).bind (fun X => (fun e5_L79 e7_L79 e8_L79 E_E79 => fX5_games_J138 x3 e5_L79 e7_L79 e8_L79 E_E79) X.1 X.2.1 X.2.2.1 X.2.2.2))
 else some ((-103 : Int32), T41))))))))
 else some ((-102 : Int32), E))))))
set_option maxHeartbeats 4000000 in
set_option maxRecDepth 100000 in
theorem kX5_games (l : Launch) (D : va_G) (cC cI cJ cZ : ClassId) (o : Nat) (so : Nat → Nat) (sa : Nat → Nat → Nat) (E : OE) (x1 : Int32) (x2 : Int32) (x3 : Int32) (r : Int32) (E' : OE) (h : fX5_games E x1 x2 x3 = some (r, E')) : gMi l yX5_games cX5_games 11 (some .int) (gR 11) D (tysG cC cI cJ cZ) [.ref o, .int x1, .int x2, .int x3] (wEP cC cI cZ o so sa E) r (wEP cC cI cZ o so sa E') := by
  refine gMi_of (by decide) (Nat.le_of_ble_eq_true rfl) rfl ?_
  intro p e s m args below meth c A Q C hQ
  have j138 : ∀ (x3_J138 : Int32) (x5_J138 : Int64) (x7_J138 : Int32) (x8_J138 : Int32) (E_J138 : OE), fX5_games_J138 x3_J138 x5_J138 x7_J138 x8_J138 E_J138 = some (r, E') → gG p l e (gR 11) s m args below meth c 11 D A 0 0 Q 138 [(3, .int x3_J138), (5, .long x5_J138), (7, .int x7_J138), (8, .int x8_J138)] [] (wEP cC cI cZ o so sa E_J138) := by
    intro x3_J138 x5_J138 x7_J138 x8_J138 E_J138 h
    unfold fX5_games_J138 at h
    refine g_iload_n C dX5_games_138 rfl 0 rfl ?_
    refine g_if_ne (tgt := 145) C dX5_games_139 (by decide) (fun c139 => ?_) (fun c139 => ?_)
    · have h := ifn h c139
      refine g_iload_n C dX5_games_145 rfl 0 rfl ?_
      refine g_iconst (v := (1 : Int32)) C dX5_games_146 (by decide) ?_
      refine g_icmp_ne (tgt := 155) C dX5_games_147 (by decide) (fun c147 => ?_) (fun c147 => ?_)
      · have h := ifn h c147
        refine g_lload C dX5_games_155 1 rfl ?_
        refine g_l2i C dX5_games_157 ?_
        cases sinj h
        exact g_iret C dX5_games_158 rfl rfl hQ
      · have h := ifp h c147
        refine g_iload C dX5_games_150 3 rfl ?_
        refine g_goto (tgt := 158) C dX5_games_152 (by decide) ?_
        cases sinj h
        exact g_iret C dX5_games_158 rfl rfl hQ
    · have h := ifp h c139
      refine g_iload C dX5_games_142 2 rfl ?_
      cases sinj h
      exact g_iret C dX5_games_144 rfl rfl hQ
  unfold fX5_games at h
  refine g_iload_n C dX5_games_0 rfl 1 rfl ?_
  refine g_iconst (v := (1 : Int32)) C dX5_games_1 (by decide) ?_
  refine g_icmp_lt (tgt := 24) C dX5_games_2 (by decide) (fun c2 => ?_) (fun c2 => ?_)
  · have h := ifp h c2
    refine g_bipush (v := (-102 : Int32)) C dX5_games_24 (by decide) ?_
    cases sinj h
    exact g_iret C dX5_games_26 rfl rfl hQ
  · have h := ifn h c2
    refine g_iload_n C dX5_games_5 rfl 1 rfl ?_
    refine g_bipush (v := (10 : Int32)) C dX5_games_6 (by decide) ?_
    refine g_icmp_gt (tgt := 24) C dX5_games_8 (by decide) (fun c8 => ?_) (fun c8 => ?_)
    · have h := ifp h c8
      refine g_bipush (v := (-102 : Int32)) C dX5_games_24 (by decide) ?_
      cases sinj h
      exact g_iret C dX5_games_26 rfl rfl hQ
    · have h := ifn h c8
      refine g_iload_n C dX5_games_11 rfl 2 rfl ?_
      refine g_if_lt (tgt := 24) C dX5_games_12 (by decide) (fun c12 => ?_) (fun c12 => ?_)
      · have h := ifp h c12
        refine g_bipush (v := (-102 : Int32)) C dX5_games_24 (by decide) ?_
        cases sinj h
        exact g_iret C dX5_games_26 rfl rfl hQ
      · have h := ifn h c12
        refine g_iload_n C dX5_games_15 rfl 3 rfl ?_
        refine g_if_lt (tgt := 24) C dX5_games_16 (by decide) (fun c16 => ?_) (fun c16 => ?_)
        · have h := ifp h c16
          refine g_bipush (v := (-102 : Int32)) C dX5_games_24 (by decide) ?_
          cases sinj h
          exact g_iret C dX5_games_26 rfl rfl hQ
        · have h := ifn h c16
          refine g_iload_n C dX5_games_19 rfl 3 rfl ?_
          refine g_iconst (v := (2 : Int32)) C dX5_games_20 (by decide) ?_
          refine g_icmp_le (tgt := 27) C dX5_games_21 (by decide) (fun c21 => ?_) (fun c21 => ?_)
          · have h := ifp h c21
            refine g_aload_n C dX5_games_27 rfl 0 rfl ?_
            refine g_get (v := .ref (so 1)) C fl_X5_19 dX5_games_28 0 rfl rfl ?_
            obtain ⟨r31, h31, h⟩ := obd h
            refine g_callVi (st := []) (ws2 := wEP cC cI cZ o so sa E) C yv_X4_isBoard ml_X5_156 dX5_games_31 (kX4_isBoard l D cC cI cJ cZ (so 1) (sa 1) (E.2 1) r31 h31) (gCut_at [3, 4, 5, 6, 7, 8, 9] [0, 1, 2, 10, 11, 12, 13, 14, 15, 16, 17, 18, 19, 20, 21, 22, 23, 24, 25, 26, 27, 28, 29, 30, 31, 32] [0, 1, 2, 26, 27, 28, 29, 30, 31, 32, 3, 4, 5, 6, 7, 8, 9, 10, 11, 12, 13, 14, 15, 16, 17, 18, 19, 20, 21, 22, 23, 24, 25] rfl rfl rfl rfl (by decide) rfl rfl) ⟨by decide, by decide⟩ ⟨rfl, rfl⟩ ⟨Nat.zero_le _, Nat.zero_le _⟩ rfl rfl (Nat.le_of_ble_eq_true rfl) 3 3 rfl rfl rfl ?_
            refine g_if_ne (tgt := 40) C dX5_games_34 (by decide) (fun c34 => ?_) (fun c34 => ?_)
            · have h := ifn h c34
              refine g_aload_n C dX5_games_40 rfl 0 rfl ?_
              obtain ⟨T41, h41, h⟩ := obd h
              refine g_callVr (st := []) (ws2 := wEP cC cI cZ o so sa T41) C yv_X5_settled ml_X5_122 dX5_games_41 (kX5_settled l D cC cI cJ cZ o so sa E T41 h41) gCut_all ⟨by decide, by decide⟩ ⟨rfl, rfl⟩ ⟨Nat.zero_le _, Nat.zero_le _⟩ rfl rfl (Nat.le_of_ble_eq_true rfl) 4 0 rfl rfl rfl ?_
              refine g_get (v := .int ((T41.2 5).1 2)) C fl_X5_160 dX5_games_44 27 rfl rfl ?_
              refine g_istore (lv' := [(4, .int ((T41.2 5).1 2)), (0, .ref o), (1, .int x1), (2, .int x2), (3, .int x3)]) C dX5_games_47 (by decide) rfl ?_
              refine g_iload C dX5_games_49 0 rfl ?_
              refine g_iconst (v := (1 : Int32)) C dX5_games_51 (by decide) ?_
              refine g_icmp_lt (tgt := 63) C dX5_games_52 (by decide) (fun c52 => ?_) (fun c52 => ?_)
              · have h := ifp h c52
                refine g_bipush (v := (-103 : Int32)) C dX5_games_63 (by decide) ?_
                cases sinj h
                exact g_iret C dX5_games_65 rfl rfl hQ
              · have h := ifn h c52
                refine g_iload C dX5_games_55 0 rfl ?_
                refine g_sipush (v := (200 : Int32)) C dX5_games_57 (by decide) ?_
                refine g_icmp_le (tgt := 66) C dX5_games_60 (by decide) (fun c60 => ?_) (fun c60 => ?_)
                · have h := ifp h c60
                  refine g_iload_n C dX5_games_66 rfl 3 rfl ?_
                  refine g_i2l C dX5_games_67 ?_
                  refine g_lstore (lv' := [(5, .long x2.toInt64), (4, .int ((T41.2 5).1 2)), (0, .ref o), (1, .int x1), (2, .int x2), (3, .int x3)]) C dX5_games_68 (by decide) rfl ?_
                  refine g_iconst (v := (0 : Int32)) C dX5_games_70 (by decide) ?_
                  refine g_istore (lv' := [(7, .int (0 : Int32)), (5, .long x2.toInt64), (4, .int ((T41.2 5).1 2)), (0, .ref o), (1, .int x1), (2, .int x2), (3, .int x3)]) C dX5_games_71 (by decide) rfl ?_
                  refine g_iconst (v := (0 : Int32)) C dX5_games_73 (by decide) ?_
                  refine g_istore (lv' := [(8, .int (0 : Int32)), (7, .int (0 : Int32)), (5, .long x2.toInt64), (4, .int ((T41.2 5).1 2)), (0, .ref o), (1, .int x1), (2, .int x2), (3, .int x3)]) C dX5_games_74 (by decide) rfl ?_
                  refine g_iconst (v := (0 : Int32)) C dX5_games_76 (by decide) ?_
                  refine g_istore (lv' := [(9, .int (0 : Int32)), (8, .int (0 : Int32)), (7, .int (0 : Int32)), (5, .long x2.toInt64), (4, .int ((T41.2 5).1 2)), (0, .ref o), (1, .int x1), (2, .int x2), (3, .int x3)]) C dX5_games_77 (by decide) rfl ?_
                  obtain ⟨X79, hW79, hK79⟩ := obd h
                  have l79 : ∀ (fu79 : Nat) (x5_L79 : Int64) (x7_L79 : Int32) (x8_L79 : Int32) (x9_L79 : Int32) (E_L79 : OE), wh (σ := Int64 × Int32 × Int32 × Int32 × OE) (ρ := Int64 × Int32 × Int32 × OE) (fun t => fX5_games_L79 x1 x3 ((T41.2 5).1 2) t.1 t.2.1 t.2.2.1 t.2.2.2.1 t.2.2.2.2) fu79 (x5_L79, x7_L79, x8_L79, x9_L79, E_L79) = some X79 → gG p l e (gR 11) s m args below meth c 11 D A 0 0 Q 79 [(0, .ref o), (1, .int x1), (3, .int x3), (4, .int ((T41.2 5).1 2)), (5, .long x5_L79), (7, .int x7_L79), (8, .int x8_L79), (9, .int x9_L79)] [] (wEP cC cI cZ o so sa E_L79) := by
                    intro fu79
                    induction fu79 with
                    | zero => intro x5_L79 x7_L79 x8_L79 x9_L79 E_L79 hW; exact (wh_0 hW).elim
                    | succ fu79 ih79 =>
                      intro x5_L79 x7_L79 x8_L79 x9_L79 E_L79 hW
                      obtain ⟨z79, h, hw79⟩ := wh_s hW
                      replace h : fX5_games_L79 x1 x3 ((T41.2 5).1 2) x5_L79 x7_L79 x8_L79 x9_L79 E_L79 = some z79 := h
                      unfold fX5_games_L79 at h
                      refine g_iload C dX5_games_79 7 rfl ?_
                      refine g_iload_n C dX5_games_81 rfl 1 rfl ?_
                      refine g_icmp_ge (tgt := 138) C dX5_games_82 (by decide) (fun c82 => ?_) (fun c82 => ?_)
                      · have h := ifp h c82
                        obtain rfl := sinj h
                        obtain rfl := wk_r hw79
                        have h := hK79
                        refine g_lv [2, 4, 5, 6] rfl ?_
                        exact j138 x3 x5_L79 x7_L79 x8_L79 E_L79 h
                      · have h := ifn h c82
                        refine g_lload C dX5_games_85 4 rfl ?_
                        obtain ⟨r87, h87, h⟩ := obd h
                        refine g_callSl (st := []) (ws2 := wEP cC cI cZ o so sa E_L79) C ys_X5_nextSeed ml_X5_207 dX5_games_87 (kX5_nextSeed l D cC cI cJ cZ x5_L79 r87 h87) gCut_nil ⟨by decide, by decide⟩ ⟨rfl, rfl⟩ ⟨Nat.zero_le _, Nat.zero_le _⟩ rfl rfl (Nat.le_of_ble_eq_true rfl) ?_
                        refine g_lstore (lv' := [(5, .long r87), (0, .ref o), (1, .int x1), (3, .int x3), (4, .int ((T41.2 5).1 2)), (7, .int x7_L79), (8, .int x8_L79), (9, .int x9_L79)]) C dX5_games_90 (by decide) rfl ?_
                        refine g_aload_n C dX5_games_92 rfl 1 rfl ?_
                        refine g_aload_n C dX5_games_93 rfl 1 rfl ?_
                        refine g_get (v := .ref (so 5)) C fl_X5_41 dX5_games_94 0 rfl rfl ?_
                        refine g_lload C dX5_games_97 0 rfl ?_
                        refine g_ldc2 C dX5_games_99 ck_X5_211 ?_
                        obtain ⟨hg102, h⟩ := ifg h
                        refine g_ldiv C dX5_games_102 hg102 ?_
                        refine g_iload C dX5_games_103 4 rfl ?_
                        refine g_i2l C dX5_games_105 ?_
                        obtain ⟨hg106, h⟩ := ifg h
                        refine g_lrem C dX5_games_106 hg106 ?_
                        refine g_l2i C dX5_games_107 ?_
                        obtain ⟨r108, h108, h⟩ := obd h
                        refine g_callVi (st := [.ref o]) (ws2 := wEP cC cI cZ o so sa E_L79) C yv_X0_at ml_X5_161 dX5_games_108 (kX0_at l D cC cI cJ cZ (so 5) (sa 5) 1690 (E_L79.2 5) (((r87 / (65536 : Int64)) - (r87 / (65536 : Int64)) / ((T41.2 5).1 2).toInt64 * ((T41.2 5).1 2).toInt64).toInt32) r108 h108) (gCut_at [27, 28, 29] [0, 1, 2, 3, 4, 5, 6, 7, 8, 9, 10, 11, 12, 13, 14, 15, 16, 17, 18, 19, 20, 21, 22, 23, 24, 25, 26, 30, 31, 32] [0, 1, 2, 3, 4, 5, 6, 7, 8, 9, 10, 11, 12, 13, 14, 15, 16, 17, 18, 19, 20, 21, 22, 23, 24, 25, 26, 30, 31, 32, 27, 28, 29] rfl rfl rfl rfl (by decide) rfl rfl) ⟨by decide, by decide⟩ ⟨rfl, rfl⟩ ⟨Nat.zero_le _, Nat.zero_le _⟩ rfl rfl (Nat.le_of_ble_eq_true rfl) 0 27 rfl rfl rfl ?_
                        obtain ⟨⟨r111, T111⟩, h111, h⟩ := obd h
                        refine g_callVi (st := []) (ws2 := wEP cC cI cZ o so sa T111) C yv_X5_playGame ml_X5_213 dX5_games_111 (kX5_playGame l D cC cI cJ cZ o so sa E_L79 r108 r111 T111 h111) gCut_all ⟨by decide, by decide⟩ ⟨rfl, rfl⟩ ⟨Nat.zero_le _, Nat.zero_le _⟩ rfl rfl (Nat.le_of_ble_eq_true rfl) 4 0 rfl rfl rfl ?_
                        refine g_istore (lv' := [(10, .int r111), (5, .long r87), (0, .ref o), (1, .int x1), (3, .int x3), (4, .int ((T41.2 5).1 2)), (7, .int x7_L79), (8, .int x8_L79), (9, .int x9_L79)]) C dX5_games_114 (by decide) rfl ?_
                        refine g_iload C dX5_games_116 6 rfl ?_
                        refine g_iload C dX5_games_118 0 rfl ?_
                        refine g_iadd C dX5_games_120 ?_
                        refine g_istore (lv' := [(7, .int (x7_L79 + r111)), (10, .int r111), (5, .long r87), (0, .ref o), (1, .int x1), (3, .int x3), (4, .int ((T41.2 5).1 2)), (8, .int x8_L79), (9, .int x9_L79)]) C dX5_games_121 (by decide) rfl ?_
                        refine g_iload C dX5_games_123 1 rfl ?_
                        refine g_iconst (v := (2 : Int32)) C dX5_games_125 (by decide) ?_
                        refine g_icmp_gt (tgt := 132) C dX5_games_126 (by decide) (fun c126 => ?_) (fun c126 => ?_)
                        · have h := ifp h c126
                          refine g_iinc (j := 8) (v := (x9_L79 + (1 : Int32))) (lv' := [(9, .int (x9_L79 + (1 : Int32))), (7, .int (x7_L79 + r111)), (10, .int r111), (5, .long r87), (0, .ref o), (1, .int x1), (3, .int x3), (4, .int ((T41.2 5).1 2)), (8, .int x8_L79)]) C dX5_games_132 rfl rfl (by decide) rfl ?_
                          refine g_goto (tgt := 79) C dX5_games_135 (by decide) ?_
                          obtain rfl := sinj h
                          refine g_lv [4, 5, 6, 7, 3, 1, 8, 0] rfl ?_
                          exact ih79 r87 (x7_L79 + r111) x8_L79 (x9_L79 + (1 : Int32)) T111 hw79
                        · have h := ifn h c126
                          refine g_iinc (j := 7) (v := (x8_L79 + (1 : Int32))) (lv' := [(8, .int (x8_L79 + (1 : Int32))), (7, .int (x7_L79 + r111)), (10, .int r111), (5, .long r87), (0, .ref o), (1, .int x1), (3, .int x3), (4, .int ((T41.2 5).1 2)), (9, .int x9_L79)]) C dX5_games_129 rfl rfl (by decide) rfl ?_
                          refine g_iinc (j := 8) (v := (x9_L79 + (1 : Int32))) (lv' := [(9, .int (x9_L79 + (1 : Int32))), (8, .int (x8_L79 + (1 : Int32))), (7, .int (x7_L79 + r111)), (10, .int r111), (5, .long r87), (0, .ref o), (1, .int x1), (3, .int x3), (4, .int ((T41.2 5).1 2))]) C dX5_games_132 rfl rfl (by decide) rfl ?_
                          refine g_goto (tgt := 79) C dX5_games_135 (by decide) ?_
                          obtain rfl := sinj h
                          refine g_lv [5, 6, 7, 8, 4, 2, 1, 0] rfl ?_
                          exact ih79 r87 (x7_L79 + r111) (x8_L79 + (1 : Int32)) (x9_L79 + (1 : Int32)) T111 hw79
                  refine g_lv [5, 6, 8, 4, 3, 2, 1, 0] rfl ?_
                  exact l79 100000 x2.toInt64 (0 : Int32) (0 : Int32) (0 : Int32) T41 hW79
                · have h := ifn h c60
                  refine g_bipush (v := (-103 : Int32)) C dX5_games_63 (by decide) ?_
                  cases sinj h
                  exact g_iret C dX5_games_65 rfl rfl hQ
            · have h := ifp h c34
              refine g_bipush (v := (-103 : Int32)) C dX5_games_37 (by decide) ?_
              cases sinj h
              exact g_iret C dX5_games_39 rfl rfl hQ
          · have h := ifn h c21
            refine g_bipush (v := (-102 : Int32)) C dX5_games_24 (by decide) ?_
            cases sinj h
            exact g_iret C dX5_games_26 rfl rfl hQ
def fX5_image (E : OE)  : Option (Int32 × OE) :=
  ((fX4_isBoard (E.2 1)).bind (fun r4 => (if r4 = 0 then some ((-103 : Int32), E)
 else ((fX4_copyFrom (E.2 2) (E.2 1)).bind (fun T21 => ((fX4_markedCells T21).bind (fun r33 => some (r33, ((va_up E.1 8 (1 : Int32)), (va_up E.2 2 T21))))))))))
set_option maxHeartbeats 4000000 in
set_option maxRecDepth 100000 in
theorem kX5_image (l : Launch) (D : va_G) (cC cI cJ cZ : ClassId) (o : Nat) (so : Nat → Nat) (sa : Nat → Nat → Nat) (E : OE)  (r : Int32) (E' : OE) (h : fX5_image E = some (r, E')) : gMi l yX5_image cX5_image 1 (some .int) (gR 3) D (tysG cC cI cJ cZ) [.ref o] (wEP cC cI cZ o so sa E) r (wEP cC cI cZ o so sa E') := by
  refine gMi_of (by decide) (Nat.le_of_ble_eq_true rfl) rfl ?_
  intro p e s m args below meth c A Q C hQ
  unfold fX5_image at h
  refine g_aload_n C dX5_image_0 rfl 0 rfl ?_
  refine g_get (v := .ref (so 1)) C fl_X5_19 dX5_image_1 0 rfl rfl ?_
  obtain ⟨r4, h4, h⟩ := obd h
  refine g_callVi (st := []) (ws2 := wEP cC cI cZ o so sa E) C yv_X4_isBoard ml_X5_156 dX5_image_4 (kX4_isBoard l D cC cI cJ cZ (so 1) (sa 1) (E.2 1) r4 h4) (gCut_at [3, 4, 5, 6, 7, 8, 9] [0, 1, 2, 10, 11, 12, 13, 14, 15, 16, 17, 18, 19, 20, 21, 22, 23, 24, 25, 26, 27, 28, 29, 30, 31, 32] [0, 1, 2, 26, 27, 28, 29, 30, 31, 32, 3, 4, 5, 6, 7, 8, 9, 10, 11, 12, 13, 14, 15, 16, 17, 18, 19, 20, 21, 22, 23, 24, 25] rfl rfl rfl rfl (by decide) rfl rfl) ⟨by decide, by decide⟩ ⟨rfl, rfl⟩ ⟨Nat.zero_le _, Nat.zero_le _⟩ rfl rfl (Nat.le_of_ble_eq_true rfl) 3 3 rfl rfl rfl ?_
  refine g_if_ne (tgt := 13) C dX5_image_7 (by decide) (fun c7 => ?_) (fun c7 => ?_)
  · have h := ifn h c7
    refine g_aload_n C dX5_image_13 rfl 0 rfl ?_
    refine g_get (v := .ref (so 2)) C fl_X5_23 dX5_image_14 0 rfl rfl ?_
    refine g_aload_n C dX5_image_17 rfl 0 rfl ?_
    refine g_get (v := .ref (so 1)) C fl_X5_19 dX5_image_18 0 rfl rfl ?_
    obtain ⟨T21, h21, h⟩ := obd h
    refine g_callVv (st := []) (ws2 := wEP cC cI cZ o so sa (E.1, (va_up E.2 2 T21))) C yv_X4_copyFrom ml_X5_62 dX5_image_21 (kX4_copyFrom l D cC cI cJ cZ (so 2) (sa 2) (so 1) (sa 1) (E.2 2) (E.2 1) T21 h21) (gCut_at [10, 11, 12, 13, 14, 15, 16, 3, 4, 5, 6, 7, 8, 9] [0, 1, 2, 17, 18, 19, 20, 21, 22, 23, 24, 25, 26, 27, 28, 29, 30, 31, 32] [0, 1, 2, 26, 27, 28, 29, 30, 31, 32, 19, 20, 21, 22, 23, 24, 25, 3, 4, 5, 6, 7, 8, 9, 10, 11, 12, 13, 14, 15, 16, 17, 18] rfl rfl rfl rfl (by decide) rfl rfl) ⟨by decide, by decide⟩ ⟨rfl, rfl⟩ ⟨Nat.zero_le _, Nat.zero_le _⟩ rfl rfl (Nat.le_of_ble_eq_true rfl) 3 10 rfl rfl rfl ?_
    refine g_aload_n C dX5_image_24 rfl 0 rfl ?_
    refine g_iconst (v := (1 : Int32)) C dX5_image_25 (by decide) ?_
    refine g_put (ws2 := wEP cC cI cZ o so sa ((va_up E.1 8 (1 : Int32)), (va_up E.2 2 T21))) C fp_X5_69 dX5_image_26 0 rfl rfl rfl (Nat.le_of_ble_eq_true rfl) rfl ?_
    refine g_aload_n C dX5_image_29 rfl 0 rfl ?_
    refine g_get (v := .ref (so 2)) C fl_X5_23 dX5_image_30 0 rfl rfl ?_
    obtain ⟨r33, h33, h⟩ := obd h
    refine g_callVi (st := []) (ws2 := wEP cC cI cZ o so sa ((va_up E.1 8 (1 : Int32)), (va_up E.2 2 T21))) C yv_X4_markedCells ml_X5_143 dX5_image_33 (kX4_markedCells l D cC cI cJ cZ (so 2) (sa 2) T21 r33 h33) (gCut_at [10, 11, 12, 13, 14, 15, 16] [0, 1, 2, 3, 4, 5, 6, 7, 8, 9, 17, 18, 19, 20, 21, 22, 23, 24, 25, 26, 27, 28, 29, 30, 31, 32] [0, 1, 2, 3, 4, 5, 6, 7, 8, 9, 26, 27, 28, 29, 30, 31, 32, 10, 11, 12, 13, 14, 15, 16, 17, 18, 19, 20, 21, 22, 23, 24, 25] rfl rfl rfl rfl (by decide) rfl rfl) ⟨by decide, by decide⟩ ⟨rfl, rfl⟩ ⟨Nat.zero_le _, Nat.zero_le _⟩ rfl rfl (Nat.le_of_ble_eq_true rfl) 3 10 rfl rfl rfl ?_
    cases sinj h
    exact g_iret C dX5_image_36 rfl rfl hQ
  · have h := ifp h c7
    refine g_bipush (v := (-103 : Int32)) C dX5_image_10 (by decide) ?_
    cases sinj h
    exact g_iret C dX5_image_12 rfl rfl hQ
def fX5_restore (E : OE)  : Option (Int32 × OE) :=
  (if (E.1 8) = 0 then some ((-103 : Int32), E)
 else ((fX4_copyFrom (E.2 1) (E.2 2)).bind (fun T18 => ((fX4_markedCells T18).bind (fun r30 => some (r30, ((va_up E.1 7 (1 : Int32)), (va_up E.2 1 T18))))))))
set_option maxHeartbeats 4000000 in
set_option maxRecDepth 100000 in
theorem kX5_restore (l : Launch) (D : va_G) (cC cI cJ cZ : ClassId) (o : Nat) (so : Nat → Nat) (sa : Nat → Nat → Nat) (E : OE)  (r : Int32) (E' : OE) (h : fX5_restore E = some (r, E')) : gMi l yX5_restore cX5_restore 1 (some .int) (gR 3) D (tysG cC cI cJ cZ) [.ref o] (wEP cC cI cZ o so sa E) r (wEP cC cI cZ o so sa E') := by
  refine gMi_of (by decide) (Nat.le_of_ble_eq_true rfl) rfl ?_
  intro p e s m args below meth c A Q C hQ
  unfold fX5_restore at h
  refine g_aload_n C dX5_restore_0 rfl 0 rfl ?_
  refine g_get (v := .int (E.1 8)) C fl_X5_69 dX5_restore_1 0 rfl rfl ?_
  refine g_if_ne (tgt := 10) C dX5_restore_4 (by decide) (fun c4 => ?_) (fun c4 => ?_)
  · have h := ifn h c4
    refine g_aload_n C dX5_restore_10 rfl 0 rfl ?_
    refine g_get (v := .ref (so 1)) C fl_X5_19 dX5_restore_11 0 rfl rfl ?_
    refine g_aload_n C dX5_restore_14 rfl 0 rfl ?_
    refine g_get (v := .ref (so 2)) C fl_X5_23 dX5_restore_15 0 rfl rfl ?_
    obtain ⟨T18, h18, h⟩ := obd h
    refine g_callVv (st := []) (ws2 := wEP cC cI cZ o so sa (E.1, (va_up E.2 1 T18))) C yv_X4_copyFrom ml_X5_62 dX5_restore_18 (kX4_copyFrom l D cC cI cJ cZ (so 1) (sa 1) (so 2) (sa 2) (E.2 1) (E.2 2) T18 h18) (gCut_at [3, 4, 5, 6, 7, 8, 9, 10, 11, 12, 13, 14, 15, 16] [0, 1, 2, 17, 18, 19, 20, 21, 22, 23, 24, 25, 26, 27, 28, 29, 30, 31, 32] [0, 1, 2, 19, 20, 21, 22, 23, 24, 25, 26, 27, 28, 29, 30, 31, 32, 3, 4, 5, 6, 7, 8, 9, 10, 11, 12, 13, 14, 15, 16, 17, 18] rfl rfl rfl rfl (by decide) rfl rfl) ⟨by decide, by decide⟩ ⟨rfl, rfl⟩ ⟨Nat.zero_le _, Nat.zero_le _⟩ rfl rfl (Nat.le_of_ble_eq_true rfl) 3 3 rfl rfl rfl ?_
    refine g_aload_n C dX5_restore_21 rfl 0 rfl ?_
    refine g_iconst (v := (1 : Int32)) C dX5_restore_22 (by decide) ?_
    refine g_put (ws2 := wEP cC cI cZ o so sa ((va_up E.1 7 (1 : Int32)), (va_up E.2 1 T18))) C fp_X5_73 dX5_restore_23 0 rfl rfl rfl (Nat.le_of_ble_eq_true rfl) rfl ?_
    refine g_aload_n C dX5_restore_26 rfl 0 rfl ?_
    refine g_get (v := .ref (so 1)) C fl_X5_19 dX5_restore_27 0 rfl rfl ?_
    obtain ⟨r30, h30, h⟩ := obd h
    refine g_callVi (st := []) (ws2 := wEP cC cI cZ o so sa ((va_up E.1 7 (1 : Int32)), (va_up E.2 1 T18))) C yv_X4_markedCells ml_X5_143 dX5_restore_30 (kX4_markedCells l D cC cI cJ cZ (so 1) (sa 1) T18 r30 h30) (gCut_at [3, 4, 5, 6, 7, 8, 9] [0, 1, 2, 10, 11, 12, 13, 14, 15, 16, 17, 18, 19, 20, 21, 22, 23, 24, 25, 26, 27, 28, 29, 30, 31, 32] [0, 1, 2, 26, 27, 28, 29, 30, 31, 32, 3, 4, 5, 6, 7, 8, 9, 10, 11, 12, 13, 14, 15, 16, 17, 18, 19, 20, 21, 22, 23, 24, 25] rfl rfl rfl rfl (by decide) rfl rfl) ⟨by decide, by decide⟩ ⟨rfl, rfl⟩ ⟨Nat.zero_le _, Nat.zero_le _⟩ rfl rfl (Nat.le_of_ble_eq_true rfl) 3 3 rfl rfl rfl ?_
    cases sinj h
    exact g_iret C dX5_restore_33 rfl rfl hQ
  · have h := ifp h c4
    refine g_bipush (v := (-103 : Int32)) C dX5_restore_7 (by decide) ?_
    cases sinj h
    exact g_iret C dX5_restore_9 rfl rfl hQ
def fX5_sureCells_L4 (x1_L4 : Int32) (x2_L4 : Int32) (E_L4 : OE) : Option ((Int32 × Int32 × OE) ⊕ (Int32 × OE)) :=
  ((fX4_cells (E_L4.2 1)).bind (fun r9 => (if r9 ≤ x2_L4 then some (.inr (x1_L4, E_L4))
 else ((fX5_settled E_L4).bind (fun T16 => ((fX0_sure 1690 (T16.2 5) x2_L4).bind (fun r20 => (if r20 = (-1 : Int32) then some (.inl (x1_L4, (x2_L4 + (1 : Int32)), T16))
 else some (.inl ((x1_L4 + (1 : Int32)), (x2_L4 + (1 : Int32)), T16))))))))))
def fX5_sureCells_J36 (x1_J36 : Int32) (E_J36 : OE) : Option (Int32 × OE) :=
  some (x1_J36, E_J36)
def fX5_sureCells (E : OE)  : Option (Int32 × OE) :=
  ((wh (σ := Int32 × Int32 × OE) (ρ := Int32 × OE) (fun t => fX5_sureCells_L4 t.1 t.2.1 t.2.2) 100000 ((0 : Int32), (0 : Int32), E)).bind (fun X => (fun e1_L4 E_E4 => fX5_sureCells_J36 e1_L4 E_E4) X.1 X.2))
set_option maxHeartbeats 4000000 in
set_option maxRecDepth 100000 in
theorem kX5_sureCells (l : Launch) (D : va_G) (cC cI cJ cZ : ClassId) (o : Nat) (so : Nat → Nat) (sa : Nat → Nat → Nat) (E : OE)  (r : Int32) (E' : OE) (h : fX5_sureCells E = some (r, E')) : gMi l yX5_sureCells cX5_sureCells 3 (some .int) (gR 11) D (tysG cC cI cJ cZ) [.ref o] (wEP cC cI cZ o so sa E) r (wEP cC cI cZ o so sa E') := by
  refine gMi_of (by decide) (Nat.le_of_ble_eq_true rfl) rfl ?_
  intro p e s m args below meth c A Q C hQ
  have j36 : ∀ (x1_J36 : Int32) (E_J36 : OE), fX5_sureCells_J36 x1_J36 E_J36 = some (r, E') → gG p l e (gR 11) s m args below meth c 3 D A 0 0 Q 36 [(1, .int x1_J36)] [] (wEP cC cI cZ o so sa E_J36) := by
    intro x1_J36 E_J36 h
    unfold fX5_sureCells_J36 at h
    refine g_iload_n C dX5_sureCells_36 rfl 0 rfl ?_
    cases sinj h
    exact g_iret C dX5_sureCells_37 rfl rfl hQ
  unfold fX5_sureCells at h
  refine g_iconst (v := (0 : Int32)) C dX5_sureCells_0 (by decide) ?_
  refine g_istore_n (lv' := [(1, .int (0 : Int32)), (0, .ref o)]) C dX5_sureCells_1 rfl (by decide) rfl ?_
  refine g_iconst (v := (0 : Int32)) C dX5_sureCells_2 (by decide) ?_
  refine g_istore_n (lv' := [(2, .int (0 : Int32)), (1, .int (0 : Int32)), (0, .ref o)]) C dX5_sureCells_3 rfl (by decide) rfl ?_
  obtain ⟨X4, hW4, hK4⟩ := obd h
  have l4 : ∀ (fu4 : Nat) (x1_L4 : Int32) (x2_L4 : Int32) (E_L4 : OE), wh (σ := Int32 × Int32 × OE) (ρ := Int32 × OE) (fun t => fX5_sureCells_L4 t.1 t.2.1 t.2.2) fu4 (x1_L4, x2_L4, E_L4) = some X4 → gG p l e (gR 11) s m args below meth c 3 D A 0 0 Q 4 [(0, .ref o), (1, .int x1_L4), (2, .int x2_L4)] [] (wEP cC cI cZ o so sa E_L4) := by
    intro fu4
    induction fu4 with
    | zero => intro x1_L4 x2_L4 E_L4 hW; exact (wh_0 hW).elim
    | succ fu4 ih4 =>
      intro x1_L4 x2_L4 E_L4 hW
      obtain ⟨z4, h, hw4⟩ := wh_s hW
      replace h : fX5_sureCells_L4 x1_L4 x2_L4 E_L4 = some z4 := h
      unfold fX5_sureCells_L4 at h
      refine g_iload_n C dX5_sureCells_4 rfl 2 rfl ?_
      refine g_aload_n C dX5_sureCells_5 rfl 0 rfl ?_
      refine g_get (v := .ref (so 1)) C fl_X5_19 dX5_sureCells_6 0 rfl rfl ?_
      obtain ⟨r9, h9, h⟩ := obd h
      refine g_callVi (st := [.int x2_L4]) (ws2 := wEP cC cI cZ o so sa E_L4) C yv_X4_cells ml_X5_76 dX5_sureCells_9 (kX4_cells l D cC cI cJ cZ (so 1) (sa 1) (E_L4.2 1) r9 h9) (gCut_at [3, 4, 5, 6, 7, 8, 9] [0, 1, 2, 10, 11, 12, 13, 14, 15, 16, 17, 18, 19, 20, 21, 22, 23, 24, 25, 26, 27, 28, 29, 30, 31, 32] [0, 1, 2, 26, 27, 28, 29, 30, 31, 32, 3, 4, 5, 6, 7, 8, 9, 10, 11, 12, 13, 14, 15, 16, 17, 18, 19, 20, 21, 22, 23, 24, 25] rfl rfl rfl rfl (by decide) rfl rfl) ⟨by decide, by decide⟩ ⟨rfl, rfl⟩ ⟨Nat.zero_le _, Nat.zero_le _⟩ rfl rfl (Nat.le_of_ble_eq_true rfl) 3 3 rfl rfl rfl ?_
      refine g_icmp_ge (tgt := 36) C dX5_sureCells_12 (by decide) (fun c12 => ?_) (fun c12 => ?_)
      · have h := ifp h c12
        obtain rfl := sinj h
        obtain rfl := wk_r hw4
        have h := hK4
        refine g_lv [1] rfl ?_
        exact j36 x1_L4 E_L4 h
      · have h := ifn h c12
        refine g_aload_n C dX5_sureCells_15 rfl 0 rfl ?_
        obtain ⟨T16, h16, h⟩ := obd h
        refine g_callVr (st := []) (ws2 := wEP cC cI cZ o so sa T16) C yv_X5_settled ml_X5_122 dX5_sureCells_16 (kX5_settled l D cC cI cJ cZ o so sa E_L4 T16 h16) gCut_all ⟨by decide, by decide⟩ ⟨rfl, rfl⟩ ⟨Nat.zero_le _, Nat.zero_le _⟩ rfl rfl (Nat.le_of_ble_eq_true rfl) 4 0 rfl rfl rfl ?_
        refine g_iload_n C dX5_sureCells_19 rfl 2 rfl ?_
        obtain ⟨r20, h20, h⟩ := obd h
        refine g_callVi (st := []) (ws2 := wEP cC cI cZ o so sa T16) C yv_X0_sure ml_X5_129 dX5_sureCells_20 (kX0_sure l D cC cI cJ cZ (so 5) (sa 5) 1690 (T16.2 5) x2_L4 r20 h20) (gCut_at [27, 28, 29] [0, 1, 2, 3, 4, 5, 6, 7, 8, 9, 10, 11, 12, 13, 14, 15, 16, 17, 18, 19, 20, 21, 22, 23, 24, 25, 26, 30, 31, 32] [0, 1, 2, 3, 4, 5, 6, 7, 8, 9, 10, 11, 12, 13, 14, 15, 16, 17, 18, 19, 20, 21, 22, 23, 24, 25, 26, 30, 31, 32, 27, 28, 29] rfl rfl rfl rfl (by decide) rfl rfl) ⟨by decide, by decide⟩ ⟨rfl, rfl⟩ ⟨Nat.zero_le _, Nat.zero_le _⟩ rfl rfl (Nat.le_of_ble_eq_true rfl) 0 27 rfl rfl rfl ?_
        refine g_iconst (v := (-1 : Int32)) C dX5_sureCells_23 (by decide) ?_
        refine g_icmp_eq (tgt := 30) C dX5_sureCells_24 (by decide) (fun c24 => ?_) (fun c24 => ?_)
        · have h := ifp h c24
          refine g_iinc (j := 2) (v := (x2_L4 + (1 : Int32))) (lv' := [(2, .int (x2_L4 + (1 : Int32))), (0, .ref o), (1, .int x1_L4)]) C dX5_sureCells_30 rfl rfl (by decide) rfl ?_
          refine g_goto (tgt := 4) C dX5_sureCells_33 (by decide) ?_
          obtain rfl := sinj h
          refine g_lv [1, 2, 0] rfl ?_
          exact ih4 x1_L4 (x2_L4 + (1 : Int32)) T16 hw4
        · have h := ifn h c24
          refine g_iinc (j := 1) (v := (x1_L4 + (1 : Int32))) (lv' := [(1, .int (x1_L4 + (1 : Int32))), (0, .ref o), (2, .int x2_L4)]) C dX5_sureCells_27 rfl rfl (by decide) rfl ?_
          refine g_iinc (j := 2) (v := (x2_L4 + (1 : Int32))) (lv' := [(2, .int (x2_L4 + (1 : Int32))), (1, .int (x1_L4 + (1 : Int32))), (0, .ref o)]) C dX5_sureCells_30 rfl rfl (by decide) rfl ?_
          refine g_goto (tgt := 4) C dX5_sureCells_33 (by decide) ?_
          obtain rfl := sinj h
          refine g_lv [2, 1, 0] rfl ?_
          exact ih4 (x1_L4 + (1 : Int32)) (x2_L4 + (1 : Int32)) T16 hw4
  refine g_lv [2, 1, 0] rfl ?_
  exact l4 100000 (0 : Int32) (0 : Int32) E hW4
def fX5_count (E : OE) (x1 : Int32) : Option (Int32 × OE) :=
  (if x1 = 0 then some (((E.2 1).1 0), E)
 else (if x1 = 1 then some (((E.2 1).1 1), E)
 else (if x1 = 2 then ((fX4_lines (E.2 1)).bind (fun r80 => some (r80, E)))
 else (if x1 = 3 then ((fbitCount ((E.2 1).1 5)).bind (fun r91 => some (r91, E)))
 else (if x1 = 4 then ((fbitCount ((E.2 1).1 6)).bind (fun r102 => some (r102, E)))
 else (if x1 = 5 then ((fX5_sureCells E).bind (fun r => (fun r107 T107 => some (r107, T107)) r.1 r.2))
 else (if x1 = 6 then some (((E.2 1).1 10), E)
 else (if x1 = 7 then some (((E.2 0).1 1), E)
 else (if x1 = 8 then some ((E.1 9), E)
 else (if x1 = 9 then some ((E.1 10), E)
 else (if x1 = 10 then some ((E.1 11), E)
 else some ((-102 : Int32), E))))))))))))
set_option maxHeartbeats 4000000 in
set_option maxRecDepth 100000 in
theorem kX5_count (l : Launch) (D : va_G) (cC cI cJ cZ : ClassId) (o : Nat) (so : Nat → Nat) (sa : Nat → Nat → Nat) (E : OE) (x1 : Int32) (r : Int32) (E' : OE) (h : fX5_count E x1 = some (r, E')) : gMi l yX5_count cX5_count 2 (some .int) (gR 12) D (tysG cC cI cJ cZ) [.ref o, .int x1] (wEP cC cI cZ o so sa E) r (wEP cC cI cZ o so sa E') := by
  refine gMi_of (by decide) (Nat.le_of_ble_eq_true rfl) rfl ?_
  intro p e s m args below meth c A Q C hQ
  unfold fX5_count at h
  refine g_iload_n C dX5_count_0 rfl 1 rfl ?_
  by_cases c1_0 : x1 = 0
  · have h := ifp h c1_0
    refine g_tableAt (v := 0) (off := 59) (tgt := 60) C dX5_count_1 c1_0 (by decide) (by decide) rfl (by decide) ?_
    refine g_aload_n C dX5_count_60 rfl 0 rfl ?_
    refine g_get (v := .ref (so 1)) C fl_X5_19 dX5_count_61 0 rfl rfl ?_
    refine g_get (v := .int ((E.2 1).1 0)) C fl_X5_216 dX5_count_64 3 rfl rfl ?_
    cases sinj h
    exact g_iret C dX5_count_67 rfl rfl hQ
  · have h := ifn h c1_0
    by_cases c1_1 : x1 = 1
    · have h := ifp h c1_1
      refine g_tableAt (v := 1) (off := 67) (tgt := 68) C dX5_count_1 c1_1 (by decide) (by decide) rfl (by decide) ?_
      refine g_aload_n C dX5_count_68 rfl 0 rfl ?_
      refine g_get (v := .ref (so 1)) C fl_X5_19 dX5_count_69 0 rfl rfl ?_
      refine g_get (v := .int ((E.2 1).1 1)) C fl_X5_219 dX5_count_72 3 rfl rfl ?_
      cases sinj h
      exact g_iret C dX5_count_75 rfl rfl hQ
    · have h := ifn h c1_1
      by_cases c1_2 : x1 = 2
      · have h := ifp h c1_2
        refine g_tableAt (v := 2) (off := 75) (tgt := 76) C dX5_count_1 c1_2 (by decide) (by decide) rfl (by decide) ?_
        refine g_aload_n C dX5_count_76 rfl 0 rfl ?_
        refine g_get (v := .ref (so 1)) C fl_X5_19 dX5_count_77 0 rfl rfl ?_
        obtain ⟨r80, h80, h⟩ := obd h
        refine g_callVi (st := []) (ws2 := wEP cC cI cZ o so sa E) C yv_X4_lines ml_X5_194 dX5_count_80 (kX4_lines l D cC cI cJ cZ (so 1) (sa 1) (E.2 1) r80 h80) (gCut_at [3, 4, 5, 6, 7, 8, 9] [0, 1, 2, 10, 11, 12, 13, 14, 15, 16, 17, 18, 19, 20, 21, 22, 23, 24, 25, 26, 27, 28, 29, 30, 31, 32] [0, 1, 2, 26, 27, 28, 29, 30, 31, 32, 3, 4, 5, 6, 7, 8, 9, 10, 11, 12, 13, 14, 15, 16, 17, 18, 19, 20, 21, 22, 23, 24, 25] rfl rfl rfl rfl (by decide) rfl rfl) ⟨by decide, by decide⟩ ⟨rfl, rfl⟩ ⟨Nat.zero_le _, Nat.zero_le _⟩ rfl rfl (Nat.le_of_ble_eq_true rfl) 3 3 rfl rfl rfl ?_
        cases sinj h
        exact g_iret C dX5_count_83 rfl rfl hQ
      · have h := ifn h c1_2
        by_cases c1_3 : x1 = 3
        · have h := ifp h c1_3
          refine g_tableAt (v := 3) (off := 83) (tgt := 84) C dX5_count_1 c1_3 (by decide) (by decide) rfl (by decide) ?_
          refine g_aload_n C dX5_count_84 rfl 0 rfl ?_
          refine g_get (v := .ref (so 1)) C fl_X5_19 dX5_count_85 0 rfl rfl ?_
          refine g_get (v := .int ((E.2 1).1 5)) C fl_X5_222 dX5_count_88 3 rfl rfl ?_
          obtain ⟨r91, h91, h⟩ := obd h
          refine g_callSi (st := []) (ws2 := wEP cC cI cZ o so sa E) C ys_J6_bitCount_0f7a4 ml_X5_183 dX5_count_91 (kbitCount l D cC cI cJ cZ ((E.2 1).1 5) r91 h91) gCut_nil ⟨by decide, by decide⟩ ⟨rfl, rfl⟩ ⟨Nat.zero_le _, Nat.zero_le _⟩ rfl rfl (Nat.le_of_ble_eq_true rfl) ?_
          cases sinj h
          exact g_iret C dX5_count_94 rfl rfl hQ
        · have h := ifn h c1_3
          by_cases c1_4 : x1 = 4
          · have h := ifp h c1_4
            refine g_tableAt (v := 4) (off := 94) (tgt := 95) C dX5_count_1 c1_4 (by decide) (by decide) rfl (by decide) ?_
            refine g_aload_n C dX5_count_95 rfl 0 rfl ?_
            refine g_get (v := .ref (so 1)) C fl_X5_19 dX5_count_96 0 rfl rfl ?_
            refine g_get (v := .int ((E.2 1).1 6)) C fl_X5_225 dX5_count_99 3 rfl rfl ?_
            obtain ⟨r102, h102, h⟩ := obd h
            refine g_callSi (st := []) (ws2 := wEP cC cI cZ o so sa E) C ys_J6_bitCount_0f7a4 ml_X5_183 dX5_count_102 (kbitCount l D cC cI cJ cZ ((E.2 1).1 6) r102 h102) gCut_nil ⟨by decide, by decide⟩ ⟨rfl, rfl⟩ ⟨Nat.zero_le _, Nat.zero_le _⟩ rfl rfl (Nat.le_of_ble_eq_true rfl) ?_
            cases sinj h
            exact g_iret C dX5_count_105 rfl rfl hQ
          · have h := ifn h c1_4
            by_cases c1_5 : x1 = 5
            · have h := ifp h c1_5
              refine g_tableAt (v := 5) (off := 105) (tgt := 106) C dX5_count_1 c1_5 (by decide) (by decide) rfl (by decide) ?_
              refine g_aload_n C dX5_count_106 rfl 0 rfl ?_
              obtain ⟨⟨r107, T107⟩, h107, h⟩ := obd h
              refine g_callVi (st := []) (ws2 := wEP cC cI cZ o so sa T107) C yv_X5_sureCells ml_X5_228 dX5_count_107 (kX5_sureCells l D cC cI cJ cZ o so sa E r107 T107 h107) gCut_all ⟨by decide, by decide⟩ ⟨rfl, rfl⟩ ⟨Nat.zero_le _, Nat.zero_le _⟩ rfl rfl (Nat.le_of_ble_eq_true rfl) 4 0 rfl rfl rfl ?_
              cases sinj h
              exact g_iret C dX5_count_110 rfl rfl hQ
            · have h := ifn h c1_5
              by_cases c1_6 : x1 = 6
              · have h := ifp h c1_6
                refine g_tableAt (v := 6) (off := 110) (tgt := 111) C dX5_count_1 c1_6 (by decide) (by decide) rfl (by decide) ?_
                refine g_aload_n C dX5_count_111 rfl 0 rfl ?_
                refine g_get (v := .ref (so 1)) C fl_X5_19 dX5_count_112 0 rfl rfl ?_
                refine g_get (v := .int ((E.2 1).1 10)) C fl_X5_200 dX5_count_115 3 rfl rfl ?_
                cases sinj h
                exact g_iret C dX5_count_118 rfl rfl hQ
              · have h := ifn h c1_6
                by_cases c1_7 : x1 = 7
                · have h := ifp h c1_7
                  refine g_tableAt (v := 7) (off := 118) (tgt := 119) C dX5_count_1 c1_7 (by decide) (by decide) rfl (by decide) ?_
                  refine g_aload_n C dX5_count_119 rfl 0 rfl ?_
                  refine g_get (v := .ref (so 0)) C fl_X5_12 dX5_count_120 0 rfl rfl ?_
                  refine g_get (v := .int ((E.2 0).1 1)) C fl_X5_48 dX5_count_123 1 rfl rfl ?_
                  cases sinj h
                  exact g_iret C dX5_count_126 rfl rfl hQ
                · have h := ifn h c1_7
                  by_cases c1_8 : x1 = 8
                  · have h := ifp h c1_8
                    refine g_tableAt (v := 8) (off := 126) (tgt := 127) C dX5_count_1 c1_8 (by decide) (by decide) rfl (by decide) ?_
                    refine g_aload_n C dX5_count_127 rfl 0 rfl ?_
                    refine g_get (v := .int (E.1 9)) C fl_X5_66 dX5_count_128 0 rfl rfl ?_
                    cases sinj h
                    exact g_iret C dX5_count_131 rfl rfl hQ
                  · have h := ifn h c1_8
                    by_cases c1_9 : x1 = 9
                    · have h := ifp h c1_9
                      refine g_tableAt (v := 9) (off := 131) (tgt := 132) C dX5_count_1 c1_9 (by decide) (by decide) rfl (by decide) ?_
                      refine g_aload_n C dX5_count_132 rfl 0 rfl ?_
                      refine g_get (v := .int (E.1 10)) C fl_X5_177 dX5_count_133 0 rfl rfl ?_
                      cases sinj h
                      exact g_iret C dX5_count_136 rfl rfl hQ
                    · have h := ifn h c1_9
                      by_cases c1_10 : x1 = 10
                      · have h := ifp h c1_10
                        refine g_tableAt (v := 10) (off := 136) (tgt := 137) C dX5_count_1 c1_10 (by decide) (by decide) rfl (by decide) ?_
                        refine g_aload_n C dX5_count_137 rfl 0 rfl ?_
                        refine g_get (v := .int (E.1 11)) C fl_X5_191 dX5_count_138 0 rfl rfl ?_
                        cases sinj h
                        exact g_iret C dX5_count_141 rfl rfl hQ
                      · have h := ifn h c1_10
                        refine g_tableOut (tgt := 142) C dX5_count_1 (by have q0 := lv_neT (a := 0) c1_0 (by decide); have q1 := lv_neT (a := 1) c1_1 (by decide); have q2 := lv_neT (a := 2) c1_2 (by decide); have q3 := lv_neT (a := 3) c1_3 (by decide); have q4 := lv_neT (a := 4) c1_4 (by decide); have q5 := lv_neT (a := 5) c1_5 (by decide); have q6 := lv_neT (a := 6) c1_6 (by decide); have q7 := lv_neT (a := 7) c1_7 (by decide); have q8 := lv_neT (a := 8) c1_8 (by decide); have q9 := lv_neT (a := 9) c1_9 (by decide); have q10 := lv_neT (a := 10) c1_10 (by decide); omega) (by decide) ?_
                        refine g_bipush (v := (-102 : Int32)) C dX5_count_142 (by decide) ?_
                        cases sinj h
                        exact g_iret C dX5_count_144 rfl rfl hQ
def fX5_digest_L20 (x3_L20 : Int32) (x1_L20 : Int64) (x4_L20 : Int32) (E_L20 : OE) : Option ((Int64 × Int32 × OE) ⊕ (Int64 × OE)) :=
  (if (6 : Int32) < x4_L20 then some (.inr (x1_L20, E_L20))
 else (if x4_L20 = (4 : Int32) then some (.inl (x1_L20, (x4_L20 + (1 : Int32)), E_L20))
 else ((fX5_line E_L20 x3_L20 x4_L20).bind (fun r => (fun r42 T42 => some (.inl ((((31 : Int64) * x1_L20) + r42.toInt64), (x4_L20 + (1 : Int32)), T42))) r.1 r.2))))
def fX5_digest_J54 (x1_J54 : Int64) (x3_J54 : Int32) (E_J54 : OE) : Option ((Int64 × Int32 × OE) ⊕ (Int64 × OE)) :=
  some (.inl (x1_J54, (x3_J54 + (1 : Int32)), E_J54))
def fX5_digest_L6 (x1_L6 : Int64) (x3_L6 : Int32) (E_L6 : OE) : Option ((Int64 × Int32 × OE) ⊕ (Int64 × OE)) :=
  ((fX4_lines (E_L6.2 1)).bind (fun r11 => (if r11 ≤ x3_L6 then some (.inr (x1_L6, E_L6))
 else ((wh (σ := Int64 × Int32 × OE) (ρ := Int64 × OE) (fun t => fX5_digest_L20 x3_L6 t.1 t.2.1 t.2.2) 100000 (x1_L6, (0 : Int32), E_L6)).bind (fun X => (fun e1_L20 E_E20 => fX5_digest_J54 e1_L20 x3_L6 E_E20) X.1 X.2)))))
def fX5_digest_L76 (x3_L76 : Int32) (x1_L76 : Int64) (x4_L76 : Int32) (E_L76 : OE) : Option ((Int64 × Int32 × OE) ⊕ (Int64 × OE)) :=
  (if (2 : Int32) < x4_L76 then some (.inr (x1_L76, E_L76))
 else ((fX5_cell E_L76 x3_L76 x4_L76).bind (fun r => (fun r91 T91 => some (.inl ((((31 : Int64) * x1_L76) + r91.toInt64), (x4_L76 + (1 : Int32)), T91))) r.1 r.2)))
def fX5_digest_J103 (x1_J103 : Int64) (x3_J103 : Int32) (E_J103 : OE) : Option ((Int64 × Int32 × OE) ⊕ (Int64 × OE)) :=
  some (.inl (x1_J103, (x3_J103 + (1 : Int32)), E_J103))
def fX5_digest_L62 (x1_L62 : Int64) (x3_L62 : Int32) (E_L62 : OE) : Option ((Int64 × Int32 × OE) ⊕ (Int64 × OE)) :=
  ((fX4_cells (E_L62.2 1)).bind (fun r67 => (if r67 ≤ x3_L62 then some (.inr (x1_L62, E_L62))
 else ((wh (σ := Int64 × Int32 × OE) (ρ := Int64 × OE) (fun t => fX5_digest_L76 x3_L62 t.1 t.2.1 t.2.2) 100000 (x1_L62, (0 : Int32), E_L62)).bind (fun X => (fun e1_L76 E_E76 => fX5_digest_J103 e1_L76 x3_L62 E_E76) X.1 X.2)))))
def fX5_digest_L158 (E_L158 : OE) (x1_L158 : Int64) (x3_L158 : Int32) : Option ((Int64 × Int32) ⊕ (Int64)) :=
  (if ((E_L158.2 0).1 1) ≤ x3_L158 then some (.inr x1_L158)
 else ((fX2_codeAt (E_L158.2 0) x3_L158).bind (fun r179 => some (.inl ((((31 : Int64) * x1_L158) + r179.toInt64), (x3_L158 + (1 : Int32)))))))
def fX5_digest_L193 (x1_L193 : Int64) (x3_L193 : Int32) (E_L193 : OE) : Option ((Int64 × Int32 × OE) ⊕ (Int64 × OE)) :=
  (if (11 : Int32) ≤ x3_L193 then some (.inr (x1_L193, E_L193))
 else ((fX5_count E_L193 x3_L193).bind (fun r => (fun r206 T206 => some (.inl ((((31 : Int64) * x1_L193) + r206.toInt64), (x3_L193 + (1 : Int32)), T206))) r.1 r.2)))
def fX5_digest_J218 (x1_J218 : Int64) (E_J218 : OE) : Option (Int64 × OE) :=
  some (x1_J218, E_J218)
def fX5_digest_J191 (x1_J191 : Int64) (E_J191 : OE) : Option (Int64 × OE) :=
  ((wh (σ := Int64 × Int32 × OE) (ρ := Int64 × OE) (fun t => fX5_digest_L193 t.1 t.2.1 t.2.2) 100000 (x1_J191, (0 : Int32), E_J191)).bind (fun X => (fun e1_L193 E_E193 => fX5_digest_J218 e1_L193 E_E193) X.1 X.2))
def fX5_digest_J156 (x1_J156 : Int64) (E_J156 : OE) : Option (Int64 × OE) :=
  ((wh (σ := Int64 × Int32) (ρ := Int64) (fun t => fX5_digest_L158 E_J156 t.1 t.2) 100000 (x1_J156, (0 : Int32))).bind (fun e1_L158 => fX5_digest_J191 e1_L158 E_J156))
def fX5_digest_J109 (x1_J109 : Int64) (E_J109 : OE) : Option (Int64 × OE) :=
  ((fX4_isBoard (E_J109.2 1)).bind (fun r113 => (if r113 = 0 then fX5_digest_J156 x1_J109 E_J109
 else ((fX5_left E_J109).bind (fun r => (fun r125 T125 => ((fX5_picture T125 (0 : Int32)).bind (fun r => (fun r138 T138 => ((fX5_look T138).bind (fun r => (fun r150 T150 => fX5_digest_J156 (((31 : Int64) * (((31 : Int64) * (((31 : Int64) * x1_J109) + r125.toInt64)) + r138.toInt64)) + r150.toInt64) T150) r.1 r.2))) r.1 r.2))) r.1 r.2)))))
def fX5_digest_J60 (x1_J60 : Int64) (E_J60 : OE) : Option (Int64 × OE) :=
  ((wh (σ := Int64 × Int32 × OE) (ρ := Int64 × OE) (fun t => fX5_digest_L62 t.1 t.2.1 t.2.2) 100000 (x1_J60, (0 : Int32), E_J60)).bind (fun X => (fun e1_L62 E_E62 => fX5_digest_J109 e1_L62 E_E62) X.1 X.2))
def fX5_digest (E : OE)  : Option (Int64 × OE) :=
  ((wh (σ := Int64 × Int32 × OE) (ρ := Int64 × OE) (fun t => fX5_digest_L6 t.1 t.2.1 t.2.2) 100000 ((1301 : Int64), (0 : Int32), E)).bind (fun X => (fun e1_L6 E_E6 => fX5_digest_J60 e1_L6 E_E6) X.1 X.2))
set_option maxHeartbeats 4000000 in
set_option maxRecDepth 100000 in
theorem kX5_digest (l : Launch) (D : va_G) (cC cI cJ cZ : ClassId) (o : Nat) (so : Nat → Nat) (sa : Nat → Nat → Nat) (E : OE)  (r : Int64) (E' : OE) (h : fX5_digest E = some (r, E')) : gMl l yX5_digest cX5_digest 5 (some .long) (gR 13) D (tysG cC cI cJ cZ) [.ref o] (wEP cC cI cZ o so sa E) r (wEP cC cI cZ o so sa E') := by
  refine gMl_of (by decide) (Nat.le_of_ble_eq_true rfl) rfl ?_
  intro p e s m args below meth c A Q C hQ
  have j218 : ∀ (x1_J218 : Int64) (E_J218 : OE), fX5_digest_J218 x1_J218 E_J218 = some (r, E') → gG p l e (gR 13) s m args below meth c 5 D A 0 0 Q 218 [(1, .long x1_J218)] [] (wEP cC cI cZ o so sa E_J218) := by
    intro x1_J218 E_J218 h
    unfold fX5_digest_J218 at h
    refine g_lload_n C dX5_digest_218 rfl 0 rfl ?_
    cases sinj h
    exact g_lret C dX5_digest_219 rfl rfl hQ
  have j191 : ∀ (x1_J191 : Int64) (E_J191 : OE), fX5_digest_J191 x1_J191 E_J191 = some (r, E') → gG p l e (gR 13) s m args below meth c 5 D A 0 0 Q 191 [(0, .ref o), (1, .long x1_J191)] [] (wEP cC cI cZ o so sa E_J191) := by
    intro x1_J191 E_J191 h
    unfold fX5_digest_J191 at h
    refine g_iconst (v := (0 : Int32)) C dX5_digest_191 (by decide) ?_
    refine g_istore_n (lv' := [(3, .int (0 : Int32)), (0, .ref o), (1, .long x1_J191)]) C dX5_digest_192 rfl (by decide) rfl ?_
    obtain ⟨X193, hW193, hK193⟩ := obd h
    have l193 : ∀ (fu193 : Nat) (x1_L193 : Int64) (x3_L193 : Int32) (E_L193 : OE), wh (σ := Int64 × Int32 × OE) (ρ := Int64 × OE) (fun t => fX5_digest_L193 t.1 t.2.1 t.2.2) fu193 (x1_L193, x3_L193, E_L193) = some X193 → gG p l e (gR 13) s m args below meth c 5 D A 0 0 Q 193 [(0, .ref o), (1, .long x1_L193), (3, .int x3_L193)] [] (wEP cC cI cZ o so sa E_L193) := by
      intro fu193
      induction fu193 with
      | zero => intro x1_L193 x3_L193 E_L193 hW; exact (wh_0 hW).elim
      | succ fu193 ih193 =>
        intro x1_L193 x3_L193 E_L193 hW
        obtain ⟨z193, h, hw193⟩ := wh_s hW
        replace h : fX5_digest_L193 x1_L193 x3_L193 E_L193 = some z193 := h
        unfold fX5_digest_L193 at h
        refine g_iload_n C dX5_digest_193 rfl 2 rfl ?_
        refine g_bipush (v := (11 : Int32)) C dX5_digest_194 (by decide) ?_
        refine g_icmp_ge (tgt := 218) C dX5_digest_196 (by decide) (fun c196 => ?_) (fun c196 => ?_)
        · have h := ifp h c196
          obtain rfl := sinj h
          obtain rfl := wk_r hw193
          have h := hK193
          refine g_lv [1] rfl ?_
          exact j218 x1_L193 E_L193 h
        · have h := ifn h c196
          refine g_ldc2 C dX5_digest_199 ck_X5_233 ?_
          refine g_lload_n C dX5_digest_202 rfl 1 rfl ?_
          refine g_lmul C dX5_digest_203 ?_
          refine g_aload_n C dX5_digest_204 rfl 0 rfl ?_
          refine g_iload_n C dX5_digest_205 rfl 2 rfl ?_
          obtain ⟨⟨r206, T206⟩, h206, h⟩ := obd h
          refine g_callVi (st := [.long ((31 : Int64) * x1_L193)]) (ws2 := wEP cC cI cZ o so sa T206) C yv_X5_count ml_X5_253 dX5_digest_206 (kX5_count l D cC cI cJ cZ o so sa E_L193 x3_L193 r206 T206 h206) gCut_all ⟨by decide, by decide⟩ ⟨rfl, rfl⟩ ⟨Nat.zero_le _, Nat.zero_le _⟩ rfl rfl (Nat.le_of_ble_eq_true rfl) 4 0 rfl rfl rfl ?_
          refine g_i2l C dX5_digest_209 ?_
          refine g_ladd C dX5_digest_210 ?_
          refine g_lstore_n (lv' := [(1, .long (((31 : Int64) * x1_L193) + r206.toInt64)), (0, .ref o), (3, .int x3_L193)]) C dX5_digest_211 rfl (by decide) rfl ?_
          refine g_iinc (j := 2) (v := (x3_L193 + (1 : Int32))) (lv' := [(3, .int (x3_L193 + (1 : Int32))), (1, .long (((31 : Int64) * x1_L193) + r206.toInt64)), (0, .ref o)]) C dX5_digest_212 rfl rfl (by decide) rfl ?_
          refine g_goto (tgt := 193) C dX5_digest_215 (by decide) ?_
          obtain rfl := sinj h
          refine g_lv [2, 1, 0] rfl ?_
          exact ih193 (((31 : Int64) * x1_L193) + r206.toInt64) (x3_L193 + (1 : Int32)) T206 hw193
    refine g_lv [1, 2, 0] rfl ?_
    exact l193 100000 x1_J191 (0 : Int32) E_J191 hW193
  have j156 : ∀ (x1_J156 : Int64) (E_J156 : OE), fX5_digest_J156 x1_J156 E_J156 = some (r, E') → gG p l e (gR 13) s m args below meth c 5 D A 0 0 Q 156 [(0, .ref o), (1, .long x1_J156)] [] (wEP cC cI cZ o so sa E_J156) := by
    intro x1_J156 E_J156 h
    unfold fX5_digest_J156 at h
    refine g_iconst (v := (0 : Int32)) C dX5_digest_156 (by decide) ?_
    refine g_istore_n (lv' := [(3, .int (0 : Int32)), (0, .ref o), (1, .long x1_J156)]) C dX5_digest_157 rfl (by decide) rfl ?_
    obtain ⟨X158, hW158, hK158⟩ := obd h
    have l158 : ∀ (fu158 : Nat) (x1_L158 : Int64) (x3_L158 : Int32), wh (σ := Int64 × Int32) (ρ := Int64) (fun t => fX5_digest_L158 E_J156 t.1 t.2) fu158 (x1_L158, x3_L158) = some X158 → gG p l e (gR 13) s m args below meth c 5 D A 0 0 Q 158 [(0, .ref o), (1, .long x1_L158), (3, .int x3_L158)] [] (wEP cC cI cZ o so sa E_J156) := by
      intro fu158
      induction fu158 with
      | zero => intro x1_L158 x3_L158 hW; exact (wh_0 hW).elim
      | succ fu158 ih158 =>
        intro x1_L158 x3_L158 hW
        obtain ⟨z158, h, hw158⟩ := wh_s hW
        replace h : fX5_digest_L158 E_J156 x1_L158 x3_L158 = some z158 := h
        unfold fX5_digest_L158 at h
        refine g_iload_n C dX5_digest_158 rfl 2 rfl ?_
        refine g_aload_n C dX5_digest_159 rfl 0 rfl ?_
        refine g_get (v := .ref (so 0)) C fl_X5_12 dX5_digest_160 0 rfl rfl ?_
        refine g_get (v := .int ((E_J156.2 0).1 1)) C fl_X5_48 dX5_digest_163 1 rfl rfl ?_
        refine g_icmp_ge (tgt := 191) C dX5_digest_166 (by decide) (fun c166 => ?_) (fun c166 => ?_)
        · have h := ifp h c166
          obtain rfl := sinj h
          obtain rfl := wk_r hw158
          have h := hK158
          refine g_lv [0, 1] rfl ?_
          exact j191 x1_L158 E_J156 h
        · have h := ifn h c166
          refine g_ldc2 C dX5_digest_169 ck_X5_233 ?_
          refine g_lload_n C dX5_digest_172 rfl 1 rfl ?_
          refine g_lmul C dX5_digest_173 ?_
          refine g_aload_n C dX5_digest_174 rfl 0 rfl ?_
          refine g_get (v := .ref (so 0)) C fl_X5_12 dX5_digest_175 0 rfl rfl ?_
          refine g_iload_n C dX5_digest_178 rfl 2 rfl ?_
          obtain ⟨r179, h179, h⟩ := obd h
          refine g_callVi (st := [.long ((31 : Int64) * x1_L158)]) (ws2 := wEP cC cI cZ o so sa E_J156) C yv_X2_codeAt ml_X5_250 dX5_digest_179 (kX2_codeAt l D cC cI cJ cZ (so 0) (sa 0) (E_J156.2 0) x3_L158 r179 h179) (gCut_at [1, 2] [0, 3, 4, 5, 6, 7, 8, 9, 10, 11, 12, 13, 14, 15, 16, 17, 18, 19, 20, 21, 22, 23, 24, 25, 26, 27, 28, 29, 30, 31, 32] [0, 31, 32, 1, 2, 3, 4, 5, 6, 7, 8, 9, 10, 11, 12, 13, 14, 15, 16, 17, 18, 19, 20, 21, 22, 23, 24, 25, 26, 27, 28, 29, 30] rfl rfl rfl rfl (by decide) rfl rfl) ⟨by decide, by decide⟩ ⟨rfl, rfl⟩ ⟨Nat.zero_le _, Nat.zero_le _⟩ rfl rfl (Nat.le_of_ble_eq_true rfl) 1 1 rfl rfl rfl ?_
          refine g_i2l C dX5_digest_182 ?_
          refine g_ladd C dX5_digest_183 ?_
          refine g_lstore_n (lv' := [(1, .long (((31 : Int64) * x1_L158) + r179.toInt64)), (0, .ref o), (3, .int x3_L158)]) C dX5_digest_184 rfl (by decide) rfl ?_
          refine g_iinc (j := 2) (v := (x3_L158 + (1 : Int32))) (lv' := [(3, .int (x3_L158 + (1 : Int32))), (1, .long (((31 : Int64) * x1_L158) + r179.toInt64)), (0, .ref o)]) C dX5_digest_185 rfl rfl (by decide) rfl ?_
          refine g_goto (tgt := 158) C dX5_digest_188 (by decide) ?_
          obtain rfl := sinj h
          refine g_lv [2, 1, 0] rfl ?_
          exact ih158 (((31 : Int64) * x1_L158) + r179.toInt64) (x3_L158 + (1 : Int32)) hw158
    refine g_lv [1, 2, 0] rfl ?_
    exact l158 100000 x1_J156 (0 : Int32) hW158
  have j109 : ∀ (x1_J109 : Int64) (E_J109 : OE), fX5_digest_J109 x1_J109 E_J109 = some (r, E') → gG p l e (gR 13) s m args below meth c 5 D A 0 0 Q 109 [(0, .ref o), (1, .long x1_J109)] [] (wEP cC cI cZ o so sa E_J109) := by
    intro x1_J109 E_J109 h
    unfold fX5_digest_J109 at h
    refine g_aload_n C dX5_digest_109 rfl 0 rfl ?_
    refine g_get (v := .ref (so 1)) C fl_X5_19 dX5_digest_110 0 rfl rfl ?_
    obtain ⟨r113, h113, h⟩ := obd h
    refine g_callVi (st := []) (ws2 := wEP cC cI cZ o so sa E_J109) C yv_X4_isBoard ml_X5_156 dX5_digest_113 (kX4_isBoard l D cC cI cJ cZ (so 1) (sa 1) (E_J109.2 1) r113 h113) (gCut_at [3, 4, 5, 6, 7, 8, 9] [0, 1, 2, 10, 11, 12, 13, 14, 15, 16, 17, 18, 19, 20, 21, 22, 23, 24, 25, 26, 27, 28, 29, 30, 31, 32] [0, 1, 2, 26, 27, 28, 29, 30, 31, 32, 3, 4, 5, 6, 7, 8, 9, 10, 11, 12, 13, 14, 15, 16, 17, 18, 19, 20, 21, 22, 23, 24, 25] rfl rfl rfl rfl (by decide) rfl rfl) ⟨by decide, by decide⟩ ⟨rfl, rfl⟩ ⟨Nat.zero_le _, Nat.zero_le _⟩ rfl rfl (Nat.le_of_ble_eq_true rfl) 3 3 rfl rfl rfl ?_
    refine g_if_eq (tgt := 156) C dX5_digest_116 (by decide) (fun c116 => ?_) (fun c116 => ?_)
    · have h := ifp h c116
      refine g_lv [0, 1] rfl ?_
      exact j156 x1_J109 E_J109 h
    · have h := ifn h c116
      refine g_ldc2 C dX5_digest_119 ck_X5_233 ?_
      refine g_lload_n C dX5_digest_122 rfl 1 rfl ?_
      refine g_lmul C dX5_digest_123 ?_
      refine g_aload_n C dX5_digest_124 rfl 0 rfl ?_
      obtain ⟨⟨r125, T125⟩, h125, h⟩ := obd h
      refine g_callVi (st := [.long ((31 : Int64) * x1_J109)]) (ws2 := wEP cC cI cZ o so sa T125) C yv_X5_left ml_X5_241 dX5_digest_125 (kX5_left l D cC cI cJ cZ o so sa E_J109 r125 T125 h125) gCut_all ⟨by decide, by decide⟩ ⟨rfl, rfl⟩ ⟨Nat.zero_le _, Nat.zero_le _⟩ rfl rfl (Nat.le_of_ble_eq_true rfl) 4 0 rfl rfl rfl ?_
      refine g_i2l C dX5_digest_128 ?_
      refine g_ladd C dX5_digest_129 ?_
      refine g_lstore_n (lv' := [(1, .long (((31 : Int64) * x1_J109) + r125.toInt64)), (0, .ref o)]) C dX5_digest_130 rfl (by decide) rfl ?_
      refine g_ldc2 C dX5_digest_131 ck_X5_233 ?_
      refine g_lload_n C dX5_digest_134 rfl 0 rfl ?_
      refine g_lmul C dX5_digest_135 ?_
      refine g_aload_n C dX5_digest_136 rfl 1 rfl ?_
      refine g_iconst (v := (0 : Int32)) C dX5_digest_137 (by decide) ?_
      obtain ⟨⟨r138, T138⟩, h138, h⟩ := obd h
      refine g_callVi (st := [.long ((31 : Int64) * (((31 : Int64) * x1_J109) + r125.toInt64))]) (ws2 := wEP cC cI cZ o so sa T138) C yv_X5_picture ml_X5_244 dX5_digest_138 (kX5_picture l D cC cI cJ cZ o so sa T125 (0 : Int32) r138 T138 h138) gCut_all ⟨by decide, by decide⟩ ⟨rfl, rfl⟩ ⟨Nat.zero_le _, Nat.zero_le _⟩ rfl rfl (Nat.le_of_ble_eq_true rfl) 4 0 rfl rfl rfl ?_
      refine g_i2l C dX5_digest_141 ?_
      refine g_ladd C dX5_digest_142 ?_
      refine g_lstore_n (lv' := [(1, .long (((31 : Int64) * (((31 : Int64) * x1_J109) + r125.toInt64)) + r138.toInt64)), (0, .ref o)]) C dX5_digest_143 rfl (by decide) rfl ?_
      refine g_ldc2 C dX5_digest_144 ck_X5_233 ?_
      refine g_lload_n C dX5_digest_147 rfl 0 rfl ?_
      refine g_lmul C dX5_digest_148 ?_
      refine g_aload_n C dX5_digest_149 rfl 1 rfl ?_
      obtain ⟨⟨r150, T150⟩, h150, h⟩ := obd h
      refine g_callVi (st := [.long ((31 : Int64) * (((31 : Int64) * (((31 : Int64) * x1_J109) + r125.toInt64)) + r138.toInt64))]) (ws2 := wEP cC cI cZ o so sa T150) C yv_X5_look ml_X5_247 dX5_digest_150 (kX5_look l D cC cI cJ cZ o so sa T138 r150 T150 h150) gCut_all ⟨by decide, by decide⟩ ⟨rfl, rfl⟩ ⟨Nat.zero_le _, Nat.zero_le _⟩ rfl rfl (Nat.le_of_ble_eq_true rfl) 4 0 rfl rfl rfl ?_
      refine g_i2l C dX5_digest_153 ?_
      refine g_ladd C dX5_digest_154 ?_
      refine g_lstore_n (lv' := [(1, .long (((31 : Int64) * (((31 : Int64) * (((31 : Int64) * x1_J109) + r125.toInt64)) + r138.toInt64)) + r150.toInt64)), (0, .ref o)]) C dX5_digest_155 rfl (by decide) rfl ?_
      refine g_lv [1, 0] rfl ?_
      exact j156 (((31 : Int64) * (((31 : Int64) * (((31 : Int64) * x1_J109) + r125.toInt64)) + r138.toInt64)) + r150.toInt64) T150 h
  have j60 : ∀ (x1_J60 : Int64) (E_J60 : OE), fX5_digest_J60 x1_J60 E_J60 = some (r, E') → gG p l e (gR 13) s m args below meth c 5 D A 0 0 Q 60 [(0, .ref o), (1, .long x1_J60)] [] (wEP cC cI cZ o so sa E_J60) := by
    intro x1_J60 E_J60 h
    unfold fX5_digest_J60 at h
    refine g_iconst (v := (0 : Int32)) C dX5_digest_60 (by decide) ?_
    refine g_istore_n (lv' := [(3, .int (0 : Int32)), (0, .ref o), (1, .long x1_J60)]) C dX5_digest_61 rfl (by decide) rfl ?_
    obtain ⟨X62, hW62, hK62⟩ := obd h
    have l62 : ∀ (fu62 : Nat) (x1_L62 : Int64) (x3_L62 : Int32) (E_L62 : OE), wh (σ := Int64 × Int32 × OE) (ρ := Int64 × OE) (fun t => fX5_digest_L62 t.1 t.2.1 t.2.2) fu62 (x1_L62, x3_L62, E_L62) = some X62 → gG p l e (gR 13) s m args below meth c 5 D A 0 0 Q 62 [(0, .ref o), (1, .long x1_L62), (3, .int x3_L62)] [] (wEP cC cI cZ o so sa E_L62) := by
      intro fu62
      induction fu62 with
      | zero => intro x1_L62 x3_L62 E_L62 hW; exact (wh_0 hW).elim
      | succ fu62 ih62 =>
        intro x1_L62 x3_L62 E_L62 hW
        obtain ⟨z62, h, hw62⟩ := wh_s hW
        have j103 : ∀ (x1_J103 : Int64) (x3_J103 : Int32) (E_J103 : OE) (z62 : (Int64 × Int32 × OE) ⊕ (Int64 × OE)), fX5_digest_J103 x1_J103 x3_J103 E_J103 = some z62 → wk (fun t => fX5_digest_L62 t.1 t.2.1 t.2.2) fu62 z62 = some X62 → gG p l e (gR 13) s m args below meth c 5 D A 0 0 Q 103 [(0, .ref o), (1, .long x1_J103), (3, .int x3_J103)] [] (wEP cC cI cZ o so sa E_J103) := by
          intro x1_J103 x3_J103 E_J103 z62 h hw62
          unfold fX5_digest_J103 at h
          refine g_iinc (j := 2) (v := (x3_J103 + (1 : Int32))) (lv' := [(3, .int (x3_J103 + (1 : Int32))), (0, .ref o), (1, .long x1_J103)]) C dX5_digest_103 rfl rfl (by decide) rfl ?_
          refine g_goto (tgt := 62) C dX5_digest_106 (by decide) ?_
          obtain rfl := sinj h
          refine g_lv [1, 2, 0] rfl ?_
          exact ih62 x1_J103 (x3_J103 + (1 : Int32)) E_J103 hw62
        replace h : fX5_digest_L62 x1_L62 x3_L62 E_L62 = some z62 := h
        unfold fX5_digest_L62 at h
        refine g_iload_n C dX5_digest_62 rfl 2 rfl ?_
        refine g_aload_n C dX5_digest_63 rfl 0 rfl ?_
        refine g_get (v := .ref (so 1)) C fl_X5_19 dX5_digest_64 0 rfl rfl ?_
        obtain ⟨r67, h67, h⟩ := obd h
        refine g_callVi (st := [.int x3_L62]) (ws2 := wEP cC cI cZ o so sa E_L62) C yv_X4_cells ml_X5_76 dX5_digest_67 (kX4_cells l D cC cI cJ cZ (so 1) (sa 1) (E_L62.2 1) r67 h67) (gCut_at [3, 4, 5, 6, 7, 8, 9] [0, 1, 2, 10, 11, 12, 13, 14, 15, 16, 17, 18, 19, 20, 21, 22, 23, 24, 25, 26, 27, 28, 29, 30, 31, 32] [0, 1, 2, 26, 27, 28, 29, 30, 31, 32, 3, 4, 5, 6, 7, 8, 9, 10, 11, 12, 13, 14, 15, 16, 17, 18, 19, 20, 21, 22, 23, 24, 25] rfl rfl rfl rfl (by decide) rfl rfl) ⟨by decide, by decide⟩ ⟨rfl, rfl⟩ ⟨Nat.zero_le _, Nat.zero_le _⟩ rfl rfl (Nat.le_of_ble_eq_true rfl) 3 3 rfl rfl rfl ?_
        refine g_icmp_ge (tgt := 109) C dX5_digest_70 (by decide) (fun c70 => ?_) (fun c70 => ?_)
        · have h := ifp h c70
          obtain rfl := sinj h
          obtain rfl := wk_r hw62
          have h := hK62
          refine g_lv [0, 1] rfl ?_
          exact j109 x1_L62 E_L62 h
        · have h := ifn h c70
          refine g_iconst (v := (0 : Int32)) C dX5_digest_73 (by decide) ?_
          refine g_istore (lv' := [(4, .int (0 : Int32)), (0, .ref o), (1, .long x1_L62), (3, .int x3_L62)]) C dX5_digest_74 (by decide) rfl ?_
          obtain ⟨X76, hW76, hK76⟩ := obd h
          have l76 : ∀ (fu76 : Nat) (x1_L76 : Int64) (x4_L76 : Int32) (E_L76 : OE), wh (σ := Int64 × Int32 × OE) (ρ := Int64 × OE) (fun t => fX5_digest_L76 x3_L62 t.1 t.2.1 t.2.2) fu76 (x1_L76, x4_L76, E_L76) = some X76 → gG p l e (gR 13) s m args below meth c 5 D A 0 0 Q 76 [(0, .ref o), (1, .long x1_L76), (3, .int x3_L62), (4, .int x4_L76)] [] (wEP cC cI cZ o so sa E_L76) := by
            intro fu76
            induction fu76 with
            | zero => intro x1_L76 x4_L76 E_L76 hW; exact (wh_0 hW).elim
            | succ fu76 ih76 =>
              intro x1_L76 x4_L76 E_L76 hW
              obtain ⟨z76, h, hw76⟩ := wh_s hW
              replace h : fX5_digest_L76 x3_L62 x1_L76 x4_L76 E_L76 = some z76 := h
              unfold fX5_digest_L76 at h
              refine g_iload C dX5_digest_76 3 rfl ?_
              refine g_iconst (v := (2 : Int32)) C dX5_digest_78 (by decide) ?_
              refine g_icmp_gt (tgt := 103) C dX5_digest_79 (by decide) (fun c79 => ?_) (fun c79 => ?_)
              · have h := ifp h c79
                obtain rfl := sinj h
                obtain rfl := wk_r hw76
                have h := hK76
                refine g_lv [0, 1, 2] rfl ?_
                exact j103 x1_L76 x3_L62 E_L76 _ h hw62
              · have h := ifn h c79
                refine g_ldc2 C dX5_digest_82 ck_X5_233 ?_
                refine g_lload_n C dX5_digest_85 rfl 1 rfl ?_
                refine g_lmul C dX5_digest_86 ?_
                refine g_aload_n C dX5_digest_87 rfl 0 rfl ?_
                refine g_iload_n C dX5_digest_88 rfl 2 rfl ?_
                refine g_iload C dX5_digest_89 3 rfl ?_
                obtain ⟨⟨r91, T91⟩, h91, h⟩ := obd h
                refine g_callVi (st := [.long ((31 : Int64) * x1_L76)]) (ws2 := wEP cC cI cZ o so sa T91) C yv_X5_cell ml_X5_238 dX5_digest_91 (kX5_cell l D cC cI cJ cZ o so sa E_L76 x3_L62 x4_L76 r91 T91 h91) gCut_all ⟨by decide, by decide⟩ ⟨rfl, rfl⟩ ⟨Nat.zero_le _, Nat.zero_le _⟩ rfl rfl (Nat.le_of_ble_eq_true rfl) 4 0 rfl rfl rfl ?_
                refine g_i2l C dX5_digest_94 ?_
                refine g_ladd C dX5_digest_95 ?_
                refine g_lstore_n (lv' := [(1, .long (((31 : Int64) * x1_L76) + r91.toInt64)), (0, .ref o), (3, .int x3_L62), (4, .int x4_L76)]) C dX5_digest_96 rfl (by decide) rfl ?_
                refine g_iinc (j := 3) (v := (x4_L76 + (1 : Int32))) (lv' := [(4, .int (x4_L76 + (1 : Int32))), (1, .long (((31 : Int64) * x1_L76) + r91.toInt64)), (0, .ref o), (3, .int x3_L62)]) C dX5_digest_97 rfl rfl (by decide) rfl ?_
                refine g_goto (tgt := 76) C dX5_digest_100 (by decide) ?_
                obtain rfl := sinj h
                refine g_lv [2, 1, 3, 0] rfl ?_
                exact ih76 (((31 : Int64) * x1_L76) + r91.toInt64) (x4_L76 + (1 : Int32)) T91 hw76
          refine g_lv [1, 2, 3, 0] rfl ?_
          exact l76 100000 x1_L62 (0 : Int32) E_L62 hW76
    refine g_lv [1, 2, 0] rfl ?_
    exact l62 100000 x1_J60 (0 : Int32) E_J60 hW62
  unfold fX5_digest at h
  refine g_ldc2 C dX5_digest_0 ck_X5_231 ?_
  refine g_lstore_n (lv' := [(1, .long (1301 : Int64)), (0, .ref o)]) C dX5_digest_3 rfl (by decide) rfl ?_
  refine g_iconst (v := (0 : Int32)) C dX5_digest_4 (by decide) ?_
  refine g_istore_n (lv' := [(3, .int (0 : Int32)), (1, .long (1301 : Int64)), (0, .ref o)]) C dX5_digest_5 rfl (by decide) rfl ?_
  obtain ⟨X6, hW6, hK6⟩ := obd h
  have l6 : ∀ (fu6 : Nat) (x1_L6 : Int64) (x3_L6 : Int32) (E_L6 : OE), wh (σ := Int64 × Int32 × OE) (ρ := Int64 × OE) (fun t => fX5_digest_L6 t.1 t.2.1 t.2.2) fu6 (x1_L6, x3_L6, E_L6) = some X6 → gG p l e (gR 13) s m args below meth c 5 D A 0 0 Q 6 [(0, .ref o), (1, .long x1_L6), (3, .int x3_L6)] [] (wEP cC cI cZ o so sa E_L6) := by
    intro fu6
    induction fu6 with
    | zero => intro x1_L6 x3_L6 E_L6 hW; exact (wh_0 hW).elim
    | succ fu6 ih6 =>
      intro x1_L6 x3_L6 E_L6 hW
      obtain ⟨z6, h, hw6⟩ := wh_s hW
      have j54 : ∀ (x1_J54 : Int64) (x3_J54 : Int32) (E_J54 : OE) (z6 : (Int64 × Int32 × OE) ⊕ (Int64 × OE)), fX5_digest_J54 x1_J54 x3_J54 E_J54 = some z6 → wk (fun t => fX5_digest_L6 t.1 t.2.1 t.2.2) fu6 z6 = some X6 → gG p l e (gR 13) s m args below meth c 5 D A 0 0 Q 54 [(0, .ref o), (1, .long x1_J54), (3, .int x3_J54)] [] (wEP cC cI cZ o so sa E_J54) := by
        intro x1_J54 x3_J54 E_J54 z6 h hw6
        unfold fX5_digest_J54 at h
        refine g_iinc (j := 2) (v := (x3_J54 + (1 : Int32))) (lv' := [(3, .int (x3_J54 + (1 : Int32))), (0, .ref o), (1, .long x1_J54)]) C dX5_digest_54 rfl rfl (by decide) rfl ?_
        refine g_goto (tgt := 6) C dX5_digest_57 (by decide) ?_
        obtain rfl := sinj h
        refine g_lv [1, 2, 0] rfl ?_
        exact ih6 x1_J54 (x3_J54 + (1 : Int32)) E_J54 hw6
      replace h : fX5_digest_L6 x1_L6 x3_L6 E_L6 = some z6 := h
      unfold fX5_digest_L6 at h
      refine g_iload_n C dX5_digest_6 rfl 2 rfl ?_
      refine g_aload_n C dX5_digest_7 rfl 0 rfl ?_
      refine g_get (v := .ref (so 1)) C fl_X5_19 dX5_digest_8 0 rfl rfl ?_
      obtain ⟨r11, h11, h⟩ := obd h
      refine g_callVi (st := [.int x3_L6]) (ws2 := wEP cC cI cZ o so sa E_L6) C yv_X4_lines ml_X5_194 dX5_digest_11 (kX4_lines l D cC cI cJ cZ (so 1) (sa 1) (E_L6.2 1) r11 h11) (gCut_at [3, 4, 5, 6, 7, 8, 9] [0, 1, 2, 10, 11, 12, 13, 14, 15, 16, 17, 18, 19, 20, 21, 22, 23, 24, 25, 26, 27, 28, 29, 30, 31, 32] [0, 1, 2, 26, 27, 28, 29, 30, 31, 32, 3, 4, 5, 6, 7, 8, 9, 10, 11, 12, 13, 14, 15, 16, 17, 18, 19, 20, 21, 22, 23, 24, 25] rfl rfl rfl rfl (by decide) rfl rfl) ⟨by decide, by decide⟩ ⟨rfl, rfl⟩ ⟨Nat.zero_le _, Nat.zero_le _⟩ rfl rfl (Nat.le_of_ble_eq_true rfl) 3 3 rfl rfl rfl ?_
      refine g_icmp_ge (tgt := 60) C dX5_digest_14 (by decide) (fun c14 => ?_) (fun c14 => ?_)
      · have h := ifp h c14
        obtain rfl := sinj h
        obtain rfl := wk_r hw6
        have h := hK6
        refine g_lv [0, 1] rfl ?_
        exact j60 x1_L6 E_L6 h
      · have h := ifn h c14
        refine g_iconst (v := (0 : Int32)) C dX5_digest_17 (by decide) ?_
        refine g_istore (lv' := [(4, .int (0 : Int32)), (0, .ref o), (1, .long x1_L6), (3, .int x3_L6)]) C dX5_digest_18 (by decide) rfl ?_
        obtain ⟨X20, hW20, hK20⟩ := obd h
        have l20 : ∀ (fu20 : Nat) (x1_L20 : Int64) (x4_L20 : Int32) (E_L20 : OE), wh (σ := Int64 × Int32 × OE) (ρ := Int64 × OE) (fun t => fX5_digest_L20 x3_L6 t.1 t.2.1 t.2.2) fu20 (x1_L20, x4_L20, E_L20) = some X20 → gG p l e (gR 13) s m args below meth c 5 D A 0 0 Q 20 [(0, .ref o), (1, .long x1_L20), (3, .int x3_L6), (4, .int x4_L20)] [] (wEP cC cI cZ o so sa E_L20) := by
          intro fu20
          induction fu20 with
          | zero => intro x1_L20 x4_L20 E_L20 hW; exact (wh_0 hW).elim
          | succ fu20 ih20 =>
            intro x1_L20 x4_L20 E_L20 hW
            obtain ⟨z20, h, hw20⟩ := wh_s hW
            replace h : fX5_digest_L20 x3_L6 x1_L20 x4_L20 E_L20 = some z20 := h
            unfold fX5_digest_L20 at h
            refine g_iload C dX5_digest_20 3 rfl ?_
            refine g_bipush (v := (6 : Int32)) C dX5_digest_22 (by decide) ?_
            refine g_icmp_gt (tgt := 54) C dX5_digest_24 (by decide) (fun c24 => ?_) (fun c24 => ?_)
            · have h := ifp h c24
              obtain rfl := sinj h
              obtain rfl := wk_r hw20
              have h := hK20
              refine g_lv [0, 1, 2] rfl ?_
              exact j54 x1_L20 x3_L6 E_L20 _ h hw6
            · have h := ifn h c24
              refine g_iload C dX5_digest_27 3 rfl ?_
              refine g_iconst (v := (4 : Int32)) C dX5_digest_29 (by decide) ?_
              refine g_icmp_eq (tgt := 48) C dX5_digest_30 (by decide) (fun c30 => ?_) (fun c30 => ?_)
              · have h := ifp h c30
                refine g_iinc (j := 3) (v := (x4_L20 + (1 : Int32))) (lv' := [(4, .int (x4_L20 + (1 : Int32))), (0, .ref o), (1, .long x1_L20), (3, .int x3_L6)]) C dX5_digest_48 rfl rfl (by decide) rfl ?_
                refine g_goto (tgt := 20) C dX5_digest_51 (by decide) ?_
                obtain rfl := sinj h
                refine g_lv [1, 2, 3, 0] rfl ?_
                exact ih20 x1_L20 (x4_L20 + (1 : Int32)) E_L20 hw20
              · have h := ifn h c30
                refine g_ldc2 C dX5_digest_33 ck_X5_233 ?_
                refine g_lload_n C dX5_digest_36 rfl 1 rfl ?_
                refine g_lmul C dX5_digest_37 ?_
                refine g_aload_n C dX5_digest_38 rfl 0 rfl ?_
                refine g_iload_n C dX5_digest_39 rfl 2 rfl ?_
                refine g_iload C dX5_digest_40 3 rfl ?_
                obtain ⟨⟨r42, T42⟩, h42, h⟩ := obd h
                refine g_callVi (st := [.long ((31 : Int64) * x1_L20)]) (ws2 := wEP cC cI cZ o so sa T42) C yv_X5_line ml_X5_235 dX5_digest_42 (kX5_line l D cC cI cJ cZ o so sa E_L20 x3_L6 x4_L20 r42 T42 h42) gCut_all ⟨by decide, by decide⟩ ⟨rfl, rfl⟩ ⟨Nat.zero_le _, Nat.zero_le _⟩ rfl rfl (Nat.le_of_ble_eq_true rfl) 4 0 rfl rfl rfl ?_
                refine g_i2l C dX5_digest_45 ?_
                refine g_ladd C dX5_digest_46 ?_
                refine g_lstore_n (lv' := [(1, .long (((31 : Int64) * x1_L20) + r42.toInt64)), (0, .ref o), (3, .int x3_L6), (4, .int x4_L20)]) C dX5_digest_47 rfl (by decide) rfl ?_
                refine g_iinc (j := 3) (v := (x4_L20 + (1 : Int32))) (lv' := [(4, .int (x4_L20 + (1 : Int32))), (1, .long (((31 : Int64) * x1_L20) + r42.toInt64)), (0, .ref o), (3, .int x3_L6)]) C dX5_digest_48 rfl rfl (by decide) rfl ?_
                refine g_goto (tgt := 20) C dX5_digest_51 (by decide) ?_
                obtain rfl := sinj h
                refine g_lv [2, 1, 3, 0] rfl ?_
                exact ih20 (((31 : Int64) * x1_L20) + r42.toInt64) (x4_L20 + (1 : Int32)) T42 hw20
        refine g_lv [1, 2, 3, 0] rfl ?_
        exact l20 100000 x1_L6 (0 : Int32) E_L6 hW20
  refine g_lv [2, 1, 0] rfl ?_
  exact l6 100000 (1301 : Int64) (0 : Int32) E hW6
