def fX6_telling_J90 (M : OM) (x1_L52 : Int32) (x2_L52 : Int32) (x3_L52 : Int32) (x5_L52 : Int32) (x6_L52 : Int32) (x4_J90 : Int32) (x7_J90 : Int32) (s0_J90 : Int32) (s1_J90 : Int32) : Option ((Int32 × Int32) ⊕ (Int32)) :=
  (if x4_J90 = 0 then (if ((s1_J90 ||| s0_J90) &&& (x3_L52 ^^^ (-1 : Int32))) = 0 then ((fX6_isTelling M x1_L52 (s1_J90 ||| s0_J90)).bind (fun r111 => (if r111 = 0 then some (.inl (x4_J90, (x7_J90 + (1 : Int32))))
 else some (.inl ((s1_J90 ||| s0_J90), (x7_J90 + (1 : Int32)))))))
 else some (.inl (x4_J90, (x7_J90 + (1 : Int32)))))
 else some (.inl (x4_J90, (x7_J90 + (1 : Int32)))))
def fX6_telling_J76 (M : OM) (x1_L52 : Int32) (x2_L52 : Int32) (x3_L52 : Int32) (x5_L52 : Int32) (x6_L52 : Int32) (x4_J76 : Int32) (x7_J76 : Int32) (s0_J76 : Int32) (s1_J76 : Int32) : Option ((Int32 × Int32) ⊕ (Int32)) :=
  (if x2_L52 ≤ (2 : Int32) then fX6_telling_J90 M x1_L52 x2_L52 x3_L52 x5_L52 x6_L52 x4_J76 x7_J76 (0 : Int32) (s1_J76 ||| s0_J76)
 else fX6_telling_J90 M x1_L52 x2_L52 x3_L52 x5_L52 x6_L52 x4_J76 x7_J76 ((1 : Int32) <<< (x7_J76 &&& 31)) (s1_J76 ||| s0_J76))
def fX6_telling_L52 (M : OM) (x1_L52 : Int32) (x2_L52 : Int32) (x3_L52 : Int32) (x5_L52 : Int32) (x6_L52 : Int32) (x4_L52 : Int32) (x7_L52 : Int32) : Option ((Int32 × Int32) ⊕ (Int32)) :=
  (if (16 : Int32) ≤ x7_L52 then some (.inr x4_L52)
 else (if x2_L52 ≤ (1 : Int32) then fX6_telling_J76 M x1_L52 x2_L52 x3_L52 x5_L52 x6_L52 x4_L52 x7_L52 (0 : Int32) ((1 : Int32) <<< (x5_L52 &&& 31))
 else fX6_telling_J76 M x1_L52 x2_L52 x3_L52 x5_L52 x6_L52 x4_L52 x7_L52 ((1 : Int32) <<< (x6_L52 &&& 31)) ((1 : Int32) <<< (x5_L52 &&& 31))))
def fX6_telling_J127 (M : OM) (x1_L29 : Int32) (x2_L29 : Int32) (x3_L29 : Int32) (x5_L29 : Int32) (x4_J127 : Int32) (x6_J127 : Int32) : Option ((Int32 × Int32) ⊕ (Int32)) :=
  some (.inl (x4_J127, (x6_J127 + (1 : Int32))))
def fX6_telling_J50 (M : OM) (x1_L29 : Int32) (x2_L29 : Int32) (x3_L29 : Int32) (x5_L29 : Int32) (x4_J50 : Int32) (x6_J50 : Int32) (s0_J50 : Int32) : Option ((Int32 × Int32) ⊕ (Int32)) :=
  ((wh (σ := Int32 × Int32) (ρ := Int32) (fun t => fX6_telling_L52 M x1_L29 x2_L29 x3_L29 x5_L29 x6_J50 t.1 t.2) 100000 (x4_J50, s0_J50)).bind (fun e4_L52 => fX6_telling_J127 M x1_L29 x2_L29 x3_L29 x5_L29 e4_L52 x6_J50))
def fX6_telling_L29 (M : OM) (x1_L29 : Int32) (x2_L29 : Int32) (x3_L29 : Int32) (x5_L29 : Int32) (x4_L29 : Int32) (x6_L29 : Int32) : Option ((Int32 × Int32) ⊕ (Int32)) :=
  (if (16 : Int32) ≤ x6_L29 then some (.inr x4_L29)
 else (if x2_L29 ≤ (2 : Int32) then fX6_telling_J50 M x1_L29 x2_L29 x3_L29 x5_L29 x4_L29 x6_L29 (15 : Int32)
 else fX6_telling_J50 M x1_L29 x2_L29 x3_L29 x5_L29 x4_L29 x6_L29 (x6_L29 + (1 : Int32))))
def fX6_telling_J133 (M : OM) (x1_L6 : Int32) (x2_L6 : Int32) (x3_L6 : Int32) (x4_J133 : Int32) (x5_J133 : Int32) : Option ((Int32 × Int32) ⊕ (Int32)) :=
  some (.inl (x4_J133, (x5_J133 + (1 : Int32))))
def fX6_telling_J27 (M : OM) (x1_L6 : Int32) (x2_L6 : Int32) (x3_L6 : Int32) (x4_J27 : Int32) (x5_J27 : Int32) (s0_J27 : Int32) : Option ((Int32 × Int32) ⊕ (Int32)) :=
  ((wh (σ := Int32 × Int32) (ρ := Int32) (fun t => fX6_telling_L29 M x1_L6 x2_L6 x3_L6 x5_J27 t.1 t.2) 100000 (x4_J27, s0_J27)).bind (fun e4_L29 => fX6_telling_J133 M x1_L6 x2_L6 x3_L6 e4_L29 x5_J27))
def fX6_telling_L6 (M : OM) (x1_L6 : Int32) (x2_L6 : Int32) (x3_L6 : Int32) (x4_L6 : Int32) (x5_L6 : Int32) : Option ((Int32 × Int32) ⊕ (Int32)) :=
  (if (16 : Int32) ≤ x5_L6 then some (.inr x4_L6)
 else (if x2_L6 ≤ (1 : Int32) then fX6_telling_J27 M x1_L6 x2_L6 x3_L6 x4_L6 x5_L6 (15 : Int32)
 else fX6_telling_J27 M x1_L6 x2_L6 x3_L6 x4_L6 x5_L6 (x5_L6 + (1 : Int32))))
def fX6_telling_J139 (M : OM) (x4_J139 : Int32) : Option (Int32) :=
  some x4_J139
def fX6_telling (M : OM) (x1 : Int32) (x2 : Int32) (x3 : Int32) : Option (Int32) :=
  ((wh (σ := Int32 × Int32) (ρ := Int32) (fun t => fX6_telling_L6 M x1 x2 x3 t.1 t.2) 100000 ((0 : Int32), (0 : Int32))).bind (fun e4_L6 => fX6_telling_J139 M e4_L6))
set_option maxHeartbeats 4000000 in
set_option maxRecDepth 100000 in
theorem kX6_telling (l : Launch) (D : va_G) (cC cI cJ cZ : ClassId) (o : Nat) (a : Nat → Nat) (M : OM) (x1 : Int32) (x2 : Int32) (x3 : Int32) (r : Int32) (h : fX6_telling M x1 x2 x3 = some r) : gMi l yX6_telling cX6_telling 9 (some .int) (gR 4) D (tysG cC cI cJ cZ) [.ref o, .int x1, .int x2, .int x3] (wMod cI cJ o a M) r (wMod cI cJ o a M) := by
  refine gMi_of (by decide) (Nat.le_of_ble_eq_true rfl) rfl ?_
  intro p e s m args below meth c A Q C hQ
  have j139 : ∀ (x4_J139 : Int32), fX6_telling_J139 M x4_J139 = some r → gG p l e (gR 4) s m args below meth c 9 D A 0 0 Q 139 [(4, .int x4_J139)] [] (wMod cI cJ o a M) := by
    intro x4_J139 h
    unfold fX6_telling_J139 at h
    refine g_iload C dX6_telling_139 0 rfl ?_
    cases sinj h
    exact g_iret C dX6_telling_141 rfl rfl hQ
  unfold fX6_telling at h
  refine g_iconst (v := (0 : Int32)) C dX6_telling_0 (by decide) ?_
  refine g_istore (lv' := [(4, .int (0 : Int32)), (0, .ref o), (1, .int x1), (2, .int x2), (3, .int x3)]) C dX6_telling_1 (by decide) rfl ?_
  refine g_iconst (v := (0 : Int32)) C dX6_telling_3 (by decide) ?_
  refine g_istore (lv' := [(5, .int (0 : Int32)), (4, .int (0 : Int32)), (0, .ref o), (1, .int x1), (2, .int x2), (3, .int x3)]) C dX6_telling_4 (by decide) rfl ?_
  obtain ⟨X6, hW6, hK6⟩ := obd h
  have l6 : ∀ (fu6 : Nat) (x4_L6 : Int32) (x5_L6 : Int32), wh (σ := Int32 × Int32) (ρ := Int32) (fun t => fX6_telling_L6 M x1 x2 x3 t.1 t.2) fu6 (x4_L6, x5_L6) = some X6 → gG p l e (gR 4) s m args below meth c 9 D A 0 0 Q 6 [(0, .ref o), (1, .int x1), (2, .int x2), (3, .int x3), (4, .int x4_L6), (5, .int x5_L6)] [] (wMod cI cJ o a M) := by
    intro fu6
    induction fu6 with
    | zero => intro x4_L6 x5_L6 hW; exact (wh_0 hW).elim
    | succ fu6 ih6 =>
      intro x4_L6 x5_L6 hW
      obtain ⟨z6, h, hw6⟩ := wh_s hW
      have j133 : ∀ (x4_J133 : Int32) (x5_J133 : Int32) (z6 : (Int32 × Int32) ⊕ (Int32)), fX6_telling_J133 M x1 x2 x3 x4_J133 x5_J133 = some z6 → wk (fun t => fX6_telling_L6 M x1 x2 x3 t.1 t.2) fu6 z6 = some X6 → gG p l e (gR 4) s m args below meth c 9 D A 0 0 Q 133 [(0, .ref o), (1, .int x1), (2, .int x2), (3, .int x3), (4, .int x4_J133), (5, .int x5_J133)] [] (wMod cI cJ o a M) := by
        intro x4_J133 x5_J133 z6 h hw6
        unfold fX6_telling_J133 at h
        refine g_iinc (j := 5) (v := (x5_J133 + (1 : Int32))) (lv' := [(5, .int (x5_J133 + (1 : Int32))), (0, .ref o), (1, .int x1), (2, .int x2), (3, .int x3), (4, .int x4_J133)]) C dX6_telling_133 rfl rfl (by decide) rfl ?_
        refine g_goto (tgt := 6) C dX6_telling_136 (by decide) ?_
        obtain rfl := sinj h
        refine g_lv [1, 2, 3, 4, 5, 0] rfl ?_
        exact ih6 x4_J133 (x5_J133 + (1 : Int32)) hw6
      have j27 : ∀ (x4_J27 : Int32) (x5_J27 : Int32) (s0_J27 : Int32) (z6 : (Int32 × Int32) ⊕ (Int32)), fX6_telling_J27 M x1 x2 x3 x4_J27 x5_J27 s0_J27 = some z6 → wk (fun t => fX6_telling_L6 M x1 x2 x3 t.1 t.2) fu6 z6 = some X6 → gG p l e (gR 4) s m args below meth c 9 D A 0 0 Q 27 [(0, .ref o), (1, .int x1), (2, .int x2), (3, .int x3), (4, .int x4_J27), (5, .int x5_J27)] [.int s0_J27] (wMod cI cJ o a M) := by
        intro x4_J27 x5_J27 s0_J27 z6 h hw6
        unfold fX6_telling_J27 at h
        refine g_istore (lv' := [(6, .int s0_J27), (0, .ref o), (1, .int x1), (2, .int x2), (3, .int x3), (4, .int x4_J27), (5, .int x5_J27)]) C dX6_telling_27 (by decide) rfl ?_
        obtain ⟨X29, hW29, hK29⟩ := obd h
        have l29 : ∀ (fu29 : Nat) (x4_L29 : Int32) (x6_L29 : Int32), wh (σ := Int32 × Int32) (ρ := Int32) (fun t => fX6_telling_L29 M x1 x2 x3 x5_J27 t.1 t.2) fu29 (x4_L29, x6_L29) = some X29 → gG p l e (gR 4) s m args below meth c 9 D A 0 0 Q 29 [(0, .ref o), (1, .int x1), (2, .int x2), (3, .int x3), (4, .int x4_L29), (5, .int x5_J27), (6, .int x6_L29)] [] (wMod cI cJ o a M) := by
          intro fu29
          induction fu29 with
          | zero => intro x4_L29 x6_L29 hW; exact (wh_0 hW).elim
          | succ fu29 ih29 =>
            intro x4_L29 x6_L29 hW
            obtain ⟨z29, h, hw29⟩ := wh_s hW
            have j127 : ∀ (x4_J127 : Int32) (x6_J127 : Int32) (z29 : (Int32 × Int32) ⊕ (Int32)), fX6_telling_J127 M x1 x2 x3 x5_J27 x4_J127 x6_J127 = some z29 → wk (fun t => fX6_telling_L29 M x1 x2 x3 x5_J27 t.1 t.2) fu29 z29 = some X29 → gG p l e (gR 4) s m args below meth c 9 D A 0 0 Q 127 [(0, .ref o), (1, .int x1), (2, .int x2), (3, .int x3), (4, .int x4_J127), (5, .int x5_J27), (6, .int x6_J127)] [] (wMod cI cJ o a M) := by
              intro x4_J127 x6_J127 z29 h hw29
              unfold fX6_telling_J127 at h
              refine g_iinc (j := 6) (v := (x6_J127 + (1 : Int32))) (lv' := [(6, .int (x6_J127 + (1 : Int32))), (0, .ref o), (1, .int x1), (2, .int x2), (3, .int x3), (4, .int x4_J127), (5, .int x5_J27)]) C dX6_telling_127 rfl rfl (by decide) rfl ?_
              refine g_goto (tgt := 29) C dX6_telling_130 (by decide) ?_
              obtain rfl := sinj h
              refine g_lv [1, 2, 3, 4, 5, 6, 0] rfl ?_
              exact ih29 x4_J127 (x6_J127 + (1 : Int32)) hw29
            have j50 : ∀ (x4_J50 : Int32) (x6_J50 : Int32) (s0_J50 : Int32) (z29 : (Int32 × Int32) ⊕ (Int32)), fX6_telling_J50 M x1 x2 x3 x5_J27 x4_J50 x6_J50 s0_J50 = some z29 → wk (fun t => fX6_telling_L29 M x1 x2 x3 x5_J27 t.1 t.2) fu29 z29 = some X29 → gG p l e (gR 4) s m args below meth c 9 D A 0 0 Q 50 [(0, .ref o), (1, .int x1), (2, .int x2), (3, .int x3), (4, .int x4_J50), (5, .int x5_J27), (6, .int x6_J50)] [.int s0_J50] (wMod cI cJ o a M) := by
              intro x4_J50 x6_J50 s0_J50 z29 h hw29
              unfold fX6_telling_J50 at h
              refine g_istore (lv' := [(7, .int s0_J50), (0, .ref o), (1, .int x1), (2, .int x2), (3, .int x3), (4, .int x4_J50), (5, .int x5_J27), (6, .int x6_J50)]) C dX6_telling_50 (by decide) rfl ?_
              obtain ⟨X52, hW52, hK52⟩ := obd h
              have l52 : ∀ (fu52 : Nat) (x4_L52 : Int32) (x7_L52 : Int32), wh (σ := Int32 × Int32) (ρ := Int32) (fun t => fX6_telling_L52 M x1 x2 x3 x5_J27 x6_J50 t.1 t.2) fu52 (x4_L52, x7_L52) = some X52 → gG p l e (gR 4) s m args below meth c 9 D A 0 0 Q 52 [(0, .ref o), (1, .int x1), (2, .int x2), (3, .int x3), (4, .int x4_L52), (5, .int x5_J27), (6, .int x6_J50), (7, .int x7_L52)] [] (wMod cI cJ o a M) := by
                intro fu52
                induction fu52 with
                | zero => intro x4_L52 x7_L52 hW; exact (wh_0 hW).elim
                | succ fu52 ih52 =>
                  intro x4_L52 x7_L52 hW
                  obtain ⟨z52, h, hw52⟩ := wh_s hW
                  have j90 : ∀ (x4_J90 : Int32) (x7_J90 : Int32) (s0_J90 : Int32) (s1_J90 : Int32) (z52 : (Int32 × Int32) ⊕ (Int32)), fX6_telling_J90 M x1 x2 x3 x5_J27 x6_J50 x4_J90 x7_J90 s0_J90 s1_J90 = some z52 → wk (fun t => fX6_telling_L52 M x1 x2 x3 x5_J27 x6_J50 t.1 t.2) fu52 z52 = some X52 → gG p l e (gR 4) s m args below meth c 9 D A 0 0 Q 90 [(0, .ref o), (1, .int x1), (2, .int x2), (3, .int x3), (4, .int x4_J90), (5, .int x5_J27), (6, .int x6_J50), (7, .int x7_J90)] [.int s0_J90, .int s1_J90] (wMod cI cJ o a M) := by
                    intro x4_J90 x7_J90 s0_J90 s1_J90 z52 h hw52
                    unfold fX6_telling_J90 at h
                    refine g_ior C dX6_telling_90 ?_
                    refine g_istore (lv' := [(8, .int (s1_J90 ||| s0_J90)), (0, .ref o), (1, .int x1), (2, .int x2), (3, .int x3), (4, .int x4_J90), (5, .int x5_J27), (6, .int x6_J50), (7, .int x7_J90)]) C dX6_telling_91 (by decide) rfl ?_
                    refine g_iload C dX6_telling_93 5 rfl ?_
                    refine g_if_ne (tgt := 121) C dX6_telling_95 (by decide) (fun c95 => ?_) (fun c95 => ?_)
                    · have h := ifn h c95
                      refine g_iinc (j := 8) (v := (x7_J90 + (1 : Int32))) (lv' := [(7, .int (x7_J90 + (1 : Int32))), (8, .int (s1_J90 ||| s0_J90)), (0, .ref o), (1, .int x1), (2, .int x2), (3, .int x3), (4, .int x4_J90), (5, .int x5_J27), (6, .int x6_J50)]) C dX6_telling_121 rfl rfl (by decide) rfl ?_
                      refine g_goto (tgt := 52) C dX6_telling_124 (by decide) ?_
                      obtain rfl := sinj h
                      refine g_lv [2, 3, 4, 5, 6, 7, 8, 0] rfl ?_
                      exact ih52 x4_J90 (x7_J90 + (1 : Int32)) hw52
                    · have h := ifp h c95
                      refine g_iload C dX6_telling_98 0 rfl ?_
                      refine g_iload_n C dX6_telling_100 rfl 4 rfl ?_
                      refine g_iconst (v := (-1 : Int32)) C dX6_telling_101 (by decide) ?_
                      refine g_ixor C dX6_telling_102 ?_
                      refine g_iand C dX6_telling_103 ?_
                      refine g_if_ne (tgt := 121) C dX6_telling_104 (by decide) (fun c104 => ?_) (fun c104 => ?_)
                      · have h := ifn h c104
                        refine g_iinc (j := 8) (v := (x7_J90 + (1 : Int32))) (lv' := [(7, .int (x7_J90 + (1 : Int32))), (8, .int (s1_J90 ||| s0_J90)), (0, .ref o), (1, .int x1), (2, .int x2), (3, .int x3), (4, .int x4_J90), (5, .int x5_J27), (6, .int x6_J50)]) C dX6_telling_121 rfl rfl (by decide) rfl ?_
                        refine g_goto (tgt := 52) C dX6_telling_124 (by decide) ?_
                        obtain rfl := sinj h
                        refine g_lv [2, 3, 4, 5, 6, 7, 8, 0] rfl ?_
                        exact ih52 x4_J90 (x7_J90 + (1 : Int32)) hw52
                      · have h := ifp h c104
                        refine g_aload_n C dX6_telling_107 rfl 1 rfl ?_
                        refine g_iload_n C dX6_telling_108 rfl 2 rfl ?_
                        refine g_iload C dX6_telling_109 0 rfl ?_
                        obtain ⟨r111, h111, h⟩ := obd h
                        refine g_callVi (st := []) (ws2 := wMod cI cJ o a M) C yv_X6_isTelling ml_X6_278 dX6_telling_111 (kX6_isTelling l D cC cI cJ cZ o a M x1 (s1_J90 ||| s0_J90) r111 h111) gCut_all ⟨by decide, by decide⟩ ⟨rfl, rfl⟩ ⟨Nat.zero_le _, Nat.zero_le _⟩ rfl rfl (Nat.le_of_ble_eq_true rfl) 5 0 rfl rfl rfl ?_
                        refine g_if_eq (tgt := 121) C dX6_telling_114 (by decide) (fun c114 => ?_) (fun c114 => ?_)
                        · have h := ifp h c114
                          refine g_iinc (j := 8) (v := (x7_J90 + (1 : Int32))) (lv' := [(7, .int (x7_J90 + (1 : Int32))), (8, .int (s1_J90 ||| s0_J90)), (0, .ref o), (1, .int x1), (2, .int x2), (3, .int x3), (4, .int x4_J90), (5, .int x5_J27), (6, .int x6_J50)]) C dX6_telling_121 rfl rfl (by decide) rfl ?_
                          refine g_goto (tgt := 52) C dX6_telling_124 (by decide) ?_
                          obtain rfl := sinj h
                          refine g_lv [2, 3, 4, 5, 6, 7, 8, 0] rfl ?_
                          exact ih52 x4_J90 (x7_J90 + (1 : Int32)) hw52
                        · have h := ifn h c114
                          refine g_iload C dX6_telling_117 0 rfl ?_
                          refine g_istore (lv' := [(4, .int (s1_J90 ||| s0_J90)), (8, .int (s1_J90 ||| s0_J90)), (0, .ref o), (1, .int x1), (2, .int x2), (3, .int x3), (5, .int x5_J27), (6, .int x6_J50), (7, .int x7_J90)]) C dX6_telling_119 (by decide) rfl ?_
                          refine g_iinc (j := 8) (v := (x7_J90 + (1 : Int32))) (lv' := [(7, .int (x7_J90 + (1 : Int32))), (4, .int (s1_J90 ||| s0_J90)), (8, .int (s1_J90 ||| s0_J90)), (0, .ref o), (1, .int x1), (2, .int x2), (3, .int x3), (5, .int x5_J27), (6, .int x6_J50)]) C dX6_telling_121 rfl rfl (by decide) rfl ?_
                          refine g_goto (tgt := 52) C dX6_telling_124 (by decide) ?_
                          obtain rfl := sinj h
                          refine g_lv [3, 4, 5, 6, 1, 7, 8, 0] rfl ?_
                          exact ih52 (s1_J90 ||| s0_J90) (x7_J90 + (1 : Int32)) hw52
                  have j76 : ∀ (x4_J76 : Int32) (x7_J76 : Int32) (s0_J76 : Int32) (s1_J76 : Int32) (z52 : (Int32 × Int32) ⊕ (Int32)), fX6_telling_J76 M x1 x2 x3 x5_J27 x6_J50 x4_J76 x7_J76 s0_J76 s1_J76 = some z52 → wk (fun t => fX6_telling_L52 M x1 x2 x3 x5_J27 x6_J50 t.1 t.2) fu52 z52 = some X52 → gG p l e (gR 4) s m args below meth c 9 D A 0 0 Q 76 [(0, .ref o), (1, .int x1), (2, .int x2), (3, .int x3), (4, .int x4_J76), (5, .int x5_J27), (6, .int x6_J50), (7, .int x7_J76)] [.int s0_J76, .int s1_J76] (wMod cI cJ o a M) := by
                    intro x4_J76 x7_J76 s0_J76 s1_J76 z52 h hw52
                    unfold fX6_telling_J76 at h
                    refine g_ior C dX6_telling_76 ?_
                    refine g_iload_n C dX6_telling_77 rfl 2 rfl ?_
                    refine g_iconst (v := (2 : Int32)) C dX6_telling_78 (by decide) ?_
                    refine g_icmp_le (tgt := 89) C dX6_telling_79 (by decide) (fun c79 => ?_) (fun c79 => ?_)
                    · have h := ifp h c79
                      refine g_iconst (v := (0 : Int32)) C dX6_telling_89 (by decide) ?_
                      refine g_lv [0, 1, 2, 3, 4, 5, 6, 7] rfl ?_
                      exact j90 x4_J76 x7_J76 (0 : Int32) (s1_J76 ||| s0_J76) _ h hw52
                    · have h := ifn h c79
                      refine g_iconst (v := (1 : Int32)) C dX6_telling_82 (by decide) ?_
                      refine g_iload C dX6_telling_83 7 rfl ?_
                      refine g_ishl C dX6_telling_85 ?_
                      refine g_goto (tgt := 90) C dX6_telling_86 (by decide) ?_
                      refine g_lv [0, 1, 2, 3, 4, 5, 6, 7] rfl ?_
                      exact j90 x4_J76 x7_J76 ((1 : Int32) <<< (x7_J76 &&& 31)) (s1_J76 ||| s0_J76) _ h hw52
                  replace h : fX6_telling_L52 M x1 x2 x3 x5_J27 x6_J50 x4_L52 x7_L52 = some z52 := h
                  unfold fX6_telling_L52 at h
                  refine g_iload C dX6_telling_52 7 rfl ?_
                  refine g_bipush (v := (16 : Int32)) C dX6_telling_54 (by decide) ?_
                  refine g_icmp_ge (tgt := 127) C dX6_telling_56 (by decide) (fun c56 => ?_) (fun c56 => ?_)
                  · have h := ifp h c56
                    obtain rfl := sinj h
                    obtain rfl := wk_r hw52
                    have h := hK52
                    refine g_lv [0, 1, 2, 3, 4, 5, 6] rfl ?_
                    exact j127 x4_L52 x6_J50 _ h hw29
                  · have h := ifn h c56
                    refine g_iconst (v := (1 : Int32)) C dX6_telling_59 (by decide) ?_
                    refine g_iload C dX6_telling_60 5 rfl ?_
                    refine g_ishl C dX6_telling_62 ?_
                    refine g_iload_n C dX6_telling_63 rfl 2 rfl ?_
                    refine g_iconst (v := (1 : Int32)) C dX6_telling_64 (by decide) ?_
                    refine g_icmp_le (tgt := 75) C dX6_telling_65 (by decide) (fun c65 => ?_) (fun c65 => ?_)
                    · have h := ifp h c65
                      refine g_iconst (v := (0 : Int32)) C dX6_telling_75 (by decide) ?_
                      refine g_lv [0, 1, 2, 3, 4, 5, 6, 7] rfl ?_
                      exact j76 x4_L52 x7_L52 (0 : Int32) ((1 : Int32) <<< (x5_J27 &&& 31)) _ h hw52
                    · have h := ifn h c65
                      refine g_iconst (v := (1 : Int32)) C dX6_telling_68 (by decide) ?_
                      refine g_iload C dX6_telling_69 6 rfl ?_
                      refine g_ishl C dX6_telling_71 ?_
                      refine g_goto (tgt := 76) C dX6_telling_72 (by decide) ?_
                      refine g_lv [0, 1, 2, 3, 4, 5, 6, 7] rfl ?_
                      exact j76 x4_L52 x7_L52 ((1 : Int32) <<< (x6_J50 &&& 31)) ((1 : Int32) <<< (x5_J27 &&& 31)) _ h hw52
              refine g_lv [1, 2, 3, 4, 5, 6, 7, 0] rfl ?_
              exact l52 100000 x4_J50 s0_J50 hW52
            replace h : fX6_telling_L29 M x1 x2 x3 x5_J27 x4_L29 x6_L29 = some z29 := h
            unfold fX6_telling_L29 at h
            refine g_iload C dX6_telling_29 6 rfl ?_
            refine g_bipush (v := (16 : Int32)) C dX6_telling_31 (by decide) ?_
            refine g_icmp_ge (tgt := 133) C dX6_telling_33 (by decide) (fun c33 => ?_) (fun c33 => ?_)
            · have h := ifp h c33
              obtain rfl := sinj h
              obtain rfl := wk_r hw29
              have h := hK29
              refine g_lv [0, 1, 2, 3, 4, 5] rfl ?_
              exact j133 x4_L29 x5_J27 _ h hw6
            · have h := ifn h c33
              refine g_iload_n C dX6_telling_36 rfl 2 rfl ?_
              refine g_iconst (v := (2 : Int32)) C dX6_telling_37 (by decide) ?_
              refine g_icmp_le (tgt := 48) C dX6_telling_38 (by decide) (fun c38 => ?_) (fun c38 => ?_)
              · have h := ifp h c38
                refine g_bipush (v := (15 : Int32)) C dX6_telling_48 (by decide) ?_
                refine g_lv [0, 1, 2, 3, 4, 5, 6] rfl ?_
                exact j50 x4_L29 x6_L29 (15 : Int32) _ h hw29
              · have h := ifn h c38
                refine g_iload C dX6_telling_41 6 rfl ?_
                refine g_iconst (v := (1 : Int32)) C dX6_telling_43 (by decide) ?_
                refine g_iadd C dX6_telling_44 ?_
                refine g_goto (tgt := 50) C dX6_telling_45 (by decide) ?_
                refine g_lv [0, 1, 2, 3, 4, 5, 6] rfl ?_
                exact j50 x4_L29 x6_L29 (x6_L29 + (1 : Int32)) _ h hw29
        refine g_lv [1, 2, 3, 4, 5, 6, 0] rfl ?_
        exact l29 100000 x4_J27 s0_J27 hW29
      replace h : fX6_telling_L6 M x1 x2 x3 x4_L6 x5_L6 = some z6 := h
      unfold fX6_telling_L6 at h
      refine g_iload C dX6_telling_6 5 rfl ?_
      refine g_bipush (v := (16 : Int32)) C dX6_telling_8 (by decide) ?_
      refine g_icmp_ge (tgt := 139) C dX6_telling_10 (by decide) (fun c10 => ?_) (fun c10 => ?_)
      · have h := ifp h c10
        obtain rfl := sinj h
        obtain rfl := wk_r hw6
        have h := hK6
        refine g_lv [4] rfl ?_
        exact j139 x4_L6 h
      · have h := ifn h c10
        refine g_iload_n C dX6_telling_13 rfl 2 rfl ?_
        refine g_iconst (v := (1 : Int32)) C dX6_telling_14 (by decide) ?_
        refine g_icmp_le (tgt := 25) C dX6_telling_15 (by decide) (fun c15 => ?_) (fun c15 => ?_)
        · have h := ifp h c15
          refine g_bipush (v := (15 : Int32)) C dX6_telling_25 (by decide) ?_
          refine g_lv [0, 1, 2, 3, 4, 5] rfl ?_
          exact j27 x4_L6 x5_L6 (15 : Int32) _ h hw6
        · have h := ifn h c15
          refine g_iload C dX6_telling_18 5 rfl ?_
          refine g_iconst (v := (1 : Int32)) C dX6_telling_20 (by decide) ?_
          refine g_iadd C dX6_telling_21 ?_
          refine g_goto (tgt := 27) C dX6_telling_22 (by decide) ?_
          refine g_lv [0, 1, 2, 3, 4, 5] rfl ?_
          exact j27 x4_L6 x5_L6 (x5_L6 + (1 : Int32)) _ h hw6
  refine g_lv [2, 3, 4, 5, 1, 0] rfl ?_
  exact l6 100000 (0 : Int32) (0 : Int32) hW6
def fX6_hintsOf_L77 (M : OM) (x2_L77 : Int32) (x4_L77 : Int32) (x5_L77 : Int32) (x6_L77 : Int32) (x7_L77 : Int32) (x8_L77 : Int32) : Option ((Int32 × Int32 × Int32) ⊕ (Int32)) :=
  (if (16 : Int32) ≤ x8_L77 then some (.inr x7_L77)
 else (if ((x5_L77 >>> (x8_L77 &&& 31)) &&& (1 : Int32)) = (1 : Int32) then (if (x6_L77 + ((x5_L77 >>> (x8_L77 &&& 31)) &&& (1 : Int32))) = x2_L77 then some (.inl ((x6_L77 + ((x5_L77 >>> (x8_L77 &&& 31)) &&& (1 : Int32))), x8_L77, (x8_L77 + (1 : Int32))))
 else some (.inl ((x6_L77 + ((x5_L77 >>> (x8_L77 &&& 31)) &&& (1 : Int32))), x7_L77, (x8_L77 + (1 : Int32)))))
 else some (.inl ((x6_L77 + ((x5_L77 >>> (x8_L77 &&& 31)) &&& (1 : Int32))), x7_L77, (x8_L77 + (1 : Int32))))))
def fX6_hintsOf_J128 (M : OM) (x2_L47 : Int32) (x4_J128 : Int32) (x7_J128 : Int32) : Option ((Int32) ⊕ ((Int32) ⊕ (Unit))) :=
  (if x2_L47 = 0 then some (.inr (.inl x4_J128))
 else some (.inr (.inl x7_J128)))
def fX6_hintsOf_L47 (M : OM) (x1_L47 : Int32) (x2_L47 : Int32) (x3_L47 : Int32) (x4_L47 : Int32) : Option ((Int32) ⊕ ((Int32) ⊕ (Unit))) :=
  (if (4 : Int32) ≤ x4_L47 then some (.inr (.inr ()))
 else ((fX6_telling M x1_L47 x4_L47 x3_L47).bind (fun r58 => (if r58 = 0 then some (.inl (x4_L47 + (1 : Int32)))
 else ((wh (σ := Int32 × Int32 × Int32) (ρ := Int32) (fun t => fX6_hintsOf_L77 M x2_L47 x4_L47 r58 t.1 t.2.1 t.2.2) 100000 ((0 : Int32), (-1 : Int32), (0 : Int32))).bind (fun e7_L77 => fX6_hintsOf_J128 M x2_L47 x4_L47 e7_L77))))))
def fX6_hintsOf_J146 (M : OM) : Option (Int32) :=
  some (-1 : Int32)
def fX6_hintsOf (M : OM) (x1 : Int32) (x2 : Int32) : Option (Int32) :=
  (if (M.1 22) = (1 : Int32) then (if x2 = 0 then some (0 : Int32)
 else some (-1 : Int32))
 else ((fX6_marked M (1 : Int32)).bind (fun r33 => ((fX6_marked M (2 : Int32)).bind (fun r39 => ((wh (σ := Int32) (ρ := (Int32) ⊕ (Unit)) (fun t => fX6_hintsOf_L47 M x1 x2 (((((1 : Int32) <<< (((M.1 9) * (M.1 10)) &&& 31)) - (1 : Int32)) - r33) - r39) t) 100000 (1 : Int32)).bind (fun X => Sum.elim (fun r => some r) (fun _ => fX6_hintsOf_J146 M) X)))))))
set_option maxHeartbeats 4000000 in
set_option maxRecDepth 100000 in
theorem kX6_hintsOf (l : Launch) (D : va_G) (cC cI cJ cZ : ClassId) (o : Nat) (a : Nat → Nat) (M : OM) (x1 : Int32) (x2 : Int32) (r : Int32) (h : fX6_hintsOf M x1 x2 = some r) : gMi l yX6_hintsOf cX6_hintsOf 9 (some .int) (gR 5) D (tysG cC cI cJ cZ) [.ref o, .int x1, .int x2] (wMod cI cJ o a M) r (wMod cI cJ o a M) := by
  refine gMi_of (by decide) (Nat.le_of_ble_eq_true rfl) rfl ?_
  intro p e s m args below meth c A Q C hQ
  have j146 : fX6_hintsOf_J146 M = some r → gG p l e (gR 5) s m args below meth c 9 D A 0 0 Q 146 [] [] (wMod cI cJ o a M) := by
    intro h
    unfold fX6_hintsOf_J146 at h
    refine g_iconst (v := (-1 : Int32)) C dX6_hintsOf_146 (by decide) ?_
    cases sinj h
    exact g_iret C dX6_hintsOf_147 rfl rfl hQ
  unfold fX6_hintsOf at h
  refine g_aload_n C dX6_hintsOf_0 rfl 0 rfl ?_
  refine g_get (v := .int (M.1 22)) C fl_X6_201 dX6_hintsOf_1 0 rfl rfl ?_
  refine g_iconst (v := (1 : Int32)) C dX6_hintsOf_4 (by decide) ?_
  refine g_icmp_ne (tgt := 18) C dX6_hintsOf_5 (by decide) (fun c5 => ?_) (fun c5 => ?_)
  · have h := ifn h c5
    refine g_iconst (v := (1 : Int32)) C dX6_hintsOf_18 (by decide) ?_
    refine g_aload_n C dX6_hintsOf_19 rfl 0 rfl ?_
    refine g_get (v := .int (M.1 9)) C fl_X6_141 dX6_hintsOf_20 0 rfl rfl ?_
    refine g_aload_n C dX6_hintsOf_23 rfl 0 rfl ?_
    refine g_get (v := .int (M.1 10)) C fl_X6_144 dX6_hintsOf_24 0 rfl rfl ?_
    refine g_imul C dX6_hintsOf_27 ?_
    refine g_ishl C dX6_hintsOf_28 ?_
    refine g_iconst (v := (1 : Int32)) C dX6_hintsOf_29 (by decide) ?_
    refine g_isub C dX6_hintsOf_30 ?_
    refine g_aload_n C dX6_hintsOf_31 rfl 0 rfl ?_
    refine g_iconst (v := (1 : Int32)) C dX6_hintsOf_32 (by decide) ?_
    obtain ⟨r33, h33, h⟩ := obd h
    refine g_callVi (st := [.int (((1 : Int32) <<< (((M.1 9) * (M.1 10)) &&& 31)) - (1 : Int32))]) (ws2 := wMod cI cJ o a M) C yv_X6_marked ml_X6_204 dX6_hintsOf_33 (kX6_marked l D cC cI cJ cZ o a M (1 : Int32) r33 h33) gCut_all ⟨by decide, by decide⟩ ⟨rfl, rfl⟩ ⟨Nat.zero_le _, Nat.zero_le _⟩ rfl rfl (Nat.le_of_ble_eq_true rfl) 5 0 rfl rfl rfl ?_
    refine g_isub C dX6_hintsOf_36 ?_
    refine g_aload_n C dX6_hintsOf_37 rfl 0 rfl ?_
    refine g_iconst (v := (2 : Int32)) C dX6_hintsOf_38 (by decide) ?_
    obtain ⟨r39, h39, h⟩ := obd h
    refine g_callVi (st := [.int ((((1 : Int32) <<< (((M.1 9) * (M.1 10)) &&& 31)) - (1 : Int32)) - r33)]) (ws2 := wMod cI cJ o a M) C yv_X6_marked ml_X6_204 dX6_hintsOf_39 (kX6_marked l D cC cI cJ cZ o a M (2 : Int32) r39 h39) gCut_all ⟨by decide, by decide⟩ ⟨rfl, rfl⟩ ⟨Nat.zero_le _, Nat.zero_le _⟩ rfl rfl (Nat.le_of_ble_eq_true rfl) 5 0 rfl rfl rfl ?_
    refine g_isub C dX6_hintsOf_42 ?_
    refine g_istore_n (lv' := [(3, .int (((((1 : Int32) <<< (((M.1 9) * (M.1 10)) &&& 31)) - (1 : Int32)) - r33) - r39)), (0, .ref o), (1, .int x1), (2, .int x2)]) C dX6_hintsOf_43 rfl (by decide) rfl ?_
    refine g_iconst (v := (1 : Int32)) C dX6_hintsOf_44 (by decide) ?_
    refine g_istore (lv' := [(4, .int (1 : Int32)), (3, .int (((((1 : Int32) <<< (((M.1 9) * (M.1 10)) &&& 31)) - (1 : Int32)) - r33) - r39)), (0, .ref o), (1, .int x1), (2, .int x2)]) C dX6_hintsOf_45 (by decide) rfl ?_
    obtain ⟨X47, hW47, hK47⟩ := obd h
    have l47 : ∀ (fu47 : Nat) (x4_L47 : Int32), wh (σ := Int32) (ρ := (Int32) ⊕ (Unit)) (fun t => fX6_hintsOf_L47 M x1 x2 (((((1 : Int32) <<< (((M.1 9) * (M.1 10)) &&& 31)) - (1 : Int32)) - r33) - r39) t) fu47 x4_L47 = some X47 → gG p l e (gR 5) s m args below meth c 9 D A 0 0 Q 47 [(0, .ref o), (1, .int x1), (2, .int x2), (3, .int (((((1 : Int32) <<< (((M.1 9) * (M.1 10)) &&& 31)) - (1 : Int32)) - r33) - r39)), (4, .int x4_L47)] [] (wMod cI cJ o a M) := by
      intro fu47
      induction fu47 with
      | zero => intro x4_L47 hW; exact (wh_0 hW).elim
      | succ fu47 ih47 =>
        intro x4_L47 hW
        obtain ⟨z47, h, hw47⟩ := wh_s hW
        have j128 : ∀ (x4_J128 : Int32) (x7_J128 : Int32) (z47 : (Int32) ⊕ ((Int32) ⊕ (Unit))), fX6_hintsOf_J128 M x2 x4_J128 x7_J128 = some z47 → wk (fun t => fX6_hintsOf_L47 M x1 x2 (((((1 : Int32) <<< (((M.1 9) * (M.1 10)) &&& 31)) - (1 : Int32)) - r33) - r39) t) fu47 z47 = some X47 → gG p l e (gR 5) s m args below meth c 9 D A 0 0 Q 128 [(2, .int x2), (4, .int x4_J128), (7, .int x7_J128)] [] (wMod cI cJ o a M) := by
          intro x4_J128 x7_J128 z47 h hw47
          unfold fX6_hintsOf_J128 at h
          refine g_iload_n C dX6_hintsOf_128 rfl 0 rfl ?_
          refine g_if_ne (tgt := 137) C dX6_hintsOf_129 (by decide) (fun c129 => ?_) (fun c129 => ?_)
          · have h := ifn h c129
            refine g_iload C dX6_hintsOf_137 2 rfl ?_
            obtain rfl := sinj h
            obtain rfl := wk_r hw47
            have h := sel hK47
            cases sinj h
            exact g_iret C dX6_hintsOf_139 rfl rfl hQ
          · have h := ifp h c129
            refine g_iload C dX6_hintsOf_132 1 rfl ?_
            refine g_goto (tgt := 139) C dX6_hintsOf_134 (by decide) ?_
            obtain rfl := sinj h
            obtain rfl := wk_r hw47
            have h := sel hK47
            cases sinj h
            exact g_iret C dX6_hintsOf_139 rfl rfl hQ
        replace h : fX6_hintsOf_L47 M x1 x2 (((((1 : Int32) <<< (((M.1 9) * (M.1 10)) &&& 31)) - (1 : Int32)) - r33) - r39) x4_L47 = some z47 := h
        unfold fX6_hintsOf_L47 at h
        refine g_iload C dX6_hintsOf_47 4 rfl ?_
        refine g_iconst (v := (4 : Int32)) C dX6_hintsOf_49 (by decide) ?_
        refine g_icmp_ge (tgt := 146) C dX6_hintsOf_50 (by decide) (fun c50 => ?_) (fun c50 => ?_)
        · have h := ifp h c50
          obtain rfl := sinj h
          obtain rfl := wk_r hw47
          have h := ser hK47
          refine g_lv [] rfl ?_
          exact j146  h
        · have h := ifn h c50
          refine g_aload_n C dX6_hintsOf_53 rfl 0 rfl ?_
          refine g_iload_n C dX6_hintsOf_54 rfl 1 rfl ?_
          refine g_iload C dX6_hintsOf_55 4 rfl ?_
          refine g_iload_n C dX6_hintsOf_57 rfl 3 rfl ?_
          obtain ⟨r58, h58, h⟩ := obd h
          refine g_callVi (st := []) (ws2 := wMod cI cJ o a M) C yv_X6_telling ml_X6_282 dX6_hintsOf_58 (kX6_telling l D cC cI cJ cZ o a M x1 x4_L47 (((((1 : Int32) <<< (((M.1 9) * (M.1 10)) &&& 31)) - (1 : Int32)) - r33) - r39) r58 h58) gCut_all ⟨by decide, by decide⟩ ⟨rfl, rfl⟩ ⟨Nat.zero_le _, Nat.zero_le _⟩ rfl rfl (Nat.le_of_ble_eq_true rfl) 5 0 rfl rfl rfl ?_
          refine g_istore (lv' := [(5, .int r58), (0, .ref o), (1, .int x1), (2, .int x2), (3, .int (((((1 : Int32) <<< (((M.1 9) * (M.1 10)) &&& 31)) - (1 : Int32)) - r33) - r39)), (4, .int x4_L47)]) C dX6_hintsOf_61 (by decide) rfl ?_
          refine g_iload C dX6_hintsOf_63 0 rfl ?_
          refine g_if_eq (tgt := 140) C dX6_hintsOf_65 (by decide) (fun c65 => ?_) (fun c65 => ?_)
          · have h := ifp h c65
            refine g_iinc (j := 5) (v := (x4_L47 + (1 : Int32))) (lv' := [(4, .int (x4_L47 + (1 : Int32))), (5, .int r58), (0, .ref o), (1, .int x1), (2, .int x2), (3, .int (((((1 : Int32) <<< (((M.1 9) * (M.1 10)) &&& 31)) - (1 : Int32)) - r33) - r39))]) C dX6_hintsOf_140 rfl rfl (by decide) rfl ?_
            refine g_goto (tgt := 47) C dX6_hintsOf_143 (by decide) ?_
            obtain rfl := sinj h
            refine g_lv [2, 3, 4, 5, 0] rfl ?_
            exact ih47 (x4_L47 + (1 : Int32)) hw47
          · have h := ifn h c65
            refine g_iconst (v := (0 : Int32)) C dX6_hintsOf_68 (by decide) ?_
            refine g_istore (lv' := [(6, .int (0 : Int32)), (5, .int r58), (0, .ref o), (1, .int x1), (2, .int x2), (3, .int (((((1 : Int32) <<< (((M.1 9) * (M.1 10)) &&& 31)) - (1 : Int32)) - r33) - r39)), (4, .int x4_L47)]) C dX6_hintsOf_69 (by decide) rfl ?_
            refine g_iconst (v := (-1 : Int32)) C dX6_hintsOf_71 (by decide) ?_
            refine g_istore (lv' := [(7, .int (-1 : Int32)), (6, .int (0 : Int32)), (5, .int r58), (0, .ref o), (1, .int x1), (2, .int x2), (3, .int (((((1 : Int32) <<< (((M.1 9) * (M.1 10)) &&& 31)) - (1 : Int32)) - r33) - r39)), (4, .int x4_L47)]) C dX6_hintsOf_72 (by decide) rfl ?_
            refine g_iconst (v := (0 : Int32)) C dX6_hintsOf_74 (by decide) ?_
            refine g_istore (lv' := [(8, .int (0 : Int32)), (7, .int (-1 : Int32)), (6, .int (0 : Int32)), (5, .int r58), (0, .ref o), (1, .int x1), (2, .int x2), (3, .int (((((1 : Int32) <<< (((M.1 9) * (M.1 10)) &&& 31)) - (1 : Int32)) - r33) - r39)), (4, .int x4_L47)]) C dX6_hintsOf_75 (by decide) rfl ?_
            obtain ⟨X77, hW77, hK77⟩ := obd h
            have l77 : ∀ (fu77 : Nat) (x6_L77 : Int32) (x7_L77 : Int32) (x8_L77 : Int32), wh (σ := Int32 × Int32 × Int32) (ρ := Int32) (fun t => fX6_hintsOf_L77 M x2 x4_L47 r58 t.1 t.2.1 t.2.2) fu77 (x6_L77, x7_L77, x8_L77) = some X77 → gG p l e (gR 5) s m args below meth c 9 D A 0 0 Q 77 [(2, .int x2), (4, .int x4_L47), (5, .int r58), (6, .int x6_L77), (7, .int x7_L77), (8, .int x8_L77)] [] (wMod cI cJ o a M) := by
              intro fu77
              induction fu77 with
              | zero => intro x6_L77 x7_L77 x8_L77 hW; exact (wh_0 hW).elim
              | succ fu77 ih77 =>
                intro x6_L77 x7_L77 x8_L77 hW
                obtain ⟨z77, h, hw77⟩ := wh_s hW
                replace h : fX6_hintsOf_L77 M x2 x4_L47 r58 x6_L77 x7_L77 x8_L77 = some z77 := h
                unfold fX6_hintsOf_L77 at h
                refine g_iload C dX6_hintsOf_77 5 rfl ?_
                refine g_bipush (v := (16 : Int32)) C dX6_hintsOf_79 (by decide) ?_
                refine g_icmp_ge (tgt := 128) C dX6_hintsOf_81 (by decide) (fun c81 => ?_) (fun c81 => ?_)
                · have h := ifp h c81
                  obtain rfl := sinj h
                  obtain rfl := wk_r hw77
                  have h := hK77
                  refine g_lv [0, 1, 4] rfl ?_
                  exact j128 x4_L47 x7_L77 _ h hw47
                · have h := ifn h c81
                  refine g_iload C dX6_hintsOf_84 3 rfl ?_
                  refine g_iload C dX6_hintsOf_86 2 rfl ?_
                  refine g_iload C dX6_hintsOf_88 5 rfl ?_
                  refine g_ishr C dX6_hintsOf_90 ?_
                  refine g_iconst (v := (1 : Int32)) C dX6_hintsOf_91 (by decide) ?_
                  refine g_iand C dX6_hintsOf_92 ?_
                  refine g_iadd C dX6_hintsOf_93 ?_
                  refine g_istore (lv' := [(6, .int (x6_L77 + ((r58 >>> (x8_L77 &&& 31)) &&& (1 : Int32)))), (2, .int x2), (4, .int x4_L47), (5, .int r58), (7, .int x7_L77), (8, .int x8_L77)]) C dX6_hintsOf_94 (by decide) rfl ?_
                  refine g_iload C dX6_hintsOf_96 3 rfl ?_
                  refine g_iload C dX6_hintsOf_98 5 rfl ?_
                  refine g_ishr C dX6_hintsOf_100 ?_
                  refine g_iconst (v := (1 : Int32)) C dX6_hintsOf_101 (by decide) ?_
                  refine g_iand C dX6_hintsOf_102 ?_
                  refine g_iconst (v := (1 : Int32)) C dX6_hintsOf_103 (by decide) ?_
                  refine g_icmp_ne (tgt := 118) C dX6_hintsOf_104 (by decide) (fun c104 => ?_) (fun c104 => ?_)
                  · have h := ifn h c104
                    refine g_iload C dX6_hintsOf_118 4 rfl ?_
                    refine g_istore (lv' := [(7, .int x7_L77), (6, .int (x6_L77 + ((r58 >>> (x8_L77 &&& 31)) &&& (1 : Int32)))), (2, .int x2), (4, .int x4_L47), (5, .int r58), (8, .int x8_L77)]) C dX6_hintsOf_120 (by decide) rfl ?_
                    refine g_iinc (j := 5) (v := (x8_L77 + (1 : Int32))) (lv' := [(8, .int (x8_L77 + (1 : Int32))), (7, .int x7_L77), (6, .int (x6_L77 + ((r58 >>> (x8_L77 &&& 31)) &&& (1 : Int32)))), (2, .int x2), (4, .int x4_L47), (5, .int r58)]) C dX6_hintsOf_122 rfl rfl (by decide) rfl ?_
                    refine g_goto (tgt := 77) C dX6_hintsOf_125 (by decide) ?_
                    obtain rfl := sinj h
                    refine g_lv [3, 4, 5, 2, 1, 0] rfl ?_
                    exact ih77 (x6_L77 + ((r58 >>> (x8_L77 &&& 31)) &&& (1 : Int32))) x7_L77 (x8_L77 + (1 : Int32)) hw77
                  · have h := ifp h c104
                    refine g_iload C dX6_hintsOf_107 0 rfl ?_
                    refine g_iload_n C dX6_hintsOf_109 rfl 1 rfl ?_
                    refine g_icmp_ne (tgt := 118) C dX6_hintsOf_110 (by decide) (fun c110 => ?_) (fun c110 => ?_)
                    · have h := ifn h c110
                      refine g_iload C dX6_hintsOf_118 4 rfl ?_
                      refine g_istore (lv' := [(7, .int x7_L77), (6, .int (x6_L77 + ((r58 >>> (x8_L77 &&& 31)) &&& (1 : Int32)))), (2, .int x2), (4, .int x4_L47), (5, .int r58), (8, .int x8_L77)]) C dX6_hintsOf_120 (by decide) rfl ?_
                      refine g_iinc (j := 5) (v := (x8_L77 + (1 : Int32))) (lv' := [(8, .int (x8_L77 + (1 : Int32))), (7, .int x7_L77), (6, .int (x6_L77 + ((r58 >>> (x8_L77 &&& 31)) &&& (1 : Int32)))), (2, .int x2), (4, .int x4_L47), (5, .int r58)]) C dX6_hintsOf_122 rfl rfl (by decide) rfl ?_
                      refine g_goto (tgt := 77) C dX6_hintsOf_125 (by decide) ?_
                      obtain rfl := sinj h
                      refine g_lv [3, 4, 5, 2, 1, 0] rfl ?_
                      exact ih77 (x6_L77 + ((r58 >>> (x8_L77 &&& 31)) &&& (1 : Int32))) x7_L77 (x8_L77 + (1 : Int32)) hw77
                    · have h := ifp h c110
                      refine g_iload C dX6_hintsOf_113 5 rfl ?_
                      refine g_goto (tgt := 120) C dX6_hintsOf_115 (by decide) ?_
                      refine g_istore (lv' := [(7, .int x8_L77), (6, .int (x6_L77 + ((r58 >>> (x8_L77 &&& 31)) &&& (1 : Int32)))), (2, .int x2), (4, .int x4_L47), (5, .int r58), (8, .int x8_L77)]) C dX6_hintsOf_120 (by decide) rfl ?_
                      refine g_iinc (j := 5) (v := (x8_L77 + (1 : Int32))) (lv' := [(8, .int (x8_L77 + (1 : Int32))), (7, .int x8_L77), (6, .int (x6_L77 + ((r58 >>> (x8_L77 &&& 31)) &&& (1 : Int32)))), (2, .int x2), (4, .int x4_L47), (5, .int r58)]) C dX6_hintsOf_122 rfl rfl (by decide) rfl ?_
                      refine g_goto (tgt := 77) C dX6_hintsOf_125 (by decide) ?_
                      obtain rfl := sinj h
                      refine g_lv [3, 4, 5, 2, 1, 0] rfl ?_
                      exact ih77 (x6_L77 + ((r58 >>> (x8_L77 &&& 31)) &&& (1 : Int32))) x8_L77 (x8_L77 + (1 : Int32)) hw77
            refine g_lv [6, 8, 3, 2, 1, 0] rfl ?_
            exact l77 100000 (0 : Int32) (-1 : Int32) (0 : Int32) hW77
    refine g_lv [2, 3, 4, 1, 0] rfl ?_
    exact l47 100000 (1 : Int32) hW47
  · have h := ifp h c5
    refine g_iload_n C dX6_hintsOf_8 rfl 2 rfl ?_
    refine g_if_ne (tgt := 16) C dX6_hintsOf_9 (by decide) (fun c9 => ?_) (fun c9 => ?_)
    · have h := ifn h c9
      refine g_iconst (v := (-1 : Int32)) C dX6_hintsOf_16 (by decide) ?_
      cases sinj h
      exact g_iret C dX6_hintsOf_17 rfl rfl hQ
    · have h := ifp h c9
      refine g_iconst (v := (0 : Int32)) C dX6_hintsOf_12 (by decide) ?_
      refine g_goto (tgt := 17) C dX6_hintsOf_13 (by decide) ?_
      cases sinj h
      exact g_iret C dX6_hintsOf_17 rfl rfl hQ
def fX6_hints (M : OM) (x1 : Int32) (x2 : Int32) : Option (Int32 × OM) :=
  ((fX6_lacks M).bind (fun r1 => (if r1 = 0 then ((fX6_in x1.toInt64 (0 : Int64) ((((1 : Int32) <<< (((M.1 9) * (M.1 10)) &&& 31)) - (1 : Int32)).toInt64)).bind (fun r24 => (if r24 = 0 then some ((-101 : Int32), M)
 else ((fX6_freshen M).bind (fun T34 => ((fX6_isFit T34 x1).bind (fun r39 => (if r39 = 0 then some ((-101 : Int32), T34)
 else ((fX6_in x2.toInt64 (0 : Int64) (3 : Int64)).bind (fun r54 => (if r54 = 0 then some ((-102 : Int32), T34)
 else (if (T34.1 26) = (12 : Int32) then some ((-103 : Int32), T34)
 else ((fX6_hintsOf ((va_up T34.1 26 ((T34.1 26) + (1 : Int32))), T34.2.1, T34.2.2.1, T34.2.2.2) x1 x2).bind (fun r88 => some (r88, ((va_up T34.1 26 ((T34.1 26) + (1 : Int32))), T34.2.1, T34.2.2.1, T34.2.2.2))))))))))))))))
 else some ((-101 : Int32), M))))
set_option maxHeartbeats 4000000 in
set_option maxRecDepth 100000 in
theorem kX6_hints (l : Launch) (D : va_G) (cC cI cJ cZ : ClassId) (o : Nat) (a : Nat → Nat) (M : OM) (x1 : Int32) (x2 : Int32) (r : Int32) (M' : OM) (h : fX6_hints M x1 x2 = some (r, M')) : gMi l yX6_hints cX6_hints 3 (some .int) (gR 7) D (tysG cC cI cJ cZ) [.ref o, .int x1, .int x2] (wMod cI cJ o a M) r (wMod cI cJ o a M') := by
  refine gMi_of (by decide) (Nat.le_of_ble_eq_true rfl) rfl ?_
  intro p e s m args below meth c A Q C hQ
  unfold fX6_hints at h
  refine g_aload_n C dX6_hints_0 rfl 0 rfl ?_
  obtain ⟨r1, h1, h⟩ := obd h
  refine g_callVi (st := []) (ws2 := wMod cI cJ o a M) C yv_X6_lacks ml_X6_223 dX6_hints_1 (kX6_lacks l D cC cI cJ cZ o a M r1 h1) gCut_all ⟨by decide, by decide⟩ ⟨rfl, rfl⟩ ⟨Nat.zero_le _, Nat.zero_le _⟩ rfl rfl (Nat.le_of_ble_eq_true rfl) 5 0 rfl rfl rfl ?_
  refine g_if_ne (tgt := 30) C dX6_hints_4 (by decide) (fun c4 => ?_) (fun c4 => ?_)
  · have h := ifn h c4
    refine g_bipush (v := (-101 : Int32)) C dX6_hints_30 (by decide) ?_
    cases sinj h
    exact g_iret C dX6_hints_32 rfl rfl hQ
  · have h := ifp h c4
    refine g_iload_n C dX6_hints_7 rfl 1 rfl ?_
    refine g_i2l C dX6_hints_8 ?_
    refine g_lconst (v := (0 : Int64)) C dX6_hints_9 (by decide) ?_
    refine g_iconst (v := (1 : Int32)) C dX6_hints_10 (by decide) ?_
    refine g_aload_n C dX6_hints_11 rfl 0 rfl ?_
    refine g_get (v := .int (M.1 9)) C fl_X6_141 dX6_hints_12 0 rfl rfl ?_
    refine g_aload_n C dX6_hints_15 rfl 0 rfl ?_
    refine g_get (v := .int (M.1 10)) C fl_X6_144 dX6_hints_16 0 rfl rfl ?_
    refine g_imul C dX6_hints_19 ?_
    refine g_ishl C dX6_hints_20 ?_
    refine g_iconst (v := (1 : Int32)) C dX6_hints_21 (by decide) ?_
    refine g_isub C dX6_hints_22 ?_
    refine g_i2l C dX6_hints_23 ?_
    obtain ⟨r24, h24, h⟩ := obd h
    refine g_callSi (st := []) (ws2 := wMod cI cJ o a M) C ys_X6_in ml_X6_78 dX6_hints_24 (kX6_in l D cC cI cJ cZ x1.toInt64 (0 : Int64) ((((1 : Int32) <<< (((M.1 9) * (M.1 10)) &&& 31)) - (1 : Int32)).toInt64) r24 h24) gCut_nil ⟨by decide, by decide⟩ ⟨rfl, rfl⟩ ⟨Nat.zero_le _, Nat.zero_le _⟩ rfl rfl (Nat.le_of_ble_eq_true rfl) ?_
    refine g_if_ne (tgt := 33) C dX6_hints_27 (by decide) (fun c27 => ?_) (fun c27 => ?_)
    · have h := ifn h c27
      refine g_aload_n C dX6_hints_33 rfl 0 rfl ?_
      obtain ⟨T34, h34, h⟩ := obd h
      refine g_callVv (st := []) (ws2 := wMod cI cJ o a T34) C yv_X6_freshen ml_X6_220 dX6_hints_34 (kX6_freshen l D cC cI cJ cZ o a M T34 h34) gCut_all ⟨by decide, by decide⟩ ⟨rfl, rfl⟩ ⟨Nat.zero_le _, Nat.zero_le _⟩ rfl rfl (Nat.le_of_ble_eq_true rfl) 5 0 rfl rfl rfl ?_
      refine g_aload_n C dX6_hints_37 rfl 0 rfl ?_
      refine g_iload_n C dX6_hints_38 rfl 1 rfl ?_
      obtain ⟨r39, h39, h⟩ := obd h
      refine g_callVi (st := []) (ws2 := wMod cI cJ o a T34) C yv_X6_isFit ml_X6_214 dX6_hints_39 (kX6_isFit l D cC cI cJ cZ o a T34 x1 r39 h39) gCut_all ⟨by decide, by decide⟩ ⟨rfl, rfl⟩ ⟨Nat.zero_le _, Nat.zero_le _⟩ rfl rfl (Nat.le_of_ble_eq_true rfl) 5 0 rfl rfl rfl ?_
      refine g_if_ne (tgt := 48) C dX6_hints_42 (by decide) (fun c42 => ?_) (fun c42 => ?_)
      · have h := ifn h c42
        refine g_iload_n C dX6_hints_48 rfl 2 rfl ?_
        refine g_i2l C dX6_hints_49 ?_
        refine g_lconst (v := (0 : Int64)) C dX6_hints_50 (by decide) ?_
        refine g_ldc2 C dX6_hints_51 ck_X6_286 ?_
        obtain ⟨r54, h54, h⟩ := obd h
        refine g_callSi (st := []) (ws2 := wMod cI cJ o a T34) C ys_X6_in ml_X6_78 dX6_hints_54 (kX6_in l D cC cI cJ cZ x2.toInt64 (0 : Int64) (3 : Int64) r54 h54) gCut_nil ⟨by decide, by decide⟩ ⟨rfl, rfl⟩ ⟨Nat.zero_le _, Nat.zero_le _⟩ rfl rfl (Nat.le_of_ble_eq_true rfl) ?_
        refine g_if_ne (tgt := 63) C dX6_hints_57 (by decide) (fun c57 => ?_) (fun c57 => ?_)
        · have h := ifn h c57
          refine g_aload_n C dX6_hints_63 rfl 0 rfl ?_
          refine g_get (v := .int (T34.1 26)) C fl_X6_288 dX6_hints_64 0 rfl rfl ?_
          refine g_bipush (v := (12 : Int32)) C dX6_hints_67 (by decide) ?_
          refine g_icmp_ne (tgt := 75) C dX6_hints_69 (by decide) (fun c69 => ?_) (fun c69 => ?_)
          · have h := ifn h c69
            refine g_aload_n C dX6_hints_75 rfl 0 rfl ?_
            refine g_dup C dX6_hints_76 rfl ?_
            refine g_get (v := .int (T34.1 26)) C fl_X6_288 dX6_hints_77 0 rfl rfl ?_
            refine g_iconst (v := (1 : Int32)) C dX6_hints_80 (by decide) ?_
            refine g_iadd C dX6_hints_81 ?_
            refine g_put (ws2 := wMod cI cJ o a ((va_up T34.1 26 ((T34.1 26) + (1 : Int32))), T34.2.1, T34.2.2.1, T34.2.2.2)) C fp_X6_288 dX6_hints_82 0 rfl rfl rfl (Nat.le_of_ble_eq_true rfl) rfl ?_
            refine g_aload_n C dX6_hints_85 rfl 0 rfl ?_
            refine g_iload_n C dX6_hints_86 rfl 1 rfl ?_
            refine g_iload_n C dX6_hints_87 rfl 2 rfl ?_
            obtain ⟨r88, h88, h⟩ := obd h
            refine g_callVi (st := []) (ws2 := wMod cI cJ o a ((va_up T34.1 26 ((T34.1 26) + (1 : Int32))), T34.2.1, T34.2.2.1, T34.2.2.2)) C yv_X6_hintsOf ml_X6_291 dX6_hints_88 (kX6_hintsOf l D cC cI cJ cZ o a ((va_up T34.1 26 ((T34.1 26) + (1 : Int32))), T34.2.1, T34.2.2.1, T34.2.2.2) x1 x2 r88 h88) gCut_all ⟨by decide, by decide⟩ ⟨rfl, rfl⟩ ⟨Nat.zero_le _, Nat.zero_le _⟩ rfl rfl (Nat.le_of_ble_eq_true rfl) 5 0 rfl rfl rfl ?_
            cases sinj h
            exact g_iret C dX6_hints_91 rfl rfl hQ
          · have h := ifp h c69
            refine g_bipush (v := (-103 : Int32)) C dX6_hints_72 (by decide) ?_
            cases sinj h
            exact g_iret C dX6_hints_74 rfl rfl hQ
        · have h := ifp h c57
          refine g_bipush (v := (-102 : Int32)) C dX6_hints_60 (by decide) ?_
          cases sinj h
          exact g_iret C dX6_hints_62 rfl rfl hQ
      · have h := ifp h c42
        refine g_bipush (v := (-101 : Int32)) C dX6_hints_45 (by decide) ?_
        cases sinj h
        exact g_iret C dX6_hints_47 rfl rfl hQ
    · have h := ifp h c27
      refine g_bipush (v := (-101 : Int32)) C dX6_hints_30 (by decide) ?_
      cases sinj h
      exact g_iret C dX6_hints_32 rfl rfl hQ
def fX6_isOneBy (M : OM) (x1 : Int32) (x2 : Int32) (x3 : Int32) (x4 : Int32) : Option (Int32 × OM) :=
  (if okI x1 8 = true then (if okI x1 8 = true then (if okI x1 8 = true then (if okI x1 8 = true then (if okI x1 8 = true then (if okI x1 8 = true then ((fX6_layFit ((va_up M.1 25 (-1 : Int32)), (va_up (va_up (va_up M.2.1 12 (upd (M.2.1 12) x1.toNatClampNeg x2)) 13 (upd (M.2.1 13) x1.toNatClampNeg x3)) 14 (upd (M.2.1 14) x1.toNatClampNeg x4)), M.2.2.1, M.2.2.2)).bind (fun T52 => (if okI x1 8 = true then (if okI x1 8 = true then (if okI x1 8 = true then (if (T52.1 22) = (1 : Int32) then some ((1 : Int32), ((va_up T52.1 20 (1 : Int32)), (va_up (va_up (va_up T52.2.1 12 (upd (T52.2.1 12) x1.toNatClampNeg ((M.2.1 12) x1.toNatClampNeg))) 13 (upd (T52.2.1 13) x1.toNatClampNeg ((M.2.1 13) x1.toNatClampNeg))) 14 (upd (T52.2.1 14) x1.toNatClampNeg ((M.2.1 14) x1.toNatClampNeg))), T52.2.2.1, T52.2.2.2))
 else some ((0 : Int32), ((va_up T52.1 20 (1 : Int32)), (va_up (va_up (va_up T52.2.1 12 (upd (T52.2.1 12) x1.toNatClampNeg ((M.2.1 12) x1.toNatClampNeg))) 13 (upd (T52.2.1 13) x1.toNatClampNeg ((M.2.1 13) x1.toNatClampNeg))) 14 (upd (T52.2.1 14) x1.toNatClampNeg ((M.2.1 14) x1.toNatClampNeg))), T52.2.2.1, T52.2.2.2))) else none) else none) else none))) else none) else none) else none) else none) else none) else none)
set_option maxHeartbeats 4000000 in
set_option maxRecDepth 100000 in
theorem kX6_isOneBy (l : Launch) (D : va_G) (cC cI cJ cZ : ClassId) (o : Nat) (a : Nat → Nat) (M : OM) (x1 : Int32) (x2 : Int32) (x3 : Int32) (x4 : Int32) (r : Int32) (M' : OM) (h : fX6_isOneBy M x1 x2 x3 x4 = some (r, M')) : gMi l yX6_isOneBy cX6_isOneBy 8 (some .boolean) (gR 6) D (tysG cC cI cJ cZ) [.ref o, .int x1, .int x2, .int x3, .int x4] (wMod cI cJ o a M) r (wMod cI cJ o a M') := by
  refine gMi_of (by decide) (Nat.le_of_ble_eq_true rfl) rfl ?_
  intro p e s m args below meth c A Q C hQ
  unfold fX6_isOneBy at h
  refine g_aload_n C dX6_isOneBy_0 rfl 0 rfl ?_
  refine g_get (v := .ref (a 12)) C fl_X6_22 dX6_isOneBy_1 0 rfl rfl ?_
  refine g_iload_n C dX6_isOneBy_4 rfl 1 rfl ?_
  obtain ⟨hg5, h⟩ := ifg h
  refine g_iald (f := (M.2.1 12)) C dX6_isOneBy_5 5 0 rfl rfl hg5 ?_
  refine g_istore (lv' := [(5, .int ((M.2.1 12) x1.toNatClampNeg)), (0, .ref o), (1, .int x1), (2, .int x2), (3, .int x3), (4, .int x4)]) C dX6_isOneBy_6 (by decide) rfl ?_
  refine g_aload_n C dX6_isOneBy_8 rfl 1 rfl ?_
  refine g_get (v := .ref (a 13)) C fl_X6_25 dX6_isOneBy_9 0 rfl rfl ?_
  refine g_iload_n C dX6_isOneBy_12 rfl 2 rfl ?_
  obtain ⟨hg13, h⟩ := ifg h
  refine g_iald (f := (M.2.1 13)) C dX6_isOneBy_13 6 0 rfl rfl hg13 ?_
  refine g_istore (lv' := [(6, .int ((M.2.1 13) x1.toNatClampNeg)), (5, .int ((M.2.1 12) x1.toNatClampNeg)), (0, .ref o), (1, .int x1), (2, .int x2), (3, .int x3), (4, .int x4)]) C dX6_isOneBy_14 (by decide) rfl ?_
  refine g_aload_n C dX6_isOneBy_16 rfl 2 rfl ?_
  refine g_get (v := .ref (a 14)) C fl_X6_28 dX6_isOneBy_17 0 rfl rfl ?_
  refine g_iload_n C dX6_isOneBy_20 rfl 3 rfl ?_
  obtain ⟨hg21, h⟩ := ifg h
  refine g_iald (f := (M.2.1 14)) C dX6_isOneBy_21 7 0 rfl rfl hg21 ?_
  refine g_istore (lv' := [(7, .int ((M.2.1 14) x1.toNatClampNeg)), (6, .int ((M.2.1 13) x1.toNatClampNeg)), (5, .int ((M.2.1 12) x1.toNatClampNeg)), (0, .ref o), (1, .int x1), (2, .int x2), (3, .int x3), (4, .int x4)]) C dX6_isOneBy_22 (by decide) rfl ?_
  refine g_aload_n C dX6_isOneBy_24 rfl 3 rfl ?_
  refine g_get (v := .ref (a 12)) C fl_X6_22 dX6_isOneBy_25 0 rfl rfl ?_
  refine g_iload_n C dX6_isOneBy_28 rfl 4 rfl ?_
  refine g_iload_n C dX6_isOneBy_29 rfl 5 rfl ?_
  obtain ⟨hg30, h⟩ := ifg h
  refine g_iast (f := (M.2.1 12)) (ws2 := wMod cI cJ o a (M.1, (va_up M.2.1 12 (upd (M.2.1 12) x1.toNatClampNeg x2)), M.2.2.1, M.2.2.2)) C dX6_isOneBy_30 5 0 rfl rfl hg30 rfl ?_
  refine g_aload_n C dX6_isOneBy_31 rfl 3 rfl ?_
  refine g_get (v := .ref (a 13)) C fl_X6_25 dX6_isOneBy_32 0 rfl rfl ?_
  refine g_iload_n C dX6_isOneBy_35 rfl 4 rfl ?_
  refine g_iload_n C dX6_isOneBy_36 rfl 6 rfl ?_
  obtain ⟨hg37, h⟩ := ifg h
  refine g_iast (f := (M.2.1 13)) (ws2 := wMod cI cJ o a (M.1, (va_up (va_up M.2.1 12 (upd (M.2.1 12) x1.toNatClampNeg x2)) 13 (upd (M.2.1 13) x1.toNatClampNeg x3)), M.2.2.1, M.2.2.2)) C dX6_isOneBy_37 6 0 rfl rfl hg37 rfl ?_
  refine g_aload_n C dX6_isOneBy_38 rfl 3 rfl ?_
  refine g_get (v := .ref (a 14)) C fl_X6_28 dX6_isOneBy_39 0 rfl rfl ?_
  refine g_iload_n C dX6_isOneBy_42 rfl 4 rfl ?_
  refine g_iload C dX6_isOneBy_43 7 rfl ?_
  obtain ⟨hg45, h⟩ := ifg h
  refine g_iast (f := (M.2.1 14)) (ws2 := wMod cI cJ o a (M.1, (va_up (va_up (va_up M.2.1 12 (upd (M.2.1 12) x1.toNatClampNeg x2)) 13 (upd (M.2.1 13) x1.toNatClampNeg x3)) 14 (upd (M.2.1 14) x1.toNatClampNeg x4)), M.2.2.1, M.2.2.2)) C dX6_isOneBy_45 7 0 rfl rfl hg45 rfl ?_
  refine g_aload_n C dX6_isOneBy_46 rfl 3 rfl ?_
  refine g_iconst (v := (-1 : Int32)) C dX6_isOneBy_47 (by decide) ?_
  refine g_put (ws2 := wMod cI cJ o a ((va_up M.1 25 (-1 : Int32)), (va_up (va_up (va_up M.2.1 12 (upd (M.2.1 12) x1.toNatClampNeg x2)) 13 (upd (M.2.1 13) x1.toNatClampNeg x3)) 14 (upd (M.2.1 14) x1.toNatClampNeg x4)), M.2.2.1, M.2.2.2)) C fp_X6_189 dX6_isOneBy_48 0 rfl rfl rfl (Nat.le_of_ble_eq_true rfl) rfl ?_
  refine g_aload_n C dX6_isOneBy_51 rfl 3 rfl ?_
  obtain ⟨T52, h52, h⟩ := obd h
  refine g_callVv (st := []) (ws2 := wMod cI cJ o a T52) C yv_X6_layFit ml_X6_211 dX6_isOneBy_52 (kX6_layFit l D cC cI cJ cZ o a ((va_up M.1 25 (-1 : Int32)), (va_up (va_up (va_up M.2.1 12 (upd (M.2.1 12) x1.toNatClampNeg x2)) 13 (upd (M.2.1 13) x1.toNatClampNeg x3)) 14 (upd (M.2.1 14) x1.toNatClampNeg x4)), M.2.2.1, M.2.2.2) T52 h52) gCut_all ⟨by decide, by decide⟩ ⟨rfl, rfl⟩ ⟨Nat.zero_le _, Nat.zero_le _⟩ rfl rfl (Nat.le_of_ble_eq_true rfl) 5 0 rfl rfl rfl ?_
  refine g_aload_n C dX6_isOneBy_55 rfl 3 rfl ?_
  refine g_get (v := .ref (a 12)) C fl_X6_22 dX6_isOneBy_56 0 rfl rfl ?_
  refine g_iload_n C dX6_isOneBy_59 rfl 4 rfl ?_
  refine g_iload C dX6_isOneBy_60 2 rfl ?_
  obtain ⟨hg62, h⟩ := ifg h
  refine g_iast (f := (T52.2.1 12)) (ws2 := wMod cI cJ o a (T52.1, (va_up T52.2.1 12 (upd (T52.2.1 12) x1.toNatClampNeg ((M.2.1 12) x1.toNatClampNeg))), T52.2.2.1, T52.2.2.2)) C dX6_isOneBy_62 5 0 rfl rfl hg62 rfl ?_
  refine g_aload_n C dX6_isOneBy_63 rfl 3 rfl ?_
  refine g_get (v := .ref (a 13)) C fl_X6_25 dX6_isOneBy_64 0 rfl rfl ?_
  refine g_iload_n C dX6_isOneBy_67 rfl 4 rfl ?_
  refine g_iload C dX6_isOneBy_68 1 rfl ?_
  obtain ⟨hg70, h⟩ := ifg h
  refine g_iast (f := (T52.2.1 13)) (ws2 := wMod cI cJ o a (T52.1, (va_up (va_up T52.2.1 12 (upd (T52.2.1 12) x1.toNatClampNeg ((M.2.1 12) x1.toNatClampNeg))) 13 (upd (T52.2.1 13) x1.toNatClampNeg ((M.2.1 13) x1.toNatClampNeg))), T52.2.2.1, T52.2.2.2)) C dX6_isOneBy_70 6 0 rfl rfl hg70 rfl ?_
  refine g_aload_n C dX6_isOneBy_71 rfl 3 rfl ?_
  refine g_get (v := .ref (a 14)) C fl_X6_28 dX6_isOneBy_72 0 rfl rfl ?_
  refine g_iload_n C dX6_isOneBy_75 rfl 4 rfl ?_
  refine g_iload C dX6_isOneBy_76 0 rfl ?_
  obtain ⟨hg78, h⟩ := ifg h
  refine g_iast (f := (T52.2.1 14)) (ws2 := wMod cI cJ o a (T52.1, (va_up (va_up (va_up T52.2.1 12 (upd (T52.2.1 12) x1.toNatClampNeg ((M.2.1 12) x1.toNatClampNeg))) 13 (upd (T52.2.1 13) x1.toNatClampNeg ((M.2.1 13) x1.toNatClampNeg))) 14 (upd (T52.2.1 14) x1.toNatClampNeg ((M.2.1 14) x1.toNatClampNeg))), T52.2.2.1, T52.2.2.2)) C dX6_isOneBy_78 7 0 rfl rfl hg78 rfl ?_
  refine g_aload_n C dX6_isOneBy_79 rfl 3 rfl ?_
  refine g_iconst (v := (1 : Int32)) C dX6_isOneBy_80 (by decide) ?_
  refine g_put (ws2 := wMod cI cJ o a ((va_up T52.1 20 (1 : Int32)), (va_up (va_up (va_up T52.2.1 12 (upd (T52.2.1 12) x1.toNatClampNeg ((M.2.1 12) x1.toNatClampNeg))) 13 (upd (T52.2.1 13) x1.toNatClampNeg ((M.2.1 13) x1.toNatClampNeg))) 14 (upd (T52.2.1 14) x1.toNatClampNeg ((M.2.1 14) x1.toNatClampNeg))), T52.2.2.1, T52.2.2.2)) C fp_X6_72 dX6_isOneBy_81 0 rfl rfl rfl (Nat.le_of_ble_eq_true rfl) rfl ?_
  refine g_aload_n C dX6_isOneBy_84 rfl 3 rfl ?_
  refine g_get (v := .int (T52.1 22)) C fl_X6_201 dX6_isOneBy_85 0 rfl rfl ?_
  refine g_iconst (v := (1 : Int32)) C dX6_isOneBy_88 (by decide) ?_
  refine g_icmp_ne (tgt := 96) C dX6_isOneBy_89 (by decide) (fun c89 => ?_) (fun c89 => ?_)
  · have h := ifn h c89
    refine g_iconst (v := (0 : Int32)) C dX6_isOneBy_96 (by decide) ?_
    cases sinj h
    exact g_zret C dX6_isOneBy_97 rfl rfl rfl hQ
  · have h := ifp h c89
    refine g_iconst (v := (1 : Int32)) C dX6_isOneBy_92 (by decide) ?_
    refine g_goto (tgt := 97) C dX6_isOneBy_93 (by decide) ?_
    cases sinj h
    exact g_zret C dX6_isOneBy_97 rfl rfl rfl hQ
def fX6_oneOf_J39 (x1_L2 : Int32) (x2_J39 : Int32) (s0_J39 : Int32) (M_J39 : OM) : Option ((Int32 × OM) ⊕ ((Int32 × OM) ⊕ (OM))) :=
  (if okI x1_L2 8 = true then (if x2_J39 = ((M_J39.2.1 13) x1_L2.toNatClampNeg) then some (.inl ((x2_J39 + (1 : Int32)), M_J39))
 else (if okI x1_L2 8 = true then ((fX6_isOneBy M_J39 x1_L2 ((M_J39.2.1 12) x1_L2.toNatClampNeg) x2_J39 s0_J39).bind (fun r => (fun r60 T60 => (if r60 = 0 then some (.inl ((x2_J39 + (1 : Int32)), T60))
 else some (.inr (.inl ((((100 : Int32) * x1_L2) + x2_J39), T60))))) r.1 r.2)) else none)) else none)
def fX6_oneOf_L2 (x1_L2 : Int32) (x2_L2 : Int32) (M_L2 : OM) : Option ((Int32 × OM) ⊕ ((Int32 × OM) ⊕ (OM))) :=
  ((fX6_cellsOf M_L2 x1_L2).bind (fun r5 => (if r5 < x2_L2 then some (.inr (.inr M_L2))
 else (if okI x1_L2 8 = true then ((fX6_cellsOf M_L2 x1_L2).bind (fun r20 => ((fX6_mostSecond x2_L2 r20).bind (fun r23 => (if ((M_L2.2.1 14) x1_L2.toNatClampNeg) ≤ r23 then (if okI x1_L2 8 = true then fX6_oneOf_J39 x1_L2 x2_L2 ((M_L2.2.1 14) x1_L2.toNatClampNeg) M_L2 else none)
 else fX6_oneOf_J39 x1_L2 x2_L2 (0 : Int32) M_L2))))) else none))))
def fX6_oneOf_J103 (x1_L81 : Int32) (x2_J103 : Int32) (s0_J103 : Int32) (M_J103 : OM) : Option ((Int32 × OM) ⊕ ((Int32 × OM) ⊕ (OM))) :=
  (if okI x1_L81 8 = true then (if x2_J103 = ((M_J103.2.1 12) x1_L81.toNatClampNeg) then some (.inl ((x2_J103 + (1 : Int32)), M_J103))
 else (if okI x1_L81 8 = true then ((fX6_isOneBy M_J103 x1_L81 x2_J103 ((M_J103.2.1 13) x1_L81.toNatClampNeg) s0_J103).bind (fun r => (fun r124 T124 => (if r124 = 0 then some (.inl ((x2_J103 + (1 : Int32)), T124))
 else some (.inr (.inl (((((100 : Int32) * x1_L81) + (10 : Int32)) + x2_J103), T124))))) r.1 r.2)) else none)) else none)
def fX6_oneOf_L81 (x1_L81 : Int32) (x2_L81 : Int32) (M_L81 : OM) : Option ((Int32 × OM) ⊕ ((Int32 × OM) ⊕ (OM))) :=
  (if (5 : Int32) ≤ x2_L81 then some (.inr (.inr M_L81))
 else ((fX6_isDouble x2_L81).bind (fun r87 => (if r87 = 0 then fX6_oneOf_J103 x1_L81 x2_L81 (0 : Int32) M_L81
 else (if okI x1_L81 8 = true then fX6_oneOf_J103 x1_L81 x2_L81 ((M_L81.2.1 14) x1_L81.toNatClampNeg) M_L81 else none)))))
def fX6_oneOf_J146 (M_J146 : OM) : Option (Int32 × OM) :=
  some ((-1 : Int32), M_J146)
def fX6_oneOf_J79 (x1_J79 : Int32) (M_J79 : OM) : Option (Int32 × OM) :=
  ((wh (σ := Int32 × OM) (ρ := (Int32 × OM) ⊕ (OM)) (fun t => fX6_oneOf_L81 x1_J79 t.1 t.2) 100000 ((0 : Int32), M_J79)).bind (fun X => Sum.elim (fun r => some r) (fun M_E81 => fX6_oneOf_J146 M_E81) X))
def fX6_oneOf (M : OM) (x1 : Int32) : Option (Int32 × OM) :=
  ((wh (σ := Int32 × OM) (ρ := (Int32 × OM) ⊕ (OM)) (fun t => fX6_oneOf_L2 x1 t.1 t.2) 100000 ((0 : Int32), M)).bind (fun X => Sum.elim (fun r => some r) (fun M_E2 => fX6_oneOf_J79 x1 M_E2) X))
set_option maxHeartbeats 4000000 in
set_option maxRecDepth 100000 in
theorem kX6_oneOf (l : Launch) (D : va_G) (cC cI cJ cZ : ClassId) (o : Nat) (a : Nat → Nat) (M : OM) (x1 : Int32) (r : Int32) (M' : OM) (h : fX6_oneOf M x1 = some (r, M')) : gMi l yX6_oneOf cX6_oneOf 4 (some .int) (gR 7) D (tysG cC cI cJ cZ) [.ref o, .int x1] (wMod cI cJ o a M) r (wMod cI cJ o a M') := by
  refine gMi_of (by decide) (Nat.le_of_ble_eq_true rfl) rfl ?_
  intro p e s m args below meth c A Q C hQ
  have j146 : ∀ (M_J146 : OM), fX6_oneOf_J146 M_J146 = some (r, M') → gG p l e (gR 7) s m args below meth c 4 D A 0 0 Q 146 [] [] (wMod cI cJ o a M_J146) := by
    intro M_J146 h
    unfold fX6_oneOf_J146 at h
    refine g_iconst (v := (-1 : Int32)) C dX6_oneOf_146 (by decide) ?_
    cases sinj h
    exact g_iret C dX6_oneOf_147 rfl rfl hQ
  have j79 : ∀ (x1_J79 : Int32) (M_J79 : OM), fX6_oneOf_J79 x1_J79 M_J79 = some (r, M') → gG p l e (gR 7) s m args below meth c 4 D A 0 0 Q 79 [(0, .ref o), (1, .int x1_J79)] [] (wMod cI cJ o a M_J79) := by
    intro x1_J79 M_J79 h
    unfold fX6_oneOf_J79 at h
    refine g_iconst (v := (0 : Int32)) C dX6_oneOf_79 (by decide) ?_
    refine g_istore_n (lv' := [(2, .int (0 : Int32)), (0, .ref o), (1, .int x1_J79)]) C dX6_oneOf_80 rfl (by decide) rfl ?_
    obtain ⟨X81, hW81, hK81⟩ := obd h
    have l81 : ∀ (fu81 : Nat) (x2_L81 : Int32) (M_L81 : OM), wh (σ := Int32 × OM) (ρ := (Int32 × OM) ⊕ (OM)) (fun t => fX6_oneOf_L81 x1_J79 t.1 t.2) fu81 (x2_L81, M_L81) = some X81 → gG p l e (gR 7) s m args below meth c 4 D A 0 0 Q 81 [(0, .ref o), (1, .int x1_J79), (2, .int x2_L81)] [] (wMod cI cJ o a M_L81) := by
      intro fu81
      induction fu81 with
      | zero => intro x2_L81 M_L81 hW; exact (wh_0 hW).elim
      | succ fu81 ih81 =>
        intro x2_L81 M_L81 hW
        obtain ⟨z81, h, hw81⟩ := wh_s hW
        have j103 : ∀ (x2_J103 : Int32) (s0_J103 : Int32) (M_J103 : OM) (z81 : (Int32 × OM) ⊕ ((Int32 × OM) ⊕ (OM))), fX6_oneOf_J103 x1_J79 x2_J103 s0_J103 M_J103 = some z81 → wk (fun t => fX6_oneOf_L81 x1_J79 t.1 t.2) fu81 z81 = some X81 → gG p l e (gR 7) s m args below meth c 4 D A 0 0 Q 103 [(0, .ref o), (1, .int x1_J79), (2, .int x2_J103)] [.int s0_J103] (wMod cI cJ o a M_J103) := by
          intro x2_J103 s0_J103 M_J103 z81 h hw81
          unfold fX6_oneOf_J103 at h
          refine g_istore_n (lv' := [(3, .int s0_J103), (0, .ref o), (1, .int x1_J79), (2, .int x2_J103)]) C dX6_oneOf_103 rfl (by decide) rfl ?_
          refine g_iload_n C dX6_oneOf_104 rfl 3 rfl ?_
          refine g_aload_n C dX6_oneOf_105 rfl 1 rfl ?_
          refine g_get (v := .ref (a 12)) C fl_X6_22 dX6_oneOf_106 0 rfl rfl ?_
          refine g_iload_n C dX6_oneOf_109 rfl 2 rfl ?_
          obtain ⟨hg110, h⟩ := ifg h
          refine g_iald (f := (M_J103.2.1 12)) C dX6_oneOf_110 5 0 rfl rfl hg110 ?_
          refine g_icmp_eq (tgt := 140) C dX6_oneOf_111 (by decide) (fun c111 => ?_) (fun c111 => ?_)
          · have h := ifp h c111
            refine g_iinc (j := 3) (v := (x2_J103 + (1 : Int32))) (lv' := [(2, .int (x2_J103 + (1 : Int32))), (3, .int s0_J103), (0, .ref o), (1, .int x1_J79)]) C dX6_oneOf_140 rfl rfl (by decide) rfl ?_
            refine g_goto (tgt := 81) C dX6_oneOf_143 (by decide) ?_
            obtain rfl := sinj h
            refine g_lv [2, 3, 0] rfl ?_
            exact ih81 (x2_J103 + (1 : Int32)) M_J103 hw81
          · have h := ifn h c111
            refine g_aload_n C dX6_oneOf_114 rfl 1 rfl ?_
            refine g_iload_n C dX6_oneOf_115 rfl 2 rfl ?_
            refine g_iload_n C dX6_oneOf_116 rfl 3 rfl ?_
            refine g_aload_n C dX6_oneOf_117 rfl 1 rfl ?_
            refine g_get (v := .ref (a 13)) C fl_X6_25 dX6_oneOf_118 0 rfl rfl ?_
            refine g_iload_n C dX6_oneOf_121 rfl 2 rfl ?_
            obtain ⟨hg122, h⟩ := ifg h
            refine g_iald (f := (M_J103.2.1 13)) C dX6_oneOf_122 6 0 rfl rfl hg122 ?_
            refine g_iload_n C dX6_oneOf_123 rfl 0 rfl ?_
            obtain ⟨⟨r124, T124⟩, h124, h⟩ := obd h
            refine g_callVi (st := []) (ws2 := wMod cI cJ o a T124) C yv_X6_isOneBy ml_X6_294 dX6_oneOf_124 (kX6_isOneBy l D cC cI cJ cZ o a M_J103 x1_J79 x2_J103 ((M_J103.2.1 13) x1_J79.toNatClampNeg) s0_J103 r124 T124 h124) gCut_all ⟨by decide, by decide⟩ ⟨rfl, rfl⟩ ⟨Nat.zero_le _, Nat.zero_le _⟩ rfl rfl (Nat.le_of_ble_eq_true rfl) 5 0 rfl rfl rfl ?_
            refine g_if_eq (tgt := 140) C dX6_oneOf_127 (by decide) (fun c127 => ?_) (fun c127 => ?_)
            · have h := ifp h c127
              refine g_iinc (j := 3) (v := (x2_J103 + (1 : Int32))) (lv' := [(2, .int (x2_J103 + (1 : Int32))), (3, .int s0_J103), (0, .ref o), (1, .int x1_J79)]) C dX6_oneOf_140 rfl rfl (by decide) rfl ?_
              refine g_goto (tgt := 81) C dX6_oneOf_143 (by decide) ?_
              obtain rfl := sinj h
              refine g_lv [2, 3, 0] rfl ?_
              exact ih81 (x2_J103 + (1 : Int32)) T124 hw81
            · have h := ifn h c127
              refine g_bipush (v := (100 : Int32)) C dX6_oneOf_130 (by decide) ?_
              refine g_iload_n C dX6_oneOf_132 rfl 2 rfl ?_
              refine g_imul C dX6_oneOf_133 ?_
              refine g_bipush (v := (10 : Int32)) C dX6_oneOf_134 (by decide) ?_
              refine g_iadd C dX6_oneOf_136 ?_
              refine g_iload_n C dX6_oneOf_137 rfl 3 rfl ?_
              refine g_iadd C dX6_oneOf_138 ?_
              obtain rfl := sinj h
              obtain rfl := wk_r hw81
              have h := sel hK81
              cases sinj h
              exact g_iret C dX6_oneOf_139 rfl rfl hQ
        replace h : fX6_oneOf_L81 x1_J79 x2_L81 M_L81 = some z81 := h
        unfold fX6_oneOf_L81 at h
        refine g_iload_n C dX6_oneOf_81 rfl 2 rfl ?_
        refine g_iconst (v := (5 : Int32)) C dX6_oneOf_82 (by decide) ?_
        refine g_icmp_ge (tgt := 146) C dX6_oneOf_83 (by decide) (fun c83 => ?_) (fun c83 => ?_)
        · have h := ifp h c83
          obtain rfl := sinj h
          obtain rfl := wk_r hw81
          have h := ser hK81
          refine g_lv [] rfl ?_
          exact j146 M_L81 h
        · have h := ifn h c83
          refine g_iload_n C dX6_oneOf_86 rfl 2 rfl ?_
          obtain ⟨r87, h87, h⟩ := obd h
          refine g_callSi (st := []) (ws2 := wMod cI cJ o a M_L81) C ys_X6_isDouble ml_X6_105 dX6_oneOf_87 (kX6_isDouble l D cC cI cJ cZ x2_L81 r87 h87) gCut_nil ⟨by decide, by decide⟩ ⟨rfl, rfl⟩ ⟨Nat.zero_le _, Nat.zero_le _⟩ rfl rfl (Nat.le_of_ble_eq_true rfl) ?_
          refine g_if_eq (tgt := 102) C dX6_oneOf_90 (by decide) (fun c90 => ?_) (fun c90 => ?_)
          · have h := ifp h c90
            refine g_iconst (v := (0 : Int32)) C dX6_oneOf_102 (by decide) ?_
            refine g_lv [0, 1, 2] rfl ?_
            exact j103 x2_L81 (0 : Int32) M_L81 _ h hw81
          · have h := ifn h c90
            refine g_aload_n C dX6_oneOf_93 rfl 0 rfl ?_
            refine g_get (v := .ref (a 14)) C fl_X6_28 dX6_oneOf_94 0 rfl rfl ?_
            refine g_iload_n C dX6_oneOf_97 rfl 1 rfl ?_
            obtain ⟨hg98, h⟩ := ifg h
            refine g_iald (f := (M_L81.2.1 14)) C dX6_oneOf_98 7 0 rfl rfl hg98 ?_
            refine g_goto (tgt := 103) C dX6_oneOf_99 (by decide) ?_
            refine g_lv [0, 1, 2] rfl ?_
            exact j103 x2_L81 ((M_L81.2.1 14) x1_J79.toNatClampNeg) M_L81 _ h hw81
    refine g_lv [1, 2, 0] rfl ?_
    exact l81 100000 (0 : Int32) M_J79 hW81
  unfold fX6_oneOf at h
  refine g_iconst (v := (0 : Int32)) C dX6_oneOf_0 (by decide) ?_
  refine g_istore_n (lv' := [(2, .int (0 : Int32)), (0, .ref o), (1, .int x1)]) C dX6_oneOf_1 rfl (by decide) rfl ?_
  obtain ⟨X2, hW2, hK2⟩ := obd h
  have l2 : ∀ (fu2 : Nat) (x2_L2 : Int32) (M_L2 : OM), wh (σ := Int32 × OM) (ρ := (Int32 × OM) ⊕ (OM)) (fun t => fX6_oneOf_L2 x1 t.1 t.2) fu2 (x2_L2, M_L2) = some X2 → gG p l e (gR 7) s m args below meth c 4 D A 0 0 Q 2 [(0, .ref o), (1, .int x1), (2, .int x2_L2)] [] (wMod cI cJ o a M_L2) := by
    intro fu2
    induction fu2 with
    | zero => intro x2_L2 M_L2 hW; exact (wh_0 hW).elim
    | succ fu2 ih2 =>
      intro x2_L2 M_L2 hW
      obtain ⟨z2, h, hw2⟩ := wh_s hW
      have j39 : ∀ (x2_J39 : Int32) (s0_J39 : Int32) (M_J39 : OM) (z2 : (Int32 × OM) ⊕ ((Int32 × OM) ⊕ (OM))), fX6_oneOf_J39 x1 x2_J39 s0_J39 M_J39 = some z2 → wk (fun t => fX6_oneOf_L2 x1 t.1 t.2) fu2 z2 = some X2 → gG p l e (gR 7) s m args below meth c 4 D A 0 0 Q 39 [(0, .ref o), (1, .int x1), (2, .int x2_J39)] [.int s0_J39] (wMod cI cJ o a M_J39) := by
        intro x2_J39 s0_J39 M_J39 z2 h hw2
        unfold fX6_oneOf_J39 at h
        refine g_istore_n (lv' := [(3, .int s0_J39), (0, .ref o), (1, .int x1), (2, .int x2_J39)]) C dX6_oneOf_39 rfl (by decide) rfl ?_
        refine g_iload_n C dX6_oneOf_40 rfl 3 rfl ?_
        refine g_aload_n C dX6_oneOf_41 rfl 1 rfl ?_
        refine g_get (v := .ref (a 13)) C fl_X6_25 dX6_oneOf_42 0 rfl rfl ?_
        refine g_iload_n C dX6_oneOf_45 rfl 2 rfl ?_
        obtain ⟨hg46, h⟩ := ifg h
        refine g_iald (f := (M_J39.2.1 13)) C dX6_oneOf_46 6 0 rfl rfl hg46 ?_
        refine g_icmp_eq (tgt := 73) C dX6_oneOf_47 (by decide) (fun c47 => ?_) (fun c47 => ?_)
        · have h := ifp h c47
          refine g_iinc (j := 3) (v := (x2_J39 + (1 : Int32))) (lv' := [(2, .int (x2_J39 + (1 : Int32))), (3, .int s0_J39), (0, .ref o), (1, .int x1)]) C dX6_oneOf_73 rfl rfl (by decide) rfl ?_
          refine g_goto (tgt := 2) C dX6_oneOf_76 (by decide) ?_
          obtain rfl := sinj h
          refine g_lv [2, 3, 0] rfl ?_
          exact ih2 (x2_J39 + (1 : Int32)) M_J39 hw2
        · have h := ifn h c47
          refine g_aload_n C dX6_oneOf_50 rfl 1 rfl ?_
          refine g_iload_n C dX6_oneOf_51 rfl 2 rfl ?_
          refine g_aload_n C dX6_oneOf_52 rfl 1 rfl ?_
          refine g_get (v := .ref (a 12)) C fl_X6_22 dX6_oneOf_53 0 rfl rfl ?_
          refine g_iload_n C dX6_oneOf_56 rfl 2 rfl ?_
          obtain ⟨hg57, h⟩ := ifg h
          refine g_iald (f := (M_J39.2.1 12)) C dX6_oneOf_57 5 0 rfl rfl hg57 ?_
          refine g_iload_n C dX6_oneOf_58 rfl 3 rfl ?_
          refine g_iload_n C dX6_oneOf_59 rfl 0 rfl ?_
          obtain ⟨⟨r60, T60⟩, h60, h⟩ := obd h
          refine g_callVi (st := []) (ws2 := wMod cI cJ o a T60) C yv_X6_isOneBy ml_X6_294 dX6_oneOf_60 (kX6_isOneBy l D cC cI cJ cZ o a M_J39 x1 ((M_J39.2.1 12) x1.toNatClampNeg) x2_J39 s0_J39 r60 T60 h60) gCut_all ⟨by decide, by decide⟩ ⟨rfl, rfl⟩ ⟨Nat.zero_le _, Nat.zero_le _⟩ rfl rfl (Nat.le_of_ble_eq_true rfl) 5 0 rfl rfl rfl ?_
          refine g_if_eq (tgt := 73) C dX6_oneOf_63 (by decide) (fun c63 => ?_) (fun c63 => ?_)
          · have h := ifp h c63
            refine g_iinc (j := 3) (v := (x2_J39 + (1 : Int32))) (lv' := [(2, .int (x2_J39 + (1 : Int32))), (3, .int s0_J39), (0, .ref o), (1, .int x1)]) C dX6_oneOf_73 rfl rfl (by decide) rfl ?_
            refine g_goto (tgt := 2) C dX6_oneOf_76 (by decide) ?_
            obtain rfl := sinj h
            refine g_lv [2, 3, 0] rfl ?_
            exact ih2 (x2_J39 + (1 : Int32)) T60 hw2
          · have h := ifn h c63
            refine g_bipush (v := (100 : Int32)) C dX6_oneOf_66 (by decide) ?_
            refine g_iload_n C dX6_oneOf_68 rfl 2 rfl ?_
            refine g_imul C dX6_oneOf_69 ?_
            refine g_iload_n C dX6_oneOf_70 rfl 3 rfl ?_
            refine g_iadd C dX6_oneOf_71 ?_
            obtain rfl := sinj h
            obtain rfl := wk_r hw2
            have h := sel hK2
            cases sinj h
            exact g_iret C dX6_oneOf_72 rfl rfl hQ
      replace h : fX6_oneOf_L2 x1 x2_L2 M_L2 = some z2 := h
      unfold fX6_oneOf_L2 at h
      refine g_iload_n C dX6_oneOf_2 rfl 2 rfl ?_
      refine g_aload_n C dX6_oneOf_3 rfl 0 rfl ?_
      refine g_iload_n C dX6_oneOf_4 rfl 1 rfl ?_
      obtain ⟨r5, h5, h⟩ := obd h
      refine g_callVi (st := [.int x2_L2]) (ws2 := wMod cI cJ o a M_L2) C yv_X6_cellsOf ml_X6_183 dX6_oneOf_5 (kX6_cellsOf l D cC cI cJ cZ o a M_L2 x1 r5 h5) gCut_all ⟨by decide, by decide⟩ ⟨rfl, rfl⟩ ⟨Nat.zero_le _, Nat.zero_le _⟩ rfl rfl (Nat.le_of_ble_eq_true rfl) 5 0 rfl rfl rfl ?_
      refine g_icmp_gt (tgt := 79) C dX6_oneOf_8 (by decide) (fun c8 => ?_) (fun c8 => ?_)
      · have h := ifp h c8
        obtain rfl := sinj h
        obtain rfl := wk_r hw2
        have h := ser hK2
        refine g_lv [0, 1] rfl ?_
        exact j79 x1 M_L2 h
      · have h := ifn h c8
        refine g_aload_n C dX6_oneOf_11 rfl 0 rfl ?_
        refine g_get (v := .ref (a 14)) C fl_X6_28 dX6_oneOf_12 0 rfl rfl ?_
        refine g_iload_n C dX6_oneOf_15 rfl 1 rfl ?_
        obtain ⟨hg16, h⟩ := ifg h
        refine g_iald (f := (M_L2.2.1 14)) C dX6_oneOf_16 7 0 rfl rfl hg16 ?_
        refine g_iload_n C dX6_oneOf_17 rfl 2 rfl ?_
        refine g_aload_n C dX6_oneOf_18 rfl 0 rfl ?_
        refine g_iload_n C dX6_oneOf_19 rfl 1 rfl ?_
        obtain ⟨r20, h20, h⟩ := obd h
        refine g_callVi (st := [.int x2_L2, .int ((M_L2.2.1 14) x1.toNatClampNeg)]) (ws2 := wMod cI cJ o a M_L2) C yv_X6_cellsOf ml_X6_183 dX6_oneOf_20 (kX6_cellsOf l D cC cI cJ cZ o a M_L2 x1 r20 h20) gCut_all ⟨by decide, by decide⟩ ⟨rfl, rfl⟩ ⟨Nat.zero_le _, Nat.zero_le _⟩ rfl rfl (Nat.le_of_ble_eq_true rfl) 5 0 rfl rfl rfl ?_
        obtain ⟨r23, h23, h⟩ := obd h
        refine g_callSi (st := [.int ((M_L2.2.1 14) x1.toNatClampNeg)]) (ws2 := wMod cI cJ o a M_L2) C ys_X6_mostSecond ml_X6_112 dX6_oneOf_23 (kX6_mostSecond l D cC cI cJ cZ x2_L2 r20 r23 h23) gCut_nil ⟨by decide, by decide⟩ ⟨rfl, rfl⟩ ⟨Nat.zero_le _, Nat.zero_le _⟩ rfl rfl (Nat.le_of_ble_eq_true rfl) ?_
        refine g_icmp_le (tgt := 33) C dX6_oneOf_26 (by decide) (fun c26 => ?_) (fun c26 => ?_)
        · have h := ifp h c26
          refine g_aload_n C dX6_oneOf_33 rfl 0 rfl ?_
          refine g_get (v := .ref (a 14)) C fl_X6_28 dX6_oneOf_34 0 rfl rfl ?_
          refine g_iload_n C dX6_oneOf_37 rfl 1 rfl ?_
          obtain ⟨hg38, h⟩ := ifg h
          refine g_iald (f := (M_L2.2.1 14)) C dX6_oneOf_38 7 0 rfl rfl hg38 ?_
          refine g_lv [0, 1, 2] rfl ?_
          exact j39 x2_L2 ((M_L2.2.1 14) x1.toNatClampNeg) M_L2 _ h hw2
        · have h := ifn h c26
          refine g_iconst (v := (0 : Int32)) C dX6_oneOf_29 (by decide) ?_
          refine g_goto (tgt := 39) C dX6_oneOf_30 (by decide) ?_
          refine g_lv [0, 1, 2] rfl ?_
          exact j39 x2_L2 (0 : Int32) M_L2 _ h hw2
  refine g_lv [1, 2, 0] rfl ?_
  exact l2 100000 (0 : Int32) M hW2
def fX6_oneOfAll_L13 (x1_L13 : Int32) (M_L13 : OM) : Option ((Int32 × OM) ⊕ ((Int32 × OM) ⊕ (OM))) :=
  (if ((M_L13.1 9) + (M_L13.1 10)) ≤ x1_L13 then some (.inr (.inr M_L13))
 else ((fX6_oneOf M_L13 x1_L13).bind (fun r => (fun r28 T28 => (if r28 = (-1 : Int32) then some (.inl ((x1_L13 + (1 : Int32)), T28))
 else some (.inr (.inl (r28, T28))))) r.1 r.2)))
def fX6_oneOfAll_J45 (M_J45 : OM) : Option (Int32 × OM) :=
  some ((-1 : Int32), M_J45)
def fX6_oneOfAll (M : OM)  : Option (Int32 × OM) :=
  ((fX6_leftOf M).bind (fun r => (fun r1 T1 => (if r1 = (1 : Int32) then some ((-2 : Int32), T1)
 else ((wh (σ := Int32 × OM) (ρ := (Int32 × OM) ⊕ (OM)) (fun t => fX6_oneOfAll_L13 t.1 t.2) 100000 ((0 : Int32), T1)).bind (fun X => Sum.elim (fun r => some r) (fun M_E13 => fX6_oneOfAll_J45 M_E13) X)))) r.1 r.2))
set_option maxHeartbeats 4000000 in
set_option maxRecDepth 100000 in
theorem kX6_oneOfAll (l : Launch) (D : va_G) (cC cI cJ cZ : ClassId) (o : Nat) (a : Nat → Nat) (M : OM)  (r : Int32) (M' : OM) (h : fX6_oneOfAll M = some (r, M')) : gMi l yX6_oneOfAll cX6_oneOfAll 3 (some .int) (gR 8) D (tysG cC cI cJ cZ) [.ref o] (wMod cI cJ o a M) r (wMod cI cJ o a M') := by
  refine gMi_of (by decide) (Nat.le_of_ble_eq_true rfl) rfl ?_
  intro p e s m args below meth c A Q C hQ
  have j45 : ∀ (M_J45 : OM), fX6_oneOfAll_J45 M_J45 = some (r, M') → gG p l e (gR 8) s m args below meth c 3 D A 0 0 Q 45 [] [] (wMod cI cJ o a M_J45) := by
    intro M_J45 h
    unfold fX6_oneOfAll_J45 at h
    refine g_iconst (v := (-1 : Int32)) C dX6_oneOfAll_45 (by decide) ?_
    cases sinj h
    exact g_iret C dX6_oneOfAll_46 rfl rfl hQ
  unfold fX6_oneOfAll at h
  refine g_aload_n C dX6_oneOfAll_0 rfl 0 rfl ?_
  obtain ⟨⟨r1, T1⟩, h1, h⟩ := obd h
  refine g_callVi (st := []) (ws2 := wMod cI cJ o a T1) C yv_X6_leftOf ml_X6_227 dX6_oneOfAll_1 (kX6_leftOf l D cC cI cJ cZ o a M r1 T1 h1) gCut_all ⟨by decide, by decide⟩ ⟨rfl, rfl⟩ ⟨Nat.zero_le _, Nat.zero_le _⟩ rfl rfl (Nat.le_of_ble_eq_true rfl) 5 0 rfl rfl rfl ?_
  refine g_iconst (v := (1 : Int32)) C dX6_oneOfAll_4 (by decide) ?_
  refine g_icmp_ne (tgt := 11) C dX6_oneOfAll_5 (by decide) (fun c5 => ?_) (fun c5 => ?_)
  · have h := ifn h c5
    refine g_iconst (v := (0 : Int32)) C dX6_oneOfAll_11 (by decide) ?_
    refine g_istore_n (lv' := [(1, .int (0 : Int32)), (0, .ref o)]) C dX6_oneOfAll_12 rfl (by decide) rfl ?_
    obtain ⟨X13, hW13, hK13⟩ := obd h
    have l13 : ∀ (fu13 : Nat) (x1_L13 : Int32) (M_L13 : OM), wh (σ := Int32 × OM) (ρ := (Int32 × OM) ⊕ (OM)) (fun t => fX6_oneOfAll_L13 t.1 t.2) fu13 (x1_L13, M_L13) = some X13 → gG p l e (gR 8) s m args below meth c 3 D A 0 0 Q 13 [(0, .ref o), (1, .int x1_L13)] [] (wMod cI cJ o a M_L13) := by
      intro fu13
      induction fu13 with
      | zero => intro x1_L13 M_L13 hW; exact (wh_0 hW).elim
      | succ fu13 ih13 =>
        intro x1_L13 M_L13 hW
        obtain ⟨z13, h, hw13⟩ := wh_s hW
        replace h : fX6_oneOfAll_L13 x1_L13 M_L13 = some z13 := h
        unfold fX6_oneOfAll_L13 at h
        refine g_iload_n C dX6_oneOfAll_13 rfl 1 rfl ?_
        refine g_aload_n C dX6_oneOfAll_14 rfl 0 rfl ?_
        refine g_get (v := .int (M_L13.1 9)) C fl_X6_141 dX6_oneOfAll_15 0 rfl rfl ?_
        refine g_aload_n C dX6_oneOfAll_18 rfl 0 rfl ?_
        refine g_get (v := .int (M_L13.1 10)) C fl_X6_144 dX6_oneOfAll_19 0 rfl rfl ?_
        refine g_iadd C dX6_oneOfAll_22 ?_
        refine g_icmp_ge (tgt := 45) C dX6_oneOfAll_23 (by decide) (fun c23 => ?_) (fun c23 => ?_)
        · have h := ifp h c23
          obtain rfl := sinj h
          obtain rfl := wk_r hw13
          have h := ser hK13
          refine g_lv [] rfl ?_
          exact j45 M_L13 h
        · have h := ifn h c23
          refine g_aload_n C dX6_oneOfAll_26 rfl 0 rfl ?_
          refine g_iload_n C dX6_oneOfAll_27 rfl 1 rfl ?_
          obtain ⟨⟨r28, T28⟩, h28, h⟩ := obd h
          refine g_callVi (st := []) (ws2 := wMod cI cJ o a T28) C yv_X6_oneOf ml_X6_297 dX6_oneOfAll_28 (kX6_oneOf l D cC cI cJ cZ o a M_L13 x1_L13 r28 T28 h28) gCut_all ⟨by decide, by decide⟩ ⟨rfl, rfl⟩ ⟨Nat.zero_le _, Nat.zero_le _⟩ rfl rfl (Nat.le_of_ble_eq_true rfl) 5 0 rfl rfl rfl ?_
          refine g_istore_n (lv' := [(2, .int r28), (0, .ref o), (1, .int x1_L13)]) C dX6_oneOfAll_31 rfl (by decide) rfl ?_
          refine g_iload_n C dX6_oneOfAll_32 rfl 0 rfl ?_
          refine g_iconst (v := (-1 : Int32)) C dX6_oneOfAll_33 (by decide) ?_
          refine g_icmp_eq (tgt := 39) C dX6_oneOfAll_34 (by decide) (fun c34 => ?_) (fun c34 => ?_)
          · have h := ifp h c34
            refine g_iinc (j := 2) (v := (x1_L13 + (1 : Int32))) (lv' := [(1, .int (x1_L13 + (1 : Int32))), (2, .int r28), (0, .ref o)]) C dX6_oneOfAll_39 rfl rfl (by decide) rfl ?_
            refine g_goto (tgt := 13) C dX6_oneOfAll_42 (by decide) ?_
            obtain rfl := sinj h
            refine g_lv [2, 0] rfl ?_
            exact ih13 (x1_L13 + (1 : Int32)) T28 hw13
          · have h := ifn h c34
            refine g_iload_n C dX6_oneOfAll_37 rfl 0 rfl ?_
            obtain rfl := sinj h
            obtain rfl := wk_r hw13
            have h := sel hK13
            cases sinj h
            exact g_iret C dX6_oneOfAll_38 rfl rfl hQ
    refine g_lv [1, 0] rfl ?_
    exact l13 100000 (0 : Int32) T1 hW13
  · have h := ifp h c5
    refine g_bipush (v := (-2 : Int32)) C dX6_oneOfAll_8 (by decide) ?_
    cases sinj h
    exact g_iret C dX6_oneOfAll_10 rfl rfl hQ
def fX6_one (M : OM)  : Option (Int32 × OM) :=
  ((fX6_lacks M).bind (fun r1 => (if r1 = 0 then (if (M.1 27) = (6 : Int32) then some ((-103 : Int32), M)
 else ((fX6_oneOfAll ((va_up M.1 27 ((M.1 27) + (1 : Int32))), M.2.1, M.2.2.1, M.2.2.2)).bind (fun r => (fun r30 T30 => some (r30, T30)) r.1 r.2)))
 else some ((-103 : Int32), M))))
set_option maxHeartbeats 4000000 in
set_option maxRecDepth 100000 in
theorem kX6_one (l : Launch) (D : va_G) (cC cI cJ cZ : ClassId) (o : Nat) (a : Nat → Nat) (M : OM)  (r : Int32) (M' : OM) (h : fX6_one M = some (r, M')) : gMi l yX6_one cX6_one 1 (some .int) (gR 9) D (tysG cC cI cJ cZ) [.ref o] (wMod cI cJ o a M) r (wMod cI cJ o a M') := by
  refine gMi_of (by decide) (Nat.le_of_ble_eq_true rfl) rfl ?_
  intro p e s m args below meth c A Q C hQ
  unfold fX6_one at h
  refine g_aload_n C dX6_one_0 rfl 0 rfl ?_
  obtain ⟨r1, h1, h⟩ := obd h
  refine g_callVi (st := []) (ws2 := wMod cI cJ o a M) C yv_X6_lacks ml_X6_223 dX6_one_1 (kX6_lacks l D cC cI cJ cZ o a M r1 h1) gCut_all ⟨by decide, by decide⟩ ⟨rfl, rfl⟩ ⟨Nat.zero_le _, Nat.zero_le _⟩ rfl rfl (Nat.le_of_ble_eq_true rfl) 5 0 rfl rfl rfl ?_
  refine g_if_ne (tgt := 16) C dX6_one_4 (by decide) (fun c4 => ?_) (fun c4 => ?_)
  · have h := ifn h c4
    refine g_bipush (v := (-103 : Int32)) C dX6_one_16 (by decide) ?_
    cases sinj h
    exact g_iret C dX6_one_18 rfl rfl hQ
  · have h := ifp h c4
    refine g_aload_n C dX6_one_7 rfl 0 rfl ?_
    refine g_get (v := .int (M.1 27)) C fl_X6_300 dX6_one_8 0 rfl rfl ?_
    refine g_bipush (v := (6 : Int32)) C dX6_one_11 (by decide) ?_
    refine g_icmp_ne (tgt := 19) C dX6_one_13 (by decide) (fun c13 => ?_) (fun c13 => ?_)
    · have h := ifn h c13
      refine g_aload_n C dX6_one_19 rfl 0 rfl ?_
      refine g_dup C dX6_one_20 rfl ?_
      refine g_get (v := .int (M.1 27)) C fl_X6_300 dX6_one_21 0 rfl rfl ?_
      refine g_iconst (v := (1 : Int32)) C dX6_one_24 (by decide) ?_
      refine g_iadd C dX6_one_25 ?_
      refine g_put (ws2 := wMod cI cJ o a ((va_up M.1 27 ((M.1 27) + (1 : Int32))), M.2.1, M.2.2.1, M.2.2.2)) C fp_X6_300 dX6_one_26 0 rfl rfl rfl (Nat.le_of_ble_eq_true rfl) rfl ?_
      refine g_aload_n C dX6_one_29 rfl 0 rfl ?_
      obtain ⟨⟨r30, T30⟩, h30, h⟩ := obd h
      refine g_callVi (st := []) (ws2 := wMod cI cJ o a T30) C yv_X6_oneOfAll ml_X6_303 dX6_one_30 (kX6_oneOfAll l D cC cI cJ cZ o a ((va_up M.1 27 ((M.1 27) + (1 : Int32))), M.2.1, M.2.2.1, M.2.2.2) r30 T30 h30) gCut_all ⟨by decide, by decide⟩ ⟨rfl, rfl⟩ ⟨Nat.zero_le _, Nat.zero_le _⟩ rfl rfl (Nat.le_of_ble_eq_true rfl) 5 0 rfl rfl rfl ?_
      cases sinj h
      exact g_iret C dX6_one_33 rfl rfl hQ
    · have h := ifp h c13
      refine g_bipush (v := (-103 : Int32)) C dX6_one_16 (by decide) ?_
      cases sinj h
      exact g_iret C dX6_one_18 rfl rfl hQ
def fX6_forget (M : OM)  : Option (Int32 × OM) :=
  some ((M.1 28), ((va_up M.1 28 (0 : Int32)), M.2.1, M.2.2.1, M.2.2.2))
set_option maxHeartbeats 4000000 in
set_option maxRecDepth 100000 in
theorem kX6_forget (l : Launch) (D : va_G) (cC cI cJ cZ : ClassId) (o : Nat) (a : Nat → Nat) (M : OM)  (r : Int32) (M' : OM) (h : fX6_forget M = some (r, M')) : gMi l yX6_forget cX6_forget 2 (some .int) (gR 1) D (tysG cC cI cJ cZ) [.ref o] (wMod cI cJ o a M) r (wMod cI cJ o a M') := by
  refine gMi_of (by decide) (Nat.le_of_ble_eq_true rfl) rfl ?_
  intro p e s m args below meth c A Q C hQ
  unfold fX6_forget at h
  refine g_aload_n C dX6_forget_0 rfl 0 rfl ?_
  refine g_get (v := .int (M.1 28)) C fl_X6_151 dX6_forget_1 0 rfl rfl ?_
  refine g_istore_n (lv' := [(1, .int (M.1 28)), (0, .ref o)]) C dX6_forget_4 rfl (by decide) rfl ?_
  refine g_aload_n C dX6_forget_5 rfl 1 rfl ?_
  refine g_iconst (v := (0 : Int32)) C dX6_forget_6 (by decide) ?_
  refine g_put (ws2 := wMod cI cJ o a ((va_up M.1 28 (0 : Int32)), M.2.1, M.2.2.1, M.2.2.2)) C fp_X6_151 dX6_forget_7 0 rfl rfl rfl (Nat.le_of_ble_eq_true rfl) rfl ?_
  refine g_iload_n C dX6_forget_10 rfl 0 rfl ?_
  cases sinj h
  exact g_iret C dX6_forget_11 rfl rfl hQ
def fX6_draw (M : OM) (x1 : Int32) : Option (Int32 × OM) :=
  (if ¬ (65536 : Int32) = 0 then (if ¬ x1 = 0 then some ((((((((1103515245 : Int64) * (M.1 30).toInt64) + (12345 : Int64)) &&& (2147483647 : Int64)).toInt32) / (65536 : Int32)) - ((((((1103515245 : Int64) * (M.1 30).toInt64) + (12345 : Int64)) &&& (2147483647 : Int64)).toInt32) / (65536 : Int32)) / x1 * x1), ((va_up M.1 30 (((((1103515245 : Int64) * (M.1 30).toInt64) + (12345 : Int64)) &&& (2147483647 : Int64)).toInt32)), M.2.1, M.2.2.1, M.2.2.2)) else none) else none)
set_option maxHeartbeats 4000000 in
set_option maxRecDepth 100000 in
theorem kX6_draw (l : Launch) (D : va_G) (cC cI cJ cZ : ClassId) (o : Nat) (a : Nat → Nat) (M : OM) (x1 : Int32) (r : Int32) (M' : OM) (h : fX6_draw M x1 = some (r, M')) : gMi l yX6_draw cX6_draw 2 (some .int) (gR 1) D (tysG cC cI cJ cZ) [.ref o, .int x1] (wMod cI cJ o a M) r (wMod cI cJ o a M') := by
  refine gMi_of (by decide) (Nat.le_of_ble_eq_true rfl) rfl ?_
  intro p e s m args below meth c A Q C hQ
  unfold fX6_draw at h
  refine g_aload_n C dX6_draw_0 rfl 0 rfl ?_
  refine g_ldc2 C dX6_draw_1 ck_X6_309 ?_
  refine g_aload_n C dX6_draw_4 rfl 0 rfl ?_
  refine g_get (v := .int (M.1 30)) C fl_X6_311 dX6_draw_5 0 rfl rfl ?_
  refine g_i2l C dX6_draw_8 ?_
  refine g_lmul C dX6_draw_9 ?_
  refine g_ldc2 C dX6_draw_10 ck_X6_314 ?_
  refine g_ladd C dX6_draw_13 ?_
  refine g_ldc2 C dX6_draw_14 ck_X6_316 ?_
  refine g_land C dX6_draw_17 ?_
  refine g_l2i C dX6_draw_18 ?_
  refine g_put (ws2 := wMod cI cJ o a ((va_up M.1 30 (((((1103515245 : Int64) * (M.1 30).toInt64) + (12345 : Int64)) &&& (2147483647 : Int64)).toInt32)), M.2.1, M.2.2.1, M.2.2.2)) C fp_X6_311 dX6_draw_19 0 rfl rfl rfl (Nat.le_of_ble_eq_true rfl) rfl ?_
  refine g_aload_n C dX6_draw_22 rfl 0 rfl ?_
  refine g_get (v := .int (((((1103515245 : Int64) * (M.1 30).toInt64) + (12345 : Int64)) &&& (2147483647 : Int64)).toInt32)) C fl_X6_311 dX6_draw_23 0 rfl rfl ?_
  refine g_ldcw C dX6_draw_26 ck_X6_318 ?_
  obtain ⟨hg29, h⟩ := ifg h
  refine g_idiv C dX6_draw_29 hg29 ?_
  refine g_iload_n C dX6_draw_30 rfl 1 rfl ?_
  obtain ⟨hg31, h⟩ := ifg h
  refine g_irem C dX6_draw_31 hg31 ?_
  cases sinj h
  exact g_iret C dX6_draw_32 rfl rfl hQ
def fX6_laySome_L8 (x1_L8 : Int32) (x2_L8 : Int32) (M_L8 : OM) : Option ((Int32 × Int32 × OM) ⊕ (Int32 × OM)) :=
  (if x2_L8 = (-1 : Int32) then some (.inr (x1_L8, M_L8))
 else (if okI x1_L8 200 = true then ((fX6_nextFit (M_L8.1, (va_up M_L8.2.1 31 (upd (M_L8.2.1 31) x1_L8.toNatClampNeg x2_L8)), M_L8.2.2.1, M_L8.2.2.2) x2_L8).bind (fun r25 => some (.inl ((x1_L8 + (1 : Int32)), r25, (M_L8.1, (va_up M_L8.2.1 31 (upd (M_L8.2.1 31) x1_L8.toNatClampNeg x2_L8)), M_L8.2.2.1, M_L8.2.2.2))))) else none))
def fX6_laySome_J32 (x1_J32 : Int32) (M_J32 : OM) : Option (Int32 × OM) :=
  some (x1_J32, M_J32)
def fX6_laySome (M : OM)  : Option (Int32 × OM) :=
  ((fX6_nextFit M (-1 : Int32)).bind (fun r4 => ((wh (σ := Int32 × Int32 × OM) (ρ := Int32 × OM) (fun t => fX6_laySome_L8 t.1 t.2.1 t.2.2) 100000 ((0 : Int32), r4, M)).bind (fun X => (fun e1_L8 M_E8 => fX6_laySome_J32 e1_L8 M_E8) X.1 X.2))))
set_option maxHeartbeats 4000000 in
set_option maxRecDepth 100000 in
theorem kX6_laySome (l : Launch) (D : va_G) (cC cI cJ cZ : ClassId) (o : Nat) (a : Nat → Nat) (M : OM)  (r : Int32) (M' : OM) (h : fX6_laySome M = some (r, M')) : gMi l yX6_laySome cX6_laySome 3 (some .int) (gR 3) D (tysG cC cI cJ cZ) [.ref o] (wMod cI cJ o a M) r (wMod cI cJ o a M') := by
  refine gMi_of (by decide) (Nat.le_of_ble_eq_true rfl) rfl ?_
  intro p e s m args below meth c A Q C hQ
  have j32 : ∀ (x1_J32 : Int32) (M_J32 : OM), fX6_laySome_J32 x1_J32 M_J32 = some (r, M') → gG p l e (gR 3) s m args below meth c 3 D A 0 0 Q 32 [(1, .int x1_J32)] [] (wMod cI cJ o a M_J32) := by
    intro x1_J32 M_J32 h
    unfold fX6_laySome_J32 at h
    refine g_iload_n C dX6_laySome_32 rfl 0 rfl ?_
    cases sinj h
    exact g_iret C dX6_laySome_33 rfl rfl hQ
  unfold fX6_laySome at h
  refine g_iconst (v := (0 : Int32)) C dX6_laySome_0 (by decide) ?_
  refine g_istore_n (lv' := [(1, .int (0 : Int32)), (0, .ref o)]) C dX6_laySome_1 rfl (by decide) rfl ?_
  refine g_aload_n C dX6_laySome_2 rfl 1 rfl ?_
  refine g_iconst (v := (-1 : Int32)) C dX6_laySome_3 (by decide) ?_
  obtain ⟨r4, h4, h⟩ := obd h
  refine g_callVi (st := []) (ws2 := wMod cI cJ o a M) C yv_X6_nextFit ml_X6_217 dX6_laySome_4 (kX6_nextFit l D cC cI cJ cZ o a M (-1 : Int32) r4 h4) gCut_all ⟨by decide, by decide⟩ ⟨rfl, rfl⟩ ⟨Nat.zero_le _, Nat.zero_le _⟩ rfl rfl (Nat.le_of_ble_eq_true rfl) 5 0 rfl rfl rfl ?_
  refine g_istore_n (lv' := [(2, .int r4), (1, .int (0 : Int32)), (0, .ref o)]) C dX6_laySome_7 rfl (by decide) rfl ?_
  obtain ⟨X8, hW8, hK8⟩ := obd h
  have l8 : ∀ (fu8 : Nat) (x1_L8 : Int32) (x2_L8 : Int32) (M_L8 : OM), wh (σ := Int32 × Int32 × OM) (ρ := Int32 × OM) (fun t => fX6_laySome_L8 t.1 t.2.1 t.2.2) fu8 (x1_L8, x2_L8, M_L8) = some X8 → gG p l e (gR 3) s m args below meth c 3 D A 0 0 Q 8 [(0, .ref o), (1, .int x1_L8), (2, .int x2_L8)] [] (wMod cI cJ o a M_L8) := by
    intro fu8
    induction fu8 with
    | zero => intro x1_L8 x2_L8 M_L8 hW; exact (wh_0 hW).elim
    | succ fu8 ih8 =>
      intro x1_L8 x2_L8 M_L8 hW
      obtain ⟨z8, h, hw8⟩ := wh_s hW
      replace h : fX6_laySome_L8 x1_L8 x2_L8 M_L8 = some z8 := h
      unfold fX6_laySome_L8 at h
      refine g_iload_n C dX6_laySome_8 rfl 2 rfl ?_
      refine g_iconst (v := (-1 : Int32)) C dX6_laySome_9 (by decide) ?_
      refine g_icmp_eq (tgt := 32) C dX6_laySome_10 (by decide) (fun c10 => ?_) (fun c10 => ?_)
      · have h := ifp h c10
        obtain rfl := sinj h
        obtain rfl := wk_r hw8
        have h := hK8
        refine g_lv [1] rfl ?_
        exact j32 x1_L8 M_L8 h
      · have h := ifn h c10
        refine g_aload_n C dX6_laySome_13 rfl 0 rfl ?_
        refine g_get (v := .ref (a 31)) C fl_X6_47 dX6_laySome_14 0 rfl rfl ?_
        refine g_iload_n C dX6_laySome_17 rfl 1 rfl ?_
        refine g_iload_n C dX6_laySome_18 rfl 2 rfl ?_
        obtain ⟨hg19, h⟩ := ifg h
        refine g_iast (f := (M_L8.2.1 31)) (ws2 := wMod cI cJ o a (M_L8.1, (va_up M_L8.2.1 31 (upd (M_L8.2.1 31) x1_L8.toNatClampNeg x2_L8)), M_L8.2.2.1, M_L8.2.2.2)) C dX6_laySome_19 13 0 rfl rfl hg19 rfl ?_
        refine g_iinc (j := 1) (v := (x1_L8 + (1 : Int32))) (lv' := [(1, .int (x1_L8 + (1 : Int32))), (0, .ref o), (2, .int x2_L8)]) C dX6_laySome_20 rfl rfl (by decide) rfl ?_
        refine g_aload_n C dX6_laySome_23 rfl 1 rfl ?_
        refine g_iload_n C dX6_laySome_24 rfl 2 rfl ?_
        obtain ⟨r25, h25, h⟩ := obd h
        refine g_callVi (st := []) (ws2 := wMod cI cJ o a (M_L8.1, (va_up M_L8.2.1 31 (upd (M_L8.2.1 31) x1_L8.toNatClampNeg x2_L8)), M_L8.2.2.1, M_L8.2.2.2)) C yv_X6_nextFit ml_X6_217 dX6_laySome_25 (kX6_nextFit l D cC cI cJ cZ o a (M_L8.1, (va_up M_L8.2.1 31 (upd (M_L8.2.1 31) x1_L8.toNatClampNeg x2_L8)), M_L8.2.2.1, M_L8.2.2.2) x2_L8 r25 h25) gCut_all ⟨by decide, by decide⟩ ⟨rfl, rfl⟩ ⟨Nat.zero_le _, Nat.zero_le _⟩ rfl rfl (Nat.le_of_ble_eq_true rfl) 5 0 rfl rfl rfl ?_
        refine g_istore_n (lv' := [(2, .int r25), (1, .int (x1_L8 + (1 : Int32))), (0, .ref o)]) C dX6_laySome_28 rfl (by decide) rfl ?_
        refine g_goto (tgt := 8) C dX6_laySome_29 (by decide) ?_
        obtain rfl := sinj h
        refine g_lv [2, 1, 0] rfl ?_
        exact ih8 (x1_L8 + (1 : Int32)) r25 (M_L8.1, (va_up M_L8.2.1 31 (upd (M_L8.2.1 31) x1_L8.toNatClampNeg x2_L8)), M_L8.2.2.1, M_L8.2.2.2) hw8
  refine g_lv [2, 1, 0] rfl ?_
  exact l8 100000 (0 : Int32) r4 M hW8
def fX6_gameOne_L57 (x1_L57 : Int32) (x2_L57 : Int32) (x3_L57 : Int32) (x4_L57 : Int32) (x5_L57 : Int32) (x6_L57 : Int32) (M_L57 : OM) : Option ((Int32 × OM) ⊕ (OM)) :=
  (if x1_L57 ≤ x6_L57 then some (.inr M_L57)
 else (if okI x5_L57 16 = true then (if okI x6_L57 200 = true then (if okI x5_L57 16 = true then some (.inl ((x6_L57 + (1 : Int32)), (M_L57.1, (va_up M_L57.2.1 32 (upd (M_L57.2.1 32) x5_L57.toNatClampNeg (((M_L57.2.1 32) x5_L57.toNatClampNeg) + ((((M_L57.2.1 31) x6_L57.toNatClampNeg) >>> (x5_L57 &&& 31)) &&& (1 : Int32))))), M_L57.2.2.1, M_L57.2.2.2))) else none) else none) else none))
def fX6_gameOne_J91 (x1_L39 : Int32) (x2_L39 : Int32) (x3_L39 : Int32) (x4_L39 : Int32) (x5_J91 : Int32) (M_J91 : OM) : Option ((Int32 × OM) ⊕ (OM)) :=
  some (.inl ((x5_J91 + (1 : Int32)), M_J91))
def fX6_gameOne_L39 (x1_L39 : Int32) (x2_L39 : Int32) (x3_L39 : Int32) (x4_L39 : Int32) (x5_L39 : Int32) (M_L39 : OM) : Option ((Int32 × OM) ⊕ (OM)) :=
  (if (16 : Int32) ≤ x5_L39 then some (.inr M_L39)
 else (if okI x5_L39 16 = true then ((wh (σ := Int32 × OM) (ρ := OM) (fun t => fX6_gameOne_L57 x1_L39 x2_L39 x3_L39 x4_L39 x5_L39 t.1 t.2) 100000 ((0 : Int32), (M_L39.1, (va_up M_L39.2.1 32 (upd (M_L39.2.1 32) x5_L39.toNatClampNeg (0 : Int32))), M_L39.2.2.1, M_L39.2.2.2))).bind (fun M_E57 => fX6_gameOne_J91 x1_L39 x2_L39 x3_L39 x4_L39 x5_L39 M_E57)) else none))
def fX6_gameOne_L125 (x1_L125 : Int32) (x2_L125 : Int32) (x3_L125 : Int32) (x4_L125 : Int32) (x5_L125 : Int32) (x6_L125 : Int32) (x7_L125 : Int32) (M_L125 : OM) : Option ((Int32 × Int32 × OM) ⊕ (Int32 × OM)) :=
  (if x1_L125 ≤ x7_L125 then some (.inr (x6_L125, M_L125))
 else (if okI x7_L125 200 = true then (if (((((M_L125.2.1 31) x7_L125.toNatClampNeg) ^^^ x2_L125) >>> (x5_L125 &&& 31)) &&& (1 : Int32)) = 0 then (if okI x7_L125 200 = true then (if okI x6_L125 200 = true then some (.inl ((x6_L125 + (1 : Int32)), (x7_L125 + (1 : Int32)), (M_L125.1, (va_up M_L125.2.1 31 (upd (M_L125.2.1 31) x6_L125.toNatClampNeg ((M_L125.2.1 31) x7_L125.toNatClampNeg))), M_L125.2.2.1, M_L125.2.2.2))) else none) else none)
 else some (.inl (x6_L125, (x7_L125 + (1 : Int32)), M_L125))) else none))
def fX6_gameOne_J171 (x2_L31 : Int32) (x3_J171 : Int32) (x4_J171 : Int32) (x6_J171 : Int32) (M_J171 : OM) : Option ((Int32 × Int32 × Int32 × OM) ⊕ (Int32 × OM)) :=
  some (.inl (x6_J171, x3_J171, x4_J171, M_J171))
def fX6_gameOne_J97 (x2_L31 : Int32) (x1_J97 : Int32) (x3_J97 : Int32) (x4_J97 : Int32) (M_J97 : OM) : Option ((Int32 × Int32 × Int32 × OM) ⊕ (Int32 × OM)) :=
  ((fX6_bestCell_32 M_J97 x1_J97 x3_J97).bind (fun r104 => ((wh (σ := Int32 × Int32 × OM) (ρ := Int32 × OM) (fun t => fX6_gameOne_L125 x1_J97 x2_L31 (x3_J97 ||| ((1 : Int32) <<< (r104 &&& 31))) (x4_J97 + (1 : Int32)) r104 t.1 t.2.1 t.2.2) 100000 ((0 : Int32), (0 : Int32), M_J97)).bind (fun X => (fun e6_L125 M_E125 => fX6_gameOne_J171 x2_L31 (x3_J97 ||| ((1 : Int32) <<< (r104 &&& 31))) (x4_J97 + (1 : Int32)) e6_L125 M_E125) X.1 X.2))))
def fX6_gameOne_L31 (x2_L31 : Int32) (x1_L31 : Int32) (x3_L31 : Int32) (x4_L31 : Int32) (M_L31 : OM) : Option ((Int32 × Int32 × Int32 × OM) ⊕ (Int32 × OM)) :=
  (if x1_L31 ≤ (1 : Int32) then some (.inr (x4_L31, M_L31))
 else ((wh (σ := Int32 × OM) (ρ := OM) (fun t => fX6_gameOne_L39 x1_L31 x2_L31 x3_L31 x4_L31 t.1 t.2) 100000 ((0 : Int32), M_L31)).bind (fun M_E39 => fX6_gameOne_J97 x2_L31 x1_L31 x3_L31 x4_L31 M_E39)))
def fX6_gameOne_J177 (x4_J177 : Int32) (M_J177 : OM) : Option (Int32 × OM) :=
  some (x4_J177, M_J177)
def fX6_gameOne (M : OM)  : Option (Int32 × OM) :=
  ((fX6_laySome M).bind (fun r => (fun r1 T1 => ((fX6_draw T1 r1).bind (fun r => (fun r11 T11 => (if okI r11 200 = true then ((fX6_marked T11 (1 : Int32)).bind (fun r18 => ((fX6_marked T11 (2 : Int32)).bind (fun r23 => ((wh (σ := Int32 × Int32 × Int32 × OM) (ρ := Int32 × OM) (fun t => fX6_gameOne_L31 ((T11.2.1 31) r11.toNatClampNeg) t.1 t.2.1 t.2.2.1 t.2.2.2) 100000 (r1, (r18 ||| r23), (0 : Int32), T11)).bind (fun X => (fun e4_L31 M_E31 => fX6_gameOne_J177 e4_L31 M_E31) X.1 X.2)))))) else none)) r.1 r.2))) r.1 r.2))
set_option maxHeartbeats 4000000 in
set_option maxRecDepth 100000 in
theorem kX6_gameOne (l : Launch) (D : va_G) (cC cI cJ cZ : ClassId) (o : Nat) (a : Nat → Nat) (M : OM)  (r : Int32) (M' : OM) (h : fX6_gameOne M = some (r, M')) : gMi l yX6_gameOne cX6_gameOne 8 (some .int) (gR 4) D (tysG cC cI cJ cZ) [.ref o] (wMod cI cJ o a M) r (wMod cI cJ o a M') := by
  refine gMi_of (by decide) (Nat.le_of_ble_eq_true rfl) rfl ?_
  intro p e s m args below meth c A Q C hQ
  have j177 : ∀ (x4_J177 : Int32) (M_J177 : OM), fX6_gameOne_J177 x4_J177 M_J177 = some (r, M') → gG p l e (gR 4) s m args below meth c 8 D A 0 0 Q 177 [(4, .int x4_J177)] [] (wMod cI cJ o a M_J177) := by
    intro x4_J177 M_J177 h
    unfold fX6_gameOne_J177 at h
    refine g_iload C dX6_gameOne_177 0 rfl ?_
    cases sinj h
    exact g_iret C dX6_gameOne_179 rfl rfl hQ
  unfold fX6_gameOne at h
  refine g_aload_n C dX6_gameOne_0 rfl 0 rfl ?_
  obtain ⟨⟨r1, T1⟩, h1, h⟩ := obd h
  refine g_callVi (st := []) (ws2 := wMod cI cJ o a T1) C yv_X6_laySome ml_X6_319 dX6_gameOne_1 (kX6_laySome l D cC cI cJ cZ o a M r1 T1 h1) gCut_all ⟨by decide, by decide⟩ ⟨rfl, rfl⟩ ⟨Nat.zero_le _, Nat.zero_le _⟩ rfl rfl (Nat.le_of_ble_eq_true rfl) 5 0 rfl rfl rfl ?_
  refine g_istore_n (lv' := [(1, .int r1), (0, .ref o)]) C dX6_gameOne_4 rfl (by decide) rfl ?_
  refine g_aload_n C dX6_gameOne_5 rfl 1 rfl ?_
  refine g_get (v := .ref (a 31)) C fl_X6_47 dX6_gameOne_6 0 rfl rfl ?_
  refine g_aload_n C dX6_gameOne_9 rfl 1 rfl ?_
  refine g_iload_n C dX6_gameOne_10 rfl 0 rfl ?_
  obtain ⟨⟨r11, T11⟩, h11, h⟩ := obd h
  refine g_callVi (st := [.ref (a 31)]) (ws2 := wMod cI cJ o a T11) C yv_X6_draw ml_X6_322 dX6_gameOne_11 (kX6_draw l D cC cI cJ cZ o a T1 r1 r11 T11 h11) gCut_all ⟨by decide, by decide⟩ ⟨rfl, rfl⟩ ⟨Nat.zero_le _, Nat.zero_le _⟩ rfl rfl (Nat.le_of_ble_eq_true rfl) 5 0 rfl rfl rfl ?_
  obtain ⟨hg14, h⟩ := ifg h
  refine g_iald (f := (T11.2.1 31)) C dX6_gameOne_14 13 0 rfl rfl hg14 ?_
  refine g_istore_n (lv' := [(2, .int ((T11.2.1 31) r11.toNatClampNeg)), (1, .int r1), (0, .ref o)]) C dX6_gameOne_15 rfl (by decide) rfl ?_
  refine g_aload_n C dX6_gameOne_16 rfl 2 rfl ?_
  refine g_iconst (v := (1 : Int32)) C dX6_gameOne_17 (by decide) ?_
  obtain ⟨r18, h18, h⟩ := obd h
  refine g_callVi (st := []) (ws2 := wMod cI cJ o a T11) C yv_X6_marked ml_X6_204 dX6_gameOne_18 (kX6_marked l D cC cI cJ cZ o a T11 (1 : Int32) r18 h18) gCut_all ⟨by decide, by decide⟩ ⟨rfl, rfl⟩ ⟨Nat.zero_le _, Nat.zero_le _⟩ rfl rfl (Nat.le_of_ble_eq_true rfl) 5 0 rfl rfl rfl ?_
  refine g_aload_n C dX6_gameOne_21 rfl 2 rfl ?_
  refine g_iconst (v := (2 : Int32)) C dX6_gameOne_22 (by decide) ?_
  obtain ⟨r23, h23, h⟩ := obd h
  refine g_callVi (st := [.int r18]) (ws2 := wMod cI cJ o a T11) C yv_X6_marked ml_X6_204 dX6_gameOne_23 (kX6_marked l D cC cI cJ cZ o a T11 (2 : Int32) r23 h23) gCut_all ⟨by decide, by decide⟩ ⟨rfl, rfl⟩ ⟨Nat.zero_le _, Nat.zero_le _⟩ rfl rfl (Nat.le_of_ble_eq_true rfl) 5 0 rfl rfl rfl ?_
  refine g_ior C dX6_gameOne_26 ?_
  refine g_istore_n (lv' := [(3, .int (r18 ||| r23)), (2, .int ((T11.2.1 31) r11.toNatClampNeg)), (1, .int r1), (0, .ref o)]) C dX6_gameOne_27 rfl (by decide) rfl ?_
  refine g_iconst (v := (0 : Int32)) C dX6_gameOne_28 (by decide) ?_
  refine g_istore (lv' := [(4, .int (0 : Int32)), (3, .int (r18 ||| r23)), (2, .int ((T11.2.1 31) r11.toNatClampNeg)), (1, .int r1), (0, .ref o)]) C dX6_gameOne_29 (by decide) rfl ?_
  obtain ⟨X31, hW31, hK31⟩ := obd h
  have l31 : ∀ (fu31 : Nat) (x1_L31 : Int32) (x3_L31 : Int32) (x4_L31 : Int32) (M_L31 : OM), wh (σ := Int32 × Int32 × Int32 × OM) (ρ := Int32 × OM) (fun t => fX6_gameOne_L31 ((T11.2.1 31) r11.toNatClampNeg) t.1 t.2.1 t.2.2.1 t.2.2.2) fu31 (x1_L31, x3_L31, x4_L31, M_L31) = some X31 → gG p l e (gR 4) s m args below meth c 8 D A 0 0 Q 31 [(0, .ref o), (1, .int x1_L31), (2, .int ((T11.2.1 31) r11.toNatClampNeg)), (3, .int x3_L31), (4, .int x4_L31)] [] (wMod cI cJ o a M_L31) := by
    intro fu31
    induction fu31 with
    | zero => intro x1_L31 x3_L31 x4_L31 M_L31 hW; exact (wh_0 hW).elim
    | succ fu31 ih31 =>
      intro x1_L31 x3_L31 x4_L31 M_L31 hW
      obtain ⟨z31, h, hw31⟩ := wh_s hW
      have j171 : ∀ (x3_J171 : Int32) (x4_J171 : Int32) (x6_J171 : Int32) (M_J171 : OM) (z31 : (Int32 × Int32 × Int32 × OM) ⊕ (Int32 × OM)), fX6_gameOne_J171 ((T11.2.1 31) r11.toNatClampNeg) x3_J171 x4_J171 x6_J171 M_J171 = some z31 → wk (fun t => fX6_gameOne_L31 ((T11.2.1 31) r11.toNatClampNeg) t.1 t.2.1 t.2.2.1 t.2.2.2) fu31 z31 = some X31 → gG p l e (gR 4) s m args below meth c 8 D A 0 0 Q 171 [(0, .ref o), (2, .int ((T11.2.1 31) r11.toNatClampNeg)), (3, .int x3_J171), (4, .int x4_J171), (6, .int x6_J171)] [] (wMod cI cJ o a M_J171) := by
        intro x3_J171 x4_J171 x6_J171 M_J171 z31 h hw31
        unfold fX6_gameOne_J171 at h
        refine g_iload C dX6_gameOne_171 4 rfl ?_
        refine g_istore_n (lv' := [(1, .int x6_J171), (0, .ref o), (2, .int ((T11.2.1 31) r11.toNatClampNeg)), (3, .int x3_J171), (4, .int x4_J171), (6, .int x6_J171)]) C dX6_gameOne_173 rfl (by decide) rfl ?_
        refine g_goto (tgt := 31) C dX6_gameOne_174 (by decide) ?_
        obtain rfl := sinj h
        refine g_lv [1, 0, 2, 3, 4] rfl ?_
        exact ih31 x6_J171 x3_J171 x4_J171 M_J171 hw31
      have j97 : ∀ (x1_J97 : Int32) (x3_J97 : Int32) (x4_J97 : Int32) (M_J97 : OM) (z31 : (Int32 × Int32 × Int32 × OM) ⊕ (Int32 × OM)), fX6_gameOne_J97 ((T11.2.1 31) r11.toNatClampNeg) x1_J97 x3_J97 x4_J97 M_J97 = some z31 → wk (fun t => fX6_gameOne_L31 ((T11.2.1 31) r11.toNatClampNeg) t.1 t.2.1 t.2.2.1 t.2.2.2) fu31 z31 = some X31 → gG p l e (gR 4) s m args below meth c 8 D A 0 0 Q 97 [(0, .ref o), (1, .int x1_J97), (2, .int ((T11.2.1 31) r11.toNatClampNeg)), (3, .int x3_J97), (4, .int x4_J97)] [] (wMod cI cJ o a M_J97) := by
        intro x1_J97 x3_J97 x4_J97 M_J97 z31 h hw31
        unfold fX6_gameOne_J97 at h
        refine g_aload_n C dX6_gameOne_97 rfl 0 rfl ?_
        refine g_aload_n C dX6_gameOne_98 rfl 0 rfl ?_
        refine g_get (v := .ref (a 32)) C fl_X6_50 dX6_gameOne_99 0 rfl rfl ?_
        refine g_iload_n C dX6_gameOne_102 rfl 1 rfl ?_
        refine g_iload_n C dX6_gameOne_103 rfl 3 rfl ?_
        obtain ⟨r104, h104, h⟩ := obd h
        refine g_callVi (st := []) (ws2 := wMod cI cJ o a M_J97) C yv_X6_bestCell ml_X6_268 dX6_gameOne_104 (kX6_bestCell_32 l D cC cI cJ cZ o a M_J97 x1_J97 x3_J97 r104 h104) gCut_all ⟨by decide, by decide⟩ ⟨rfl, rfl⟩ ⟨Nat.zero_le _, Nat.zero_le _⟩ rfl rfl (Nat.le_of_ble_eq_true rfl) 5 0 rfl rfl rfl ?_
        refine g_istore (lv' := [(5, .int r104), (0, .ref o), (1, .int x1_J97), (2, .int ((T11.2.1 31) r11.toNatClampNeg)), (3, .int x3_J97), (4, .int x4_J97)]) C dX6_gameOne_107 (by decide) rfl ?_
        refine g_iload_n C dX6_gameOne_109 rfl 4 rfl ?_
        refine g_iconst (v := (1 : Int32)) C dX6_gameOne_110 (by decide) ?_
        refine g_iload C dX6_gameOne_111 0 rfl ?_
        refine g_ishl C dX6_gameOne_113 ?_
        refine g_ior C dX6_gameOne_114 ?_
        refine g_istore_n (lv' := [(3, .int (x3_J97 ||| ((1 : Int32) <<< (r104 &&& 31)))), (5, .int r104), (0, .ref o), (1, .int x1_J97), (2, .int ((T11.2.1 31) r11.toNatClampNeg)), (4, .int x4_J97)]) C dX6_gameOne_115 rfl (by decide) rfl ?_
        refine g_iinc (j := 5) (v := (x4_J97 + (1 : Int32))) (lv' := [(4, .int (x4_J97 + (1 : Int32))), (3, .int (x3_J97 ||| ((1 : Int32) <<< (r104 &&& 31)))), (5, .int r104), (0, .ref o), (1, .int x1_J97), (2, .int ((T11.2.1 31) r11.toNatClampNeg))]) C dX6_gameOne_116 rfl rfl (by decide) rfl ?_
        refine g_iconst (v := (0 : Int32)) C dX6_gameOne_119 (by decide) ?_
        refine g_istore (lv' := [(6, .int (0 : Int32)), (4, .int (x4_J97 + (1 : Int32))), (3, .int (x3_J97 ||| ((1 : Int32) <<< (r104 &&& 31)))), (5, .int r104), (0, .ref o), (1, .int x1_J97), (2, .int ((T11.2.1 31) r11.toNatClampNeg))]) C dX6_gameOne_120 (by decide) rfl ?_
        refine g_iconst (v := (0 : Int32)) C dX6_gameOne_122 (by decide) ?_
        refine g_istore (lv' := [(7, .int (0 : Int32)), (6, .int (0 : Int32)), (4, .int (x4_J97 + (1 : Int32))), (3, .int (x3_J97 ||| ((1 : Int32) <<< (r104 &&& 31)))), (5, .int r104), (0, .ref o), (1, .int x1_J97), (2, .int ((T11.2.1 31) r11.toNatClampNeg))]) C dX6_gameOne_123 (by decide) rfl ?_
        obtain ⟨X125, hW125, hK125⟩ := obd h
        have l125 : ∀ (fu125 : Nat) (x6_L125 : Int32) (x7_L125 : Int32) (M_L125 : OM), wh (σ := Int32 × Int32 × OM) (ρ := Int32 × OM) (fun t => fX6_gameOne_L125 x1_J97 ((T11.2.1 31) r11.toNatClampNeg) (x3_J97 ||| ((1 : Int32) <<< (r104 &&& 31))) (x4_J97 + (1 : Int32)) r104 t.1 t.2.1 t.2.2) fu125 (x6_L125, x7_L125, M_L125) = some X125 → gG p l e (gR 4) s m args below meth c 8 D A 0 0 Q 125 [(0, .ref o), (1, .int x1_J97), (2, .int ((T11.2.1 31) r11.toNatClampNeg)), (3, .int (x3_J97 ||| ((1 : Int32) <<< (r104 &&& 31)))), (4, .int (x4_J97 + (1 : Int32))), (5, .int r104), (6, .int x6_L125), (7, .int x7_L125)] [] (wMod cI cJ o a M_L125) := by
          intro fu125
          induction fu125 with
          | zero => intro x6_L125 x7_L125 M_L125 hW; exact (wh_0 hW).elim
          | succ fu125 ih125 =>
            intro x6_L125 x7_L125 M_L125 hW
            obtain ⟨z125, h, hw125⟩ := wh_s hW
            replace h : fX6_gameOne_L125 x1_J97 ((T11.2.1 31) r11.toNatClampNeg) (x3_J97 ||| ((1 : Int32) <<< (r104 &&& 31))) (x4_J97 + (1 : Int32)) r104 x6_L125 x7_L125 M_L125 = some z125 := h
            unfold fX6_gameOne_L125 at h
            refine g_iload C dX6_gameOne_125 7 rfl ?_
            refine g_iload_n C dX6_gameOne_127 rfl 1 rfl ?_
            refine g_icmp_ge (tgt := 171) C dX6_gameOne_128 (by decide) (fun c128 => ?_) (fun c128 => ?_)
            · have h := ifp h c128
              obtain rfl := sinj h
              obtain rfl := wk_r hw125
              have h := hK125
              refine g_lv [0, 2, 3, 4, 6] rfl ?_
              exact j171 (x3_J97 ||| ((1 : Int32) <<< (r104 &&& 31))) (x4_J97 + (1 : Int32)) x6_L125 M_L125 _ h hw31
            · have h := ifn h c128
              refine g_aload_n C dX6_gameOne_131 rfl 0 rfl ?_
              refine g_get (v := .ref (a 31)) C fl_X6_47 dX6_gameOne_132 0 rfl rfl ?_
              refine g_iload C dX6_gameOne_135 7 rfl ?_
              obtain ⟨hg137, h⟩ := ifg h
              refine g_iald (f := (M_L125.2.1 31)) C dX6_gameOne_137 13 0 rfl rfl hg137 ?_
              refine g_iload_n C dX6_gameOne_138 rfl 2 rfl ?_
              refine g_ixor C dX6_gameOne_139 ?_
              refine g_iload C dX6_gameOne_140 5 rfl ?_
              refine g_ishr C dX6_gameOne_142 ?_
              refine g_iconst (v := (1 : Int32)) C dX6_gameOne_143 (by decide) ?_
              refine g_iand C dX6_gameOne_144 ?_
              refine g_if_ne (tgt := 165) C dX6_gameOne_145 (by decide) (fun c145 => ?_) (fun c145 => ?_)
              · have h := ifn h c145
                refine g_iinc (j := 7) (v := (x7_L125 + (1 : Int32))) (lv' := [(7, .int (x7_L125 + (1 : Int32))), (0, .ref o), (1, .int x1_J97), (2, .int ((T11.2.1 31) r11.toNatClampNeg)), (3, .int (x3_J97 ||| ((1 : Int32) <<< (r104 &&& 31)))), (4, .int (x4_J97 + (1 : Int32))), (5, .int r104), (6, .int x6_L125)]) C dX6_gameOne_165 rfl rfl (by decide) rfl ?_
                refine g_goto (tgt := 125) C dX6_gameOne_168 (by decide) ?_
                obtain rfl := sinj h
                refine g_lv [1, 2, 3, 4, 5, 6, 7, 0] rfl ?_
                exact ih125 x6_L125 (x7_L125 + (1 : Int32)) M_L125 hw125
              · have h := ifp h c145
                refine g_aload_n C dX6_gameOne_148 rfl 0 rfl ?_
                refine g_get (v := .ref (a 31)) C fl_X6_47 dX6_gameOne_149 0 rfl rfl ?_
                refine g_iload C dX6_gameOne_152 6 rfl ?_
                refine g_aload_n C dX6_gameOne_154 rfl 0 rfl ?_
                refine g_get (v := .ref (a 31)) C fl_X6_47 dX6_gameOne_155 0 rfl rfl ?_
                refine g_iload C dX6_gameOne_158 7 rfl ?_
                obtain ⟨hg160, h⟩ := ifg h
                refine g_iald (f := (M_L125.2.1 31)) C dX6_gameOne_160 13 0 rfl rfl hg160 ?_
                obtain ⟨hg161, h⟩ := ifg h
                refine g_iast (f := (M_L125.2.1 31)) (ws2 := wMod cI cJ o a (M_L125.1, (va_up M_L125.2.1 31 (upd (M_L125.2.1 31) x6_L125.toNatClampNeg ((M_L125.2.1 31) x7_L125.toNatClampNeg))), M_L125.2.2.1, M_L125.2.2.2)) C dX6_gameOne_161 13 0 rfl rfl hg161 rfl ?_
                refine g_iinc (j := 6) (v := (x6_L125 + (1 : Int32))) (lv' := [(6, .int (x6_L125 + (1 : Int32))), (0, .ref o), (1, .int x1_J97), (2, .int ((T11.2.1 31) r11.toNatClampNeg)), (3, .int (x3_J97 ||| ((1 : Int32) <<< (r104 &&& 31)))), (4, .int (x4_J97 + (1 : Int32))), (5, .int r104), (7, .int x7_L125)]) C dX6_gameOne_162 rfl rfl (by decide) rfl ?_
                refine g_iinc (j := 7) (v := (x7_L125 + (1 : Int32))) (lv' := [(7, .int (x7_L125 + (1 : Int32))), (6, .int (x6_L125 + (1 : Int32))), (0, .ref o), (1, .int x1_J97), (2, .int ((T11.2.1 31) r11.toNatClampNeg)), (3, .int (x3_J97 ||| ((1 : Int32) <<< (r104 &&& 31)))), (4, .int (x4_J97 + (1 : Int32))), (5, .int r104)]) C dX6_gameOne_165 rfl rfl (by decide) rfl ?_
                refine g_goto (tgt := 125) C dX6_gameOne_168 (by decide) ?_
                obtain rfl := sinj h
                refine g_lv [2, 3, 4, 5, 6, 7, 1, 0] rfl ?_
                exact ih125 (x6_L125 + (1 : Int32)) (x7_L125 + (1 : Int32)) (M_L125.1, (va_up M_L125.2.1 31 (upd (M_L125.2.1 31) x6_L125.toNatClampNeg ((M_L125.2.1 31) x7_L125.toNatClampNeg))), M_L125.2.2.1, M_L125.2.2.2) hw125
        refine g_lv [5, 6, 7, 3, 2, 4, 1, 0] rfl ?_
        exact l125 100000 (0 : Int32) (0 : Int32) M_J97 hW125
      replace h : fX6_gameOne_L31 ((T11.2.1 31) r11.toNatClampNeg) x1_L31 x3_L31 x4_L31 M_L31 = some z31 := h
      unfold fX6_gameOne_L31 at h
      refine g_iload_n C dX6_gameOne_31 rfl 1 rfl ?_
      refine g_iconst (v := (1 : Int32)) C dX6_gameOne_32 (by decide) ?_
      refine g_icmp_le (tgt := 177) C dX6_gameOne_33 (by decide) (fun c33 => ?_) (fun c33 => ?_)
      · have h := ifp h c33
        obtain rfl := sinj h
        obtain rfl := wk_r hw31
        have h := hK31
        refine g_lv [4] rfl ?_
        exact j177 x4_L31 M_L31 h
      · have h := ifn h c33
        refine g_iconst (v := (0 : Int32)) C dX6_gameOne_36 (by decide) ?_
        refine g_istore (lv' := [(5, .int (0 : Int32)), (0, .ref o), (1, .int x1_L31), (2, .int ((T11.2.1 31) r11.toNatClampNeg)), (3, .int x3_L31), (4, .int x4_L31)]) C dX6_gameOne_37 (by decide) rfl ?_
        obtain ⟨X39, hW39, hK39⟩ := obd h
        have l39 : ∀ (fu39 : Nat) (x5_L39 : Int32) (M_L39 : OM), wh (σ := Int32 × OM) (ρ := OM) (fun t => fX6_gameOne_L39 x1_L31 ((T11.2.1 31) r11.toNatClampNeg) x3_L31 x4_L31 t.1 t.2) fu39 (x5_L39, M_L39) = some X39 → gG p l e (gR 4) s m args below meth c 8 D A 0 0 Q 39 [(0, .ref o), (1, .int x1_L31), (2, .int ((T11.2.1 31) r11.toNatClampNeg)), (3, .int x3_L31), (4, .int x4_L31), (5, .int x5_L39)] [] (wMod cI cJ o a M_L39) := by
          intro fu39
          induction fu39 with
          | zero => intro x5_L39 M_L39 hW; exact (wh_0 hW).elim
          | succ fu39 ih39 =>
            intro x5_L39 M_L39 hW
            obtain ⟨z39, h, hw39⟩ := wh_s hW
            have j91 : ∀ (x5_J91 : Int32) (M_J91 : OM) (z39 : (Int32 × OM) ⊕ (OM)), fX6_gameOne_J91 x1_L31 ((T11.2.1 31) r11.toNatClampNeg) x3_L31 x4_L31 x5_J91 M_J91 = some z39 → wk (fun t => fX6_gameOne_L39 x1_L31 ((T11.2.1 31) r11.toNatClampNeg) x3_L31 x4_L31 t.1 t.2) fu39 z39 = some X39 → gG p l e (gR 4) s m args below meth c 8 D A 0 0 Q 91 [(0, .ref o), (1, .int x1_L31), (2, .int ((T11.2.1 31) r11.toNatClampNeg)), (3, .int x3_L31), (4, .int x4_L31), (5, .int x5_J91)] [] (wMod cI cJ o a M_J91) := by
              intro x5_J91 M_J91 z39 h hw39
              unfold fX6_gameOne_J91 at h
              refine g_iinc (j := 5) (v := (x5_J91 + (1 : Int32))) (lv' := [(5, .int (x5_J91 + (1 : Int32))), (0, .ref o), (1, .int x1_L31), (2, .int ((T11.2.1 31) r11.toNatClampNeg)), (3, .int x3_L31), (4, .int x4_L31)]) C dX6_gameOne_91 rfl rfl (by decide) rfl ?_
              refine g_goto (tgt := 39) C dX6_gameOne_94 (by decide) ?_
              obtain rfl := sinj h
              refine g_lv [1, 2, 3, 4, 5, 0] rfl ?_
              exact ih39 (x5_J91 + (1 : Int32)) M_J91 hw39
            replace h : fX6_gameOne_L39 x1_L31 ((T11.2.1 31) r11.toNatClampNeg) x3_L31 x4_L31 x5_L39 M_L39 = some z39 := h
            unfold fX6_gameOne_L39 at h
            refine g_iload C dX6_gameOne_39 5 rfl ?_
            refine g_bipush (v := (16 : Int32)) C dX6_gameOne_41 (by decide) ?_
            refine g_icmp_ge (tgt := 97) C dX6_gameOne_43 (by decide) (fun c43 => ?_) (fun c43 => ?_)
            · have h := ifp h c43
              obtain rfl := sinj h
              obtain rfl := wk_r hw39
              have h := hK39
              refine g_lv [0, 1, 2, 3, 4] rfl ?_
              exact j97 x1_L31 x3_L31 x4_L31 M_L39 _ h hw31
            · have h := ifn h c43
              refine g_aload_n C dX6_gameOne_46 rfl 0 rfl ?_
              refine g_get (v := .ref (a 32)) C fl_X6_50 dX6_gameOne_47 0 rfl rfl ?_
              refine g_iload C dX6_gameOne_50 5 rfl ?_
              refine g_iconst (v := (0 : Int32)) C dX6_gameOne_52 (by decide) ?_
              obtain ⟨hg53, h⟩ := ifg h
              refine g_iast (f := (M_L39.2.1 32)) (ws2 := wMod cI cJ o a (M_L39.1, (va_up M_L39.2.1 32 (upd (M_L39.2.1 32) x5_L39.toNatClampNeg (0 : Int32))), M_L39.2.2.1, M_L39.2.2.2)) C dX6_gameOne_53 14 0 rfl rfl hg53 rfl ?_
              refine g_iconst (v := (0 : Int32)) C dX6_gameOne_54 (by decide) ?_
              refine g_istore (lv' := [(6, .int (0 : Int32)), (0, .ref o), (1, .int x1_L31), (2, .int ((T11.2.1 31) r11.toNatClampNeg)), (3, .int x3_L31), (4, .int x4_L31), (5, .int x5_L39)]) C dX6_gameOne_55 (by decide) rfl ?_
              obtain ⟨X57, hW57, hK57⟩ := obd h
              have l57 : ∀ (fu57 : Nat) (x6_L57 : Int32) (M_L57 : OM), wh (σ := Int32 × OM) (ρ := OM) (fun t => fX6_gameOne_L57 x1_L31 ((T11.2.1 31) r11.toNatClampNeg) x3_L31 x4_L31 x5_L39 t.1 t.2) fu57 (x6_L57, M_L57) = some X57 → gG p l e (gR 4) s m args below meth c 8 D A 0 0 Q 57 [(0, .ref o), (1, .int x1_L31), (2, .int ((T11.2.1 31) r11.toNatClampNeg)), (3, .int x3_L31), (4, .int x4_L31), (5, .int x5_L39), (6, .int x6_L57)] [] (wMod cI cJ o a M_L57) := by
                intro fu57
                induction fu57 with
                | zero => intro x6_L57 M_L57 hW; exact (wh_0 hW).elim
                | succ fu57 ih57 =>
                  intro x6_L57 M_L57 hW
                  obtain ⟨z57, h, hw57⟩ := wh_s hW
                  replace h : fX6_gameOne_L57 x1_L31 ((T11.2.1 31) r11.toNatClampNeg) x3_L31 x4_L31 x5_L39 x6_L57 M_L57 = some z57 := h
                  unfold fX6_gameOne_L57 at h
                  refine g_iload C dX6_gameOne_57 6 rfl ?_
                  refine g_iload_n C dX6_gameOne_59 rfl 1 rfl ?_
                  refine g_icmp_ge (tgt := 91) C dX6_gameOne_60 (by decide) (fun c60 => ?_) (fun c60 => ?_)
                  · have h := ifp h c60
                    obtain rfl := sinj h
                    obtain rfl := wk_r hw57
                    have h := hK57
                    refine g_lv [0, 1, 2, 3, 4, 5] rfl ?_
                    exact j91 x5_L39 M_L57 _ h hw39
                  · have h := ifn h c60
                    refine g_aload_n C dX6_gameOne_63 rfl 0 rfl ?_
                    refine g_get (v := .ref (a 32)) C fl_X6_50 dX6_gameOne_64 0 rfl rfl ?_
                    refine g_iload C dX6_gameOne_67 5 rfl ?_
                    refine g_dup2 C dX6_gameOne_69 rfl rfl ?_
                    obtain ⟨hg70, h⟩ := ifg h
                    refine g_iald (f := (M_L57.2.1 32)) C dX6_gameOne_70 14 0 rfl rfl hg70 ?_
                    refine g_aload_n C dX6_gameOne_71 rfl 0 rfl ?_
                    refine g_get (v := .ref (a 31)) C fl_X6_47 dX6_gameOne_72 0 rfl rfl ?_
                    refine g_iload C dX6_gameOne_75 6 rfl ?_
                    obtain ⟨hg77, h⟩ := ifg h
                    refine g_iald (f := (M_L57.2.1 31)) C dX6_gameOne_77 13 0 rfl rfl hg77 ?_
                    refine g_iload C dX6_gameOne_78 5 rfl ?_
                    refine g_ishr C dX6_gameOne_80 ?_
                    refine g_iconst (v := (1 : Int32)) C dX6_gameOne_81 (by decide) ?_
                    refine g_iand C dX6_gameOne_82 ?_
                    refine g_iadd C dX6_gameOne_83 ?_
                    obtain ⟨hg84, h⟩ := ifg h
                    refine g_iast (f := (M_L57.2.1 32)) (ws2 := wMod cI cJ o a (M_L57.1, (va_up M_L57.2.1 32 (upd (M_L57.2.1 32) x5_L39.toNatClampNeg (((M_L57.2.1 32) x5_L39.toNatClampNeg) + ((((M_L57.2.1 31) x6_L57.toNatClampNeg) >>> (x5_L39 &&& 31)) &&& (1 : Int32))))), M_L57.2.2.1, M_L57.2.2.2)) C dX6_gameOne_84 14 0 rfl rfl hg84 rfl ?_
                    refine g_iinc (j := 6) (v := (x6_L57 + (1 : Int32))) (lv' := [(6, .int (x6_L57 + (1 : Int32))), (0, .ref o), (1, .int x1_L31), (2, .int ((T11.2.1 31) r11.toNatClampNeg)), (3, .int x3_L31), (4, .int x4_L31), (5, .int x5_L39)]) C dX6_gameOne_85 rfl rfl (by decide) rfl ?_
                    refine g_goto (tgt := 57) C dX6_gameOne_88 (by decide) ?_
                    obtain rfl := sinj h
                    refine g_lv [1, 2, 3, 4, 5, 6, 0] rfl ?_
                    exact ih57 (x6_L57 + (1 : Int32)) (M_L57.1, (va_up M_L57.2.1 32 (upd (M_L57.2.1 32) x5_L39.toNatClampNeg (((M_L57.2.1 32) x5_L39.toNatClampNeg) + ((((M_L57.2.1 31) x6_L57.toNatClampNeg) >>> (x5_L39 &&& 31)) &&& (1 : Int32))))), M_L57.2.2.1, M_L57.2.2.2) hw57
              refine g_lv [1, 2, 3, 4, 5, 6, 0] rfl ?_
              exact l57 100000 (0 : Int32) (M_L39.1, (va_up M_L39.2.1 32 (upd (M_L39.2.1 32) x5_L39.toNatClampNeg (0 : Int32))), M_L39.2.2.1, M_L39.2.2.2) hW57
        refine g_lv [1, 2, 3, 4, 5, 0] rfl ?_
        exact l39 100000 (0 : Int32) M_L31 hW39
  refine g_lv [4, 3, 2, 1, 0] rfl ?_
  exact l31 100000 r1 (r18 ||| r23) (0 : Int32) T11 hW31
def fX6_games_L70 (x1_L70 : Int32) (x3_L70 : Int32) (x4_L70 : Int32) (x5_L70 : Int32) (x6_L70 : Int32) (M_L70 : OM) : Option ((Int32 × Int32 × Int32 × OM) ⊕ (Int32 × Int32 × OM)) :=
  (if x1_L70 ≤ x6_L70 then some (.inr (x4_L70, x5_L70, M_L70))
 else ((fX6_gameOne M_L70).bind (fun r => (fun r77 T77 => (if (3 : Int32) ≤ r77 then some (.inl ((x4_L70 + r77), (x5_L70 + (0 : Int32)), (x6_L70 + (1 : Int32)), T77))
 else some (.inl ((x4_L70 + r77), (x5_L70 + (1 : Int32)), (x6_L70 + (1 : Int32)), T77)))) r.1 r.2)))
def fX6_games_J111 (x3_J111 : Int32) (x4_J111 : Int32) (x5_J111 : Int32) (M_J111 : OM) : Option (Int32 × OM) :=
  (if x3_J111 = 0 then some (x4_J111, M_J111)
 else (if x3_J111 = (1 : Int32) then some (x5_J111, M_J111)
 else some ((M_J111.1 30), M_J111)))
def fX6_games (M : OM) (x1 : Int32) (x2 : Int32) (x3 : Int32) : Option (Int32 × OM) :=
  ((fX6_in x1.toInt64 (1 : Int64) (10 : Int64)).bind (fun r6 => (if r6 = 0 then some ((-102 : Int32), M)
 else (if x2 < 0 then some ((-102 : Int32), M)
 else ((fX6_in x3.toInt64 (0 : Int64) (2 : Int64)).bind (fun r22 => (if r22 = 0 then some ((-102 : Int32), M)
 else ((fX6_lacks M).bind (fun r32 => (if r32 = 0 then ((fX6_leftOf M).bind (fun r => (fun r39 T39 => ((fX6_in r39.toInt64 (1 : Int64) (200 : Int64)).bind (fun r47 => (if r47 = 0 then some ((-103 : Int32), T39)
 else ((wh (σ := Int32 × Int32 × Int32 × OM) (ρ := Int32 × Int32 × OM) (fun t => fX6_games_L70 x1 x3 t.1 t.2.1 t.2.2.1 t.2.2.2) 100000 ((0 : Int32), (0 : Int32), (0 : Int32), ((va_up T39.1 30 x2), T39.2.1, T39.2.2.1, T39.2.2.2))).bind (fun X => (fun e4_L70 e5_L70 M_E70 => fX6_games_J111 x3 e4_L70 e5_L70 M_E70) X.1 X.2.1 X.2.2)))))) r.1 r.2))
 else some ((-103 : Int32), M)))))))))))
set_option maxHeartbeats 4000000 in
set_option maxRecDepth 100000 in
theorem kX6_games (l : Launch) (D : va_G) (cC cI cJ cZ : ClassId) (o : Nat) (a : Nat → Nat) (M : OM) (x1 : Int32) (x2 : Int32) (x3 : Int32) (r : Int32) (M' : OM) (h : fX6_games M x1 x2 x3 = some (r, M')) : gMi l yX6_games cX6_games 8 (some .int) (gR 8) D (tysG cC cI cJ cZ) [.ref o, .int x1, .int x2, .int x3] (wMod cI cJ o a M) r (wMod cI cJ o a M') := by
  refine gMi_of (by decide) (Nat.le_of_ble_eq_true rfl) rfl ?_
  intro p e s m args below meth c A Q C hQ
  have j111 : ∀ (x3_J111 : Int32) (x4_J111 : Int32) (x5_J111 : Int32) (M_J111 : OM), fX6_games_J111 x3_J111 x4_J111 x5_J111 M_J111 = some (r, M') → gG p l e (gR 8) s m args below meth c 8 D A 0 0 Q 111 [(0, .ref o), (3, .int x3_J111), (4, .int x4_J111), (5, .int x5_J111)] [] (wMod cI cJ o a M_J111) := by
    intro x3_J111 x4_J111 x5_J111 M_J111 h
    unfold fX6_games_J111 at h
    refine g_iload_n C dX6_games_111 rfl 1 rfl ?_
    refine g_if_ne (tgt := 120) C dX6_games_112 (by decide) (fun c112 => ?_) (fun c112 => ?_)
    · have h := ifn h c112
      refine g_iload_n C dX6_games_120 rfl 1 rfl ?_
      refine g_iconst (v := (1 : Int32)) C dX6_games_121 (by decide) ?_
      refine g_icmp_ne (tgt := 130) C dX6_games_122 (by decide) (fun c122 => ?_) (fun c122 => ?_)
      · have h := ifn h c122
        refine g_aload_n C dX6_games_130 rfl 0 rfl ?_
        refine g_get (v := .int (M_J111.1 30)) C fl_X6_311 dX6_games_131 0 rfl rfl ?_
        cases sinj h
        exact g_iret C dX6_games_134 rfl rfl hQ
      · have h := ifp h c122
        refine g_iload C dX6_games_125 3 rfl ?_
        refine g_goto (tgt := 134) C dX6_games_127 (by decide) ?_
        cases sinj h
        exact g_iret C dX6_games_134 rfl rfl hQ
    · have h := ifp h c112
      refine g_iload C dX6_games_115 2 rfl ?_
      refine g_goto (tgt := 134) C dX6_games_117 (by decide) ?_
      cases sinj h
      exact g_iret C dX6_games_134 rfl rfl hQ
  unfold fX6_games at h
  refine g_iload_n C dX6_games_0 rfl 1 rfl ?_
  refine g_i2l C dX6_games_1 ?_
  refine g_lconst (v := (1 : Int64)) C dX6_games_2 (by decide) ?_
  refine g_ldc2 C dX6_games_3 ck_X6_325 ?_
  obtain ⟨r6, h6, h⟩ := obd h
  refine g_callSi (st := []) (ws2 := wMod cI cJ o a M) C ys_X6_in ml_X6_78 dX6_games_6 (kX6_in l D cC cI cJ cZ x1.toInt64 (1 : Int64) (10 : Int64) r6 h6) gCut_nil ⟨by decide, by decide⟩ ⟨rfl, rfl⟩ ⟨Nat.zero_le _, Nat.zero_le _⟩ rfl rfl (Nat.le_of_ble_eq_true rfl) ?_
  refine g_if_eq (tgt := 28) C dX6_games_9 (by decide) (fun c9 => ?_) (fun c9 => ?_)
  · have h := ifp h c9
    refine g_bipush (v := (-102 : Int32)) C dX6_games_28 (by decide) ?_
    cases sinj h
    exact g_iret C dX6_games_30 rfl rfl hQ
  · have h := ifn h c9
    refine g_iload_n C dX6_games_12 rfl 2 rfl ?_
    refine g_if_lt (tgt := 28) C dX6_games_13 (by decide) (fun c13 => ?_) (fun c13 => ?_)
    · have h := ifp h c13
      refine g_bipush (v := (-102 : Int32)) C dX6_games_28 (by decide) ?_
      cases sinj h
      exact g_iret C dX6_games_30 rfl rfl hQ
    · have h := ifn h c13
      refine g_iload_n C dX6_games_16 rfl 3 rfl ?_
      refine g_i2l C dX6_games_17 ?_
      refine g_lconst (v := (0 : Int64)) C dX6_games_18 (by decide) ?_
      refine g_ldc2 C dX6_games_19 ck_X6_262 ?_
      obtain ⟨r22, h22, h⟩ := obd h
      refine g_callSi (st := []) (ws2 := wMod cI cJ o a M) C ys_X6_in ml_X6_78 dX6_games_22 (kX6_in l D cC cI cJ cZ x3.toInt64 (0 : Int64) (2 : Int64) r22 h22) gCut_nil ⟨by decide, by decide⟩ ⟨rfl, rfl⟩ ⟨Nat.zero_le _, Nat.zero_le _⟩ rfl rfl (Nat.le_of_ble_eq_true rfl) ?_
      refine g_if_ne (tgt := 31) C dX6_games_25 (by decide) (fun c25 => ?_) (fun c25 => ?_)
      · have h := ifn h c25
        refine g_aload_n C dX6_games_31 rfl 0 rfl ?_
        obtain ⟨r32, h32, h⟩ := obd h
        refine g_callVi (st := []) (ws2 := wMod cI cJ o a M) C yv_X6_lacks ml_X6_223 dX6_games_32 (kX6_lacks l D cC cI cJ cZ o a M r32 h32) gCut_all ⟨by decide, by decide⟩ ⟨rfl, rfl⟩ ⟨Nat.zero_le _, Nat.zero_le _⟩ rfl rfl (Nat.le_of_ble_eq_true rfl) 5 0 rfl rfl rfl ?_
        refine g_if_ne (tgt := 53) C dX6_games_35 (by decide) (fun c35 => ?_) (fun c35 => ?_)
        · have h := ifn h c35
          refine g_bipush (v := (-103 : Int32)) C dX6_games_53 (by decide) ?_
          cases sinj h
          exact g_iret C dX6_games_55 rfl rfl hQ
        · have h := ifp h c35
          refine g_aload_n C dX6_games_38 rfl 0 rfl ?_
          obtain ⟨⟨r39, T39⟩, h39, h⟩ := obd h
          refine g_callVi (st := []) (ws2 := wMod cI cJ o a T39) C yv_X6_leftOf ml_X6_227 dX6_games_39 (kX6_leftOf l D cC cI cJ cZ o a M r39 T39 h39) gCut_all ⟨by decide, by decide⟩ ⟨rfl, rfl⟩ ⟨Nat.zero_le _, Nat.zero_le _⟩ rfl rfl (Nat.le_of_ble_eq_true rfl) 5 0 rfl rfl rfl ?_
          refine g_i2l C dX6_games_42 ?_
          refine g_lconst (v := (1 : Int64)) C dX6_games_43 (by decide) ?_
          refine g_ldc2 C dX6_games_44 ck_X6_327 ?_
          obtain ⟨r47, h47, h⟩ := obd h
          refine g_callSi (st := []) (ws2 := wMod cI cJ o a T39) C ys_X6_in ml_X6_78 dX6_games_47 (kX6_in l D cC cI cJ cZ r39.toInt64 (1 : Int64) (200 : Int64) r47 h47) gCut_nil ⟨by decide, by decide⟩ ⟨rfl, rfl⟩ ⟨Nat.zero_le _, Nat.zero_le _⟩ rfl rfl (Nat.le_of_ble_eq_true rfl) ?_
          refine g_if_ne (tgt := 56) C dX6_games_50 (by decide) (fun c50 => ?_) (fun c50 => ?_)
          · have h := ifn h c50
            refine g_aload_n C dX6_games_56 rfl 0 rfl ?_
            refine g_iload_n C dX6_games_57 rfl 2 rfl ?_
            refine g_put (ws2 := wMod cI cJ o a ((va_up T39.1 30 x2), T39.2.1, T39.2.2.1, T39.2.2.2)) C fp_X6_311 dX6_games_58 0 rfl rfl rfl (Nat.le_of_ble_eq_true rfl) rfl ?_
            refine g_iconst (v := (0 : Int32)) C dX6_games_61 (by decide) ?_
            refine g_istore (lv' := [(4, .int (0 : Int32)), (0, .ref o), (1, .int x1), (2, .int x2), (3, .int x3)]) C dX6_games_62 (by decide) rfl ?_
            refine g_iconst (v := (0 : Int32)) C dX6_games_64 (by decide) ?_
            refine g_istore (lv' := [(5, .int (0 : Int32)), (4, .int (0 : Int32)), (0, .ref o), (1, .int x1), (2, .int x2), (3, .int x3)]) C dX6_games_65 (by decide) rfl ?_
            refine g_iconst (v := (0 : Int32)) C dX6_games_67 (by decide) ?_
            refine g_istore (lv' := [(6, .int (0 : Int32)), (5, .int (0 : Int32)), (4, .int (0 : Int32)), (0, .ref o), (1, .int x1), (2, .int x2), (3, .int x3)]) C dX6_games_68 (by decide) rfl ?_
            obtain ⟨X70, hW70, hK70⟩ := obd h
            have l70 : ∀ (fu70 : Nat) (x4_L70 : Int32) (x5_L70 : Int32) (x6_L70 : Int32) (M_L70 : OM), wh (σ := Int32 × Int32 × Int32 × OM) (ρ := Int32 × Int32 × OM) (fun t => fX6_games_L70 x1 x3 t.1 t.2.1 t.2.2.1 t.2.2.2) fu70 (x4_L70, x5_L70, x6_L70, M_L70) = some X70 → gG p l e (gR 8) s m args below meth c 8 D A 0 0 Q 70 [(0, .ref o), (1, .int x1), (3, .int x3), (4, .int x4_L70), (5, .int x5_L70), (6, .int x6_L70)] [] (wMod cI cJ o a M_L70) := by
              intro fu70
              induction fu70 with
              | zero => intro x4_L70 x5_L70 x6_L70 M_L70 hW; exact (wh_0 hW).elim
              | succ fu70 ih70 =>
                intro x4_L70 x5_L70 x6_L70 M_L70 hW
                obtain ⟨z70, h, hw70⟩ := wh_s hW
                replace h : fX6_games_L70 x1 x3 x4_L70 x5_L70 x6_L70 M_L70 = some z70 := h
                unfold fX6_games_L70 at h
                refine g_iload C dX6_games_70 5 rfl ?_
                refine g_iload_n C dX6_games_72 rfl 1 rfl ?_
                refine g_icmp_ge (tgt := 111) C dX6_games_73 (by decide) (fun c73 => ?_) (fun c73 => ?_)
                · have h := ifp h c73
                  obtain rfl := sinj h
                  obtain rfl := wk_r hw70
                  have h := hK70
                  refine g_lv [0, 2, 3, 4] rfl ?_
                  exact j111 x3 x4_L70 x5_L70 M_L70 h
                · have h := ifn h c73
                  refine g_aload_n C dX6_games_76 rfl 0 rfl ?_
                  obtain ⟨⟨r77, T77⟩, h77, h⟩ := obd h
                  refine g_callVi (st := []) (ws2 := wMod cI cJ o a T77) C yv_X6_gameOne ml_X6_329 dX6_games_77 (kX6_gameOne l D cC cI cJ cZ o a M_L70 r77 T77 h77) gCut_all ⟨by decide, by decide⟩ ⟨rfl, rfl⟩ ⟨Nat.zero_le _, Nat.zero_le _⟩ rfl rfl (Nat.le_of_ble_eq_true rfl) 5 0 rfl rfl rfl ?_
                  refine g_istore (lv' := [(7, .int r77), (0, .ref o), (1, .int x1), (3, .int x3), (4, .int x4_L70), (5, .int x5_L70), (6, .int x6_L70)]) C dX6_games_80 (by decide) rfl ?_
                  refine g_iload C dX6_games_82 4 rfl ?_
                  refine g_iload C dX6_games_84 0 rfl ?_
                  refine g_iadd C dX6_games_86 ?_
                  refine g_istore (lv' := [(4, .int (x4_L70 + r77)), (7, .int r77), (0, .ref o), (1, .int x1), (3, .int x3), (5, .int x5_L70), (6, .int x6_L70)]) C dX6_games_87 (by decide) rfl ?_
                  refine g_iload C dX6_games_89 5 rfl ?_
                  refine g_iload C dX6_games_91 1 rfl ?_
                  refine g_iconst (v := (3 : Int32)) C dX6_games_93 (by decide) ?_
                  refine g_icmp_ge (tgt := 101) C dX6_games_94 (by decide) (fun c94 => ?_) (fun c94 => ?_)
                  · have h := ifp h c94
                    refine g_iconst (v := (0 : Int32)) C dX6_games_101 (by decide) ?_
                    refine g_iadd C dX6_games_102 ?_
                    refine g_istore (lv' := [(5, .int (x5_L70 + (0 : Int32))), (4, .int (x4_L70 + r77)), (7, .int r77), (0, .ref o), (1, .int x1), (3, .int x3), (6, .int x6_L70)]) C dX6_games_103 (by decide) rfl ?_
                    refine g_iinc (j := 6) (v := (x6_L70 + (1 : Int32))) (lv' := [(6, .int (x6_L70 + (1 : Int32))), (5, .int (x5_L70 + (0 : Int32))), (4, .int (x4_L70 + r77)), (7, .int r77), (0, .ref o), (1, .int x1), (3, .int x3)]) C dX6_games_105 rfl rfl (by decide) rfl ?_
                    refine g_goto (tgt := 70) C dX6_games_108 (by decide) ?_
                    obtain rfl := sinj h
                    refine g_lv [4, 5, 6, 2, 1, 0] rfl ?_
                    exact ih70 (x4_L70 + r77) (x5_L70 + (0 : Int32)) (x6_L70 + (1 : Int32)) T77 hw70
                  · have h := ifn h c94
                    refine g_iconst (v := (1 : Int32)) C dX6_games_97 (by decide) ?_
                    refine g_goto (tgt := 102) C dX6_games_98 (by decide) ?_
                    refine g_iadd C dX6_games_102 ?_
                    refine g_istore (lv' := [(5, .int (x5_L70 + (1 : Int32))), (4, .int (x4_L70 + r77)), (7, .int r77), (0, .ref o), (1, .int x1), (3, .int x3), (6, .int x6_L70)]) C dX6_games_103 (by decide) rfl ?_
                    refine g_iinc (j := 6) (v := (x6_L70 + (1 : Int32))) (lv' := [(6, .int (x6_L70 + (1 : Int32))), (5, .int (x5_L70 + (1 : Int32))), (4, .int (x4_L70 + r77)), (7, .int r77), (0, .ref o), (1, .int x1), (3, .int x3)]) C dX6_games_105 rfl rfl (by decide) rfl ?_
                    refine g_goto (tgt := 70) C dX6_games_108 (by decide) ?_
                    obtain rfl := sinj h
                    refine g_lv [4, 5, 6, 2, 1, 0] rfl ?_
                    exact ih70 (x4_L70 + r77) (x5_L70 + (1 : Int32)) (x6_L70 + (1 : Int32)) T77 hw70
            refine g_lv [3, 4, 6, 2, 1, 0] rfl ?_
            exact l70 100000 (0 : Int32) (0 : Int32) (0 : Int32) ((va_up T39.1 30 x2), T39.2.1, T39.2.2.1, T39.2.2.2) hW70
          · have h := ifp h c50
            refine g_bipush (v := (-103 : Int32)) C dX6_games_53 (by decide) ?_
            cases sinj h
            exact g_iret C dX6_games_55 rfl rfl hQ
      · have h := ifp h c25
        refine g_bipush (v := (-102 : Int32)) C dX6_games_28 (by decide) ?_
        cases sinj h
        exact g_iret C dX6_games_30 rfl rfl hQ
def fX6_image (M : OM)  : Option (Int32 × OM) :=
  ((fX6_lacks M).bind (fun r1 => (if r1 = 0 then ((fX6_copy 8 8 (M.2.1 12) (M.2.1 35)).bind (fun T18 => ((fX6_copy 8 8 (M.2.1 13) (M.2.1 36)).bind (fun T29 => ((fX6_copy 8 8 (M.2.1 14) (M.2.1 37)).bind (fun T40 => ((fX6_copy 16 16 (M.2.1 15) (M.2.1 38)).bind (fun T51 => ((fX6_copy 18 18 (M.2.1 29) (M.2.1 39)).bind (fun T62 => ((fX6_markedMany ((va_up (va_up M.1 33 (M.1 11)) 34 (M.1 28)), (va_up (va_up (va_up (va_up (va_up M.2.1 35 T18) 36 T29) 37 T40) 38 T51) 39 T62), M.2.2.1, M.2.2.2)).bind (fun r82 => some (r82, ((va_up (va_up M.1 33 (M.1 11)) 34 (M.1 28)), (va_up (va_up (va_up (va_up (va_up M.2.1 35 T18) 36 T29) 37 T40) 38 T51) 39 T62), M.2.2.1, M.2.2.2))))))))))))))
 else some ((-103 : Int32), M))))
set_option maxHeartbeats 4000000 in
set_option maxRecDepth 100000 in
theorem kX6_image (l : Launch) (D : va_G) (cC cI cJ cZ : ClassId) (o : Nat) (a : Nat → Nat) (M : OM)  (r : Int32) (M' : OM) (h : fX6_image M = some (r, M')) : gMi l yX6_image cX6_image 1 (some .int) (gR 3) D (tysG cC cI cJ cZ) [.ref o] (wMod cI cJ o a M) r (wMod cI cJ o a M') := by
  refine gMi_of (by decide) (Nat.le_of_ble_eq_true rfl) rfl ?_
  intro p e s m args below meth c A Q C hQ
  unfold fX6_image at h
  refine g_aload_n C dX6_image_0 rfl 0 rfl ?_
  obtain ⟨r1, h1, h⟩ := obd h
  refine g_callVi (st := []) (ws2 := wMod cI cJ o a M) C yv_X6_lacks ml_X6_223 dX6_image_1 (kX6_lacks l D cC cI cJ cZ o a M r1 h1) gCut_all ⟨by decide, by decide⟩ ⟨rfl, rfl⟩ ⟨Nat.zero_le _, Nat.zero_le _⟩ rfl rfl (Nat.le_of_ble_eq_true rfl) 5 0 rfl rfl rfl ?_
  refine g_if_eq (tgt := 10) C dX6_image_4 (by decide) (fun c4 => ?_) (fun c4 => ?_)
  · have h := ifp h c4
    refine g_aload_n C dX6_image_10 rfl 0 rfl ?_
    refine g_get (v := .ref (a 12)) C fl_X6_22 dX6_image_11 0 rfl rfl ?_
    refine g_aload_n C dX6_image_14 rfl 0 rfl ?_
    refine g_get (v := .ref (a 35)) C fl_X6_53 dX6_image_15 0 rfl rfl ?_
    obtain ⟨T18, h18, h⟩ := obd h
    refine g_callSv (st := []) (ws2 := wMod cI cJ o a (M.1, (va_up M.2.1 35 T18), M.2.2.1, M.2.2.2)) C ys_X6_copy ml_X6_147 dX6_image_18 (kX6_copy l D cC cI cJ cZ (a 12) (a 35) 8 8 (M.2.1 12) (M.2.1 35) T18 h18) (gCut_at [5, 15] [0, 1, 2, 3, 4, 6, 7, 8, 9, 10, 11, 12, 13, 14, 16, 17, 18, 19] [0, 1, 2, 3, 4, 18, 5, 6, 7, 8, 9, 10, 11, 12, 13, 19, 14, 15, 16, 17] rfl rfl rfl rfl (by decide) rfl rfl) ⟨by decide, by decide⟩ ⟨rfl, rfl⟩ ⟨Nat.zero_le _, Nat.zero_le _⟩ rfl rfl (Nat.le_of_ble_eq_true rfl) ?_
    refine g_aload_n C dX6_image_21 rfl 0 rfl ?_
    refine g_get (v := .ref (a 13)) C fl_X6_25 dX6_image_22 0 rfl rfl ?_
    refine g_aload_n C dX6_image_25 rfl 0 rfl ?_
    refine g_get (v := .ref (a 36)) C fl_X6_56 dX6_image_26 0 rfl rfl ?_
    obtain ⟨T29, h29, h⟩ := obd h
    refine g_callSv (st := []) (ws2 := wMod cI cJ o a (M.1, (va_up (va_up M.2.1 35 T18) 36 T29), M.2.2.1, M.2.2.2)) C ys_X6_copy ml_X6_147 dX6_image_29 (kX6_copy l D cC cI cJ cZ (a 13) (a 36) 8 8 (M.2.1 13) (M.2.1 36) T29 h29) (gCut_at [6, 16] [0, 1, 2, 3, 4, 5, 7, 8, 9, 10, 11, 12, 13, 14, 15, 17, 18, 19] [0, 1, 2, 3, 4, 5, 18, 6, 7, 8, 9, 10, 11, 12, 13, 14, 19, 15, 16, 17] rfl rfl rfl rfl (by decide) rfl rfl) ⟨by decide, by decide⟩ ⟨rfl, rfl⟩ ⟨Nat.zero_le _, Nat.zero_le _⟩ rfl rfl (Nat.le_of_ble_eq_true rfl) ?_
    refine g_aload_n C dX6_image_32 rfl 0 rfl ?_
    refine g_get (v := .ref (a 14)) C fl_X6_28 dX6_image_33 0 rfl rfl ?_
    refine g_aload_n C dX6_image_36 rfl 0 rfl ?_
    refine g_get (v := .ref (a 37)) C fl_X6_59 dX6_image_37 0 rfl rfl ?_
    obtain ⟨T40, h40, h⟩ := obd h
    refine g_callSv (st := []) (ws2 := wMod cI cJ o a (M.1, (va_up (va_up (va_up M.2.1 35 T18) 36 T29) 37 T40), M.2.2.1, M.2.2.2)) C ys_X6_copy ml_X6_147 dX6_image_40 (kX6_copy l D cC cI cJ cZ (a 14) (a 37) 8 8 (M.2.1 14) (M.2.1 37) T40 h40) (gCut_at [7, 17] [0, 1, 2, 3, 4, 5, 6, 8, 9, 10, 11, 12, 13, 14, 15, 16, 18, 19] [0, 1, 2, 3, 4, 5, 6, 18, 7, 8, 9, 10, 11, 12, 13, 14, 15, 19, 16, 17] rfl rfl rfl rfl (by decide) rfl rfl) ⟨by decide, by decide⟩ ⟨rfl, rfl⟩ ⟨Nat.zero_le _, Nat.zero_le _⟩ rfl rfl (Nat.le_of_ble_eq_true rfl) ?_
    refine g_aload_n C dX6_image_43 rfl 0 rfl ?_
    refine g_get (v := .ref (a 15)) C fl_X6_31 dX6_image_44 0 rfl rfl ?_
    refine g_aload_n C dX6_image_47 rfl 0 rfl ?_
    refine g_get (v := .ref (a 38)) C fl_X6_62 dX6_image_48 0 rfl rfl ?_
    obtain ⟨T51, h51, h⟩ := obd h
    refine g_callSv (st := []) (ws2 := wMod cI cJ o a (M.1, (va_up (va_up (va_up (va_up M.2.1 35 T18) 36 T29) 37 T40) 38 T51), M.2.2.1, M.2.2.2)) C ys_X6_copy ml_X6_147 dX6_image_51 (kX6_copy l D cC cI cJ cZ (a 15) (a 38) 16 16 (M.2.1 15) (M.2.1 38) T51 h51) (gCut_at [8, 18] [0, 1, 2, 3, 4, 5, 6, 7, 9, 10, 11, 12, 13, 14, 15, 16, 17, 19] [0, 1, 2, 3, 4, 5, 6, 7, 18, 8, 9, 10, 11, 12, 13, 14, 15, 16, 19, 17] rfl rfl rfl rfl (by decide) rfl rfl) ⟨by decide, by decide⟩ ⟨rfl, rfl⟩ ⟨Nat.zero_le _, Nat.zero_le _⟩ rfl rfl (Nat.le_of_ble_eq_true rfl) ?_
    refine g_aload_n C dX6_image_54 rfl 0 rfl ?_
    refine g_get (v := .ref (a 29)) C fl_X6_44 dX6_image_55 0 rfl rfl ?_
    refine g_aload_n C dX6_image_58 rfl 0 rfl ?_
    refine g_get (v := .ref (a 39)) C fl_X6_65 dX6_image_59 0 rfl rfl ?_
    obtain ⟨T62, h62, h⟩ := obd h
    refine g_callSv (st := []) (ws2 := wMod cI cJ o a (M.1, (va_up (va_up (va_up (va_up (va_up M.2.1 35 T18) 36 T29) 37 T40) 38 T51) 39 T62), M.2.2.1, M.2.2.2)) C ys_X6_copy ml_X6_147 dX6_image_62 (kX6_copy l D cC cI cJ cZ (a 29) (a 39) 18 18 (M.2.1 29) (M.2.1 39) T62 h62) (gCut_at [12, 19] [0, 1, 2, 3, 4, 5, 6, 7, 8, 9, 10, 11, 13, 14, 15, 16, 17, 18] [0, 1, 2, 3, 4, 5, 6, 7, 8, 9, 10, 11, 18, 12, 13, 14, 15, 16, 17, 19] rfl rfl rfl rfl (by decide) rfl rfl) ⟨by decide, by decide⟩ ⟨rfl, rfl⟩ ⟨Nat.zero_le _, Nat.zero_le _⟩ rfl rfl (Nat.le_of_ble_eq_true rfl) ?_
    refine g_aload_n C dX6_image_65 rfl 0 rfl ?_
    refine g_aload_n C dX6_image_66 rfl 0 rfl ?_
    refine g_get (v := .int (M.1 28)) C fl_X6_151 dX6_image_67 0 rfl rfl ?_
    refine g_put (ws2 := wMod cI cJ o a ((va_up M.1 34 (M.1 28)), (va_up (va_up (va_up (va_up (va_up M.2.1 35 T18) 36 T29) 37 T40) 38 T51) 39 T62), M.2.2.1, M.2.2.2)) C fp_X6_332 dX6_image_70 0 rfl rfl rfl (Nat.le_of_ble_eq_true rfl) rfl ?_
    refine g_aload_n C dX6_image_73 rfl 0 rfl ?_
    refine g_aload_n C dX6_image_74 rfl 0 rfl ?_
    refine g_get (v := .int (M.1 11)) C fl_X6_154 dX6_image_75 0 rfl rfl ?_
    refine g_put (ws2 := wMod cI cJ o a ((va_up (va_up M.1 33 (M.1 11)) 34 (M.1 28)), (va_up (va_up (va_up (va_up (va_up M.2.1 35 T18) 36 T29) 37 T40) 38 T51) 39 T62), M.2.2.1, M.2.2.2)) C fp_X6_68 dX6_image_78 0 rfl rfl rfl (Nat.le_of_ble_eq_true rfl) rfl ?_
    refine g_aload_n C dX6_image_81 rfl 0 rfl ?_
    obtain ⟨r82, h82, h⟩ := obd h
    refine g_callVi (st := []) (ws2 := wMod cI cJ o a ((va_up (va_up M.1 33 (M.1 11)) 34 (M.1 28)), (va_up (va_up (va_up (va_up (va_up M.2.1 35 T18) 36 T29) 37 T40) 38 T51) 39 T62), M.2.2.1, M.2.2.2)) C yv_X6_markedMany ml_X6_264 dX6_image_82 (kX6_markedMany l D cC cI cJ cZ o a ((va_up (va_up M.1 33 (M.1 11)) 34 (M.1 28)), (va_up (va_up (va_up (va_up (va_up M.2.1 35 T18) 36 T29) 37 T40) 38 T51) 39 T62), M.2.2.1, M.2.2.2) r82 h82) gCut_all ⟨by decide, by decide⟩ ⟨rfl, rfl⟩ ⟨Nat.zero_le _, Nat.zero_le _⟩ rfl rfl (Nat.le_of_ble_eq_true rfl) 5 0 rfl rfl rfl ?_
    cases sinj h
    exact g_iret C dX6_image_85 rfl rfl hQ
  · have h := ifn h c4
    refine g_bipush (v := (-103 : Int32)) C dX6_image_7 (by decide) ?_
    cases sinj h
    exact g_iret C dX6_image_9 rfl rfl hQ
def fX6_restore (M : OM)  : Option (Int32 × OM) :=
  (if (M.1 33) = (M.1 11) then ((fX6_copy 8 8 (M.2.1 35) (M.2.1 12)).bind (fun T22 => ((fX6_copy 8 8 (M.2.1 36) (M.2.1 13)).bind (fun T33 => ((fX6_copy 8 8 (M.2.1 37) (M.2.1 14)).bind (fun T44 => ((fX6_copy 16 16 (M.2.1 38) (M.2.1 15)).bind (fun T55 => ((fX6_copy 18 18 (M.2.1 39) (M.2.1 29)).bind (fun T66 => ((fX6_markedMany ((va_up (va_up M.1 20 (1 : Int32)) 28 (M.1 34)), (va_up (va_up (va_up (va_up (va_up M.2.1 12 T22) 13 T33) 14 T44) 15 T55) 29 T66), M.2.2.1, M.2.2.2)).bind (fun r83 => some (r83, ((va_up (va_up M.1 20 (1 : Int32)) 28 (M.1 34)), (va_up (va_up (va_up (va_up (va_up M.2.1 12 T22) 13 T33) 14 T44) 15 T55) 29 T66), M.2.2.1, M.2.2.2))))))))))))))
 else some ((-103 : Int32), M))
set_option maxHeartbeats 4000000 in
set_option maxRecDepth 100000 in
theorem kX6_restore (l : Launch) (D : va_G) (cC cI cJ cZ : ClassId) (o : Nat) (a : Nat → Nat) (M : OM)  (r : Int32) (M' : OM) (h : fX6_restore M = some (r, M')) : gMi l yX6_restore cX6_restore 1 (some .int) (gR 3) D (tysG cC cI cJ cZ) [.ref o] (wMod cI cJ o a M) r (wMod cI cJ o a M') := by
  refine gMi_of (by decide) (Nat.le_of_ble_eq_true rfl) rfl ?_
  intro p e s m args below meth c A Q C hQ
  unfold fX6_restore at h
  refine g_aload_n C dX6_restore_0 rfl 0 rfl ?_
  refine g_get (v := .int (M.1 33)) C fl_X6_68 dX6_restore_1 0 rfl rfl ?_
  refine g_aload_n C dX6_restore_4 rfl 0 rfl ?_
  refine g_get (v := .int (M.1 11)) C fl_X6_154 dX6_restore_5 0 rfl rfl ?_
  refine g_icmp_eq (tgt := 14) C dX6_restore_8 (by decide) (fun c8 => ?_) (fun c8 => ?_)
  · have h := ifp h c8
    refine g_aload_n C dX6_restore_14 rfl 0 rfl ?_
    refine g_get (v := .ref (a 35)) C fl_X6_53 dX6_restore_15 0 rfl rfl ?_
    refine g_aload_n C dX6_restore_18 rfl 0 rfl ?_
    refine g_get (v := .ref (a 12)) C fl_X6_22 dX6_restore_19 0 rfl rfl ?_
    obtain ⟨T22, h22, h⟩ := obd h
    refine g_callSv (st := []) (ws2 := wMod cI cJ o a (M.1, (va_up M.2.1 12 T22), M.2.2.1, M.2.2.2)) C ys_X6_copy ml_X6_147 dX6_restore_22 (kX6_copy l D cC cI cJ cZ (a 35) (a 12) 8 8 (M.2.1 35) (M.2.1 12) T22 h22) (gCut_at [15, 5] [0, 1, 2, 3, 4, 6, 7, 8, 9, 10, 11, 12, 13, 14, 16, 17, 18, 19] [0, 1, 2, 3, 4, 19, 5, 6, 7, 8, 9, 10, 11, 12, 13, 18, 14, 15, 16, 17] rfl rfl rfl rfl (by decide) rfl rfl) ⟨by decide, by decide⟩ ⟨rfl, rfl⟩ ⟨Nat.zero_le _, Nat.zero_le _⟩ rfl rfl (Nat.le_of_ble_eq_true rfl) ?_
    refine g_aload_n C dX6_restore_25 rfl 0 rfl ?_
    refine g_get (v := .ref (a 36)) C fl_X6_56 dX6_restore_26 0 rfl rfl ?_
    refine g_aload_n C dX6_restore_29 rfl 0 rfl ?_
    refine g_get (v := .ref (a 13)) C fl_X6_25 dX6_restore_30 0 rfl rfl ?_
    obtain ⟨T33, h33, h⟩ := obd h
    refine g_callSv (st := []) (ws2 := wMod cI cJ o a (M.1, (va_up (va_up M.2.1 12 T22) 13 T33), M.2.2.1, M.2.2.2)) C ys_X6_copy ml_X6_147 dX6_restore_33 (kX6_copy l D cC cI cJ cZ (a 36) (a 13) 8 8 (M.2.1 36) (M.2.1 13) T33 h33) (gCut_at [16, 6] [0, 1, 2, 3, 4, 5, 7, 8, 9, 10, 11, 12, 13, 14, 15, 17, 18, 19] [0, 1, 2, 3, 4, 5, 19, 6, 7, 8, 9, 10, 11, 12, 13, 14, 18, 15, 16, 17] rfl rfl rfl rfl (by decide) rfl rfl) ⟨by decide, by decide⟩ ⟨rfl, rfl⟩ ⟨Nat.zero_le _, Nat.zero_le _⟩ rfl rfl (Nat.le_of_ble_eq_true rfl) ?_
    refine g_aload_n C dX6_restore_36 rfl 0 rfl ?_
    refine g_get (v := .ref (a 37)) C fl_X6_59 dX6_restore_37 0 rfl rfl ?_
    refine g_aload_n C dX6_restore_40 rfl 0 rfl ?_
    refine g_get (v := .ref (a 14)) C fl_X6_28 dX6_restore_41 0 rfl rfl ?_
    obtain ⟨T44, h44, h⟩ := obd h
    refine g_callSv (st := []) (ws2 := wMod cI cJ o a (M.1, (va_up (va_up (va_up M.2.1 12 T22) 13 T33) 14 T44), M.2.2.1, M.2.2.2)) C ys_X6_copy ml_X6_147 dX6_restore_44 (kX6_copy l D cC cI cJ cZ (a 37) (a 14) 8 8 (M.2.1 37) (M.2.1 14) T44 h44) (gCut_at [17, 7] [0, 1, 2, 3, 4, 5, 6, 8, 9, 10, 11, 12, 13, 14, 15, 16, 18, 19] [0, 1, 2, 3, 4, 5, 6, 19, 7, 8, 9, 10, 11, 12, 13, 14, 15, 18, 16, 17] rfl rfl rfl rfl (by decide) rfl rfl) ⟨by decide, by decide⟩ ⟨rfl, rfl⟩ ⟨Nat.zero_le _, Nat.zero_le _⟩ rfl rfl (Nat.le_of_ble_eq_true rfl) ?_
    refine g_aload_n C dX6_restore_47 rfl 0 rfl ?_
    refine g_get (v := .ref (a 38)) C fl_X6_62 dX6_restore_48 0 rfl rfl ?_
    refine g_aload_n C dX6_restore_51 rfl 0 rfl ?_
    refine g_get (v := .ref (a 15)) C fl_X6_31 dX6_restore_52 0 rfl rfl ?_
    obtain ⟨T55, h55, h⟩ := obd h
    refine g_callSv (st := []) (ws2 := wMod cI cJ o a (M.1, (va_up (va_up (va_up (va_up M.2.1 12 T22) 13 T33) 14 T44) 15 T55), M.2.2.1, M.2.2.2)) C ys_X6_copy ml_X6_147 dX6_restore_55 (kX6_copy l D cC cI cJ cZ (a 38) (a 15) 16 16 (M.2.1 38) (M.2.1 15) T55 h55) (gCut_at [18, 8] [0, 1, 2, 3, 4, 5, 6, 7, 9, 10, 11, 12, 13, 14, 15, 16, 17, 19] [0, 1, 2, 3, 4, 5, 6, 7, 19, 8, 9, 10, 11, 12, 13, 14, 15, 16, 18, 17] rfl rfl rfl rfl (by decide) rfl rfl) ⟨by decide, by decide⟩ ⟨rfl, rfl⟩ ⟨Nat.zero_le _, Nat.zero_le _⟩ rfl rfl (Nat.le_of_ble_eq_true rfl) ?_
    refine g_aload_n C dX6_restore_58 rfl 0 rfl ?_
    refine g_get (v := .ref (a 39)) C fl_X6_65 dX6_restore_59 0 rfl rfl ?_
    refine g_aload_n C dX6_restore_62 rfl 0 rfl ?_
    refine g_get (v := .ref (a 29)) C fl_X6_44 dX6_restore_63 0 rfl rfl ?_
    obtain ⟨T66, h66, h⟩ := obd h
    refine g_callSv (st := []) (ws2 := wMod cI cJ o a (M.1, (va_up (va_up (va_up (va_up (va_up M.2.1 12 T22) 13 T33) 14 T44) 15 T55) 29 T66), M.2.2.1, M.2.2.2)) C ys_X6_copy ml_X6_147 dX6_restore_66 (kX6_copy l D cC cI cJ cZ (a 39) (a 29) 18 18 (M.2.1 39) (M.2.1 29) T66 h66) (gCut_at [19, 12] [0, 1, 2, 3, 4, 5, 6, 7, 8, 9, 10, 11, 13, 14, 15, 16, 17, 18] [0, 1, 2, 3, 4, 5, 6, 7, 8, 9, 10, 11, 19, 12, 13, 14, 15, 16, 17, 18] rfl rfl rfl rfl (by decide) rfl rfl) ⟨by decide, by decide⟩ ⟨rfl, rfl⟩ ⟨Nat.zero_le _, Nat.zero_le _⟩ rfl rfl (Nat.le_of_ble_eq_true rfl) ?_
    refine g_aload_n C dX6_restore_69 rfl 0 rfl ?_
    refine g_aload_n C dX6_restore_70 rfl 0 rfl ?_
    refine g_get (v := .int (M.1 34)) C fl_X6_332 dX6_restore_71 0 rfl rfl ?_
    refine g_put (ws2 := wMod cI cJ o a ((va_up M.1 28 (M.1 34)), (va_up (va_up (va_up (va_up (va_up M.2.1 12 T22) 13 T33) 14 T44) 15 T55) 29 T66), M.2.2.1, M.2.2.2)) C fp_X6_151 dX6_restore_74 0 rfl rfl rfl (Nat.le_of_ble_eq_true rfl) rfl ?_
    refine g_aload_n C dX6_restore_77 rfl 0 rfl ?_
    refine g_iconst (v := (1 : Int32)) C dX6_restore_78 (by decide) ?_
    refine g_put (ws2 := wMod cI cJ o a ((va_up (va_up M.1 20 (1 : Int32)) 28 (M.1 34)), (va_up (va_up (va_up (va_up (va_up M.2.1 12 T22) 13 T33) 14 T44) 15 T55) 29 T66), M.2.2.1, M.2.2.2)) C fp_X6_72 dX6_restore_79 0 rfl rfl rfl (Nat.le_of_ble_eq_true rfl) rfl ?_
    refine g_aload_n C dX6_restore_82 rfl 0 rfl ?_
    obtain ⟨r83, h83, h⟩ := obd h
    refine g_callVi (st := []) (ws2 := wMod cI cJ o a ((va_up (va_up M.1 20 (1 : Int32)) 28 (M.1 34)), (va_up (va_up (va_up (va_up (va_up M.2.1 12 T22) 13 T33) 14 T44) 15 T55) 29 T66), M.2.2.1, M.2.2.2)) C yv_X6_markedMany ml_X6_264 dX6_restore_83 (kX6_markedMany l D cC cI cJ cZ o a ((va_up (va_up M.1 20 (1 : Int32)) 28 (M.1 34)), (va_up (va_up (va_up (va_up (va_up M.2.1 12 T22) 13 T33) 14 T44) 15 T55) 29 T66), M.2.2.1, M.2.2.2) r83 h83) gCut_all ⟨by decide, by decide⟩ ⟨rfl, rfl⟩ ⟨Nat.zero_le _, Nat.zero_le _⟩ rfl rfl (Nat.le_of_ble_eq_true rfl) 5 0 rfl rfl rfl ?_
    cases sinj h
    exact g_iret C dX6_restore_86 rfl rfl hQ
  · have h := ifn h c8
    refine g_bipush (v := (-103 : Int32)) C dX6_restore_11 (by decide) ?_
    cases sinj h
    exact g_iret C dX6_restore_13 rfl rfl hQ
def fX6_sureMany_L4 (x1_L4 : Int32) (x2_L4 : Int32) (M_L4 : OM) : Option ((Int32 × Int32 × OM) ⊕ (Int32 × OM)) :=
  (if ((M_L4.1 9) * (M_L4.1 10)) ≤ x2_L4 then some (.inr (x1_L4, M_L4))
 else ((fX6_sureOf M_L4 x2_L4).bind (fun r => (fun r20 T20 => (if r20 = (-1 : Int32) then some (.inl ((x1_L4 + (0 : Int32)), (x2_L4 + (1 : Int32)), T20))
 else some (.inl ((x1_L4 + (1 : Int32)), (x2_L4 + (1 : Int32)), T20)))) r.1 r.2)))
def fX6_sureMany_J40 (x1_J40 : Int32) (M_J40 : OM) : Option (Int32 × OM) :=
  some (x1_J40, M_J40)
def fX6_sureMany (M : OM)  : Option (Int32 × OM) :=
  ((wh (σ := Int32 × Int32 × OM) (ρ := Int32 × OM) (fun t => fX6_sureMany_L4 t.1 t.2.1 t.2.2) 100000 ((0 : Int32), (0 : Int32), M)).bind (fun X => (fun e1_L4 M_E4 => fX6_sureMany_J40 e1_L4 M_E4) X.1 X.2))
set_option maxHeartbeats 4000000 in
set_option maxRecDepth 100000 in
theorem kX6_sureMany (l : Launch) (D : va_G) (cC cI cJ cZ : ClassId) (o : Nat) (a : Nat → Nat) (M : OM)  (r : Int32) (M' : OM) (h : fX6_sureMany M = some (r, M')) : gMi l yX6_sureMany cX6_sureMany 3 (some .int) (gR 8) D (tysG cC cI cJ cZ) [.ref o] (wMod cI cJ o a M) r (wMod cI cJ o a M') := by
  refine gMi_of (by decide) (Nat.le_of_ble_eq_true rfl) rfl ?_
  intro p e s m args below meth c A Q C hQ
  have j40 : ∀ (x1_J40 : Int32) (M_J40 : OM), fX6_sureMany_J40 x1_J40 M_J40 = some (r, M') → gG p l e (gR 8) s m args below meth c 3 D A 0 0 Q 40 [(1, .int x1_J40)] [] (wMod cI cJ o a M_J40) := by
    intro x1_J40 M_J40 h
    unfold fX6_sureMany_J40 at h
    refine g_iload_n C dX6_sureMany_40 rfl 0 rfl ?_
    cases sinj h
    exact g_iret C dX6_sureMany_41 rfl rfl hQ
  unfold fX6_sureMany at h
  refine g_iconst (v := (0 : Int32)) C dX6_sureMany_0 (by decide) ?_
  refine g_istore_n (lv' := [(1, .int (0 : Int32)), (0, .ref o)]) C dX6_sureMany_1 rfl (by decide) rfl ?_
  refine g_iconst (v := (0 : Int32)) C dX6_sureMany_2 (by decide) ?_
  refine g_istore_n (lv' := [(2, .int (0 : Int32)), (1, .int (0 : Int32)), (0, .ref o)]) C dX6_sureMany_3 rfl (by decide) rfl ?_
  obtain ⟨X4, hW4, hK4⟩ := obd h
  have l4 : ∀ (fu4 : Nat) (x1_L4 : Int32) (x2_L4 : Int32) (M_L4 : OM), wh (σ := Int32 × Int32 × OM) (ρ := Int32 × OM) (fun t => fX6_sureMany_L4 t.1 t.2.1 t.2.2) fu4 (x1_L4, x2_L4, M_L4) = some X4 → gG p l e (gR 8) s m args below meth c 3 D A 0 0 Q 4 [(0, .ref o), (1, .int x1_L4), (2, .int x2_L4)] [] (wMod cI cJ o a M_L4) := by
    intro fu4
    induction fu4 with
    | zero => intro x1_L4 x2_L4 M_L4 hW; exact (wh_0 hW).elim
    | succ fu4 ih4 =>
      intro x1_L4 x2_L4 M_L4 hW
      obtain ⟨z4, h, hw4⟩ := wh_s hW
      replace h : fX6_sureMany_L4 x1_L4 x2_L4 M_L4 = some z4 := h
      unfold fX6_sureMany_L4 at h
      refine g_iload_n C dX6_sureMany_4 rfl 2 rfl ?_
      refine g_aload_n C dX6_sureMany_5 rfl 0 rfl ?_
      refine g_get (v := .int (M_L4.1 9)) C fl_X6_141 dX6_sureMany_6 0 rfl rfl ?_
      refine g_aload_n C dX6_sureMany_9 rfl 0 rfl ?_
      refine g_get (v := .int (M_L4.1 10)) C fl_X6_144 dX6_sureMany_10 0 rfl rfl ?_
      refine g_imul C dX6_sureMany_13 ?_
      refine g_icmp_ge (tgt := 40) C dX6_sureMany_14 (by decide) (fun c14 => ?_) (fun c14 => ?_)
      · have h := ifp h c14
        obtain rfl := sinj h
        obtain rfl := wk_r hw4
        have h := hK4
        refine g_lv [1] rfl ?_
        exact j40 x1_L4 M_L4 h
      · have h := ifn h c14
        refine g_iload_n C dX6_sureMany_17 rfl 1 rfl ?_
        refine g_aload_n C dX6_sureMany_18 rfl 0 rfl ?_
        refine g_iload_n C dX6_sureMany_19 rfl 2 rfl ?_
        obtain ⟨⟨r20, T20⟩, h20, h⟩ := obd h
        refine g_callVi (st := [.int x1_L4]) (ws2 := wMod cI cJ o a T20) C yv_X6_sureOf ml_X6_239 dX6_sureMany_20 (kX6_sureOf l D cC cI cJ cZ o a M_L4 x2_L4 r20 T20 h20) gCut_all ⟨by decide, by decide⟩ ⟨rfl, rfl⟩ ⟨Nat.zero_le _, Nat.zero_le _⟩ rfl rfl (Nat.le_of_ble_eq_true rfl) 5 0 rfl rfl rfl ?_
        refine g_iconst (v := (-1 : Int32)) C dX6_sureMany_23 (by decide) ?_
        refine g_icmp_ne (tgt := 31) C dX6_sureMany_24 (by decide) (fun c24 => ?_) (fun c24 => ?_)
        · have h := ifn h c24
          refine g_iconst (v := (1 : Int32)) C dX6_sureMany_31 (by decide) ?_
          refine g_iadd C dX6_sureMany_32 ?_
          refine g_istore_n (lv' := [(1, .int (x1_L4 + (1 : Int32))), (0, .ref o), (2, .int x2_L4)]) C dX6_sureMany_33 rfl (by decide) rfl ?_
          refine g_iinc (j := 2) (v := (x2_L4 + (1 : Int32))) (lv' := [(2, .int (x2_L4 + (1 : Int32))), (1, .int (x1_L4 + (1 : Int32))), (0, .ref o)]) C dX6_sureMany_34 rfl rfl (by decide) rfl ?_
          refine g_goto (tgt := 4) C dX6_sureMany_37 (by decide) ?_
          obtain rfl := sinj h
          refine g_lv [2, 1, 0] rfl ?_
          exact ih4 (x1_L4 + (1 : Int32)) (x2_L4 + (1 : Int32)) T20 hw4
        · have h := ifp h c24
          refine g_iconst (v := (0 : Int32)) C dX6_sureMany_27 (by decide) ?_
          refine g_goto (tgt := 32) C dX6_sureMany_28 (by decide) ?_
          refine g_iadd C dX6_sureMany_32 ?_
          refine g_istore_n (lv' := [(1, .int (x1_L4 + (0 : Int32))), (0, .ref o), (2, .int x2_L4)]) C dX6_sureMany_33 rfl (by decide) rfl ?_
          refine g_iinc (j := 2) (v := (x2_L4 + (1 : Int32))) (lv' := [(2, .int (x2_L4 + (1 : Int32))), (1, .int (x1_L4 + (0 : Int32))), (0, .ref o)]) C dX6_sureMany_34 rfl rfl (by decide) rfl ?_
          refine g_goto (tgt := 4) C dX6_sureMany_37 (by decide) ?_
          obtain rfl := sinj h
          refine g_lv [2, 1, 0] rfl ?_
          exact ih4 (x1_L4 + (0 : Int32)) (x2_L4 + (1 : Int32)) T20 hw4
  refine g_lv [2, 1, 0] rfl ?_
  exact l4 100000 (0 : Int32) (0 : Int32) M hW4
def fX6_countOf_J80 (x1_J80 : Int32) (M_J80 : OM) : Option (Int32 × OM) :=
  ((fX6_marked M_J80 (x1_J80 - (2 : Int32))).bind (fun r84 => ((fX6_ones r84).bind (fun r87 => some (r87, M_J80)))))
def fX6_countOf (M : OM) (x1 : Int32) : Option (Int32 × OM) :=
  (if x1 = 0 then some ((M.1 9), M)
 else (if x1 = 1 then some ((M.1 10), M)
 else (if x1 = 2 then some (((M.1 9) + (M.1 10)), M)
 else (if x1 = 3 then fX6_countOf_J80 x1 M
 else (if x1 = 4 then fX6_countOf_J80 x1 M
 else (if x1 = 5 then ((fX6_sureMany M).bind (fun r => (fun r92 T92 => some (r92, T92)) r.1 r.2))
 else (if x1 = 6 then some ((M.1 28), M)
 else (if x1 = 7 then some ((M.1 1), M)
 else (if x1 = 8 then some ((M.1 11), M)
 else (if x1 = 9 then some ((M.1 26), M)
 else (if x1 = 10 then some ((M.1 27), M)
 else some ((-102 : Int32), M))))))))))))
set_option maxHeartbeats 4000000 in
set_option maxRecDepth 100000 in
theorem kX6_countOf (l : Launch) (D : va_G) (cC cI cJ cZ : ClassId) (o : Nat) (a : Nat → Nat) (M : OM) (x1 : Int32) (r : Int32) (M' : OM) (h : fX6_countOf M x1 = some (r, M')) : gMi l yX6_countOf cX6_countOf 2 (some .int) (gR 9) D (tysG cC cI cJ cZ) [.ref o, .int x1] (wMod cI cJ o a M) r (wMod cI cJ o a M') := by
  refine gMi_of (by decide) (Nat.le_of_ble_eq_true rfl) rfl ?_
  intro p e s m args below meth c A Q C hQ
  have j80 : ∀ (x1_J80 : Int32) (M_J80 : OM), fX6_countOf_J80 x1_J80 M_J80 = some (r, M') → gG p l e (gR 9) s m args below meth c 2 D A 0 0 Q 80 [(0, .ref o), (1, .int x1_J80)] [] (wMod cI cJ o a M_J80) := by
    intro x1_J80 M_J80 h
    unfold fX6_countOf_J80 at h
    refine g_aload_n C dX6_countOf_80 rfl 0 rfl ?_
    refine g_iload_n C dX6_countOf_81 rfl 1 rfl ?_
    refine g_iconst (v := (2 : Int32)) C dX6_countOf_82 (by decide) ?_
    refine g_isub C dX6_countOf_83 ?_
    obtain ⟨r84, h84, h⟩ := obd h
    refine g_callVi (st := []) (ws2 := wMod cI cJ o a M_J80) C yv_X6_marked ml_X6_204 dX6_countOf_84 (kX6_marked l D cC cI cJ cZ o a M_J80 (x1_J80 - (2 : Int32)) r84 h84) gCut_all ⟨by decide, by decide⟩ ⟨rfl, rfl⟩ ⟨Nat.zero_le _, Nat.zero_le _⟩ rfl rfl (Nat.le_of_ble_eq_true rfl) 5 0 rfl rfl rfl ?_
    obtain ⟨r87, h87, h⟩ := obd h
    refine g_callSi (st := []) (ws2 := wMod cI cJ o a M_J80) C ys_X6_ones ml_X6_173 dX6_countOf_87 (kX6_ones l D cC cI cJ cZ r84 r87 h87) gCut_nil ⟨by decide, by decide⟩ ⟨rfl, rfl⟩ ⟨Nat.zero_le _, Nat.zero_le _⟩ rfl rfl (Nat.le_of_ble_eq_true rfl) ?_
    cases sinj h
    exact g_iret C dX6_countOf_90 rfl rfl hQ
  unfold fX6_countOf at h
  refine g_iload_n C dX6_countOf_0 rfl 1 rfl ?_
  by_cases c1_0 : x1 = 0
  · have h := ifp h c1_0
    refine g_tableAt (v := 0) (off := 59) (tgt := 60) C dX6_countOf_1 c1_0 (by decide) (by decide) rfl (by decide) ?_
    refine g_aload_n C dX6_countOf_60 rfl 0 rfl ?_
    refine g_get (v := .int (M.1 9)) C fl_X6_141 dX6_countOf_61 0 rfl rfl ?_
    cases sinj h
    exact g_iret C dX6_countOf_64 rfl rfl hQ
  · have h := ifn h c1_0
    by_cases c1_1 : x1 = 1
    · have h := ifp h c1_1
      refine g_tableAt (v := 1) (off := 64) (tgt := 65) C dX6_countOf_1 c1_1 (by decide) (by decide) rfl (by decide) ?_
      refine g_aload_n C dX6_countOf_65 rfl 0 rfl ?_
      refine g_get (v := .int (M.1 10)) C fl_X6_144 dX6_countOf_66 0 rfl rfl ?_
      cases sinj h
      exact g_iret C dX6_countOf_69 rfl rfl hQ
    · have h := ifn h c1_1
      by_cases c1_2 : x1 = 2
      · have h := ifp h c1_2
        refine g_tableAt (v := 2) (off := 69) (tgt := 70) C dX6_countOf_1 c1_2 (by decide) (by decide) rfl (by decide) ?_
        refine g_aload_n C dX6_countOf_70 rfl 0 rfl ?_
        refine g_get (v := .int (M.1 9)) C fl_X6_141 dX6_countOf_71 0 rfl rfl ?_
        refine g_aload_n C dX6_countOf_74 rfl 0 rfl ?_
        refine g_get (v := .int (M.1 10)) C fl_X6_144 dX6_countOf_75 0 rfl rfl ?_
        refine g_iadd C dX6_countOf_78 ?_
        cases sinj h
        exact g_iret C dX6_countOf_79 rfl rfl hQ
      · have h := ifn h c1_2
        by_cases c1_3 : x1 = 3
        · have h := ifp h c1_3
          refine g_tableAt (v := 3) (off := 79) (tgt := 80) C dX6_countOf_1 c1_3 (by decide) (by decide) rfl (by decide) ?_
          refine g_lv [0, 1] rfl ?_
          exact j80 x1 M h
        · have h := ifn h c1_3
          by_cases c1_4 : x1 = 4
          · have h := ifp h c1_4
            refine g_tableAt (v := 4) (off := 79) (tgt := 80) C dX6_countOf_1 c1_4 (by decide) (by decide) rfl (by decide) ?_
            refine g_lv [0, 1] rfl ?_
            exact j80 x1 M h
          · have h := ifn h c1_4
            by_cases c1_5 : x1 = 5
            · have h := ifp h c1_5
              refine g_tableAt (v := 5) (off := 90) (tgt := 91) C dX6_countOf_1 c1_5 (by decide) (by decide) rfl (by decide) ?_
              refine g_aload_n C dX6_countOf_91 rfl 0 rfl ?_
              obtain ⟨⟨r92, T92⟩, h92, h⟩ := obd h
              refine g_callVi (st := []) (ws2 := wMod cI cJ o a T92) C yv_X6_sureMany ml_X6_335 dX6_countOf_92 (kX6_sureMany l D cC cI cJ cZ o a M r92 T92 h92) gCut_all ⟨by decide, by decide⟩ ⟨rfl, rfl⟩ ⟨Nat.zero_le _, Nat.zero_le _⟩ rfl rfl (Nat.le_of_ble_eq_true rfl) 5 0 rfl rfl rfl ?_
              cases sinj h
              exact g_iret C dX6_countOf_95 rfl rfl hQ
            · have h := ifn h c1_5
              by_cases c1_6 : x1 = 6
              · have h := ifp h c1_6
                refine g_tableAt (v := 6) (off := 95) (tgt := 96) C dX6_countOf_1 c1_6 (by decide) (by decide) rfl (by decide) ?_
                refine g_aload_n C dX6_countOf_96 rfl 0 rfl ?_
                refine g_get (v := .int (M.1 28)) C fl_X6_151 dX6_countOf_97 0 rfl rfl ?_
                cases sinj h
                exact g_iret C dX6_countOf_100 rfl rfl hQ
              · have h := ifn h c1_6
                by_cases c1_7 : x1 = 7
                · have h := ifp h c1_7
                  refine g_tableAt (v := 7) (off := 100) (tgt := 101) C dX6_countOf_1 c1_7 (by decide) (by decide) rfl (by decide) ?_
                  refine g_aload_n C dX6_countOf_101 rfl 0 rfl ?_
                  refine g_get (v := .int (M.1 1)) C fl_X6_82 dX6_countOf_102 0 rfl rfl ?_
                  cases sinj h
                  exact g_iret C dX6_countOf_105 rfl rfl hQ
                · have h := ifn h c1_7
                  by_cases c1_8 : x1 = 8
                  · have h := ifp h c1_8
                    refine g_tableAt (v := 8) (off := 105) (tgt := 106) C dX6_countOf_1 c1_8 (by decide) (by decide) rfl (by decide) ?_
                    refine g_aload_n C dX6_countOf_106 rfl 0 rfl ?_
                    refine g_get (v := .int (M.1 11)) C fl_X6_154 dX6_countOf_107 0 rfl rfl ?_
                    cases sinj h
                    exact g_iret C dX6_countOf_110 rfl rfl hQ
                  · have h := ifn h c1_8
                    by_cases c1_9 : x1 = 9
                    · have h := ifp h c1_9
                      refine g_tableAt (v := 9) (off := 110) (tgt := 111) C dX6_countOf_1 c1_9 (by decide) (by decide) rfl (by decide) ?_
                      refine g_aload_n C dX6_countOf_111 rfl 0 rfl ?_
                      refine g_get (v := .int (M.1 26)) C fl_X6_288 dX6_countOf_112 0 rfl rfl ?_
                      cases sinj h
                      exact g_iret C dX6_countOf_115 rfl rfl hQ
                    · have h := ifn h c1_9
                      by_cases c1_10 : x1 = 10
                      · have h := ifp h c1_10
                        refine g_tableAt (v := 10) (off := 115) (tgt := 116) C dX6_countOf_1 c1_10 (by decide) (by decide) rfl (by decide) ?_
                        refine g_aload_n C dX6_countOf_116 rfl 0 rfl ?_
                        refine g_get (v := .int (M.1 27)) C fl_X6_300 dX6_countOf_117 0 rfl rfl ?_
                        cases sinj h
                        exact g_iret C dX6_countOf_120 rfl rfl hQ
                      · have h := ifn h c1_10
                        refine g_tableOut (tgt := 121) C dX6_countOf_1 (by have q0 := lv_neT (a := 0) c1_0 (by decide); have q1 := lv_neT (a := 1) c1_1 (by decide); have q2 := lv_neT (a := 2) c1_2 (by decide); have q3 := lv_neT (a := 3) c1_3 (by decide); have q4 := lv_neT (a := 4) c1_4 (by decide); have q5 := lv_neT (a := 5) c1_5 (by decide); have q6 := lv_neT (a := 6) c1_6 (by decide); have q7 := lv_neT (a := 7) c1_7 (by decide); have q8 := lv_neT (a := 8) c1_8 (by decide); have q9 := lv_neT (a := 9) c1_9 (by decide); have q10 := lv_neT (a := 10) c1_10 (by decide); omega) (by decide) ?_
                        refine g_bipush (v := (-102 : Int32)) C dX6_countOf_121 (by decide) ?_
                        cases sinj h
                        exact g_iret C dX6_countOf_123 rfl rfl hQ
def fX6_count (M : OM) (x1 : Int32) : Option (Int32 × OM) :=
  ((fX6_countOf M x1).bind (fun r => (fun r2 T2 => some (r2, T2)) r.1 r.2))
set_option maxHeartbeats 4000000 in
set_option maxRecDepth 100000 in
theorem kX6_count (l : Launch) (D : va_G) (cC cI cJ cZ : ClassId) (o : Nat) (a : Nat → Nat) (M : OM) (x1 : Int32) (r : Int32) (M' : OM) (h : fX6_count M x1 = some (r, M')) : gMi l yX6_count cX6_count 2 (some .int) (gR 10) D (tysG cC cI cJ cZ) [.ref o, .int x1] (wMod cI cJ o a M) r (wMod cI cJ o a M') := by
  refine gMi_of (by decide) (Nat.le_of_ble_eq_true rfl) rfl ?_
  intro p e s m args below meth c A Q C hQ
  unfold fX6_count at h
  refine g_aload_n C dX6_count_0 rfl 0 rfl ?_
  refine g_iload_n C dX6_count_1 rfl 1 rfl ?_
  obtain ⟨⟨r2, T2⟩, h2, h⟩ := obd h
  refine g_callVi (st := []) (ws2 := wMod cI cJ o a T2) C yv_X6_countOf ml_X6_338 dX6_count_2 (kX6_countOf l D cC cI cJ cZ o a M x1 r2 T2 h2) gCut_all ⟨by decide, by decide⟩ ⟨rfl, rfl⟩ ⟨Nat.zero_le _, Nat.zero_le _⟩ rfl rfl (Nat.le_of_ble_eq_true rfl) 5 0 rfl rfl rfl ?_
  cases sinj h
  exact g_iret C dX6_count_5 rfl rfl hQ
def fX6_say (M : OM) (x1 : Int64) : Option (OM) :=
  some (M.1, M.2.1, (((31 : Int64) * M.2.2.1) + x1), M.2.2.2)
set_option maxHeartbeats 4000000 in
set_option maxRecDepth 100000 in
theorem kX6_say (l : Launch) (D : va_G) (cC cI cJ cZ : ClassId) (o : Nat) (a : Nat → Nat) (M : OM) (x1 : Int64) (M' : OM) (h : fX6_say M x1 = some M') : gMv l yX6_say cX6_say 3 none (gR 1) D (tysG cC cI cJ cZ) [.ref o, .long x1] (wMod cI cJ o a M) (wMod cI cJ o a M') := by
  refine gMv_of (by decide) (Nat.le_of_ble_eq_true rfl) rfl ?_
  intro p e s m args below meth c A Q C hQ
  unfold fX6_say at h
  refine g_aload_n C dX6_say_0 rfl 0 rfl ?_
  refine g_ldc2 C dX6_say_1 ck_X6_341 ?_
  refine g_aload_n C dX6_say_4 rfl 0 rfl ?_
  refine g_get (v := .long M.2.2.1) C fl_X6_343 dX6_say_5 0 rfl rfl ?_
  refine g_lmul C dX6_say_8 ?_
  refine g_lload_n C dX6_say_9 rfl 1 rfl ?_
  refine g_ladd C dX6_say_10 ?_
  refine g_put (ws2 := wMod cI cJ o a (M.1, M.2.1, (((31 : Int64) * M.2.2.1) + x1), M.2.2.2)) C fp_X6_343 dX6_say_11 0 rfl rfl rfl (Nat.le_of_ble_eq_true rfl) rfl ?_
  cases sinj h
  exact g_vret C dX6_say_14 rfl hQ
def fX6_sayLine_L2 (x1_L2 : Int32) (x2_L2 : Int32) (M_L2 : OM) : Option ((Int32 × OM) ⊕ (OM)) :=
  (if (7 : Int32) ≤ x2_L2 then some (.inr M_L2)
 else (if x2_L2 = (4 : Int32) then some (.inl ((x2_L2 + (1 : Int32)), M_L2))
 else ((fX6_tellLine M_L2 x1_L2 x2_L2).bind (fun r => (fun r17 T17 => ((fX6_say T17 r17.toInt64).bind (fun T21 => some (.inl ((x2_L2 + (1 : Int32)), T21))))) r.1 r.2))))
def fX6_sayLine_J30 (M_J30 : OM) : Option (OM) :=
  some M_J30
def fX6_sayLine (M : OM) (x1 : Int32) : Option (OM) :=
  ((wh (σ := Int32 × OM) (ρ := OM) (fun t => fX6_sayLine_L2 x1 t.1 t.2) 100000 ((0 : Int32), M)).bind (fun M_E2 => fX6_sayLine_J30 M_E2))
set_option maxHeartbeats 4000000 in
set_option maxRecDepth 100000 in
theorem kX6_sayLine (l : Launch) (D : va_G) (cC cI cJ cZ : ClassId) (o : Nat) (a : Nat → Nat) (M : OM) (x1 : Int32) (M' : OM) (h : fX6_sayLine M x1 = some M') : gMv l yX6_sayLine cX6_sayLine 3 none (gR 9) D (tysG cC cI cJ cZ) [.ref o, .int x1] (wMod cI cJ o a M) (wMod cI cJ o a M') := by
  refine gMv_of (by decide) (Nat.le_of_ble_eq_true rfl) rfl ?_
  intro p e s m args below meth c A Q C hQ
  have j30 : ∀ (M_J30 : OM), fX6_sayLine_J30 M_J30 = some M' → gG p l e (gR 9) s m args below meth c 3 D A 0 0 Q 30 [] [] (wMod cI cJ o a M_J30) := by
    intro M_J30 h
    unfold fX6_sayLine_J30 at h
    cases sinj h
    exact g_vret C dX6_sayLine_30 rfl hQ
  unfold fX6_sayLine at h
  refine g_iconst (v := (0 : Int32)) C dX6_sayLine_0 (by decide) ?_
  refine g_istore_n (lv' := [(2, .int (0 : Int32)), (0, .ref o), (1, .int x1)]) C dX6_sayLine_1 rfl (by decide) rfl ?_
  obtain ⟨X2, hW2, hK2⟩ := obd h
  have l2 : ∀ (fu2 : Nat) (x2_L2 : Int32) (M_L2 : OM), wh (σ := Int32 × OM) (ρ := OM) (fun t => fX6_sayLine_L2 x1 t.1 t.2) fu2 (x2_L2, M_L2) = some X2 → gG p l e (gR 9) s m args below meth c 3 D A 0 0 Q 2 [(0, .ref o), (1, .int x1), (2, .int x2_L2)] [] (wMod cI cJ o a M_L2) := by
    intro fu2
    induction fu2 with
    | zero => intro x2_L2 M_L2 hW; exact (wh_0 hW).elim
    | succ fu2 ih2 =>
      intro x2_L2 M_L2 hW
      obtain ⟨z2, h, hw2⟩ := wh_s hW
      replace h : fX6_sayLine_L2 x1 x2_L2 M_L2 = some z2 := h
      unfold fX6_sayLine_L2 at h
      refine g_iload_n C dX6_sayLine_2 rfl 2 rfl ?_
      refine g_bipush (v := (7 : Int32)) C dX6_sayLine_3 (by decide) ?_
      refine g_icmp_ge (tgt := 30) C dX6_sayLine_5 (by decide) (fun c5 => ?_) (fun c5 => ?_)
      · have h := ifp h c5
        obtain rfl := sinj h
        obtain rfl := wk_r hw2
        have h := hK2
        refine g_lv [] rfl ?_
        exact j30 M_L2 h
      · have h := ifn h c5
        refine g_iload_n C dX6_sayLine_8 rfl 2 rfl ?_
        refine g_iconst (v := (4 : Int32)) C dX6_sayLine_9 (by decide) ?_
        refine g_icmp_eq (tgt := 24) C dX6_sayLine_10 (by decide) (fun c10 => ?_) (fun c10 => ?_)
        · have h := ifp h c10
          refine g_iinc (j := 2) (v := (x2_L2 + (1 : Int32))) (lv' := [(2, .int (x2_L2 + (1 : Int32))), (0, .ref o), (1, .int x1)]) C dX6_sayLine_24 rfl rfl (by decide) rfl ?_
          refine g_goto (tgt := 2) C dX6_sayLine_27 (by decide) ?_
          obtain rfl := sinj h
          refine g_lv [1, 2, 0] rfl ?_
          exact ih2 (x2_L2 + (1 : Int32)) M_L2 hw2
        · have h := ifn h c10
          refine g_aload_n C dX6_sayLine_13 rfl 0 rfl ?_
          refine g_aload_n C dX6_sayLine_14 rfl 0 rfl ?_
          refine g_iload_n C dX6_sayLine_15 rfl 1 rfl ?_
          refine g_iload_n C dX6_sayLine_16 rfl 2 rfl ?_
          obtain ⟨⟨r17, T17⟩, h17, h⟩ := obd h
          refine g_callVi (st := [.ref o]) (ws2 := wMod cI cJ o a T17) C yv_X6_tellLine ml_X6_257 dX6_sayLine_17 (kX6_tellLine l D cC cI cJ cZ o a M_L2 x1 x2_L2 r17 T17 h17) gCut_all ⟨by decide, by decide⟩ ⟨rfl, rfl⟩ ⟨Nat.zero_le _, Nat.zero_le _⟩ rfl rfl (Nat.le_of_ble_eq_true rfl) 5 0 rfl rfl rfl ?_
          refine g_i2l C dX6_sayLine_20 ?_
          obtain ⟨T21, h21, h⟩ := obd h
          refine g_callVv (st := []) (ws2 := wMod cI cJ o a T21) C yv_X6_say ml_X6_347 dX6_sayLine_21 (kX6_say l D cC cI cJ cZ o a T17 r17.toInt64 T21 h21) gCut_all ⟨by decide, by decide⟩ ⟨rfl, rfl⟩ ⟨Nat.zero_le _, Nat.zero_le _⟩ rfl rfl (Nat.le_of_ble_eq_true rfl) 5 0 rfl rfl rfl ?_
          refine g_iinc (j := 2) (v := (x2_L2 + (1 : Int32))) (lv' := [(2, .int (x2_L2 + (1 : Int32))), (0, .ref o), (1, .int x1)]) C dX6_sayLine_24 rfl rfl (by decide) rfl ?_
          refine g_goto (tgt := 2) C dX6_sayLine_27 (by decide) ?_
          obtain rfl := sinj h
          refine g_lv [1, 2, 0] rfl ?_
          exact ih2 (x2_L2 + (1 : Int32)) T21 hw2
  refine g_lv [1, 2, 0] rfl ?_
  exact l2 100000 (0 : Int32) M hW2
def fX6_digest_L9 (x1_L9 : Int32) (M_L9 : OM) : Option ((Int32 × OM) ⊕ (OM)) :=
  (if ((M_L9.1 9) + (M_L9.1 10)) ≤ x1_L9 then some (.inr M_L9)
 else ((fX6_sayLine M_L9 x1_L9).bind (fun T24 => some (.inl ((x1_L9 + (1 : Int32)), T24)))))
def fX6_digest_L35 (x1_L35 : Int32) (M_L35 : OM) : Option ((Int32 × OM) ⊕ (OM)) :=
  (if ((M_L35.1 9) * (M_L35.1 10)) ≤ x1_L35 then some (.inr M_L35)
 else (if okI x1_L35 16 = true then ((fX6_say M_L35 (((M_L35.2.1 15) x1_L35.toNatClampNeg).toInt64)).bind (fun T56 => ((fX6_blackOf T56 x1_L35).bind (fun r => (fun r62 T62 => ((fX6_say T62 r62.toInt64).bind (fun T66 => ((fX6_sureOf T66 x1_L35).bind (fun r => (fun r72 T72 => ((fX6_say T72 r72.toInt64).bind (fun T76 => some (.inl ((x1_L35 + (1 : Int32)), T76))))) r.1 r.2))))) r.1 r.2)))) else none))
def fX6_digest_L122 (x1_L122 : Int32) (M_L122 : OM) : Option ((Int32 × OM) ⊕ (OM)) :=
  (if (M_L122.1 1) ≤ x1_L122 then some (.inr M_L122)
 else (if okI x1_L122 36 = true then ((fX6_say M_L122 (((M_L122.2.1 0) x1_L122.toNatClampNeg).toInt64)).bind (fun T138 => some (.inl ((x1_L122 + (1 : Int32)), T138)))) else none))
def fX6_digest_L149 (x1_L149 : Int32) (M_L149 : OM) : Option ((Int32 × OM) ⊕ (OM)) :=
  (if (11 : Int32) ≤ x1_L149 then some (.inr M_L149)
 else ((fX6_countOf M_L149 x1_L149).bind (fun r => (fun r158 T158 => ((fX6_say T158 r158.toInt64).bind (fun T162 => some (.inl ((x1_L149 + (1 : Int32)), T162))))) r.1 r.2)))
def fX6_digest_J171 (M_J171 : OM) : Option (Int64 × OM) :=
  some (M_J171.2.2.1, M_J171)
def fX6_digest_J147 (M_J147 : OM) : Option (Int64 × OM) :=
  ((wh (σ := Int32 × OM) (ρ := OM) (fun t => fX6_digest_L149 t.1 t.2) 100000 ((0 : Int32), M_J147)).bind (fun M_E149 => fX6_digest_J171 M_E149))
def fX6_digest_J120 (M_J120 : OM) : Option (Int64 × OM) :=
  ((wh (σ := Int32 × OM) (ρ := OM) (fun t => fX6_digest_L122 t.1 t.2) 100000 ((0 : Int32), M_J120)).bind (fun M_E122 => fX6_digest_J147 M_E122))
def fX6_digest_J85 (M_J85 : OM) : Option (Int64 × OM) :=
  ((fX6_lacks M_J85).bind (fun r86 => (if r86 = 0 then ((fX6_leftOf M_J85).bind (fun r => (fun r94 T94 => ((fX6_say T94 r94.toInt64).bind (fun T98 => ((fX6_pictureOf T98 (0 : Int32)).bind (fun r => (fun r104 T104 => ((fX6_say T104 r104.toInt64).bind (fun T108 => ((fX6_lookOf T108).bind (fun r => (fun r113 T113 => ((fX6_say T113 r113.toInt64).bind (fun T117 => fX6_digest_J120 T117))) r.1 r.2))))) r.1 r.2))))) r.1 r.2))
 else fX6_digest_J120 M_J85)))
def fX6_digest_J33 (M_J33 : OM) : Option (Int64 × OM) :=
  ((wh (σ := Int32 × OM) (ρ := OM) (fun t => fX6_digest_L35 t.1 t.2) 100000 ((0 : Int32), M_J33)).bind (fun M_E35 => fX6_digest_J85 M_E35))
def fX6_digest (M : OM)  : Option (Int64 × OM) :=
  ((wh (σ := Int32 × OM) (ρ := OM) (fun t => fX6_digest_L9 t.1 t.2) 100000 ((0 : Int32), (M.1, M.2.1, (1301 : Int64), M.2.2.2))).bind (fun M_E9 => fX6_digest_J33 M_E9))
set_option maxHeartbeats 4000000 in
set_option maxRecDepth 100000 in
theorem kX6_digest (l : Launch) (D : va_G) (cC cI cJ cZ : ClassId) (o : Nat) (a : Nat → Nat) (M : OM)  (r : Int64) (M' : OM) (h : fX6_digest M = some (r, M')) : gMl l yX6_digest cX6_digest 2 (some .long) (gR 10) D (tysG cC cI cJ cZ) [.ref o] (wMod cI cJ o a M) r (wMod cI cJ o a M') := by
  refine gMl_of (by decide) (Nat.le_of_ble_eq_true rfl) rfl ?_
  intro p e s m args below meth c A Q C hQ
  have j171 : ∀ (M_J171 : OM), fX6_digest_J171 M_J171 = some (r, M') → gG p l e (gR 10) s m args below meth c 2 D A 0 0 Q 171 [(0, .ref o)] [] (wMod cI cJ o a M_J171) := by
    intro M_J171 h
    unfold fX6_digest_J171 at h
    refine g_aload_n C dX6_digest_171 rfl 0 rfl ?_
    refine g_get (v := .long M_J171.2.2.1) C fl_X6_343 dX6_digest_172 0 rfl rfl ?_
    cases sinj h
    exact g_lret C dX6_digest_175 rfl rfl hQ
  have j147 : ∀ (M_J147 : OM), fX6_digest_J147 M_J147 = some (r, M') → gG p l e (gR 10) s m args below meth c 2 D A 0 0 Q 147 [(0, .ref o)] [] (wMod cI cJ o a M_J147) := by
    intro M_J147 h
    unfold fX6_digest_J147 at h
    refine g_iconst (v := (0 : Int32)) C dX6_digest_147 (by decide) ?_
    refine g_istore_n (lv' := [(1, .int (0 : Int32)), (0, .ref o)]) C dX6_digest_148 rfl (by decide) rfl ?_
    obtain ⟨X149, hW149, hK149⟩ := obd h
    have l149 : ∀ (fu149 : Nat) (x1_L149 : Int32) (M_L149 : OM), wh (σ := Int32 × OM) (ρ := OM) (fun t => fX6_digest_L149 t.1 t.2) fu149 (x1_L149, M_L149) = some X149 → gG p l e (gR 10) s m args below meth c 2 D A 0 0 Q 149 [(0, .ref o), (1, .int x1_L149)] [] (wMod cI cJ o a M_L149) := by
      intro fu149
      induction fu149 with
      | zero => intro x1_L149 M_L149 hW; exact (wh_0 hW).elim
      | succ fu149 ih149 =>
        intro x1_L149 M_L149 hW
        obtain ⟨z149, h, hw149⟩ := wh_s hW
        replace h : fX6_digest_L149 x1_L149 M_L149 = some z149 := h
        unfold fX6_digest_L149 at h
        refine g_iload_n C dX6_digest_149 rfl 1 rfl ?_
        refine g_bipush (v := (11 : Int32)) C dX6_digest_150 (by decide) ?_
        refine g_icmp_ge (tgt := 171) C dX6_digest_152 (by decide) (fun c152 => ?_) (fun c152 => ?_)
        · have h := ifp h c152
          obtain rfl := sinj h
          obtain rfl := wk_r hw149
          have h := hK149
          refine g_lv [0] rfl ?_
          exact j171 M_L149 h
        · have h := ifn h c152
          refine g_aload_n C dX6_digest_155 rfl 0 rfl ?_
          refine g_aload_n C dX6_digest_156 rfl 0 rfl ?_
          refine g_iload_n C dX6_digest_157 rfl 1 rfl ?_
          obtain ⟨⟨r158, T158⟩, h158, h⟩ := obd h
          refine g_callVi (st := [.ref o]) (ws2 := wMod cI cJ o a T158) C yv_X6_countOf ml_X6_338 dX6_digest_158 (kX6_countOf l D cC cI cJ cZ o a M_L149 x1_L149 r158 T158 h158) gCut_all ⟨by decide, by decide⟩ ⟨rfl, rfl⟩ ⟨Nat.zero_le _, Nat.zero_le _⟩ rfl rfl (Nat.le_of_ble_eq_true rfl) 5 0 rfl rfl rfl ?_
          refine g_i2l C dX6_digest_161 ?_
          obtain ⟨T162, h162, h⟩ := obd h
          refine g_callVv (st := []) (ws2 := wMod cI cJ o a T162) C yv_X6_say ml_X6_347 dX6_digest_162 (kX6_say l D cC cI cJ cZ o a T158 r158.toInt64 T162 h162) gCut_all ⟨by decide, by decide⟩ ⟨rfl, rfl⟩ ⟨Nat.zero_le _, Nat.zero_le _⟩ rfl rfl (Nat.le_of_ble_eq_true rfl) 5 0 rfl rfl rfl ?_
          refine g_iinc (j := 1) (v := (x1_L149 + (1 : Int32))) (lv' := [(1, .int (x1_L149 + (1 : Int32))), (0, .ref o)]) C dX6_digest_165 rfl rfl (by decide) rfl ?_
          refine g_goto (tgt := 149) C dX6_digest_168 (by decide) ?_
          obtain rfl := sinj h
          refine g_lv [1, 0] rfl ?_
          exact ih149 (x1_L149 + (1 : Int32)) T162 hw149
    refine g_lv [1, 0] rfl ?_
    exact l149 100000 (0 : Int32) M_J147 hW149
  have j120 : ∀ (M_J120 : OM), fX6_digest_J120 M_J120 = some (r, M') → gG p l e (gR 10) s m args below meth c 2 D A 0 0 Q 120 [(0, .ref o)] [] (wMod cI cJ o a M_J120) := by
    intro M_J120 h
    unfold fX6_digest_J120 at h
    refine g_iconst (v := (0 : Int32)) C dX6_digest_120 (by decide) ?_
    refine g_istore_n (lv' := [(1, .int (0 : Int32)), (0, .ref o)]) C dX6_digest_121 rfl (by decide) rfl ?_
    obtain ⟨X122, hW122, hK122⟩ := obd h
    have l122 : ∀ (fu122 : Nat) (x1_L122 : Int32) (M_L122 : OM), wh (σ := Int32 × OM) (ρ := OM) (fun t => fX6_digest_L122 t.1 t.2) fu122 (x1_L122, M_L122) = some X122 → gG p l e (gR 10) s m args below meth c 2 D A 0 0 Q 122 [(0, .ref o), (1, .int x1_L122)] [] (wMod cI cJ o a M_L122) := by
      intro fu122
      induction fu122 with
      | zero => intro x1_L122 M_L122 hW; exact (wh_0 hW).elim
      | succ fu122 ih122 =>
        intro x1_L122 M_L122 hW
        obtain ⟨z122, h, hw122⟩ := wh_s hW
        replace h : fX6_digest_L122 x1_L122 M_L122 = some z122 := h
        unfold fX6_digest_L122 at h
        refine g_iload_n C dX6_digest_122 rfl 1 rfl ?_
        refine g_aload_n C dX6_digest_123 rfl 0 rfl ?_
        refine g_get (v := .int (M_L122.1 1)) C fl_X6_82 dX6_digest_124 0 rfl rfl ?_
        refine g_icmp_ge (tgt := 147) C dX6_digest_127 (by decide) (fun c127 => ?_) (fun c127 => ?_)
        · have h := ifp h c127
          obtain rfl := sinj h
          obtain rfl := wk_r hw122
          have h := hK122
          refine g_lv [0] rfl ?_
          exact j147 M_L122 h
        · have h := ifn h c127
          refine g_aload_n C dX6_digest_130 rfl 0 rfl ?_
          refine g_aload_n C dX6_digest_131 rfl 0 rfl ?_
          refine g_get (v := .ref (a 0)) C fl_X6_7 dX6_digest_132 0 rfl rfl ?_
          refine g_iload_n C dX6_digest_135 rfl 1 rfl ?_
          obtain ⟨hg136, h⟩ := ifg h
          refine g_iald (f := (M_L122.2.1 0)) C dX6_digest_136 1 0 rfl rfl hg136 ?_
          refine g_i2l C dX6_digest_137 ?_
          obtain ⟨T138, h138, h⟩ := obd h
          refine g_callVv (st := []) (ws2 := wMod cI cJ o a T138) C yv_X6_say ml_X6_347 dX6_digest_138 (kX6_say l D cC cI cJ cZ o a M_L122 (((M_L122.2.1 0) x1_L122.toNatClampNeg).toInt64) T138 h138) gCut_all ⟨by decide, by decide⟩ ⟨rfl, rfl⟩ ⟨Nat.zero_le _, Nat.zero_le _⟩ rfl rfl (Nat.le_of_ble_eq_true rfl) 5 0 rfl rfl rfl ?_
          refine g_iinc (j := 1) (v := (x1_L122 + (1 : Int32))) (lv' := [(1, .int (x1_L122 + (1 : Int32))), (0, .ref o)]) C dX6_digest_141 rfl rfl (by decide) rfl ?_
          refine g_goto (tgt := 122) C dX6_digest_144 (by decide) ?_
          obtain rfl := sinj h
          refine g_lv [1, 0] rfl ?_
          exact ih122 (x1_L122 + (1 : Int32)) T138 hw122
    refine g_lv [1, 0] rfl ?_
    exact l122 100000 (0 : Int32) M_J120 hW122
  have j85 : ∀ (M_J85 : OM), fX6_digest_J85 M_J85 = some (r, M') → gG p l e (gR 10) s m args below meth c 2 D A 0 0 Q 85 [(0, .ref o)] [] (wMod cI cJ o a M_J85) := by
    intro M_J85 h
    unfold fX6_digest_J85 at h
    refine g_aload_n C dX6_digest_85 rfl 0 rfl ?_
    obtain ⟨r86, h86, h⟩ := obd h
    refine g_callVi (st := []) (ws2 := wMod cI cJ o a M_J85) C yv_X6_lacks ml_X6_223 dX6_digest_86 (kX6_lacks l D cC cI cJ cZ o a M_J85 r86 h86) gCut_all ⟨by decide, by decide⟩ ⟨rfl, rfl⟩ ⟨Nat.zero_le _, Nat.zero_le _⟩ rfl rfl (Nat.le_of_ble_eq_true rfl) 5 0 rfl rfl rfl ?_
    refine g_if_ne (tgt := 120) C dX6_digest_89 (by decide) (fun c89 => ?_) (fun c89 => ?_)
    · have h := ifn h c89
      refine g_lv [0] rfl ?_
      exact j120 M_J85 h
    · have h := ifp h c89
      refine g_aload_n C dX6_digest_92 rfl 0 rfl ?_
      refine g_aload_n C dX6_digest_93 rfl 0 rfl ?_
      obtain ⟨⟨r94, T94⟩, h94, h⟩ := obd h
      refine g_callVi (st := [.ref o]) (ws2 := wMod cI cJ o a T94) C yv_X6_leftOf ml_X6_227 dX6_digest_94 (kX6_leftOf l D cC cI cJ cZ o a M_J85 r94 T94 h94) gCut_all ⟨by decide, by decide⟩ ⟨rfl, rfl⟩ ⟨Nat.zero_le _, Nat.zero_le _⟩ rfl rfl (Nat.le_of_ble_eq_true rfl) 5 0 rfl rfl rfl ?_
      refine g_i2l C dX6_digest_97 ?_
      obtain ⟨T98, h98, h⟩ := obd h
      refine g_callVv (st := []) (ws2 := wMod cI cJ o a T98) C yv_X6_say ml_X6_347 dX6_digest_98 (kX6_say l D cC cI cJ cZ o a T94 r94.toInt64 T98 h98) gCut_all ⟨by decide, by decide⟩ ⟨rfl, rfl⟩ ⟨Nat.zero_le _, Nat.zero_le _⟩ rfl rfl (Nat.le_of_ble_eq_true rfl) 5 0 rfl rfl rfl ?_
      refine g_aload_n C dX6_digest_101 rfl 0 rfl ?_
      refine g_aload_n C dX6_digest_102 rfl 0 rfl ?_
      refine g_iconst (v := (0 : Int32)) C dX6_digest_103 (by decide) ?_
      obtain ⟨⟨r104, T104⟩, h104, h⟩ := obd h
      refine g_callVi (st := [.ref o]) (ws2 := wMod cI cJ o a T104) C yv_X6_pictureOf ml_X6_233 dX6_digest_104 (kX6_pictureOf l D cC cI cJ cZ o a T98 (0 : Int32) r104 T104 h104) gCut_all ⟨by decide, by decide⟩ ⟨rfl, rfl⟩ ⟨Nat.zero_le _, Nat.zero_le _⟩ rfl rfl (Nat.le_of_ble_eq_true rfl) 5 0 rfl rfl rfl ?_
      refine g_i2l C dX6_digest_107 ?_
      obtain ⟨T108, h108, h⟩ := obd h
      refine g_callVv (st := []) (ws2 := wMod cI cJ o a T108) C yv_X6_say ml_X6_347 dX6_digest_108 (kX6_say l D cC cI cJ cZ o a T104 r104.toInt64 T108 h108) gCut_all ⟨by decide, by decide⟩ ⟨rfl, rfl⟩ ⟨Nat.zero_le _, Nat.zero_le _⟩ rfl rfl (Nat.le_of_ble_eq_true rfl) 5 0 rfl rfl rfl ?_
      refine g_aload_n C dX6_digest_111 rfl 0 rfl ?_
      refine g_aload_n C dX6_digest_112 rfl 0 rfl ?_
      obtain ⟨⟨r113, T113⟩, h113, h⟩ := obd h
      refine g_callVi (st := [.ref o]) (ws2 := wMod cI cJ o a T113) C yv_X6_lookOf ml_X6_272 dX6_digest_113 (kX6_lookOf l D cC cI cJ cZ o a T108 r113 T113 h113) gCut_all ⟨by decide, by decide⟩ ⟨rfl, rfl⟩ ⟨Nat.zero_le _, Nat.zero_le _⟩ rfl rfl (Nat.le_of_ble_eq_true rfl) 5 0 rfl rfl rfl ?_
      refine g_i2l C dX6_digest_116 ?_
      obtain ⟨T117, h117, h⟩ := obd h
      refine g_callVv (st := []) (ws2 := wMod cI cJ o a T117) C yv_X6_say ml_X6_347 dX6_digest_117 (kX6_say l D cC cI cJ cZ o a T113 r113.toInt64 T117 h117) gCut_all ⟨by decide, by decide⟩ ⟨rfl, rfl⟩ ⟨Nat.zero_le _, Nat.zero_le _⟩ rfl rfl (Nat.le_of_ble_eq_true rfl) 5 0 rfl rfl rfl ?_
      refine g_lv [0] rfl ?_
      exact j120 T117 h
  have j33 : ∀ (M_J33 : OM), fX6_digest_J33 M_J33 = some (r, M') → gG p l e (gR 10) s m args below meth c 2 D A 0 0 Q 33 [(0, .ref o)] [] (wMod cI cJ o a M_J33) := by
    intro M_J33 h
    unfold fX6_digest_J33 at h
    refine g_iconst (v := (0 : Int32)) C dX6_digest_33 (by decide) ?_
    refine g_istore_n (lv' := [(1, .int (0 : Int32)), (0, .ref o)]) C dX6_digest_34 rfl (by decide) rfl ?_
    obtain ⟨X35, hW35, hK35⟩ := obd h
    have l35 : ∀ (fu35 : Nat) (x1_L35 : Int32) (M_L35 : OM), wh (σ := Int32 × OM) (ρ := OM) (fun t => fX6_digest_L35 t.1 t.2) fu35 (x1_L35, M_L35) = some X35 → gG p l e (gR 10) s m args below meth c 2 D A 0 0 Q 35 [(0, .ref o), (1, .int x1_L35)] [] (wMod cI cJ o a M_L35) := by
      intro fu35
      induction fu35 with
      | zero => intro x1_L35 M_L35 hW; exact (wh_0 hW).elim
      | succ fu35 ih35 =>
        intro x1_L35 M_L35 hW
        obtain ⟨z35, h, hw35⟩ := wh_s hW
        replace h : fX6_digest_L35 x1_L35 M_L35 = some z35 := h
        unfold fX6_digest_L35 at h
        refine g_iload_n C dX6_digest_35 rfl 1 rfl ?_
        refine g_aload_n C dX6_digest_36 rfl 0 rfl ?_
        refine g_get (v := .int (M_L35.1 9)) C fl_X6_141 dX6_digest_37 0 rfl rfl ?_
        refine g_aload_n C dX6_digest_40 rfl 0 rfl ?_
        refine g_get (v := .int (M_L35.1 10)) C fl_X6_144 dX6_digest_41 0 rfl rfl ?_
        refine g_imul C dX6_digest_44 ?_
        refine g_icmp_ge (tgt := 85) C dX6_digest_45 (by decide) (fun c45 => ?_) (fun c45 => ?_)
        · have h := ifp h c45
          obtain rfl := sinj h
          obtain rfl := wk_r hw35
          have h := hK35
          refine g_lv [0] rfl ?_
          exact j85 M_L35 h
        · have h := ifn h c45
          refine g_aload_n C dX6_digest_48 rfl 0 rfl ?_
          refine g_aload_n C dX6_digest_49 rfl 0 rfl ?_
          refine g_get (v := .ref (a 15)) C fl_X6_31 dX6_digest_50 0 rfl rfl ?_
          refine g_iload_n C dX6_digest_53 rfl 1 rfl ?_
          obtain ⟨hg54, h⟩ := ifg h
          refine g_iald (f := (M_L35.2.1 15)) C dX6_digest_54 8 0 rfl rfl hg54 ?_
          refine g_i2l C dX6_digest_55 ?_
          obtain ⟨T56, h56, h⟩ := obd h
          refine g_callVv (st := []) (ws2 := wMod cI cJ o a T56) C yv_X6_say ml_X6_347 dX6_digest_56 (kX6_say l D cC cI cJ cZ o a M_L35 (((M_L35.2.1 15) x1_L35.toNatClampNeg).toInt64) T56 h56) gCut_all ⟨by decide, by decide⟩ ⟨rfl, rfl⟩ ⟨Nat.zero_le _, Nat.zero_le _⟩ rfl rfl (Nat.le_of_ble_eq_true rfl) 5 0 rfl rfl rfl ?_
          refine g_aload_n C dX6_digest_59 rfl 0 rfl ?_
          refine g_aload_n C dX6_digest_60 rfl 0 rfl ?_
          refine g_iload_n C dX6_digest_61 rfl 1 rfl ?_
          obtain ⟨⟨r62, T62⟩, h62, h⟩ := obd h
          refine g_callVi (st := [.ref o]) (ws2 := wMod cI cJ o a T62) C yv_X6_blackOf ml_X6_236 dX6_digest_62 (kX6_blackOf l D cC cI cJ cZ o a T56 x1_L35 r62 T62 h62) gCut_all ⟨by decide, by decide⟩ ⟨rfl, rfl⟩ ⟨Nat.zero_le _, Nat.zero_le _⟩ rfl rfl (Nat.le_of_ble_eq_true rfl) 5 0 rfl rfl rfl ?_
          refine g_i2l C dX6_digest_65 ?_
          obtain ⟨T66, h66, h⟩ := obd h
          refine g_callVv (st := []) (ws2 := wMod cI cJ o a T66) C yv_X6_say ml_X6_347 dX6_digest_66 (kX6_say l D cC cI cJ cZ o a T62 r62.toInt64 T66 h66) gCut_all ⟨by decide, by decide⟩ ⟨rfl, rfl⟩ ⟨Nat.zero_le _, Nat.zero_le _⟩ rfl rfl (Nat.le_of_ble_eq_true rfl) 5 0 rfl rfl rfl ?_
          refine g_aload_n C dX6_digest_69 rfl 0 rfl ?_
          refine g_aload_n C dX6_digest_70 rfl 0 rfl ?_
          refine g_iload_n C dX6_digest_71 rfl 1 rfl ?_
          obtain ⟨⟨r72, T72⟩, h72, h⟩ := obd h
          refine g_callVi (st := [.ref o]) (ws2 := wMod cI cJ o a T72) C yv_X6_sureOf ml_X6_239 dX6_digest_72 (kX6_sureOf l D cC cI cJ cZ o a T66 x1_L35 r72 T72 h72) gCut_all ⟨by decide, by decide⟩ ⟨rfl, rfl⟩ ⟨Nat.zero_le _, Nat.zero_le _⟩ rfl rfl (Nat.le_of_ble_eq_true rfl) 5 0 rfl rfl rfl ?_
          refine g_i2l C dX6_digest_75 ?_
          obtain ⟨T76, h76, h⟩ := obd h
          refine g_callVv (st := []) (ws2 := wMod cI cJ o a T76) C yv_X6_say ml_X6_347 dX6_digest_76 (kX6_say l D cC cI cJ cZ o a T72 r72.toInt64 T76 h76) gCut_all ⟨by decide, by decide⟩ ⟨rfl, rfl⟩ ⟨Nat.zero_le _, Nat.zero_le _⟩ rfl rfl (Nat.le_of_ble_eq_true rfl) 5 0 rfl rfl rfl ?_
          refine g_iinc (j := 1) (v := (x1_L35 + (1 : Int32))) (lv' := [(1, .int (x1_L35 + (1 : Int32))), (0, .ref o)]) C dX6_digest_79 rfl rfl (by decide) rfl ?_
          refine g_goto (tgt := 35) C dX6_digest_82 (by decide) ?_
          obtain rfl := sinj h
          refine g_lv [1, 0] rfl ?_
          exact ih35 (x1_L35 + (1 : Int32)) T76 hw35
    refine g_lv [1, 0] rfl ?_
    exact l35 100000 (0 : Int32) M_J33 hW35
  unfold fX6_digest at h
  refine g_aload_n C dX6_digest_0 rfl 0 rfl ?_
  refine g_ldc2 C dX6_digest_1 ck_X6_351 ?_
  refine g_put (ws2 := wMod cI cJ o a (M.1, M.2.1, (1301 : Int64), M.2.2.2)) C fp_X6_343 dX6_digest_4 0 rfl rfl rfl (Nat.le_of_ble_eq_true rfl) rfl ?_
  refine g_iconst (v := (0 : Int32)) C dX6_digest_7 (by decide) ?_
  refine g_istore_n (lv' := [(1, .int (0 : Int32)), (0, .ref o)]) C dX6_digest_8 rfl (by decide) rfl ?_
  obtain ⟨X9, hW9, hK9⟩ := obd h
  have l9 : ∀ (fu9 : Nat) (x1_L9 : Int32) (M_L9 : OM), wh (σ := Int32 × OM) (ρ := OM) (fun t => fX6_digest_L9 t.1 t.2) fu9 (x1_L9, M_L9) = some X9 → gG p l e (gR 10) s m args below meth c 2 D A 0 0 Q 9 [(0, .ref o), (1, .int x1_L9)] [] (wMod cI cJ o a M_L9) := by
    intro fu9
    induction fu9 with
    | zero => intro x1_L9 M_L9 hW; exact (wh_0 hW).elim
    | succ fu9 ih9 =>
      intro x1_L9 M_L9 hW
      obtain ⟨z9, h, hw9⟩ := wh_s hW
      replace h : fX6_digest_L9 x1_L9 M_L9 = some z9 := h
      unfold fX6_digest_L9 at h
      refine g_iload_n C dX6_digest_9 rfl 1 rfl ?_
      refine g_aload_n C dX6_digest_10 rfl 0 rfl ?_
      refine g_get (v := .int (M_L9.1 9)) C fl_X6_141 dX6_digest_11 0 rfl rfl ?_
      refine g_aload_n C dX6_digest_14 rfl 0 rfl ?_
      refine g_get (v := .int (M_L9.1 10)) C fl_X6_144 dX6_digest_15 0 rfl rfl ?_
      refine g_iadd C dX6_digest_18 ?_
      refine g_icmp_ge (tgt := 33) C dX6_digest_19 (by decide) (fun c19 => ?_) (fun c19 => ?_)
      · have h := ifp h c19
        obtain rfl := sinj h
        obtain rfl := wk_r hw9
        have h := hK9
        refine g_lv [0] rfl ?_
        exact j33 M_L9 h
      · have h := ifn h c19
        refine g_aload_n C dX6_digest_22 rfl 0 rfl ?_
        refine g_iload_n C dX6_digest_23 rfl 1 rfl ?_
        obtain ⟨T24, h24, h⟩ := obd h
        refine g_callVv (st := []) (ws2 := wMod cI cJ o a T24) C yv_X6_sayLine ml_X6_353 dX6_digest_24 (kX6_sayLine l D cC cI cJ cZ o a M_L9 x1_L9 T24 h24) gCut_all ⟨by decide, by decide⟩ ⟨rfl, rfl⟩ ⟨Nat.zero_le _, Nat.zero_le _⟩ rfl rfl (Nat.le_of_ble_eq_true rfl) 5 0 rfl rfl rfl ?_
        refine g_iinc (j := 1) (v := (x1_L9 + (1 : Int32))) (lv' := [(1, .int (x1_L9 + (1 : Int32))), (0, .ref o)]) C dX6_digest_27 rfl rfl (by decide) rfl ?_
        refine g_goto (tgt := 9) C dX6_digest_30 (by decide) ?_
        obtain rfl := sinj h
        refine g_lv [1, 0] rfl ?_
        exact ih9 (x1_L9 + (1 : Int32)) T24 hw9
  refine g_lv [1, 0] rfl ?_
  exact l9 100000 (0 : Int32) (M.1, M.2.1, (1301 : Int64), M.2.2.2) hW9
