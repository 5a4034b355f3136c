theorem g_fm {α β : Type} {f : α → Option β} : ∀ {is : List α} {w : List β}, is.map f = w.map some → is.filterMap f = w
  | [], [], _ => rfl
  | [], _ :: _, h => by cases h
  | _ :: _, [], h => by cases h
  | i :: is, b :: w, h => by
    rw [List.map_cons, List.map_cons] at h
    obtain ⟨h1, h2⟩ := List.cons.inj h
    rw [List.filterMap_cons, h1, g_fm h2]
/-- the callee's cells wc lie in ws; behind it they are w1, and the caller's world ws2 -/
def gCut (ws wc w1 ws2 : va_W) : Prop := (∀ (D : va_G) (H : Heap), va_P D vwCl ws H → va_P D vwCl wc H) ∧ (∀ A : Nat → Prop, va_D A ws → va_D A wc) ∧
  ∀ (D : va_G) (A : Nat → Prop) (H H1 : Heap), va_P D vwCl ws H → va_D A ws → (∀ q : Nat, q < H.size → ¬ va_A wc H.size q → H1[q]? = H[q]?) → (∀ q, va_A wc H.size q → A q) → va_P D vwCl w1 H1 → va_D (va_A wc H.size) w1 → va_P D vwCl ws2 H1 ∧ va_D A ws2
theorem gCut_all {ws w1 : va_W} : gCut ws ws w1 w1 := ⟨fun _ _ h => h, fun _ h => h, fun _ _ _ _ _ _ _ hF hP hD => ⟨hP, hD.weaken (fun _ q _ h => hF q.1 h)⟩⟩
theorem gCut_nil {ws : va_W} : gCut ws [] [] ws := ⟨fun _ _ _ k q h => by simp at h, fun _ _ => ⟨fun i j p q h => by simp at h, fun k q h => by simp at h⟩, fun D A H H1 hP hD hk _ _ _ => ⟨hP.kept (fun k q h => hk q.1 (hP k q h).lt (fun ha => by
  rcases ha with ⟨k2, e, h2⟩ | h2
  · simp at h2
  · exact absurd (hP k q h).lt (Nat.not_lt.mpr h2))), hD⟩⟩
theorem gCut_at {ws wc w1 ws2 : va_W} (isC isR is2 : List Nat) (hC : isC.map (fun i => ws[i]?) = wc.map some) (hR : isR.map (fun i => ws[i]?) = (isR.filterMap (fun i => ws[i]?)).map some) (hnC : va_nd isC = true) (hn : va_nd isR = true) (hdis : ∀ i ∈ isR, i ∉ isC) (hn2 : va_nd is2 = true) (h2 : is2.map (fun i => (isR.filterMap (fun i => ws[i]?) ++ w1)[i]?) = ws2.map some) : gCut ws wc w1 ws2 := by
  refine ⟨fun _ _ h => h.sub isC (g_fm hC), fun _ h => h.sub isC hnC hC, fun D A H H1 hP hD hk hF hP1 hD1 => ?_⟩
  obtain ⟨a, b⟩ := va_join hP hD isC isR hC hR hn hdis hk hF hP1 hD1
  exact ⟨a.sub is2 (g_fm h2), b.sub is2 hn2 h2⟩
theorem gPre_blind {D : va_G} {tys : List (ClassId × FieldType)} {av : List Value} {w0 : va_W} {sz : Nat} : FrameBlind (gPre D tys av w0 sz) := fun a U g mk q => by
  obtain ⟨q0, q1, qP, qK, qD, k1, k2, k3⟩ := q
  exact ⟨q0, q1, qP, va_K.moved (u := U) (U := U.calling g mk a) (Vm.Alike.refl U.vm) qK, qD, k1.same (u := U) rfl, k2.moved (u := U) (Vm.Alike.refl U.vm), k3.moved (u := U) (Vm.Alike.refl U.vm)⟩
section GCall
variable {p : Program} {l : Launch} {e : Env} {R : Room} {s : State} {m : MethodId} {args : Array Value} {below : List Frame} {meth : Method} {c : Code} {cc : ByteArray} {nL : Nat} {own : String} {D : va_G} {tys : List (ClassId × FieldType)} {A : Nat → Prop} {rt : Option FieldType} {k n : Nat} {Q : State → Prop} {pc : Nat} {lv : List (Nat × Value)} {st stk : List Value} {ws wc w1 ws2 : va_W} {y : MethodName} {cb : ByteArray} {mL nA idx : Nat} {rt2 : Option FieldType} {rm : Room} {b : Nat} {As : List Value}
theorem g_free (C : gC p s m args meth c cc nL own D tys A rt) (K : gCut ws wc w1 ws2) {H : Heap} {locs : List Loc} (hD : va_D A ws) (hS : va_S A s.heap H locs) : ∀ q, va_A wc H.size q → A q := by
  intro q h
  rcases h with ⟨k, e, h⟩ | h
  · exact (K.2.1 A hD).2 k (q, e) h
  · exact C.2.2.2.2.2.2.1 q (Nat.le_trans hS.1 h)

theorem g_callVi (C : gC p s m args meth c cc nL own D tys A rt) (Y : gYv y cb mL rt2 nA) (hlk : Cond.methodLink own idx y ∈ gT) (d : decode cc pc = .ok (.invokevirtual idx, 3)) {r : Int32} (hM : gMi l y cb mL rt2 rm D tys (.ref b :: As) wc r w1) (K : gCut ws wc w1 ws2) (hR : rm.frames + 1 ≤ R.frames ∧ 8 + (mL + 11) + rm.locals ≤ R.locals) (hrm : rm.cells = 0 ∧ rm.slots = 0) (hkn : k ≤ R.cells ∧ n ≤ R.slots) (hAn : As.length = nA) (hst : stk = As.reverse ++ .ref b :: st) (hrest : (st.map fun v => v.category).sum ≤ 8) (ci q0 : Nat) {vq : vw_C} {fs : List Value} (hci : vwCl[ci]? = some vq) (hcy : vq.1 = y.cls) (hq0 : ws[q0]? = some (b, .inr (ci, fs))) (kk : gG p l e R s m args below meth c nL D A k n Q (pc + 3) lv (.int r :: st) ws2) : gG p l e R s m args below meth c nL D A k n Q pc lv stk ws := by
  intro H locs ls hP hD hS hl
  have hF := g_free C K hD hS
  obtain ⟨⟨y1, y2, y3, y4, y5⟩, y6, y7⟩ := Y
  have hG : GoodIn gT (wsV own idx y.cls y (Cond.code y cb mL rt2 :: gT)) := gT_gi (fun w h => by
    rcases List.mem_append.mp h with h | h
    · simp only [List.mem_cons, List.not_mem_nil, or_false] at h
      rcases h with rfl | rfl | rfl | rfl
      · exact hlk
      · exact y6
      · exact y7
      · exact y1
    · rcases List.mem_cons.mp h with rfl | h
      · exact y2
      · exact h)
  refine va_calli (va_runV (C := y.cls) (As := As) (rest := st) ⟨C.1, C.2.1, C.2.2.1, C.2.2.2.1, C.2.2.2.2.1⟩ (hM H.size) (cwV nA C.2.2.2.2.1 hG rfl hrm.1 hrm.2 ⟨rfl, y3, y4, y5⟩ hR) ⟨gPre_blind, by rw [← hcy]; exact va_recv C.2.2.2.2.2.1 hP hci hq0, fun U hU hW => ⟨rfl, by rw [hU], by rw [hU]; exact K.1 D H hP, va_K.moved hW.alike C.2.2.2.2.2.1, (K.2.1 A hD).weaken (fun _ _ _ _ => trivial), C.2.2.2.2.2.2.2.2.2.step hW hS hU hF⟩⟩ rfl hAn hl.1 hst (lv_room hrest) d hkn) hS (fun q _ h => hF q h) hF (fun r1 u t H1 locs1 ht hvm hw hB hz1 hk1 hS1 => ?_)
  obtain ⟨hP1, hK1, hD1⟩ := hB
  subst hw
  rw [ht] at hP1
  obtain ⟨hP2, hD2⟩ := K.2.2 D A H H1 hP hD hk1 hF hP1 hD1
  exact kk H1 locs1 ls hP2 hD2 hS1 hl
theorem g_callSi (C : gC p s m args meth c cc nL own D tys A rt) (Y : gYs y cb mL rt2 nA) (hlk : Cond.methodLink own idx y ∈ gT) (d : decode cc pc = .ok (.invokestatic idx, 3)) {r : Int32} (hM : gMi l y cb mL rt2 rm D tys As wc r w1) (K : gCut ws wc w1 ws2) (hR : rm.frames + 1 ≤ R.frames ∧ 8 + (mL + 11) + rm.locals ≤ R.locals) (hrm : rm.cells = 0 ∧ rm.slots = 0) (hkn : k ≤ R.cells ∧ n ≤ R.slots) (hAn : As.length = nA) (hst : stk = As.reverse ++ st) (hrest : (st.map fun v => v.category).sum ≤ 8) (kk : gG p l e R s m args below meth c nL D A k n Q (pc + 3) lv (.int r :: st) ws2) : gG p l e R s m args below meth c nL D A k n Q pc lv stk ws := by
  intro H locs ls hP hD hS hl
  have hF := g_free C K hD hS
  obtain ⟨⟨y1, y2, y3, y4, y5⟩, y6⟩ := Y
  have hG : GoodIn gT (va_wsS own idx y (Cond.code y cb mL rt2 :: gT)) := gT_gi (fun w h => by
    rcases List.mem_append.mp h with h | h
    · simp only [List.mem_cons, List.not_mem_nil, or_false] at h
      rcases h with rfl | rfl | rfl
      · exact hlk
      · exact y6
      · exact y1
    · rcases List.mem_cons.mp h with rfl | h
      · exact y2
      · exact h)
  refine va_calli (va_runS (As := As) (rest := st) ⟨C.1, C.2.1, C.2.2.1, C.2.2.2.1, C.2.2.2.2.1⟩ (hM H.size) (va_cwS nA C.2.2.2.2.1 hG rfl hrm.1 hrm.2 ⟨y3, y4, y5⟩ hR) ⟨gPre_blind, fun U hU hW => ⟨rfl, by rw [hU], by rw [hU]; exact K.1 D H hP, va_K.moved hW.alike C.2.2.2.2.2.1, (K.2.1 A hD).weaken (fun _ _ _ _ => trivial), C.2.2.2.2.2.2.2.2.2.step hW hS hU hF⟩⟩ rfl hAn hl.1 hst (lv_room hrest) d hkn) hS (fun q _ h => hF q h) hF (fun r1 u t H1 locs1 ht hvm hw hB hz1 hk1 hS1 => ?_)
  obtain ⟨hP1, hK1, hD1⟩ := hB
  subst hw
  rw [ht] at hP1
  obtain ⟨hP2, hD2⟩ := K.2.2 D A H H1 hP hD hk1 hF hP1 hD1
  exact kk H1 locs1 ls hP2 hD2 hS1 hl
theorem g_callKi (C : gC p s m args meth c cc nL own D tys A rt) (Y : gYv y cb mL rt2 nA) (hlk : Cond.methodLink own idx y ∈ gT) (d : decode cc pc = .ok (.invokevirtual idx, 3)) {r : Int32} (hM : gMi l y cb mL rt2 rm D tys (.ref (D.2 77 0) :: As) wc r w1) (K : gCut ws wc w1 ws2) (hR : rm.frames + 1 ≤ R.frames ∧ 8 + (mL + 11) + rm.locals ≤ R.locals) (hrm : rm.cells = 0 ∧ rm.slots = 0) (hkn : k ≤ R.cells ∧ n ≤ R.slots) (hAn : As.length = nA) (hst : stk = As.reverse ++ .ref (D.2 77 0) :: st) (hrest : (st.map fun v => v.category).sum ≤ 8) (hcy : y.cls = "java/lang/String") (kk : gG p l e R s m args below meth c nL D A k n Q (pc + 3) lv (.int r :: st) ws2) : gG p l e R s m args below meth c nL D A k n Q pc lv stk ws := by
  intro H locs ls hP hD hS hl
  have hF := g_free C K hD hS
  obtain ⟨⟨y1, y2, y3, y4, y5⟩, y6, y7⟩ := Y
  have hG : GoodIn gT (wsV own idx y.cls y (Cond.code y cb mL rt2 :: gT)) := gT_gi (fun w h => by
    rcases List.mem_append.mp h with h | h
    · simp only [List.mem_cons, List.not_mem_nil, or_false] at h
      rcases h with rfl | rfl | rfl | rfl
      · exact hlk
      · exact y6
      · exact y7
      · exact y1
    · rcases List.mem_cons.mp h with rfl | h
      · exact y2
      · exact h)
  refine va_calli (va_runV (C := y.cls) (As := As) (rest := st) ⟨C.1, C.2.1, C.2.2.1, C.2.2.2.1, C.2.2.2.2.1⟩ (hM H.size) (cwV nA C.2.2.2.2.1 hG rfl hrm.1 hrm.2 ⟨rfl, y3, y4, y5⟩ hR) ⟨gPre_blind, by rw [hcy]; exact vk_recv (adK := fun _ => D.2 77 0) C.2.2.2.2.2.2.2.2.2.2.1 (i := 0) Nat.zero_lt_one hS, fun U hU hW => ⟨rfl, by rw [hU], by rw [hU]; exact K.1 D H hP, va_K.moved hW.alike C.2.2.2.2.2.1, (K.2.1 A hD).weaken (fun _ _ _ _ => trivial), C.2.2.2.2.2.2.2.2.2.step hW hS hU hF⟩⟩ rfl hAn hl.1 hst (lv_room hrest) d hkn) hS (fun q _ h => hF q h) hF (fun r1 u t H1 locs1 ht hvm hw hB hz1 hk1 hS1 => ?_)
  obtain ⟨hP1, hK1, hD1⟩ := hB
  subst hw
  rw [ht] at hP1
  obtain ⟨hP2, hD2⟩ := K.2.2 D A H H1 hP hD hk1 hF hP1 hD1
  exact kk H1 locs1 ls hP2 hD2 hS1 hl
theorem g_callVl (C : gC p s m args meth c cc nL own D tys A rt) (Y : gYv y cb mL rt2 nA) (hlk : Cond.methodLink own idx y ∈ gT) (d : decode cc pc = .ok (.invokevirtual idx, 3)) {r : Int64} (hM : gMl l y cb mL rt2 rm D tys (.ref b :: As) wc r w1) (K : gCut ws wc w1 ws2) (hR : rm.frames + 1 ≤ R.frames ∧ 8 + (mL + 11) + rm.locals ≤ R.locals) (hrm : rm.cells = 0 ∧ rm.slots = 0) (hkn : k ≤ R.cells ∧ n ≤ R.slots) (hAn : As.length = nA) (hst : stk = As.reverse ++ .ref b :: st) (hrest : (st.map fun v => v.category).sum ≤ 8) (ci q0 : Nat) {vq : vw_C} {fs : List Value} (hci : vwCl[ci]? = some vq) (hcy : vq.1 = y.cls) (hq0 : ws[q0]? = some (b, .inr (ci, fs))) (kk : gG p l e R s m args below meth c nL D A k n Q (pc + 3) lv (.long r :: st) ws2) : gG p l e R s m args below meth c nL D A k n Q pc lv stk ws := by
  intro H locs ls hP hD hS hl
  have hF := g_free C K hD hS
  obtain ⟨⟨y1, y2, y3, y4, y5⟩, y6, y7⟩ := Y
  have hG : GoodIn gT (wsV own idx y.cls y (Cond.code y cb mL rt2 :: gT)) := gT_gi (fun w h => by
    rcases List.mem_append.mp h with h | h
    · simp only [List.mem_cons, List.not_mem_nil, or_false] at h
      rcases h with rfl | rfl | rfl | rfl
      · exact hlk
      · exact y6
      · exact y7
      · exact y1
    · rcases List.mem_cons.mp h with rfl | h
      · exact y2
      · exact h)
  refine va_calll (va_runV (C := y.cls) (As := As) (rest := st) ⟨C.1, C.2.1, C.2.2.1, C.2.2.2.1, C.2.2.2.2.1⟩ (hM H.size) (cwV nA C.2.2.2.2.1 hG rfl hrm.1 hrm.2 ⟨rfl, y3, y4, y5⟩ hR) ⟨gPre_blind, by rw [← hcy]; exact va_recv C.2.2.2.2.2.1 hP hci hq0, fun U hU hW => ⟨rfl, by rw [hU], by rw [hU]; exact K.1 D H hP, va_K.moved hW.alike C.2.2.2.2.2.1, (K.2.1 A hD).weaken (fun _ _ _ _ => trivial), C.2.2.2.2.2.2.2.2.2.step hW hS hU hF⟩⟩ rfl hAn hl.1 hst (lv_room hrest) d hkn) hS (fun q _ h => hF q h) hF (fun r1 u t H1 locs1 ht hvm hw hB hz1 hk1 hS1 => ?_)
  obtain ⟨hP1, hK1, hD1⟩ := hB
  subst hw
  rw [ht] at hP1
  obtain ⟨hP2, hD2⟩ := K.2.2 D A H H1 hP hD hk1 hF hP1 hD1
  exact kk H1 locs1 ls hP2 hD2 hS1 hl
theorem g_callSl (C : gC p s m args meth c cc nL own D tys A rt) (Y : gYs y cb mL rt2 nA) (hlk : Cond.methodLink own idx y ∈ gT) (d : decode cc pc = .ok (.invokestatic idx, 3)) {r : Int64} (hM : gMl l y cb mL rt2 rm D tys As wc r w1) (K : gCut ws wc w1 ws2) (hR : rm.frames + 1 ≤ R.frames ∧ 8 + (mL + 11) + rm.locals ≤ R.locals) (hrm : rm.cells = 0 ∧ rm.slots = 0) (hkn : k ≤ R.cells ∧ n ≤ R.slots) (hAn : As.length = nA) (hst : stk = As.reverse ++ st) (hrest : (st.map fun v => v.category).sum ≤ 8) (kk : gG p l e R s m args below meth c nL D A k n Q (pc + 3) lv (.long r :: st) ws2) : gG p l e R s m args below meth c nL D A k n Q pc lv stk ws := by
  intro H locs ls hP hD hS hl
  have hF := g_free C K hD hS
  obtain ⟨⟨y1, y2, y3, y4, y5⟩, y6⟩ := Y
  have hG : GoodIn gT (va_wsS own idx y (Cond.code y cb mL rt2 :: gT)) := gT_gi (fun w h => by
    rcases List.mem_append.mp h with h | h
    · simp only [List.mem_cons, List.not_mem_nil, or_false] at h
      rcases h with rfl | rfl | rfl
      · exact hlk
      · exact y6
      · exact y1
    · rcases List.mem_cons.mp h with rfl | h
      · exact y2
      · exact h)
  refine va_calll (va_runS (As := As) (rest := st) ⟨C.1, C.2.1, C.2.2.1, C.2.2.2.1, C.2.2.2.2.1⟩ (hM H.size) (va_cwS nA C.2.2.2.2.1 hG rfl hrm.1 hrm.2 ⟨y3, y4, y5⟩ hR) ⟨gPre_blind, fun U hU hW => ⟨rfl, by rw [hU], by rw [hU]; exact K.1 D H hP, va_K.moved hW.alike C.2.2.2.2.2.1, (K.2.1 A hD).weaken (fun _ _ _ _ => trivial), C.2.2.2.2.2.2.2.2.2.step hW hS hU hF⟩⟩ rfl hAn hl.1 hst (lv_room hrest) d hkn) hS (fun q _ h => hF q h) hF (fun r1 u t H1 locs1 ht hvm hw hB hz1 hk1 hS1 => ?_)
  obtain ⟨hP1, hK1, hD1⟩ := hB
  subst hw
  rw [ht] at hP1
  obtain ⟨hP2, hD2⟩ := K.2.2 D A H H1 hP hD hk1 hF hP1 hD1
  exact kk H1 locs1 ls hP2 hD2 hS1 hl
theorem g_callVv (C : gC p s m args meth c cc nL own D tys A rt) (Y : gYv y cb mL rt2 nA) (hlk : Cond.methodLink own idx y ∈ gT) (d : decode cc pc = .ok (.invokevirtual idx, 3)) (hM : gMv l y cb mL rt2 rm D tys (.ref b :: As) wc w1) (K : gCut ws wc w1 ws2) (hR : rm.frames + 1 ≤ R.frames ∧ 8 + (mL + 11) + rm.locals ≤ R.locals) (hrm : rm.cells = 0 ∧ rm.slots = 0) (hkn : k ≤ R.cells ∧ n ≤ R.slots) (hAn : As.length = nA) (hst : stk = As.reverse ++ .ref b :: st) (hrest : (st.map fun v => v.category).sum ≤ 8) (ci q0 : Nat) {vq : vw_C} {fs : List Value} (hci : vwCl[ci]? = some vq) (hcy : vq.1 = y.cls) (hq0 : ws[q0]? = some (b, .inr (ci, fs))) (kk : gG p l e R s m args below meth c nL D A k n Q (pc + 3) lv st ws2) : gG p l e R s m args below meth c nL D A k n Q pc lv stk ws := by
  intro H locs ls hP hD hS hl
  have hF := g_free C K hD hS
  obtain ⟨⟨y1, y2, y3, y4, y5⟩, y6, y7⟩ := Y
  have hG : GoodIn gT (wsV own idx y.cls y (Cond.code y cb mL rt2 :: gT)) := gT_gi (fun w h => by
    rcases List.mem_append.mp h with h | h
    · simp only [List.mem_cons, List.not_mem_nil, or_false] at h
      rcases h with rfl | rfl | rfl | rfl
      · exact hlk
      · exact y6
      · exact y7
      · exact y1
    · rcases List.mem_cons.mp h with rfl | h
      · exact y2
      · exact h)
  refine va_callv (va_runV (C := y.cls) (As := As) (rest := st) ⟨C.1, C.2.1, C.2.2.1, C.2.2.2.1, C.2.2.2.2.1⟩ (hM H.size) (cwV nA C.2.2.2.2.1 hG rfl hrm.1 hrm.2 ⟨rfl, y3, y4, y5⟩ hR) ⟨gPre_blind, by rw [← hcy]; exact va_recv C.2.2.2.2.2.1 hP hci hq0, fun U hU hW => ⟨rfl, by rw [hU], by rw [hU]; exact K.1 D H hP, va_K.moved hW.alike C.2.2.2.2.2.1, (K.2.1 A hD).weaken (fun _ _ _ _ => trivial), C.2.2.2.2.2.2.2.2.2.step hW hS hU hF⟩⟩ rfl hAn hl.1 hst (lv_room hrest) d hkn) hS (fun q _ h => hF q h) hF (fun u t H1 locs1 ht hvm hw hB hz1 hk1 hS1 => ?_)
  obtain ⟨hP1, hK1, hD1⟩ := hB
  rw [ht] at hP1
  obtain ⟨hP2, hD2⟩ := K.2.2 D A H H1 hP hD hk1 hF hP1 hD1
  exact kk H1 locs1 ls hP2 hD2 hS1 hl
theorem g_callSv (C : gC p s m args meth c cc nL own D tys A rt) (Y : gYs y cb mL rt2 nA) (hlk : Cond.methodLink own idx y ∈ gT) (d : decode cc pc = .ok (.invokestatic idx, 3)) (hM : gMv l y cb mL rt2 rm D tys As wc w1) (K : gCut ws wc w1 ws2) (hR : rm.frames + 1 ≤ R.frames ∧ 8 + (mL + 11) + rm.locals ≤ R.locals) (hrm : rm.cells = 0 ∧ rm.slots = 0) (hkn : k ≤ R.cells ∧ n ≤ R.slots) (hAn : As.length = nA) (hst : stk = As.reverse ++ st) (hrest : (st.map fun v => v.category).sum ≤ 8) (kk : gG p l e R s m args below meth c nL D A k n Q (pc + 3) lv st ws2) : gG p l e R s m args below meth c nL D A k n Q pc lv stk ws := by
  intro H locs ls hP hD hS hl
  have hF := g_free C K hD hS
  obtain ⟨⟨y1, y2, y3, y4, y5⟩, y6⟩ := Y
  have hG : GoodIn gT (va_wsS own idx y (Cond.code y cb mL rt2 :: gT)) := gT_gi (fun w h => by
    rcases List.mem_append.mp h with h | h
    · simp only [List.mem_cons, List.not_mem_nil, or_false] at h
      rcases h with rfl | rfl | rfl
      · exact hlk
      · exact y6
      · exact y1
    · rcases List.mem_cons.mp h with rfl | h
      · exact y2
      · exact h)
  refine va_callv (va_runS (As := As) (rest := st) ⟨C.1, C.2.1, C.2.2.1, C.2.2.2.1, C.2.2.2.2.1⟩ (hM H.size) (va_cwS nA C.2.2.2.2.1 hG rfl hrm.1 hrm.2 ⟨y3, y4, y5⟩ hR) ⟨gPre_blind, fun U hU hW => ⟨rfl, by rw [hU], by rw [hU]; exact K.1 D H hP, va_K.moved hW.alike C.2.2.2.2.2.1, (K.2.1 A hD).weaken (fun _ _ _ _ => trivial), C.2.2.2.2.2.2.2.2.2.step hW hS hU hF⟩⟩ rfl hAn hl.1 hst (lv_room hrest) d hkn) hS (fun q _ h => hF q h) hF (fun u t H1 locs1 ht hvm hw hB hz1 hk1 hS1 => ?_)
  obtain ⟨hP1, hK1, hD1⟩ := hB
  rw [ht] at hP1
  obtain ⟨hP2, hD2⟩ := K.2.2 D A H H1 hP hD hk1 hF hP1 hD1
  exact kk H1 locs1 ls hP2 hD2 hS1 hl
theorem g_callVr (C : gC p s m args meth c cc nL own D tys A rt) (Y : gYv y cb mL rt2 nA) (hlk : Cond.methodLink own idx y ∈ gT) (d : decode cc pc = .ok (.invokevirtual idx, 3)) {r : Nat} (hM : gMr l y cb mL rt2 rm D tys (.ref b :: As) wc r w1) (K : gCut ws wc w1 ws2) (hR : rm.frames + 1 ≤ R.frames ∧ 8 + (mL + 11) + rm.locals ≤ R.locals) (hrm : rm.cells = 0 ∧ rm.slots = 0) (hkn : k ≤ R.cells ∧ n ≤ R.slots) (hAn : As.length = nA) (hst : stk = As.reverse ++ .ref b :: st) (hrest : (st.map fun v => v.category).sum ≤ 8) (ci q0 : Nat) {vq : vw_C} {fs : List Value} (hci : vwCl[ci]? = some vq) (hcy : vq.1 = y.cls) (hq0 : ws[q0]? = some (b, .inr (ci, fs))) (kk : gG p l e R s m args below meth c nL D A k n Q (pc + 3) lv (.ref r :: st) ws2) : gG p l e R s m args below meth c nL D A k n Q pc lv stk ws := by
  intro H locs ls hP hD hS hl
  have hF := g_free C K hD hS
  obtain ⟨⟨y1, y2, y3, y4, y5⟩, y6, y7⟩ := Y
  have hG : GoodIn gT (wsV own idx y.cls y (Cond.code y cb mL rt2 :: gT)) := gT_gi (fun w h => by
    rcases List.mem_append.mp h with h | h
    · simp only [List.mem_cons, List.not_mem_nil, or_false] at h
      rcases h with rfl | rfl | rfl | rfl
      · exact hlk
      · exact y6
      · exact y7
      · exact y1
    · rcases List.mem_cons.mp h with rfl | h
      · exact y2
      · exact h)
  refine va_callr (va_runV (C := y.cls) (As := As) (rest := st) ⟨C.1, C.2.1, C.2.2.1, C.2.2.2.1, C.2.2.2.2.1⟩ (hM H.size) (cwV nA C.2.2.2.2.1 hG rfl hrm.1 hrm.2 ⟨rfl, y3, y4, y5⟩ hR) ⟨gPre_blind, by rw [← hcy]; exact va_recv C.2.2.2.2.2.1 hP hci hq0, fun U hU hW => ⟨rfl, by rw [hU], by rw [hU]; exact K.1 D H hP, va_K.moved hW.alike C.2.2.2.2.2.1, (K.2.1 A hD).weaken (fun _ _ _ _ => trivial), C.2.2.2.2.2.2.2.2.2.step hW hS hU hF⟩⟩ rfl hAn hl.1 hst (lv_room hrest) d hkn) hS (fun q _ h => hF q h) hF (fun u r1 t H1 locs1 ht hvm hw hB hz1 hk1 hS1 => ?_)
  obtain ⟨hr1, hP1, hK1, hD1⟩ := hB
  subst hr1
  rw [ht] at hP1
  obtain ⟨hP2, hD2⟩ := K.2.2 D A H H1 hP hD hk1 hF hP1 hD1
  exact kk H1 locs1 ls hP2 hD2 hS1 hl
theorem g_callSr (C : gC p s m args meth c cc nL own D tys A rt) (Y : gYs y cb mL rt2 nA) (hlk : Cond.methodLink own idx y ∈ gT) (d : decode cc pc = .ok (.invokestatic idx, 3)) {r : Nat} (hM : gMr l y cb mL rt2 rm D tys As wc r w1) (K : gCut ws wc w1 ws2) (hR : rm.frames + 1 ≤ R.frames ∧ 8 + (mL + 11) + rm.locals ≤ R.locals) (hrm : rm.cells = 0 ∧ rm.slots = 0) (hkn : k ≤ R.cells ∧ n ≤ R.slots) (hAn : As.length = nA) (hst : stk = As.reverse ++ st) (hrest : (st.map fun v => v.category).sum ≤ 8) (kk : gG p l e R s m args below meth c nL D A k n Q (pc + 3) lv (.ref r :: st) ws2) : gG p l e R s m args below meth c nL D A k n Q pc lv stk ws := by
  intro H locs ls hP hD hS hl
  have hF := g_free C K hD hS
  obtain ⟨⟨y1, y2, y3, y4, y5⟩, y6⟩ := Y
  have hG : GoodIn gT (va_wsS own idx y (Cond.code y cb mL rt2 :: gT)) := gT_gi (fun w h => by
    rcases List.mem_append.mp h with h | h
    · simp only [List.mem_cons, List.not_mem_nil, or_false] at h
      rcases h with rfl | rfl | rfl
      · exact hlk
      · exact y6
      · exact y1
    · rcases List.mem_cons.mp h with rfl | h
      · exact y2
      · exact h)
  refine va_callr (va_runS (As := As) (rest := st) ⟨C.1, C.2.1, C.2.2.1, C.2.2.2.1, C.2.2.2.2.1⟩ (hM H.size) (va_cwS nA C.2.2.2.2.1 hG rfl hrm.1 hrm.2 ⟨y3, y4, y5⟩ hR) ⟨gPre_blind, fun U hU hW => ⟨rfl, by rw [hU], by rw [hU]; exact K.1 D H hP, va_K.moved hW.alike C.2.2.2.2.2.1, (K.2.1 A hD).weaken (fun _ _ _ _ => trivial), C.2.2.2.2.2.2.2.2.2.step hW hS hU hF⟩⟩ rfl hAn hl.1 hst (lv_room hrest) d hkn) hS (fun q _ h => hF q h) hF (fun u r1 t H1 locs1 ht hvm hw hB hz1 hk1 hS1 => ?_)
  obtain ⟨hr1, hP1, hK1, hD1⟩ := hB
  subst hr1
  rw [ht] at hP1
  obtain ⟨hP2, hD2⟩ := K.2.2 D A H H1 hP hD hk1 hF hP1 hD1
  exact kk H1 locs1 ls hP2 hD2 hS1 hl
end GCall
theorem gMi_of {l : Launch} {y : MethodName} {cb : ByteArray} {mL : Nat} {rt : Option FieldType} {rm : Room} {D : va_G} {tys : List (ClassId × FieldType)} {av : List Value} {w0 : va_W} {r : Int32} {w1 : va_W} {lv0 : List (Nat × Value)} (hy : plainName y.cls = true) (hlen : (lg_sl av).length ≤ mL) (hlv : lv_args 0 av = lv0) (body : ∀ (p : Program) (e : Env) (s : State) (m : MethodId) (args : Array Value) (below : List Frame) (meth : Method) (c : Code) (A : Nat → Prop) (Q : State → Prop), gC p s m args meth c cb mL y.cls D tys A rt → Q = MQ below (gQi D tys A r w1) args s 0 0 A → gG p l e rm s m args below meth c mL D A 0 0 Q 0 lv0 [] w0) : gMi l y cb mL rt rm D tys av w0 r w1 := by
  intro sz
  subst hlv
  refine Met.ofW (cc := cb) (maxL := mL) (ret := rt) hy rfl ?_
  intro p e s m args below meth c s₁ B hml hv
  obtain ⟨rfl, hsz, hP, hK, hD0, hX0⟩ := hv
  subst hsz
  have hts := atoms_spec (ws := Cond.code y cb mL rt :: gT) B.pre
  have hl := lv_entry av (n := mL) hlen
  rw [lg_entry_eq]
  exact body p e s m _ below meth c _ _ ⟨B.exec, B.bytes, hml, findClass_of_methodNamed B.named, fun w h => hts w (List.mem_cons_of_mem _ h), hK, fun q h => Or.inr h, B.notSynchronized, B.returns, hX0⟩ rfl s.heap [] _ hP (hD0.self (sz := s.heap.size)) va_S.rf hl
theorem gMl_of {l : Launch} {y : MethodName} {cb : ByteArray} {mL : Nat} {rt : Option FieldType} {rm : Room} {D : va_G} {tys : List (ClassId × FieldType)} {av : List Value} {w0 : va_W} {r : Int64} {w1 : va_W} {lv0 : List (Nat × Value)} (hy : plainName y.cls = true) (hlen : (lg_sl av).length ≤ mL) (hlv : lv_args 0 av = lv0) (body : ∀ (p : Program) (e : Env) (s : State) (m : MethodId) (args : Array Value) (below : List Frame) (meth : Method) (c : Code) (A : Nat → Prop) (Q : State → Prop), gC p s m args meth c cb mL y.cls D tys A rt → Q = MQ below (gQl D tys A r w1) args s 0 0 A → gG p l e rm s m args below meth c mL D A 0 0 Q 0 lv0 [] w0) : gMl l y cb mL rt rm D tys av w0 r w1 := by
  intro sz
  subst hlv
  refine Met.ofW (cc := cb) (maxL := mL) (ret := rt) hy rfl ?_
  intro p e s m args below meth c s₁ B hml hv
  obtain ⟨rfl, hsz, hP, hK, hD0, hX0⟩ := hv
  subst hsz
  have hts := atoms_spec (ws := Cond.code y cb mL rt :: gT) B.pre
  have hl := lv_entry av (n := mL) hlen
  rw [lg_entry_eq]
  exact body p e s m _ below meth c _ _ ⟨B.exec, B.bytes, hml, findClass_of_methodNamed B.named, fun w h => hts w (List.mem_cons_of_mem _ h), hK, fun q h => Or.inr h, B.notSynchronized, B.returns, hX0⟩ rfl s.heap [] _ hP (hD0.self (sz := s.heap.size)) va_S.rf hl
theorem gMv_of {l : Launch} {y : MethodName} {cb : ByteArray} {mL : Nat} {rt : Option FieldType} {rm : Room} {D : va_G} {tys : List (ClassId × FieldType)} {av : List Value} {w0 : va_W} {w1 : va_W} {lv0 : List (Nat × Value)} (hy : plainName y.cls = true) (hlen : (lg_sl av).length ≤ mL) (hlv : lv_args 0 av = lv0) (body : ∀ (p : Program) (e : Env) (s : State) (m : MethodId) (args : Array Value) (below : List Frame) (meth : Method) (c : Code) (A : Nat → Prop) (Q : State → Prop), gC p s m args meth c cb mL y.cls D tys A rt → Q = MQ below (gQv D tys A w1) args s 0 0 A → gG p l e rm s m args below meth c mL D A 0 0 Q 0 lv0 [] w0) : gMv l y cb mL rt rm D tys av w0 w1 := by
  intro sz
  subst hlv
  refine Met.ofW (cc := cb) (maxL := mL) (ret := rt) hy rfl ?_
  intro p e s m args below meth c s₁ B hml hv
  obtain ⟨rfl, hsz, hP, hK, hD0, hX0⟩ := hv
  subst hsz
  have hts := atoms_spec (ws := Cond.code y cb mL rt :: gT) B.pre
  have hl := lv_entry av (n := mL) hlen
  rw [lg_entry_eq]
  exact body p e s m _ below meth c _ _ ⟨B.exec, B.bytes, hml, findClass_of_methodNamed B.named, fun w h => hts w (List.mem_cons_of_mem _ h), hK, fun q h => Or.inr h, B.notSynchronized, B.returns, hX0⟩ rfl s.heap [] _ hP (hD0.self (sz := s.heap.size)) va_S.rf hl
theorem gMr_of {l : Launch} {y : MethodName} {cb : ByteArray} {mL : Nat} {rt : Option FieldType} {rm : Room} {D : va_G} {tys : List (ClassId × FieldType)} {av : List Value} {w0 : va_W} {r : Nat} {w1 : va_W} {lv0 : List (Nat × Value)} (hy : plainName y.cls = true) (hlen : (lg_sl av).length ≤ mL) (hlv : lv_args 0 av = lv0) (body : ∀ (p : Program) (e : Env) (s : State) (m : MethodId) (args : Array Value) (below : List Frame) (meth : Method) (c : Code) (A : Nat → Prop) (Q : State → Prop), gC p s m args meth c cb mL y.cls D tys A rt → Q = MQ below (gQr D tys A r w1) args s 0 0 A → gG p l e rm s m args below meth c mL D A 0 0 Q 0 lv0 [] w0) : gMr l y cb mL rt rm D tys av w0 r w1 := by
  intro sz
  subst hlv
  refine Met.ofW (cc := cb) (maxL := mL) (ret := rt) hy rfl ?_
  intro p e s m args below meth c s₁ B hml hv
  obtain ⟨rfl, hsz, hP, hK, hD0, hX0⟩ := hv
  subst hsz
  have hts := atoms_spec (ws := Cond.code y cb mL rt :: gT) B.pre
  have hl := lv_entry av (n := mL) hlen
  rw [lg_entry_eq]
  exact body p e s m _ below meth c _ _ ⟨B.exec, B.bytes, hml, findClass_of_methodNamed B.named, fun w h => hts w (List.mem_cons_of_mem _ h), hK, fun q h => Or.inr h, B.notSynchronized, B.returns, hX0⟩ rfl s.heap [] _ hP (hD0.self (sz := s.heap.size)) va_S.rf hl
