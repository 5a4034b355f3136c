def gMc {U : Type} (l : Launch) (y : MethodName) (cb : ByteArray) (mL : Nat) (rm : Room) (D : va_G) (tys : List (ClassId × FieldType)) (av : List Value) (w0 : va_W) (w1 : U → va_W) (mc ms : Nat) : Prop := ∀ sz : Nat, Met l y (Cond.code y cb mL none :: gT) rm (gPre D tys av w0 sz) (va_Qv (fun _ : U => True) (fun u t => gB D tys (va_A w0 sz) (w1 u) () t) (va_A w0 sz)) mc ms (va_A w0 sz)
theorem va_RA_inj {s : State} {c1 c2 : ClassId} {ty : FieldType} (hp : ∀ C, ty ≠ .object C) (h1 : va_RA s c1 ty) (h2 : va_RA s c2 ty) : c1 = c2 := by
  cases ty with
  | object C => exact absurd rfl (hp C)
  | _ => exact Option.some.inj (Eq.trans (Eq.symm h1) h2)
section GCtor
variable {p : Program} {l : Launch} {e : Env} {R : Room} {s : State} {m : MethodId} {args : Array Value} {below : List Frame} {meth : Method} {c : Code} {cc : ByteArray} {nL : Nat} {own : String} {D : va_G} {tys : List (ClassId × FieldType)} {A : Nat → Prop} {rt : Option FieldType} {k n : Nat} {Q : State → Prop} {pc : Nat} {lv : List (Nat × Value)} {st stk : List Value} {ws w0 : va_W} {y : MethodName} {cb : ByteArray} {mL nA idx mc ms : Nat} {rm : Room} {b : Nat} {As : List Value} {U : Type} {w1 : U → va_W}
theorem g_obj (C : gC p s m args meth c cc nL own D tys A rt) {idx : Nat} {a : Nat} (d : decode cc pc = .ok (.invokespecial idx, 3)) (h1 : Cond.methodLink own idx objectInit ∈ gT) (h2 : Cond.instanceMethod objectInit ∈ gT) (h3 : Cond.code objectInit ⟨#[0xb1]⟩ 1 none ∈ gT) (hfr : 1 ≤ R.frames) (hlo : (st.map fun v => v.category).sum + 12 ≤ R.locals) (kk : gG p l e R s m args below meth c nL D A k n Q (pc + 3) lv st ws) : gG p l e R s m args below meth c nL D A k n Q pc lv (.ref a :: st) ws := by
  intro H locs ls hP hD hS hl
  refine W.objInit C.1 C.2.1 C.2.2.2.1 (C.2.2.2.2.1 _ h1) (C.2.2.2.2.1 _ h2) (C.2.2.2.2.1 _ h3) rfl (by rw [C.2.2.1]; exact hl.1) rfl d hfr (by show 2 * 0 + _ + 12 ≤ _; omega) ?_
  exact W.eq (g2 := F0 m (pc + 3) ls st) rfl (kk H locs ls hP hD hS hl)
theorem g_newa (C : gC p s m args meth c cc nL own D tys A rt) {atype : ArrayType} {ty : FieldType} (d : decode cc pc = .ok (.newarray atype, 2)) (harr : Cond.arrayClass ty ∈ gT) (hty : newarray.typeOf atype = ty) (hp : ∀ Cn, ty ≠ .object Cn) (t0 : Nat) {cX : ClassId} (ht : tys[t0]? = some (cX, ty)) {z : Int32} {N : Nat} {a0 : vp_A} (ha : ∀ cA : ClassId, vp_cell cA a0 = arrV cA N (fun _ => defaultValue ty)) (hn : ¬ z < 0) (hN : z.toNatClampNeg = N) (hb : N * componentBytes ty ≤ 536870912) (hkc : k + 1 ≤ R.cells) (hks : n + N ≤ R.slots) (kk : ∀ q : Nat, gG p l e R s m args below meth c nL D A (k + 1) (n + N) Q (pc + 2) lv (.ref q :: st) (ws ++ [(q, .inl (cX, a0))])) : gG p l e R s m args below meth c nL D A k n Q pc lv (.int z :: st) ws := by
  intro H locs ls hP hD hS hl
  refine va_newa C.1 C.2.1 (by rw [hty]; exact C.2.2.2.2.1 _ harr) hty C.2.2.2.2.2.1 hP hD hS C.2.2.2.2.2.2.1 ha hn hN hb hkc hks d (fun q cA H1 hK1 hP1 hD1 hS1 => ?_)
  have e1 : cA = cX := va_RA_inj hp (hK1.2 tys.length (cA, ty) (by simp)).2 (C.2.2.2.2.2.1.2 t0 _ ht).2
  subst e1
  exact kk q H1 locs ls hP1 hD1 hS1 hl
theorem g_putF (C : gC p s m args meth c cc nL own D tys A rt) {idx ci kf : Nat} {ty : FieldType} {Cn : String} {T : u_T} {N : Nat} (ty0 : Nat → FieldType) (f1 : vwCl[ci]? = some (Cn, T, N)) (f2 : kf < N) (f3 : ∀ w ∈ u_ws Cn T N, w ∈ gT) (f4 : Cond.fieldLink own idx (T kf).1 (T kf).2.1 (T kf).2.2.1 ∈ gT) (f5 : ∀ k, k < N → parseFieldDescriptor (T k).2.2.1 = some (ty0 k)) (f6 : ∀ a, a < N → ∀ b, b < N → a ≠ b → (T a).2.1 ≠ (T b).2.1) (f7 : (T kf).2.2.2 = true) (hin : meth.name = "<init>") (hdecl : (T kf).1 = own) (f8 : parseFieldDescriptor (T kf).2.2.1 = some ty) (d : decode cc pc = .ok (.putfield idx, 3)) (q0 : Nat) {a : Nat} {fs : List Value} {v : Value} {ws2 : va_W} (he : ws[q0]? = some (a, .inr (ci, fs))) (hn : narrow ty v = v) (hf : fits ty v = true) (hlt : kf < fs.length) (hw : ws.set q0 (a, .inr (ci, fs.set kf v)) = ws2) (kk : gG p l e R s m args below meth c nL D A k n Q (pc + 3) lv st ws2) : gG p l e R s m args below meth c nL D A k n Q pc lv (v :: .ref a :: st) ws := by
  subst hw
  exact fun H locs ls hP hD hS hl => va_putF C.1 C.2.1 C.2.2.2.2.1 f3 ty0 f5 f6 C.2.2.2.1 C.2.2.2.2.2.1 hP hD hS q0 he f1 kf f2 (C.2.2.2.2.1 _ f4) (fun _ h => h) f7 hin hdecl f8 hn hf hlt d (fun H1 locs1 hP1 hD1 hS1 => kk H1 locs1 ls hP1 hD1 hS1 hl)
theorem g_new (C : gC p s m args meth c cc nL own D tys A rt) {idx ci : Nat} {Cn : String} {T : u_T} {N : Nat} (ty0 : Nat → FieldType) (f1 : vwCl[ci]? = some (Cn, T, N)) (f3 : ∀ w ∈ u_ws Cn T N, w ∈ gT) (f5 : ∀ k, k < N → parseFieldDescriptor (T k).2.2.1 = some (ty0 k)) (h1 : Cond.classLink own idx Cn ∈ gT) (h2 : Cond.instantiable Cn N ∈ gT) (h3 : Cond.initialized Cn ∈ gT) {fs : List Value} (hfs : ∀ j, j < N → defaultValue (ty0 j) = vp_V fs j) (hkc : k + 1 ≤ R.cells) (hks : n + N ≤ R.slots) (d : decode cc pc = .ok (.new idx, 3)) (kk : ∀ q : Nat, gG p l e R s m args below meth c nL D A (k + 1) (n + N) Q (pc + 3) lv (.ref q :: st) (ws ++ [(q, .inr (ci, fs))])) : gG p l e R s m args below meth c nL D A k n Q pc lv st ws := fun H locs ls hP hD hS hl => va_new C.1 C.2.1 C.2.2.2.2.1 f3 ty0 f5 C.2.2.2.1 (C.2.2.2.2.1 _ h1) (C.2.2.2.2.1 _ h2) (C.2.2.2.2.1 _ h3) C.2.2.2.2.2.1 hP hD hS C.2.2.2.2.2.2.1 f1 hfs hkc hks d (fun q H1 hP1 hD1 hS1 => kk q H1 locs ls hP1 hD1 hS1 hl)
theorem g_callI (C : gC p s m args meth c cc nL own D tys A rt) (Y : gY y cb mL none nA) (hinst : Cond.instanceMethod y ∈ gT) (hname : y.name = "<init>") (hlk : Cond.methodLink own idx y ∈ gT) (d : decode cc pc = .ok (.invokespecial idx, 3)) (hM : gMc l y cb mL rm D tys (.ref b :: As) w0 w1 mc ms) (hR : rm.frames + 1 ≤ R.frames ∧ 8 + (mL + 11) + rm.locals ≤ R.locals) (hrm : rm.cells = mc ∧ rm.slots = ms) (hkn : k + mc ≤ R.cells ∧ n + ms ≤ R.slots) (hAn : As.length = nA) (hst : stk = As.reverse ++ .ref b :: st) (hrest : (st.map fun v => v.category).sum ≤ 8) (isC isR : List Nat) (hC : isC.map (fun i => ws[i]?) = w0.map some) (hR2 : isR.map (fun i => ws[i]?) = (isR.filterMap (fun i => ws[i]?)).map some) (hnC : va_nd isC = true) (hn : va_nd isR = true) (hdis : ∀ i ∈ isR, i ∉ isC) (kk : ∀ u : U, gG p l e R s m args below meth c nL D A (k + mc) (n + ms) Q (pc + 3) lv st (isR.filterMap (fun i => ws[i]?) ++ w1 u)) : gG p l e R s m args below meth c nL D A k n Q pc lv stk ws := by
  intro H locs ls hP hD hS hl
  have hF := va_free hD hS C.2.2.2.2.2.2.1 isC hC
  obtain ⟨y1, y2, y3, y4, y5⟩ := Y
  have hG : GoodIn gT (Cond.code y cb mL none :: gT) := gT_gi (fun w h => by
    rcases List.mem_cons.mp h with rfl | h
    · exact y2
    · exact h)
  refine va_callv (va_runI (As := As) (rest := st) ⟨C.1, C.2.1, C.2.2.1, C.2.2.2.1, C.2.2.2.2.1⟩ (hM H.size) (cwI nA C.2.2.2.2.1 hG rfl hrm.1 hrm.2 (C.2.2.2.2.1 _ y1) (C.2.2.2.2.1 _ hlk) (C.2.2.2.2.1 _ hinst) hname ⟨y3, y4, y5⟩ hR) ⟨gPre_blind, fun U hU hW => ⟨rfl, by rw [hU], by rw [hU]; exact hP.sub isC (g_fm hC), va_K.moved hW.alike C.2.2.2.2.2.1, (hD.sub isC hnC hC).weaken (fun _ _ _ _ => trivial), C.2.2.2.2.2.2.2.2.2.step hW hS hU hF⟩⟩ rfl hAn hl.1 hst (lv_room hrest) d hkn) hS (fun q _ h => hF q h) hF (fun u t H1 locs1 ht hvm hw hB hz1 hk1 hS1 => ?_)
  obtain ⟨hP1, hK1, hD1⟩ := hB
  rw [ht] at hP1
  obtain ⟨hP2, hD2⟩ := va_join hP hD isC isR hC hR2 hn hdis hk1 hF hP1 hD1
  exact kk u H1 locs1 ls hP2 hD2 hS1 hl
theorem g_callIN (C : gC p s m args meth c cc nL own D tys A rt) (Y : gY y cb mL none nA) (hinst : Cond.instanceMethod y ∈ gT) (hname : y.name = "<init>") {host : String} (hlk : va_Nw (.methodLinkNest own idx y host) s) (d : decode cc pc = .ok (.invokespecial idx, 3)) (hM : gMc l y cb mL rm D tys (.ref b :: As) w0 w1 mc ms) (hR : rm.frames + 1 ≤ R.frames ∧ 8 + (mL + 11) + rm.locals ≤ R.locals) (hrm : rm.cells = mc ∧ rm.slots = ms) (hkn : k + mc ≤ R.cells ∧ n + ms ≤ R.slots) (hAn : As.length = nA) (hst : stk = As.reverse ++ .ref b :: st) (hrest : (st.map fun v => v.category).sum ≤ 8) (isC isR : List Nat) (hC : isC.map (fun i => ws[i]?) = w0.map some) (hR2 : isR.map (fun i => ws[i]?) = (isR.filterMap (fun i => ws[i]?)).map some) (hnC : va_nd isC = true) (hn : va_nd isR = true) (hdis : ∀ i ∈ isR, i ∉ isC) (kk : ∀ u : U, gG p l e R s m args below meth c nL D A (k + mc) (n + ms) Q (pc + 3) lv st (isR.filterMap (fun i => ws[i]?) ++ w1 u)) : gG p l e R s m args below meth c nL D A k n Q pc lv stk ws := by
  intro H locs ls hP hD hS hl
  have hF := va_free hD hS C.2.2.2.2.2.2.1 isC hC
  obtain ⟨y1, y2, y3, y4, y5⟩ := Y
  have hG : GoodIn gT (Cond.code y cb mL none :: gT) := gT_gi (fun w h => by
    rcases List.mem_cons.mp h with rfl | h
    · exact y2
    · exact h)
  refine va_callv (va_runIN (As := As) (rest := st) ⟨C.1, C.2.1, C.2.2.1, C.2.2.2.1, C.2.2.2.2.1⟩ (hM H.size) ⟨va_cnB nA C.2.2.2.2.1 hG rfl hrm.1 hrm.2 hlk (C.2.2.2.2.1 _ y1) ⟨y3, y4, y5⟩ hR, hname, C.2.2.2.2.1 _ hinst⟩ ⟨gPre_blind, fun U hU hW => ⟨rfl, by rw [hU], by rw [hU]; exact hP.sub isC (g_fm hC), va_K.moved hW.alike C.2.2.2.2.2.1, (hD.sub isC hnC hC).weaken (fun _ _ _ _ => trivial), C.2.2.2.2.2.2.2.2.2.step hW hS hU hF⟩⟩ rfl hAn hl.1 hst (lv_room hrest) d hkn) hS (fun q _ h => hF q h) hF (fun u t H1 locs1 ht hvm hw hB hz1 hk1 hS1 => ?_)
  obtain ⟨hP1, hK1, hD1⟩ := hB
  rw [ht] at hP1
  obtain ⟨hP2, hD2⟩ := va_join hP hD isC isR hC hR2 hn hdis hk1 hF hP1 hD1
  exact kk u H1 locs1 ls hP2 hD2 hS1 hl
theorem g_cret (C : gC p s m args meth c cc nL own D tys A none) (u : U) (is : List Nat) (d : decode cc pc = .ok (.return_, 1)) (hn : va_nd is = true) (h2 : is.map (fun i => ws[i]?) = (w1 u).map some) (hQ : Q = MQ below (va_Qv (fun _ : U => True) (fun u t => gB D tys A (w1 u) () t) A) args s k n A) : gG p l e R s m args below meth c nL D A k n Q pc lv [] ws := by
  subst hQ
  exact fun H locs ls hP hD hS hl => W.vret C.1 C.2.1 C.2.2.2.2.2.2.2.2.1 (fun t ht hW => ⟨⟨u, rfl, trivial, by rw [ht]; exact hP.sub is (g_fm h2), va_K.moved hW.alike C.2.2.2.2.2.1, hD.sub is hn h2⟩, hS.F ht⟩) hS.2.2 d C.2.2.2.2.2.2.2.1
theorem g_wid {k2 n2 : Nat} (h1 : k = k2) (h2 : n = n2) (kk : gG p l e R s m args below meth c nL D A k2 n2 Q pc lv stk ws) : gG p l e R s m args below meth c nL D A k n Q pc lv stk ws := by subst h1; subst h2; exact kk
end GCtor
theorem gMc_of {U : Type} {l : Launch} {y : MethodName} {cb : ByteArray} {mL : Nat} {rm : Room} {D : va_G} {tys : List (ClassId × FieldType)} {av : List Value} {w0 : va_W} {w1 : U → va_W} {mc ms : Nat} {lv0 : List (Nat × Value)} (hy : plainName y.cls = true) (hlen : (lg_sl av).length ≤ mL) (hlv : lv_args 0 av = lv0) (body : ∀ (p : Program) (e : Env) (s : State) (m : MethodId) (args : Array Value) (below : List Frame) (meth : Method) (c : Code) (A : Nat → Prop) (Q : State → Prop), gC p s m args meth c cb mL y.cls D tys A none → meth.name = y.name → Q = MQ below (va_Qv (fun _ : U => True) (fun u t => gB D tys A (w1 u) () t) A) args s mc ms A → gG p l e rm s m args below meth c mL D A 0 0 Q 0 lv0 [] w0) : gMc l y cb mL rm D tys av w0 w1 mc ms := by
  intro sz
  subst hlv
  refine Met.ofW (cc := cb) (maxL := mL) (ret := none) hy rfl ?_
  intro p e s m args below meth c s₁ B hml hv
  obtain ⟨rfl, hsz, hP, hK, hD0, hX0⟩ := hv
  subst hsz
  have hts := atoms_spec (ws := Cond.code y cb mL none :: gT) B.pre
  have hl := lv_entry av (n := mL) hlen
  rw [lg_entry_eq]
  exact body p e s m _ below meth c _ _ ⟨B.exec, B.bytes, hml, findClass_of_methodNamed B.named, fun w h => hts w (List.mem_cons_of_mem _ h), hK, fun q h => Or.inr h, B.notSynchronized, B.returns, hX0⟩ (name_of_methodNamed B.named B.method).1 rfl s.heap [] _ hP (hD0.self (sz := s.heap.size)) va_S.rf hl
