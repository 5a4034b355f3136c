/-! THE CLAIM OUT OF ONE WALK OF THE LAW'S BODY. Your part is whole_start (and what it stands on); all else here is the same for every law, but numbers. -/
def R_law : String := "EdgePictureLaw"
def lw_P (b : Addr) (xs : List Int32) (args : Array Value) (s : State) : Prop := args = #[.ref b] ∧ s.IntsAt b xs ∧ xs.length ≤ 2560 ∧ (Jvm.Cond.and given_1 narrow_1).before args s = true
def lw_Q (_ : Array Value) (s : State) (o : Outcome) (t : State) : Prop := o = .returned (some (.int 1)) ∧ Framed s o t [] 600000 7302250
def lw_Z (below : List Frame) (a : Array Value) (s : State) : State → Prop := fun t => ∃ o, t.status = .running ∧ Ended t below o ∧ lw_Q a s o t
/-- the law's own end, with 1 on the stack, nothing written that was there before, its room as the claim has it -/
theorem lw_ret {p : Program} {l : Launch} {e : Env} {s : State} {m : MethodId} {below : List Frame} {meth : Method} {c : Code} {b : Nat} (hx : p.tables.exec = Jvm.exec) (hb : c.code = code) (hr : meth.sig.returnType = ret) (hlocks : meth.locks = false) {pc : Nat} {H : Heap} {ls : Array Slot} (hdg : decode code pc = .ok (.ireturn, 1)) : W p l e room_1 s m #[Value.ref b] below meth c H [] 600000 7302250 (lw_Z below #[Value.ref b] s) (F0 m pc ls [.int 1]) := by
  intro T hT X
  obtain ⟨fs, hret, hrun, hended, hW, hframe⟩ := X.leave (v := some (.int 1)) (hlocks := hlocks) (fun h => by rw [hr] at h; cases h)
  have hmeth' : T.vm.method? m = some meth := X.method'
  refine ⟨T.setFrames fs, ?_, .returned (some (.int 1)), hrun, hended, rfl, ⟨_, rfl⟩, hW, hframe⟩
  jvm_step X.here [X.here.top, hx, hb, hdg, hmeth', hr, ret, narrow_b1]
  (try refine ⟨rfl, ?_⟩); (try refine ⟨rfl, ?_⟩)
  first | (intro acts; rw [hret _ acts rfl rfl rfl]) | rw [hret _ _ rfl rfl rfl]
  exact Steps.refl _
/-- what holds at the law's entry: the machine, the code, the tables' words (any of lw_tbl by 'hts w (by decide +kernel)'), the script of L ints xs at the cell b, what the Statement gives of the start (any of its parts by flat_of_before) -/
def lw_At (p : Program) (s : State) (m : MethodId) (meth : Method) (c : Code) (b L : Nat) (xs : Nat → Int32) : Prop :=
  p.tables.exec = Jvm.exec ∧ c.code = code ∧ meth.sig.returnType = ret ∧ c.maxLocals = 4 ∧ s.vm.findClass R_law = some m.cls ∧ (∀ w ∈ lw_tbl, w.before #[Value.ref b] s = true) ∧ va_X b L xs s s.heap ∧ b < s.heap.size ∧ meth.locks = false ∧ (Jvm.Cond.and given_1 narrow_1).before #[Value.ref b] s = true

theorem g_callIM {p : Program} {l : Launch} {e : Env} {R : Room} {s : State} {m : MethodId} {args : Array Value} {below : List Frame} {meth : Method} {c : Code} {cc : ByteArray} {nL : Nat} {own : String} {D : va_G} {tys : List (ClassId × FieldType)} {A : Nat → Prop} {rt : Option FieldType} {k n : Nat} {Q : State → Prop} {pc : Nat} {lv : List (Nat × Value)} {st stk : List Value} {w0 : va_W} {y : MethodName} {cb : ByteArray} {mL nA idx mc ms : Nat} {rm : Room} {b : Nat} {As : List Value} {U : Type} {w1 : U → va_W} (C : gC p s m args meth c cc nL own D tys A rt) (hN : gNest s) (Y : gY y cb mL none nA) (hinst : Cond.instanceMethod y ∈ gT) (hname : y.name = "<init>") (hlk : Cond.methodLink own idx y ∈ gT) (d : decode cc pc = .ok (.invokespecial idx, 3)) (hM : gMcN l y cb mL rm D tys (.ref b :: As) w0 w1 mc ms) (hR : rm.frames + 1 ≤ R.frames ∧ 8 + (mL + 11) + rm.locals ≤ R.locals) (hrm : rm.cells = mc ∧ rm.slots = ms) (hkn : k + mc ≤ R.cells ∧ n + ms ≤ R.slots) (hAn : As.length = nA) (hst : stk = As.reverse ++ .ref b :: st) (hrest : (st.map fun v => v.category).sum ≤ 8) (kk : ∀ u : U, gG p l e R s m args below meth c nL D A (k + mc) (n + ms) Q (pc + 3) lv st (w1 u)) : gG p l e R s m args below meth c nL D A k n Q pc lv stk w0 := by
  intro H locs ls hP hD hS hl
  have hF := g_free C (gCut_all (ws := w0) (w1 := w0)) hD hS
  obtain ⟨y1, y2, y3, y4, y5⟩ := Y
  obtain ⟨n1, n2, n3⟩ := hN
  have hG : GoodIn gT (Cond.code y cb mL none :: gT) := gT_gi (fun w h => by
    rcases List.mem_cons.mp h with rfl | h
    · exact y2
    · exact h)
  refine va_callv (va_runI (As := As) (rest := st) ⟨C.1, C.2.1, C.2.2.1, C.2.2.2.1, C.2.2.2.2.1⟩ (hM H.size) (cwI nA C.2.2.2.2.1 hG rfl hrm.1 hrm.2 (C.2.2.2.2.1 _ y1) (C.2.2.2.2.1 _ hlk) (C.2.2.2.2.1 _ hinst) hname ⟨y3, y4, y5⟩ hR) ⟨fun a U g mk q => ⟨gPre_blind a U g mk q.1, q.2.1.same rfl rfl, q.2.2.1.same rfl rfl, q.2.2.2.same rfl rfl⟩, fun U hU hW => ⟨⟨rfl, by rw [hU], by rw [hU]; exact hP, va_K.moved hW.alike C.2.2.2.2.2.1, hD.weaken (fun _ _ _ _ => trivial), C.2.2.2.2.2.2.2.2.2.step hW hS hU hF⟩, n1.warmM hW, n2.warmM hW, n3.warmM hW⟩⟩ rfl hAn hl.1 hst (lv_room hrest) d hkn) hS (fun q _ h => hF q h) hF (fun u t H1 locs1 ht hvm hw hB hz1 hk1 hS1 => ?_)
  obtain ⟨hP1, hK1, hD1⟩ := hB
  rw [ht] at hP1
  exact kk u H1 locs1 ls hP1 (hD1.weaken (fun _ q _ h => hF q.1 h)) hS1 hl
set_option maxHeartbeats 4000000 in
set_option maxRecDepth 100000 in
theorem whole_start_open {Rel : Nat → OE → OM → Prop} (hR0 : ∀ n, n ≤ 2566 → Rel n E00 M00) (hops : lawOps Rel) {p : Program} {e : Env} {s : State} {m : MethodId} {below : List Frame} {meth : Method} {c : Code} (l : Launch) {b L : Nat} {xs : Nat → Int32} (hL : L ≤ 2560) (C0 : lw_At p s m meth c b L xs) : W p l e room_1 s m #[Value.ref b] below meth c s.heap [] 0 0 (lw_Z below #[Value.ref b] s) (entryFrame m ([Value.ref b] : List Value).toArray 4) := by
  obtain ⟨hx, hb, hr, hml, hown, hts, hX, hbl, hlocks, hgv⟩ := id C0
  have htsG : ∀ w ∈ gT, w.before #[Value.ref b] s = true := fun w h => hts w (List.mem_filter.mp h).1
  have hA : ∀ a : Nat, a < s.heap.size → ¬ (fun q : Nat => s.heap.size ≤ q) a := fun a h => Nat.not_le.mpr h
  have hs := flat_of_before _ hgv
  obtain ⟨c0, iS0, hKn0⟩ := u_known (C := RX0) (T := TX0) (N := 3) (n := 3) htsG uw_X0 (htsG _ is_X0)
  obtain ⟨c1, iS1, hKn1⟩ := u_known (C := RX2) (T := TX2) (N := 3) (n := 3) htsG uw_X2 (htsG _ is_X2)
  obtain ⟨c2, iS2, hKn2⟩ := u_known (C := RX3) (T := TX3) (N := 8) (n := 8) htsG uw_X3 (htsG _ is_X3)
  obtain ⟨c3, iS3, hKn3⟩ := u_known (C := RX4) (T := TX4) (N := 11) (n := 11) htsG uw_X4 (htsG _ is_X4)
  obtain ⟨c4, iS4, hKn4⟩ := u_known (C := RX5) (T := TX5) (N := 12) (n := 12) htsG uw_X5 (htsG _ is_X5)
  obtain ⟨c5, iS5, hKn5⟩ := u_known (C := RX6) (T := TX6) (N := 41) (n := 41) htsG uw_X6 (htsG _ is_X6)
  obtain ⟨cI, cIk, cIp, cI1, cI2, cI3⟩ := Cond.arrayClass_spec (htsG _ ac_int)
  obtain ⟨cC, cCk, cCp, cC1, cC2, cC3⟩ := Cond.arrayClass_spec (htsG _ ac_char)
  obtain ⟨cZ, cZk, cZp, cZ1, cZ2, cZ3⟩ := Cond.arrayClass_spec (htsG _ ac_boolean)
  obtain ⟨cJ, cJk, cJp, cJ1, cJ2, cJ3⟩ := Cond.arrayClass_spec (htsG _ ac_long)
  obtain ⟨adK, adV, hKS, hKe⟩ := vk_Sof (args := #[Value.ref b]) (s := s) (N := 1) (tm := fun _ => Term.string "EdgePicture$Page" 69) (len := [5]) (byt := [[99, 114, 112, 108, 116]]) (A := fun q : Nat => s.heap.size ≤ q) (fun i hi => by rcases (show i = 0 by omega) with rfl; decide) (fun i _ => hs _ (by decide +kernel)) (fun i _ => hs _ (by decide +kernel)) (fun i _ => hs _ (by decide +kernel)) (fun i hi => by rcases (show i = 0 by omega) with rfl; exact hs _ (by decide +kernel)) (fun i hi j hj => by rcases (show i = 0 by omega) with rfl; rcases (show j = 0 ∨ j = 1 ∨ j = 2 ∨ j = 3 ∨ j = 4 by have : ([5] : List Nat).getD 0 0 = 5 := rfl; omega) with rfl | rfl | rfl | rfl | rfl <;> exact hs _ (by decide +kernel)) (fun i j hi hj h => absurd (show i = j by omega) h) hA
  have hZ : va_Z "java/lang/String" "COMPACT_STRINGS" "Z" (.int 1) (fun q : Nat => s.heap.size ≤ q) s s.heap := va_Zof (hts _ (List.mem_append_right _ (List.mem_of_getElem? (i := 255) (by decide +kernel)))) (hts _ (List.mem_append_right _ (List.mem_of_getElem? (i := 8) (by decide +kernel)))) (va_eqt (hs (Cond.eq (Term.static "java/lang/String" "COMPACT_STRINGS" "Z") (Term.int 1)) (by decide +kernel))) hA
  have hKR : vk_R RX2 69 "crplt" (adK 0) s := vk_R.of (hts _ (List.mem_append_right _ (List.mem_of_getElem? (i := 241) (by decide +kernel)))) (hKe 0 Nat.zero_lt_one)
  obtain ⟨D, hDe⟩ : ∃ D : va_G, D = ((fun k => if k = 0 then c0 else if k = 1 then c1 else if k = 2 then c2 else if k = 3 then c3 else if k = 4 then c4 else c5 : Nat → ClassId), (fun k => if k = 77 then (fun j => if j = 0 then adK 0 else adV 0) else if k = 0 then iS0 else if k = 1 then iS1 else if k = 2 then iS2 else if k = 3 then iS3 else if k = 4 then iS4 else iS5 : Nat → Nat → Nat)) := ⟨_, rfl⟩
  have hK : va_K D vwCl (tysG cC cI cJ cZ) s := by
    subst hDe
    refine ⟨fun k q hq => ?_, fun k q hq => ?_⟩
    · match k, hq with
      | 0, hq => cases hq; exact hKn0
      | 1, hq => cases hq; exact hKn1
      | 2, hq => cases hq; exact hKn2
      | 3, hq => cases hq; exact hKn3
      | 4, hq => cases hq; exact hKn4
      | 5, hq => cases hq; exact hKn5
      | k + 6, hq => simp [vwCl] at hq
    · match k, hq with
      | 0, hq => cases hq; exact ⟨fun n z => ⟨fun k h => (by cases h), cIk, cI2, cIp, cI3⟩, cI1⟩
      | 1, hq => cases hq; exact ⟨fun n z => ⟨fun k h => (by cases h), cCk, cC2, cCp, cC3⟩, cC1⟩
      | 2, hq => cases hq; exact ⟨fun n z => ⟨fun k h => (by cases h), cZk, cZ2, cZp, cZ3⟩, cZ1⟩
      | 3, hq => cases hq; exact ⟨fun n z => ⟨fun k h => (by cases h), cJk, cJ2, cJp, cJ3⟩, cJ1⟩
      | k + 4, hq => simp [tysG] at hq
  have hGK : gK D (fun q : Nat => s.heap.size ≤ q) s s.heap := by
    subst hDe
    exact ⟨hKR, ⟨fun i hi => by rcases (show i = 0 by omega) with rfl; exact hKS.1 0 hi, fun i j hi hj _ => by omega⟩, hZ⟩
  have hN : gNest s := ⟨va_Nw.of rfl (hts _ (List.mem_append_right _ (List.mem_of_getElem? (i := 25) (by decide +kernel)))), va_Nw.of rfl (hts _ (List.mem_append_right _ (List.mem_of_getElem? (i := 44) (by decide +kernel)))), va_Nw.of rfl (hts _ (List.mem_append_right _ (List.mem_of_getElem? (i := 103) (by decide +kernel))))⟩
  have C : gC p s m #[Value.ref b] meth c cL_law 4 RL D (tysG cC cI cJ cZ) (fun q : Nat => s.heap.size ≤ q) ret := ⟨hx, hb, hml, hown, htsG, hK, fun _ h => h, hlocks, hr, hGK⟩
  have hl := lv_entry ([.ref b]) (n := 4) (Nat.le_of_ble_eq_true rfl)
  rw [lg_entry_eq]
  have hG : gG p l e room_1 s m #[Value.ref b] below meth c 4 D (fun q : Nat => s.heap.size ≤ q) 0 0 (lw_Z below #[Value.ref b] s) 0 [(0, .ref b)] [] [] := by
    refine g_new (ci := 4) (fs := [.null, .null, .null, .null, .null, .null, .null, .int 0, .int 0, .int 0, .int 0, .int 0]) C tyX5 rfl uw_X5 tyX5_ok cl_L_7 is_X5 ini_X5 (fun j hj => by rcases (show j = 0 ∨ j = 1 ∨ j = 2 ∨ j = 3 ∨ j = 4 ∨ j = 5 ∨ j = 6 ∨ j = 7 ∨ j = 8 ∨ j = 9 ∨ j = 10 ∨ j = 11 by omega) with rfl | rfl | rfl | rfl | rfl | rfl | rfl | rfl | rfl | rfl | rfl | rfl <;> rfl) (Nat.le_of_ble_eq_true rfl) (Nat.le_of_ble_eq_true rfl) dL_law_0 (fun q0 => ?_)
    refine g_dup C dL_law_3 rfl ?_
    refine g_callIM (st := [.ref q0]) (w0 := [(q0, .inr (4, [.null, .null, .null, .null, .null, .null, .null, .int 0, .int 0, .int 0, .int 0, .int 0]))]) C hN yi_X5 yn_X5 rfl ml_L_9 dL_law_4 (kX5_init l D cC cI cJ cZ q0) ⟨Nat.le_of_ble_eq_true rfl, Nat.le_of_ble_eq_true rfl⟩ ⟨rfl, rfl⟩ ⟨Nat.le_of_ble_eq_true rfl, Nat.le_of_ble_eq_true rfl⟩ rfl rfl (Nat.le_of_ble_eq_true rfl) (fun u4 => ?_)
    refine g_astore_n (lv' := [(1, .ref q0), (0, .ref b)]) C dL_law_7 rfl (by decide) rfl ?_
    refine g_new (ci := 5) (fs := [.null, .int 0, .int 0, .int 0, .int 0, .int 0, .null, .null, .null, .int 0, .int 0, .int 0, .null, .null, .null, .null, .int 0, .int 0, .int 0, .int 0, .int 0, .null, .int 0, .null, .null, .int 0, .int 0, .int 0, .int 0, .null, .int 0, .null, .null, .int 0, .int 0, .null, .null, .null, .null, .null, .long 0]) C tyX6 rfl uw_X6 tyX6_ok cl_L_10 is_X6 ini_X6 (fun j hj => by rcases (show j = 0 ∨ j = 1 ∨ j = 2 ∨ j = 3 ∨ j = 4 ∨ j = 5 ∨ j = 6 ∨ j = 7 ∨ j = 8 ∨ j = 9 ∨ j = 10 ∨ j = 11 ∨ j = 12 ∨ j = 13 ∨ j = 14 ∨ j = 15 ∨ j = 16 ∨ j = 17 ∨ j = 18 ∨ j = 19 ∨ j = 20 ∨ j = 21 ∨ j = 22 ∨ j = 23 ∨ j = 24 ∨ j = 25 ∨ j = 26 ∨ j = 27 ∨ j = 28 ∨ j = 29 ∨ j = 30 ∨ j = 31 ∨ j = 32 ∨ j = 33 ∨ j = 34 ∨ j = 35 ∨ j = 36 ∨ j = 37 ∨ j = 38 ∨ j = 39 ∨ j = 40 by omega) with rfl | rfl | rfl | rfl | rfl | rfl | rfl | rfl | rfl | rfl | rfl | rfl | rfl | rfl | rfl | rfl | rfl | rfl | rfl | rfl | rfl | rfl | rfl | rfl | rfl | rfl | rfl | rfl | rfl | rfl | rfl | rfl | rfl | rfl | rfl | rfl | rfl | rfl | rfl | rfl | rfl <;> rfl) (Nat.le_of_ble_eq_true rfl) (Nat.le_of_ble_eq_true rfl) dL_law_8 (fun q8 => ?_)
    refine g_dup C dL_law_11 rfl ?_
    refine g_callI (st := [.ref q8]) (w0 := [(q8, .inr (5, [.null, .int 0, .int 0, .int 0, .int 0, .int 0, .null, .null, .null, .int 0, .int 0, .int 0, .null, .null, .null, .null, .int 0, .int 0, .int 0, .int 0, .int 0, .null, .int 0, .null, .null, .int 0, .int 0, .int 0, .int 0, .null, .int 0, .null, .null, .int 0, .int 0, .null, .null, .null, .null, .null, .long 0]))]) C yi_X6 yn_X6 rfl ml_L_12 dL_law_12 (kX6_init l D cC cI cJ cZ q8) ⟨Nat.le_of_ble_eq_true rfl, Nat.le_of_ble_eq_true rfl⟩ ⟨rfl, rfl⟩ ⟨Nat.le_of_ble_eq_true rfl, Nat.le_of_ble_eq_true rfl⟩ rfl rfl (Nat.le_of_ble_eq_true rfl) [33] [0, 1, 2, 3, 4, 5, 6, 7, 8, 9, 10, 11, 12, 13, 14, 15, 16, 17, 18, 19, 20, 21, 22, 23, 24, 25, 26, 27, 28, 29, 30, 31, 32] rfl rfl rfl rfl (by decide) (fun u12 => ?_)
    refine g_ws (ws2 := wEP cC cI cZ q0 u4.1 u4.2 E00 ++ wMod cI cJ q8 u12 M00) rfl ?_
    refine g_astore_n (lv' := [(2, .ref q8), (1, .ref q0), (0, .ref b)]) C dL_law_15 rfl (by decide) rfl ?_
    refine g_iconst (v := (0 : Int32)) C dL_law_16 (by decide) ?_
    refine g_istore_n (lv' := [(3, .int (0 : Int32)), (2, .ref q8), (1, .ref q0), (0, .ref b)]) C dL_law_17 rfl (by decide) rfl ?_
    refine g_wid (k2 := 53) (n2 := 3771) rfl rfl ?_
    refine law_loop C hX hbl (Nat.not_le.mpr hbl) hops hL (fun x3 E2 M2 => ?_) (L + 6) 0 0 E00 M00 (by omega) (Nat.zero_le _) nI_0.symm (hR0 _ (by omega))
    refine g_iconst (v := (1 : Int32)) C dL_law_749 (by decide) ?_
    intro H locs ls hP hD hS hl
    refine va_forget (fun q hq => hS.2.2 q hq) ?_
    refine W.widen (k := 600000) (n := 7302250) (Nat.le_of_ble_eq_true rfl) (Nat.le_of_ble_eq_true rfl) ?_
    exact lw_ret hx hb hr hlocks dL_law_750
  exact hG s.heap [] _ (fun k q h => by simp at h) ⟨fun i j p q h => by simp at h, fun k q h => by simp at h⟩ va_S.rf hl
