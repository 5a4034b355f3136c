theorem gCut_left {u v u1 : va_W} : gCut (u ++ v) u u1 (u1 ++ v) := by
  have hl : ∀ (k : Nat) (q : Nat × va_E), u[k]? = some q → (u ++ v)[k]? = some q := fun k q h => by
    rw [List.getElem?_append_left (List.getElem?_eq_some_iff.mp h).1]; exact h
  have hr : ∀ (k : Nat) (q : Nat × va_E), v[k]? = some q → (u ++ v)[u.length + k]? = some q := fun k q h => by
    rw [List.getElem?_append_right (Nat.le_add_right _ _), Nat.add_sub_cancel_left]; exact h
  have apart : ∀ {A : Nat → Prop} {D : va_G} {H : Heap}, va_P D vwCl (u ++ v) H → va_D A (u ++ v) → ∀ (k : Nat) (q : Nat × va_E), v[k]? = some q → q.1 < H.size ∧ ¬ va_A u H.size q.1 := by
    intro A D H hP hD k q h
    refine ⟨(hP _ q (hr k q h)).lt, fun ha => ?_⟩
    rcases ha with ⟨j, e, hj⟩ | ha
    · have e1 := hD.1 _ _ _ _ (hr k q h) (hl j (q.1, e) hj) rfl
      have e2 := (List.getElem?_eq_some_iff.mp hj).1
      omega
    · exact absurd (hP _ q (hr k q h)).lt (Nat.not_lt.mpr ha)
  refine ⟨fun D H h k q hk => h k q (hl k q hk), fun A h => ⟨fun i j p q hi hj e => h.1 i j p q (hl i p hi) (hl j q hj) e, fun k q hk => h.2 k q (hl k q hk)⟩, ?_⟩
  intro D A H H1 hP hD hk hF hP1 hD1
  have hv : va_P D vwCl v H1 := fun k q h => (hP _ q (hr k q h)).kept (hk q.1 (apart hP hD k q h).1 (apart hP hD k q h).2)
  have hDv : va_D A v := ⟨fun i j p q hi hj e => by
    have e1 := hD.1 _ _ _ _ (hr i p hi) (hr j q hj) e
    omega, fun k q h => hD.2 _ q (hr k q h)⟩
  exact ⟨hP1.app hv, va_D.app (hD1.weaken (fun _ q _ h => hF q.1 h)) hDv (fun i j x y hx hy hxy => (apart hP hD j y hy).2 (by rw [← hxy]; exact hD1.2 i x hx))⟩
theorem gCut_right {u v v1 : va_W} : gCut (u ++ v) v v1 (u ++ v1) := by
  have hl : ∀ (k : Nat) (q : Nat × va_E), u[k]? = some q → (u ++ v)[k]? = some q := fun k q h => by
    rw [List.getElem?_append_left (List.getElem?_eq_some_iff.mp h).1]; exact h
  have hr : ∀ (k : Nat) (q : Nat × va_E), v[k]? = some q → (u ++ v)[u.length + k]? = some q := fun k q h => by
    rw [List.getElem?_append_right (Nat.le_add_right _ _), Nat.add_sub_cancel_left]; exact h
  have apart : ∀ {A : Nat → Prop} {D : va_G} {H : Heap}, va_P D vwCl (u ++ v) H → va_D A (u ++ v) → ∀ (k : Nat) (q : Nat × va_E), u[k]? = some q → q.1 < H.size ∧ ¬ va_A v H.size q.1 := by
    intro A D H hP hD k q h
    refine ⟨(hP _ q (hl k q h)).lt, fun ha => ?_⟩
    rcases ha with ⟨j, e, hj⟩ | ha
    · have e1 := hD.1 _ _ _ _ (hl k q h) (hr j (q.1, e) hj) rfl
      have e2 := (List.getElem?_eq_some_iff.mp h).1
      omega
    · exact absurd (hP _ q (hl k q h)).lt (Nat.not_lt.mpr ha)
  have hDu : ∀ A : Nat → Prop, va_D A (u ++ v) → va_D A u := fun A hD => ⟨fun i j p q hi hj e => hD.1 _ _ _ _ (hl i p hi) (hl j q hj) e, fun k q h => hD.2 _ q (hl k q h)⟩
  refine ⟨fun D H h k q hk => h _ q (hr k q hk), fun A h => ⟨fun i j p q hi hj e => by
    have e1 := h.1 _ _ p q (hr i p hi) (hr j q hj) e
    omega, fun k q hk => h.2 _ q (hr k q hk)⟩, ?_⟩
  intro D A H H1 hP hD hk hF hP1 hD1
  have hv : va_P D vwCl u H1 := fun k q h => (hP _ q (hl k q h)).kept (hk q.1 (apart hP hD k q h).1 (apart hP hD k q h).2)
  exact ⟨hv.app hP1, va_D.app (hDu A hD) (hD1.weaken (fun _ q _ h => hF q.1 h)) (fun i j x y hx hy hxy => (apart hP hD i x hx).2 (by rw [hxy]; exact hD1.2 j y hy))⟩
theorem lg_cmp_self (r : Int64) : lg_cmp r r = 0 := by simp [lg_cmp]
section GScr
variable {p : Program} {l : Launch} {e : Env} {R : Room} {s : State} {m : MethodId} {args : Array Value} {below : List Frame} {meth : Method} {c : Code} {cc : ByteArray} {nL : Nat} {own : String} {D : va_G} {tys : List (ClassId × FieldType)} {A : Nat → Prop} {rt : Option FieldType} {k n : Nat} {Q : State → Prop} {pc : Nat} {lv : List (Nat × Value)} {st : List Value} {ws : va_W} {b L : Nat} {xs : Nat → Int32}
theorem g_sld (C : gC p s m args meth c cc nL own D tys A rt) (hX : va_X b L xs s s.heap) (hbl : b < s.heap.size) (hbA : ¬ A b) (d : decode cc pc = .ok (.iaload, 1)) {i : Int32} (hin : vp_in i L) (kk : gG p l e R s m args below meth c nL D A k n Q (pc + 1) lv (.int (xs i.toNatClampNeg) :: st) ws) : gG p l e R s m args below meth c nL D A k n Q pc lv (.int i :: .ref b :: st) ws := fun H locs ls hP hD hS hl => va_sld C.1 C.2.1 hX hbl hbA hS hin d (kk H locs ls hP hD hS hl)
theorem g_slen (C : gC p s m args meth c cc nL own D tys A rt) (hX : va_X b L xs s s.heap) (hbl : b < s.heap.size) (hbA : ¬ A b) (d : decode cc pc = .ok (.arraylength, 1)) (kk : gG p l e R s m args below meth c nL D A k n Q (pc + 1) lv (.int (Int32.ofNat L) :: st) ws) : gG p l e R s m args below meth c nL D A k n Q pc lv (.ref b :: st) ws := fun H locs ls hP hD hS hl => va_slen C.1 C.2.1 hX hbl hbA hS d (kk H locs ls hP hD hS hl)
end GScr
def opL0 (Rel : Nat → OE → OM → Prop) : Prop := ∀ (n : Nat) (E : OE) (M : OM) (y1 : Int32), Rel (n + 1) E M → ∃ (r : Int32) (E1 : OE) (M1 : OM), fX5_letter E y1 = some (r, E1) ∧ fX6_letter M y1 = some (r, M1) ∧ Rel n E1 M1
set_option maxHeartbeats 4000000 in
set_option maxRecDepth 100000 in
theorem lawc_0 {p : Program} {l : Launch} {e : Env} {s : State} {m : MethodId} {args : Array Value} {below : List Frame} {meth : Method} {c : Code} {D : va_G} {cC cI cJ cZ : ClassId} {A : Nat → Prop} {rt : Option FieldType} {Q : State → Prop} {b L : Nat} {xs : Nat → Int32} (C : gC p s m args meth c cL_law 4 RL D (tysG cC cI cJ cZ) A rt) (hX : va_X b L xs s s.heap) (hbl : b < s.heap.size) (hbA : ¬ A b) {Rel : Nat → OE → OM → Prop} (op : opL0 Rel) {n : Nat} {E : OE} {M : OM} (hR : Rel (n + 1) E M) {x3 : Int32} (i1 : vp_in (x3 + (1 : Int32)) L) {o o2 : Nat} {so a2 : Nat → Nat} {sa : Nat → Nat → Nat} (next : ∀ (E2 : OE) (M2 : OM), Rel n E2 M2 → gG p l e room_1 s m args below meth c 4 D A 53 3771 Q 743 [(3, .int x3), (2, .ref o2), (1, .ref o), (0, .ref b)] [] (wEP cC cI cZ o so sa E2 ++ wMod cI cJ o2 a2 M2)) : gG p l e room_1 s m args below meth c 4 D A 53 3771 Q 144 [(3, .int x3), (2, .ref o2), (1, .ref o), (0, .ref b)] [] (wEP cC cI cZ o so sa E ++ wMod cI cJ o2 a2 M) := by
  refine g_aload_n C dL_law_144 rfl 2 rfl ?_
  refine g_aload_n C dL_law_145 rfl 3 rfl ?_
  refine g_iload_n C dL_law_146 rfl 0 rfl ?_
  refine g_iconst (v := (1 : Int32)) C dL_law_147 (by decide) ?_
  refine g_iadd C dL_law_148 ?_
  refine g_sld C hX hbl hbA dL_law_149 i1 ?_
  obtain ⟨r, E1, M1, h1, h2, hR1⟩ := op n E M (xs (x3 + (1 : Int32)).toNatClampNeg) hR
  refine g_callVi (st := []) (ws2 := wEP cC cI cZ o so sa E1 ++ wMod cI cJ o2 a2 M) C yv_X5_letter ml_L_13 dL_law_150 (kX5_letter l D cC cI cJ cZ o so sa E (xs (x3 + (1 : Int32)).toNatClampNeg) r E1 h1) gCut_left ⟨Nat.le_of_ble_eq_true rfl, Nat.le_of_ble_eq_true rfl⟩ ⟨rfl, rfl⟩ ⟨Nat.le_of_ble_eq_true rfl, Nat.le_of_ble_eq_true rfl⟩ rfl rfl (Nat.le_of_ble_eq_true rfl) 4 0 rfl rfl rfl ?_
  refine g_aload_n C dL_law_153 rfl 1 rfl ?_
  refine g_aload_n C dL_law_154 rfl 3 rfl ?_
  refine g_iload_n C dL_law_155 rfl 0 rfl ?_
  refine g_iconst (v := (1 : Int32)) C dL_law_156 (by decide) ?_
  refine g_iadd C dL_law_157 ?_
  refine g_sld C hX hbl hbA dL_law_158 i1 ?_
  refine g_callVi (st := [.int r]) (ws2 := wEP cC cI cZ o so sa E1 ++ wMod cI cJ o2 a2 M1) C yv_X6_letter ml_L_17 dL_law_159 (kX6_letter l D cC cI cJ cZ o2 a2 M (xs (x3 + (1 : Int32)).toNatClampNeg) r M1 h2) gCut_right ⟨Nat.le_of_ble_eq_true rfl, Nat.le_of_ble_eq_true rfl⟩ ⟨rfl, rfl⟩ ⟨Nat.le_of_ble_eq_true rfl, Nat.le_of_ble_eq_true rfl⟩ rfl rfl (Nat.le_of_ble_eq_true rfl) 5 33 rfl rfl rfl ?_
  refine g_icmp_eq (tgt := 743) C dL_law_162 (by decide) (fun _ => ?_) (fun cn => absurd rfl cn)
  exact next E1 M1 hR1
def opL1 (Rel : Nat → OE → OM → Prop) : Prop := ∀ (n : Nat) (E : OE) (M : OM) , Rel (n + 1) E M → ∃ (r : Int32) (E1 : OE) (M1 : OM), fX5_blank E  = some (r, E1) ∧ fX6_blank M  = some (r, M1) ∧ Rel n E1 M1
set_option maxHeartbeats 4000000 in
set_option maxRecDepth 100000 in
theorem lawc_1 {p : Program} {l : Launch} {e : Env} {s : State} {m : MethodId} {args : Array Value} {below : List Frame} {meth : Method} {c : Code} {D : va_G} {cC cI cJ cZ : ClassId} {A : Nat → Prop} {rt : Option FieldType} {Q : State → Prop} {b L : Nat} {xs : Nat → Int32} (C : gC p s m args meth c cL_law 4 RL D (tysG cC cI cJ cZ) A rt) (hX : va_X b L xs s s.heap) (hbl : b < s.heap.size) (hbA : ¬ A b) {Rel : Nat → OE → OM → Prop} (op : opL1 Rel) {n : Nat} {E : OE} {M : OM} (hR : Rel (n + 1) E M) {x3 : Int32}  {o o2 : Nat} {so a2 : Nat → Nat} {sa : Nat → Nat → Nat} (next : ∀ (E2 : OE) (M2 : OM), Rel n E2 M2 → gG p l e room_1 s m args below meth c 4 D A 53 3771 Q 743 [(3, .int x3), (2, .ref o2), (1, .ref o), (0, .ref b)] [] (wEP cC cI cZ o so sa E2 ++ wMod cI cJ o2 a2 M2)) : gG p l e room_1 s m args below meth c 4 D A 53 3771 Q 167 [(3, .int x3), (2, .ref o2), (1, .ref o), (0, .ref b)] [] (wEP cC cI cZ o so sa E ++ wMod cI cJ o2 a2 M) := by
  refine g_aload_n C dL_law_167 rfl 2 rfl ?_
  obtain ⟨r, E1, M1, h1, h2, hR1⟩ := op n E M  hR
  refine g_callVi (st := []) (ws2 := wEP cC cI cZ o so sa E1 ++ wMod cI cJ o2 a2 M) C yv_X5_blank ml_L_18 dL_law_168 (kX5_blank l D cC cI cJ cZ o so sa E  r E1 h1) gCut_left ⟨Nat.le_of_ble_eq_true rfl, Nat.le_of_ble_eq_true rfl⟩ ⟨rfl, rfl⟩ ⟨Nat.le_of_ble_eq_true rfl, Nat.le_of_ble_eq_true rfl⟩ rfl rfl (Nat.le_of_ble_eq_true rfl) 4 0 rfl rfl rfl ?_
  refine g_aload_n C dL_law_171 rfl 1 rfl ?_
  refine g_callVi (st := [.int r]) (ws2 := wEP cC cI cZ o so sa E1 ++ wMod cI cJ o2 a2 M1) C yv_X6_blank ml_L_22 dL_law_172 (kX6_blank l D cC cI cJ cZ o2 a2 M  r M1 h2) gCut_right ⟨Nat.le_of_ble_eq_true rfl, Nat.le_of_ble_eq_true rfl⟩ ⟨rfl, rfl⟩ ⟨Nat.le_of_ble_eq_true rfl, Nat.le_of_ble_eq_true rfl⟩ rfl rfl (Nat.le_of_ble_eq_true rfl) 5 33 rfl rfl rfl ?_
  refine g_icmp_eq (tgt := 743) C dL_law_175 (by decide) (fun _ => ?_) (fun cn => absurd rfl cn)
  exact next E1 M1 hR1
def opL2 (Rel : Nat → OE → OM → Prop) : Prop := ∀ (n : Nat) (E : OE) (M : OM) , Rel (n + 1) E M → ∃ (r : Int32) (E1 : OE) (M1 : OM), fX5_fault E  = some (r, E1) ∧ fX6_fault M  = some (r, M1) ∧ Rel n E1 M1
set_option maxHeartbeats 4000000 in
set_option maxRecDepth 100000 in
theorem lawc_2 {p : Program} {l : Launch} {e : Env} {s : State} {m : MethodId} {args : Array Value} {below : List Frame} {meth : Method} {c : Code} {D : va_G} {cC cI cJ cZ : ClassId} {A : Nat → Prop} {rt : Option FieldType} {Q : State → Prop} {b L : Nat} {xs : Nat → Int32} (C : gC p s m args meth c cL_law 4 RL D (tysG cC cI cJ cZ) A rt) (hX : va_X b L xs s s.heap) (hbl : b < s.heap.size) (hbA : ¬ A b) {Rel : Nat → OE → OM → Prop} (op : opL2 Rel) {n : Nat} {E : OE} {M : OM} (hR : Rel (n + 1) E M) {x3 : Int32}  {o o2 : Nat} {so a2 : Nat → Nat} {sa : Nat → Nat → Nat} (next : ∀ (E2 : OE) (M2 : OM), Rel n E2 M2 → gG p l e room_1 s m args below meth c 4 D A 53 3771 Q 743 [(3, .int x3), (2, .ref o2), (1, .ref o), (0, .ref b)] [] (wEP cC cI cZ o so sa E2 ++ wMod cI cJ o2 a2 M2)) : gG p l e room_1 s m args below meth c 4 D A 53 3771 Q 180 [(3, .int x3), (2, .ref o2), (1, .ref o), (0, .ref b)] [] (wEP cC cI cZ o so sa E ++ wMod cI cJ o2 a2 M) := by
  refine g_aload_n C dL_law_180 rfl 2 rfl ?_
  obtain ⟨r, E1, M1, h1, h2, hR1⟩ := op n E M  hR
  refine g_callVi (st := []) (ws2 := wEP cC cI cZ o so sa E1 ++ wMod cI cJ o2 a2 M) C yv_X5_fault ml_L_23 dL_law_181 (kX5_fault l D cC cI cJ cZ o so sa E  r E1 h1) gCut_left ⟨Nat.le_of_ble_eq_true rfl, Nat.le_of_ble_eq_true rfl⟩ ⟨rfl, rfl⟩ ⟨Nat.le_of_ble_eq_true rfl, Nat.le_of_ble_eq_true rfl⟩ rfl rfl (Nat.le_of_ble_eq_true rfl) 4 0 rfl rfl rfl ?_
  refine g_aload_n C dL_law_184 rfl 1 rfl ?_
  refine g_callVi (st := [.int r]) (ws2 := wEP cC cI cZ o so sa E1 ++ wMod cI cJ o2 a2 M1) C yv_X6_fault ml_L_26 dL_law_185 (kX6_fault l D cC cI cJ cZ o2 a2 M  r M1 h2) gCut_right ⟨Nat.le_of_ble_eq_true rfl, Nat.le_of_ble_eq_true rfl⟩ ⟨rfl, rfl⟩ ⟨Nat.le_of_ble_eq_true rfl, Nat.le_of_ble_eq_true rfl⟩ rfl rfl (Nat.le_of_ble_eq_true rfl) 5 33 rfl rfl rfl ?_
  refine g_icmp_eq (tgt := 743) C dL_law_188 (by decide) (fun _ => ?_) (fun cn => absurd rfl cn)
  exact next E1 M1 hR1
def opL3 (Rel : Nat → OE → OM → Prop) : Prop := ∀ (n : Nat) (E : OE) (M : OM) , Rel (n + 1) E M → ∃ (r : Int32) (E1 : OE) (M1 : OM), fX5_board E  = some (r, E1) ∧ fX6_board M  = some (r, M1) ∧ Rel n E1 M1
set_option maxHeartbeats 4000000 in
set_option maxRecDepth 100000 in
theorem lawc_3 {p : Program} {l : Launch} {e : Env} {s : State} {m : MethodId} {args : Array Value} {below : List Frame} {meth : Method} {c : Code} {D : va_G} {cC cI cJ cZ : ClassId} {A : Nat → Prop} {rt : Option FieldType} {Q : State → Prop} {b L : Nat} {xs : Nat → Int32} (C : gC p s m args meth c cL_law 4 RL D (tysG cC cI cJ cZ) A rt) (hX : va_X b L xs s s.heap) (hbl : b < s.heap.size) (hbA : ¬ A b) {Rel : Nat → OE → OM → Prop} (op : opL3 Rel) {n : Nat} {E : OE} {M : OM} (hR : Rel (n + 1) E M) {x3 : Int32}  {o o2 : Nat} {so a2 : Nat → Nat} {sa : Nat → Nat → Nat} (next : ∀ (E2 : OE) (M2 : OM), Rel n E2 M2 → gG p l e room_1 s m args below meth c 4 D A 53 3771 Q 743 [(3, .int x3), (2, .ref o2), (1, .ref o), (0, .ref b)] [] (wEP cC cI cZ o so sa E2 ++ wMod cI cJ o2 a2 M2)) : gG p l e room_1 s m args below meth c 4 D A 53 3771 Q 193 [(3, .int x3), (2, .ref o2), (1, .ref o), (0, .ref b)] [] (wEP cC cI cZ o so sa E ++ wMod cI cJ o2 a2 M) := by
  refine g_aload_n C dL_law_193 rfl 2 rfl ?_
  obtain ⟨r, E1, M1, h1, h2, hR1⟩ := op n E M  hR
  refine g_callVi (st := []) (ws2 := wEP cC cI cZ o so sa E1 ++ wMod cI cJ o2 a2 M) C yv_X5_board ml_L_27 dL_law_194 (kX5_board l D cC cI cJ cZ o so sa E  r E1 h1) gCut_left ⟨Nat.le_of_ble_eq_true rfl, Nat.le_of_ble_eq_true rfl⟩ ⟨rfl, rfl⟩ ⟨Nat.le_of_ble_eq_true rfl, Nat.le_of_ble_eq_true rfl⟩ rfl rfl (Nat.le_of_ble_eq_true rfl) 4 0 rfl rfl rfl ?_
  refine g_aload_n C dL_law_197 rfl 1 rfl ?_
  refine g_callVi (st := [.int r]) (ws2 := wEP cC cI cZ o so sa E1 ++ wMod cI cJ o2 a2 M1) C yv_X6_board ml_L_30 dL_law_198 (kX6_board l D cC cI cJ cZ o2 a2 M  r M1 h2) gCut_right ⟨Nat.le_of_ble_eq_true rfl, Nat.le_of_ble_eq_true rfl⟩ ⟨rfl, rfl⟩ ⟨Nat.le_of_ble_eq_true rfl, Nat.le_of_ble_eq_true rfl⟩ rfl rfl (Nat.le_of_ble_eq_true rfl) 5 33 rfl rfl rfl ?_
  refine g_icmp_eq (tgt := 743) C dL_law_201 (by decide) (fun _ => ?_) (fun cn => absurd rfl cn)
  exact next E1 M1 hR1
def opL4 (Rel : Nat → OE → OM → Prop) : Prop := ∀ (n : Nat) (E : OE) (M : OM) (y1 : Int32) (y2 : Int32), Rel (n + 1) E M → ∃ (r : Int32) (E1 : OE) (M1 : OM), fX5_line E y1 y2 = some (r, E1) ∧ fX6_line M y1 y2 = some (r, M1) ∧ Rel n E1 M1
set_option maxHeartbeats 4000000 in
set_option maxRecDepth 100000 in
theorem lawc_4 {p : Program} {l : Launch} {e : Env} {s : State} {m : MethodId} {args : Array Value} {below : List Frame} {meth : Method} {c : Code} {D : va_G} {cC cI cJ cZ : ClassId} {A : Nat → Prop} {rt : Option FieldType} {Q : State → Prop} {b L : Nat} {xs : Nat → Int32} (C : gC p s m args meth c cL_law 4 RL D (tysG cC cI cJ cZ) A rt) (hX : va_X b L xs s s.heap) (hbl : b < s.heap.size) (hbA : ¬ A b) {Rel : Nat → OE → OM → Prop} (op : opL4 Rel) {n : Nat} {E : OE} {M : OM} (hR : Rel (n + 1) E M) {x3 : Int32} (i1 : vp_in (x3 + (1 : Int32)) L) (i2 : vp_in (x3 + (2 : Int32)) L) {o o2 : Nat} {so a2 : Nat → Nat} {sa : Nat → Nat → Nat} (next : ∀ (E2 : OE) (M2 : OM), Rel n E2 M2 → gG p l e room_1 s m args below meth c 4 D A 53 3771 Q 743 [(3, .int x3), (2, .ref o2), (1, .ref o), (0, .ref b)] [] (wEP cC cI cZ o so sa E2 ++ wMod cI cJ o2 a2 M2)) : gG p l e room_1 s m args below meth c 4 D A 53 3771 Q 206 [(3, .int x3), (2, .ref o2), (1, .ref o), (0, .ref b)] [] (wEP cC cI cZ o so sa E ++ wMod cI cJ o2 a2 M) := by
  refine g_aload_n C dL_law_206 rfl 2 rfl ?_
  refine g_aload_n C dL_law_207 rfl 3 rfl ?_
  refine g_iload_n C dL_law_208 rfl 0 rfl ?_
  refine g_iconst (v := (1 : Int32)) C dL_law_209 (by decide) ?_
  refine g_iadd C dL_law_210 ?_
  refine g_sld C hX hbl hbA dL_law_211 i1 ?_
  refine g_aload_n C dL_law_212 rfl 3 rfl ?_
  refine g_iload_n C dL_law_213 rfl 0 rfl ?_
  refine g_iconst (v := (2 : Int32)) C dL_law_214 (by decide) ?_
  refine g_iadd C dL_law_215 ?_
  refine g_sld C hX hbl hbA dL_law_216 i2 ?_
  obtain ⟨r, E1, M1, h1, h2, hR1⟩ := op n E M (xs (x3 + (1 : Int32)).toNatClampNeg) (xs (x3 + (2 : Int32)).toNatClampNeg) hR
  refine g_callVi (st := []) (ws2 := wEP cC cI cZ o so sa E1 ++ wMod cI cJ o2 a2 M) C yv_X5_line ml_L_31 dL_law_217 (kX5_line l D cC cI cJ cZ o so sa E (xs (x3 + (1 : Int32)).toNatClampNeg) (xs (x3 + (2 : Int32)).toNatClampNeg) r E1 h1) gCut_left ⟨Nat.le_of_ble_eq_true rfl, Nat.le_of_ble_eq_true rfl⟩ ⟨rfl, rfl⟩ ⟨Nat.le_of_ble_eq_true rfl, Nat.le_of_ble_eq_true rfl⟩ rfl rfl (Nat.le_of_ble_eq_true rfl) 4 0 rfl rfl rfl ?_
  refine g_aload_n C dL_law_220 rfl 1 rfl ?_
  refine g_aload_n C dL_law_221 rfl 3 rfl ?_
  refine g_iload_n C dL_law_222 rfl 0 rfl ?_
  refine g_iconst (v := (1 : Int32)) C dL_law_223 (by decide) ?_
  refine g_iadd C dL_law_224 ?_
  refine g_sld C hX hbl hbA dL_law_225 i1 ?_
  refine g_aload_n C dL_law_226 rfl 3 rfl ?_
  refine g_iload_n C dL_law_227 rfl 0 rfl ?_
  refine g_iconst (v := (2 : Int32)) C dL_law_228 (by decide) ?_
  refine g_iadd C dL_law_229 ?_
  refine g_sld C hX hbl hbA dL_law_230 i2 ?_
  refine g_callVi (st := [.int r]) (ws2 := wEP cC cI cZ o so sa E1 ++ wMod cI cJ o2 a2 M1) C yv_X6_line ml_L_35 dL_law_231 (kX6_line l D cC cI cJ cZ o2 a2 M (xs (x3 + (1 : Int32)).toNatClampNeg) (xs (x3 + (2 : Int32)).toNatClampNeg) r M1 h2) gCut_right ⟨Nat.le_of_ble_eq_true rfl, Nat.le_of_ble_eq_true rfl⟩ ⟨rfl, rfl⟩ ⟨Nat.le_of_ble_eq_true rfl, Nat.le_of_ble_eq_true rfl⟩ rfl rfl (Nat.le_of_ble_eq_true rfl) 5 33 rfl rfl rfl ?_
  refine g_icmp_eq (tgt := 743) C dL_law_234 (by decide) (fun _ => ?_) (fun cn => absurd rfl cn)
  exact next E1 M1 hR1
def opL5 (Rel : Nat → OE → OM → Prop) : Prop := ∀ (n : Nat) (E : OE) (M : OM) (y1 : Int32) (y2 : Int32), Rel (n + 1) E M → ∃ (r : Int32), fX5_as E y1 y2 = some r ∧ fX6_as M y1 y2 = some r ∧ Rel n E M
set_option maxHeartbeats 4000000 in
set_option maxRecDepth 100000 in
theorem lawc_5 {p : Program} {l : Launch} {e : Env} {s : State} {m : MethodId} {args : Array Value} {below : List Frame} {meth : Method} {c : Code} {D : va_G} {cC cI cJ cZ : ClassId} {A : Nat → Prop} {rt : Option FieldType} {Q : State → Prop} {b L : Nat} {xs : Nat → Int32} (C : gC p s m args meth c cL_law 4 RL D (tysG cC cI cJ cZ) A rt) (hX : va_X b L xs s s.heap) (hbl : b < s.heap.size) (hbA : ¬ A b) {Rel : Nat → OE → OM → Prop} (op : opL5 Rel) {n : Nat} {E : OE} {M : OM} (hR : Rel (n + 1) E M) {x3 : Int32} (i1 : vp_in (x3 + (1 : Int32)) L) (i2 : vp_in (x3 + (2 : Int32)) L) {o o2 : Nat} {so a2 : Nat → Nat} {sa : Nat → Nat → Nat} (next : ∀ (E2 : OE) (M2 : OM), Rel n E2 M2 → gG p l e room_1 s m args below meth c 4 D A 53 3771 Q 743 [(3, .int x3), (2, .ref o2), (1, .ref o), (0, .ref b)] [] (wEP cC cI cZ o so sa E2 ++ wMod cI cJ o2 a2 M2)) : gG p l e room_1 s m args below meth c 4 D A 53 3771 Q 239 [(3, .int x3), (2, .ref o2), (1, .ref o), (0, .ref b)] [] (wEP cC cI cZ o so sa E ++ wMod cI cJ o2 a2 M) := by
  refine g_aload_n C dL_law_239 rfl 2 rfl ?_
  refine g_aload_n C dL_law_240 rfl 3 rfl ?_
  refine g_iload_n C dL_law_241 rfl 0 rfl ?_
  refine g_iconst (v := (1 : Int32)) C dL_law_242 (by decide) ?_
  refine g_iadd C dL_law_243 ?_
  refine g_sld C hX hbl hbA dL_law_244 i1 ?_
  refine g_aload_n C dL_law_245 rfl 3 rfl ?_
  refine g_iload_n C dL_law_246 rfl 0 rfl ?_
  refine g_iconst (v := (2 : Int32)) C dL_law_247 (by decide) ?_
  refine g_iadd C dL_law_248 ?_
  refine g_sld C hX hbl hbA dL_law_249 i2 ?_
  obtain ⟨r, h1, h2, hR1⟩ := op n E M (xs (x3 + (1 : Int32)).toNatClampNeg) (xs (x3 + (2 : Int32)).toNatClampNeg) hR
  refine g_callVi (st := []) (ws2 := wEP cC cI cZ o so sa E ++ wMod cI cJ o2 a2 M) C yv_X5_as ml_L_36 dL_law_250 (kX5_as l D cC cI cJ cZ o so sa E (xs (x3 + (1 : Int32)).toNatClampNeg) (xs (x3 + (2 : Int32)).toNatClampNeg) r h1) gCut_left ⟨Nat.le_of_ble_eq_true rfl, Nat.le_of_ble_eq_true rfl⟩ ⟨rfl, rfl⟩ ⟨Nat.le_of_ble_eq_true rfl, Nat.le_of_ble_eq_true rfl⟩ rfl rfl (Nat.le_of_ble_eq_true rfl) 4 0 rfl rfl rfl ?_
  refine g_aload_n C dL_law_253 rfl 1 rfl ?_
  refine g_aload_n C dL_law_254 rfl 3 rfl ?_
  refine g_iload_n C dL_law_255 rfl 0 rfl ?_
  refine g_iconst (v := (1 : Int32)) C dL_law_256 (by decide) ?_
  refine g_iadd C dL_law_257 ?_
  refine g_sld C hX hbl hbA dL_law_258 i1 ?_
  refine g_aload_n C dL_law_259 rfl 3 rfl ?_
  refine g_iload_n C dL_law_260 rfl 0 rfl ?_
  refine g_iconst (v := (2 : Int32)) C dL_law_261 (by decide) ?_
  refine g_iadd C dL_law_262 ?_
  refine g_sld C hX hbl hbA dL_law_263 i2 ?_
  refine g_callVi (st := [.int r]) (ws2 := wEP cC cI cZ o so sa E ++ wMod cI cJ o2 a2 M) C yv_X6_as ml_L_39 dL_law_264 (kX6_as l D cC cI cJ cZ o2 a2 M (xs (x3 + (1 : Int32)).toNatClampNeg) (xs (x3 + (2 : Int32)).toNatClampNeg) r h2) gCut_right ⟨Nat.le_of_ble_eq_true rfl, Nat.le_of_ble_eq_true rfl⟩ ⟨rfl, rfl⟩ ⟨Nat.le_of_ble_eq_true rfl, Nat.le_of_ble_eq_true rfl⟩ rfl rfl (Nat.le_of_ble_eq_true rfl) 5 33 rfl rfl rfl ?_
  refine g_icmp_eq (tgt := 743) C dL_law_267 (by decide) (fun _ => ?_) (fun cn => absurd rfl cn)
  exact next E M hR1
def opL6 (Rel : Nat → OE → OM → Prop) : Prop := ∀ (n : Nat) (E : OE) (M : OM) (y1 : Int32) (y2 : Int32), Rel (n + 1) E M → ∃ (r : Int32) (E1 : OE) (M1 : OM), fX5_cell E y1 y2 = some (r, E1) ∧ fX6_cell M y1 y2 = some (r, M1) ∧ Rel n E1 M1
set_option maxHeartbeats 4000000 in
set_option maxRecDepth 100000 in
theorem lawc_6 {p : Program} {l : Launch} {e : Env} {s : State} {m : MethodId} {args : Array Value} {below : List Frame} {meth : Method} {c : Code} {D : va_G} {cC cI cJ cZ : ClassId} {A : Nat → Prop} {rt : Option FieldType} {Q : State → Prop} {b L : Nat} {xs : Nat → Int32} (C : gC p s m args meth c cL_law 4 RL D (tysG cC cI cJ cZ) A rt) (hX : va_X b L xs s s.heap) (hbl : b < s.heap.size) (hbA : ¬ A b) {Rel : Nat → OE → OM → Prop} (op : opL6 Rel) {n : Nat} {E : OE} {M : OM} (hR : Rel (n + 1) E M) {x3 : Int32} (i1 : vp_in (x3 + (1 : Int32)) L) (i2 : vp_in (x3 + (2 : Int32)) L) {o o2 : Nat} {so a2 : Nat → Nat} {sa : Nat → Nat → Nat} (next : ∀ (E2 : OE) (M2 : OM), Rel n E2 M2 → gG p l e room_1 s m args below meth c 4 D A 53 3771 Q 743 [(3, .int x3), (2, .ref o2), (1, .ref o), (0, .ref b)] [] (wEP cC cI cZ o so sa E2 ++ wMod cI cJ o2 a2 M2)) : gG p l e room_1 s m args below meth c 4 D A 53 3771 Q 272 [(3, .int x3), (2, .ref o2), (1, .ref o), (0, .ref b)] [] (wEP cC cI cZ o so sa E ++ wMod cI cJ o2 a2 M) := by
  refine g_aload_n C dL_law_272 rfl 2 rfl ?_
  refine g_aload_n C dL_law_273 rfl 3 rfl ?_
  refine g_iload_n C dL_law_274 rfl 0 rfl ?_
  refine g_iconst (v := (1 : Int32)) C dL_law_275 (by decide) ?_
  refine g_iadd C dL_law_276 ?_
  refine g_sld C hX hbl hbA dL_law_277 i1 ?_
  refine g_aload_n C dL_law_278 rfl 3 rfl ?_
  refine g_iload_n C dL_law_279 rfl 0 rfl ?_
  refine g_iconst (v := (2 : Int32)) C dL_law_280 (by decide) ?_
  refine g_iadd C dL_law_281 ?_
  refine g_sld C hX hbl hbA dL_law_282 i2 ?_
  obtain ⟨r, E1, M1, h1, h2, hR1⟩ := op n E M (xs (x3 + (1 : Int32)).toNatClampNeg) (xs (x3 + (2 : Int32)).toNatClampNeg) hR
  refine g_callVi (st := []) (ws2 := wEP cC cI cZ o so sa E1 ++ wMod cI cJ o2 a2 M) C yv_X5_cell ml_L_40 dL_law_283 (kX5_cell l D cC cI cJ cZ o so sa E (xs (x3 + (1 : Int32)).toNatClampNeg) (xs (x3 + (2 : Int32)).toNatClampNeg) r E1 h1) gCut_left ⟨Nat.le_of_ble_eq_true rfl, Nat.le_of_ble_eq_true rfl⟩ ⟨rfl, rfl⟩ ⟨Nat.le_of_ble_eq_true rfl, Nat.le_of_ble_eq_true rfl⟩ rfl rfl (Nat.le_of_ble_eq_true rfl) 4 0 rfl rfl rfl ?_
  refine g_aload_n C dL_law_286 rfl 1 rfl ?_
  refine g_aload_n C dL_law_287 rfl 3 rfl ?_
  refine g_iload_n C dL_law_288 rfl 0 rfl ?_
  refine g_iconst (v := (1 : Int32)) C dL_law_289 (by decide) ?_
  refine g_iadd C dL_law_290 ?_
  refine g_sld C hX hbl hbA dL_law_291 i1 ?_
  refine g_aload_n C dL_law_292 rfl 3 rfl ?_
  refine g_iload_n C dL_law_293 rfl 0 rfl ?_
  refine g_iconst (v := (2 : Int32)) C dL_law_294 (by decide) ?_
  refine g_iadd C dL_law_295 ?_
  refine g_sld C hX hbl hbA dL_law_296 i2 ?_
  refine g_callVi (st := [.int r]) (ws2 := wEP cC cI cZ o so sa E1 ++ wMod cI cJ o2 a2 M1) C yv_X6_cell ml_L_43 dL_law_297 (kX6_cell l D cC cI cJ cZ o2 a2 M (xs (x3 + (1 : Int32)).toNatClampNeg) (xs (x3 + (2 : Int32)).toNatClampNeg) r M1 h2) gCut_right ⟨Nat.le_of_ble_eq_true rfl, Nat.le_of_ble_eq_true rfl⟩ ⟨rfl, rfl⟩ ⟨Nat.le_of_ble_eq_true rfl, Nat.le_of_ble_eq_true rfl⟩ rfl rfl (Nat.le_of_ble_eq_true rfl) 5 33 rfl rfl rfl ?_
  refine g_icmp_eq (tgt := 743) C dL_law_300 (by decide) (fun _ => ?_) (fun cn => absurd rfl cn)
  exact next E1 M1 hR1
def opL7 (Rel : Nat → OE → OM → Prop) : Prop := ∀ (n : Nat) (E : OE) (M : OM) (y1 : Int32) (y2 : Int32), Rel (n + 1) E M → ∃ (r : Int32) (M1 : OM), fX5_keeps E y1 y2 = some r ∧ fX6_keeps M y1 y2 = some (r, M1) ∧ Rel n E M1
set_option maxHeartbeats 4000000 in
set_option maxRecDepth 100000 in
theorem lawc_7 {p : Program} {l : Launch} {e : Env} {s : State} {m : MethodId} {args : Array Value} {below : List Frame} {meth : Method} {c : Code} {D : va_G} {cC cI cJ cZ : ClassId} {A : Nat → Prop} {rt : Option FieldType} {Q : State → Prop} {b L : Nat} {xs : Nat → Int32} (C : gC p s m args meth c cL_law 4 RL D (tysG cC cI cJ cZ) A rt) (hX : va_X b L xs s s.heap) (hbl : b < s.heap.size) (hbA : ¬ A b) {Rel : Nat → OE → OM → Prop} (op : opL7 Rel) {n : Nat} {E : OE} {M : OM} (hR : Rel (n + 1) E M) {x3 : Int32} (i1 : vp_in (x3 + (1 : Int32)) L) (i2 : vp_in (x3 + (2 : Int32)) L) {o o2 : Nat} {so a2 : Nat → Nat} {sa : Nat → Nat → Nat} (next : ∀ (E2 : OE) (M2 : OM), Rel n E2 M2 → gG p l e room_1 s m args below meth c 4 D A 53 3771 Q 743 [(3, .int x3), (2, .ref o2), (1, .ref o), (0, .ref b)] [] (wEP cC cI cZ o so sa E2 ++ wMod cI cJ o2 a2 M2)) : gG p l e room_1 s m args below meth c 4 D A 53 3771 Q 305 [(3, .int x3), (2, .ref o2), (1, .ref o), (0, .ref b)] [] (wEP cC cI cZ o so sa E ++ wMod cI cJ o2 a2 M) := by
  refine g_aload_n C dL_law_305 rfl 2 rfl ?_
  refine g_aload_n C dL_law_306 rfl 3 rfl ?_
  refine g_iload_n C dL_law_307 rfl 0 rfl ?_
  refine g_iconst (v := (1 : Int32)) C dL_law_308 (by decide) ?_
  refine g_iadd C dL_law_309 ?_
  refine g_sld C hX hbl hbA dL_law_310 i1 ?_
  refine g_aload_n C dL_law_311 rfl 3 rfl ?_
  refine g_iload_n C dL_law_312 rfl 0 rfl ?_
  refine g_iconst (v := (2 : Int32)) C dL_law_313 (by decide) ?_
  refine g_iadd C dL_law_314 ?_
  refine g_sld C hX hbl hbA dL_law_315 i2 ?_
  obtain ⟨r, M1, h1, h2, hR1⟩ := op n E M (xs (x3 + (1 : Int32)).toNatClampNeg) (xs (x3 + (2 : Int32)).toNatClampNeg) hR
  refine g_callVi (st := []) (ws2 := wEP cC cI cZ o so sa E ++ wMod cI cJ o2 a2 M) C yv_X5_keeps ml_L_44 dL_law_316 (kX5_keeps l D cC cI cJ cZ o so sa E (xs (x3 + (1 : Int32)).toNatClampNeg) (xs (x3 + (2 : Int32)).toNatClampNeg) r h1) gCut_left ⟨Nat.le_of_ble_eq_true rfl, Nat.le_of_ble_eq_true rfl⟩ ⟨rfl, rfl⟩ ⟨Nat.le_of_ble_eq_true rfl, Nat.le_of_ble_eq_true rfl⟩ rfl rfl (Nat.le_of_ble_eq_true rfl) 4 0 rfl rfl rfl ?_
  refine g_aload_n C dL_law_319 rfl 1 rfl ?_
  refine g_aload_n C dL_law_320 rfl 3 rfl ?_
  refine g_iload_n C dL_law_321 rfl 0 rfl ?_
  refine g_iconst (v := (1 : Int32)) C dL_law_322 (by decide) ?_
  refine g_iadd C dL_law_323 ?_
  refine g_sld C hX hbl hbA dL_law_324 i1 ?_
  refine g_aload_n C dL_law_325 rfl 3 rfl ?_
  refine g_iload_n C dL_law_326 rfl 0 rfl ?_
  refine g_iconst (v := (2 : Int32)) C dL_law_327 (by decide) ?_
  refine g_iadd C dL_law_328 ?_
  refine g_sld C hX hbl hbA dL_law_329 i2 ?_
  refine g_callVi (st := [.int r]) (ws2 := wEP cC cI cZ o so sa E ++ wMod cI cJ o2 a2 M1) C yv_X6_keeps ml_L_47 dL_law_330 (kX6_keeps l D cC cI cJ cZ o2 a2 M (xs (x3 + (1 : Int32)).toNatClampNeg) (xs (x3 + (2 : Int32)).toNatClampNeg) r M1 h2) gCut_right ⟨Nat.le_of_ble_eq_true rfl, Nat.le_of_ble_eq_true rfl⟩ ⟨rfl, rfl⟩ ⟨Nat.le_of_ble_eq_true rfl, Nat.le_of_ble_eq_true rfl⟩ rfl rfl (Nat.le_of_ble_eq_true rfl) 5 33 rfl rfl rfl ?_
  refine g_icmp_eq (tgt := 743) C dL_law_333 (by decide) (fun _ => ?_) (fun cn => absurd rfl cn)
  exact next E M1 hR1
def opL8 (Rel : Nat → OE → OM → Prop) : Prop := ∀ (n : Nat) (E : OE) (M : OM) (y1 : Int32) (y2 : Int32), Rel (n + 1) E M → ∃ (r : Int32) (E1 : OE) (M1 : OM), fX5_mark E y1 y2 = some (r, E1) ∧ fX6_mark M y1 y2 = some (r, M1) ∧ Rel n E1 M1
set_option maxHeartbeats 4000000 in
set_option maxRecDepth 100000 in
theorem lawc_8 {p : Program} {l : Launch} {e : Env} {s : State} {m : MethodId} {args : Array Value} {below : List Frame} {meth : Method} {c : Code} {D : va_G} {cC cI cJ cZ : ClassId} {A : Nat → Prop} {rt : Option FieldType} {Q : State → Prop} {b L : Nat} {xs : Nat → Int32} (C : gC p s m args meth c cL_law 4 RL D (tysG cC cI cJ cZ) A rt) (hX : va_X b L xs s s.heap) (hbl : b < s.heap.size) (hbA : ¬ A b) {Rel : Nat → OE → OM → Prop} (op : opL8 Rel) {n : Nat} {E : OE} {M : OM} (hR : Rel (n + 1) E M) {x3 : Int32} (i1 : vp_in (x3 + (1 : Int32)) L) (i2 : vp_in (x3 + (2 : Int32)) L) {o o2 : Nat} {so a2 : Nat → Nat} {sa : Nat → Nat → Nat} (next : ∀ (E2 : OE) (M2 : OM), Rel n E2 M2 → gG p l e room_1 s m args below meth c 4 D A 53 3771 Q 743 [(3, .int x3), (2, .ref o2), (1, .ref o), (0, .ref b)] [] (wEP cC cI cZ o so sa E2 ++ wMod cI cJ o2 a2 M2)) : gG p l e room_1 s m args below meth c 4 D A 53 3771 Q 338 [(3, .int x3), (2, .ref o2), (1, .ref o), (0, .ref b)] [] (wEP cC cI cZ o so sa E ++ wMod cI cJ o2 a2 M) := by
  refine g_aload_n C dL_law_338 rfl 2 rfl ?_
  refine g_aload_n C dL_law_339 rfl 3 rfl ?_
  refine g_iload_n C dL_law_340 rfl 0 rfl ?_
  refine g_iconst (v := (1 : Int32)) C dL_law_341 (by decide) ?_
  refine g_iadd C dL_law_342 ?_
  refine g_sld C hX hbl hbA dL_law_343 i1 ?_
  refine g_aload_n C dL_law_344 rfl 3 rfl ?_
  refine g_iload_n C dL_law_345 rfl 0 rfl ?_
  refine g_iconst (v := (2 : Int32)) C dL_law_346 (by decide) ?_
  refine g_iadd C dL_law_347 ?_
  refine g_sld C hX hbl hbA dL_law_348 i2 ?_
  obtain ⟨r, E1, M1, h1, h2, hR1⟩ := op n E M (xs (x3 + (1 : Int32)).toNatClampNeg) (xs (x3 + (2 : Int32)).toNatClampNeg) hR
  refine g_callVi (st := []) (ws2 := wEP cC cI cZ o so sa E1 ++ wMod cI cJ o2 a2 M) C yv_X5_mark ml_L_48 dL_law_349 (kX5_mark l D cC cI cJ cZ o so sa E (xs (x3 + (1 : Int32)).toNatClampNeg) (xs (x3 + (2 : Int32)).toNatClampNeg) r E1 h1) gCut_left ⟨Nat.le_of_ble_eq_true rfl, Nat.le_of_ble_eq_true rfl⟩ ⟨rfl, rfl⟩ ⟨Nat.le_of_ble_eq_true rfl, Nat.le_of_ble_eq_true rfl⟩ rfl rfl (Nat.le_of_ble_eq_true rfl) 4 0 rfl rfl rfl ?_
  refine g_aload_n C dL_law_352 rfl 1 rfl ?_
  refine g_aload_n C dL_law_353 rfl 3 rfl ?_
  refine g_iload_n C dL_law_354 rfl 0 rfl ?_
  refine g_iconst (v := (1 : Int32)) C dL_law_355 (by decide) ?_
  refine g_iadd C dL_law_356 ?_
  refine g_sld C hX hbl hbA dL_law_357 i1 ?_
  refine g_aload_n C dL_law_358 rfl 3 rfl ?_
  refine g_iload_n C dL_law_359 rfl 0 rfl ?_
  refine g_iconst (v := (2 : Int32)) C dL_law_360 (by decide) ?_
  refine g_iadd C dL_law_361 ?_
  refine g_sld C hX hbl hbA dL_law_362 i2 ?_
  refine g_callVi (st := [.int r]) (ws2 := wEP cC cI cZ o so sa E1 ++ wMod cI cJ o2 a2 M1) C yv_X6_mark ml_L_51 dL_law_363 (kX6_mark l D cC cI cJ cZ o2 a2 M (xs (x3 + (1 : Int32)).toNatClampNeg) (xs (x3 + (2 : Int32)).toNatClampNeg) r M1 h2) gCut_right ⟨Nat.le_of_ble_eq_true rfl, Nat.le_of_ble_eq_true rfl⟩ ⟨rfl, rfl⟩ ⟨Nat.le_of_ble_eq_true rfl, Nat.le_of_ble_eq_true rfl⟩ rfl rfl (Nat.le_of_ble_eq_true rfl) 5 33 rfl rfl rfl ?_
  refine g_icmp_eq (tgt := 743) C dL_law_366 (by decide) (fun _ => ?_) (fun cn => absurd rfl cn)
  exact next E1 M1 hR1
def opL9 (Rel : Nat → OE → OM → Prop) : Prop := ∀ (n : Nat) (E : OE) (M : OM) , Rel (n + 1) E M → ∃ (r : Int32) (E1 : OE) (M1 : OM), fX5_clear E  = some (r, E1) ∧ fX6_clear M  = some (r, M1) ∧ Rel n E1 M1
set_option maxHeartbeats 4000000 in
set_option maxRecDepth 100000 in
theorem lawc_9 {p : Program} {l : Launch} {e : Env} {s : State} {m : MethodId} {args : Array Value} {below : List Frame} {meth : Method} {c : Code} {D : va_G} {cC cI cJ cZ : ClassId} {A : Nat → Prop} {rt : Option FieldType} {Q : State → Prop} {b L : Nat} {xs : Nat → Int32} (C : gC p s m args meth c cL_law 4 RL D (tysG cC cI cJ cZ) A rt) (hX : va_X b L xs s s.heap) (hbl : b < s.heap.size) (hbA : ¬ A b) {Rel : Nat → OE → OM → Prop} (op : opL9 Rel) {n : Nat} {E : OE} {M : OM} (hR : Rel (n + 1) E M) {x3 : Int32}  {o o2 : Nat} {so a2 : Nat → Nat} {sa : Nat → Nat → Nat} (next : ∀ (E2 : OE) (M2 : OM), Rel n E2 M2 → gG p l e room_1 s m args below meth c 4 D A 53 3771 Q 743 [(3, .int x3), (2, .ref o2), (1, .ref o), (0, .ref b)] [] (wEP cC cI cZ o so sa E2 ++ wMod cI cJ o2 a2 M2)) : gG p l e room_1 s m args below meth c 4 D A 53 3771 Q 371 [(3, .int x3), (2, .ref o2), (1, .ref o), (0, .ref b)] [] (wEP cC cI cZ o so sa E ++ wMod cI cJ o2 a2 M) := by
  refine g_aload_n C dL_law_371 rfl 2 rfl ?_
  obtain ⟨r, E1, M1, h1, h2, hR1⟩ := op n E M  hR
  refine g_callVi (st := []) (ws2 := wEP cC cI cZ o so sa E1 ++ wMod cI cJ o2 a2 M) C yv_X5_clear ml_L_52 dL_law_372 (kX5_clear l D cC cI cJ cZ o so sa E  r E1 h1) gCut_left ⟨Nat.le_of_ble_eq_true rfl, Nat.le_of_ble_eq_true rfl⟩ ⟨rfl, rfl⟩ ⟨Nat.le_of_ble_eq_true rfl, Nat.le_of_ble_eq_true rfl⟩ rfl rfl (Nat.le_of_ble_eq_true rfl) 4 0 rfl rfl rfl ?_
  refine g_aload_n C dL_law_375 rfl 1 rfl ?_
  refine g_callVi (st := [.int r]) (ws2 := wEP cC cI cZ o so sa E1 ++ wMod cI cJ o2 a2 M1) C yv_X6_clear ml_L_55 dL_law_376 (kX6_clear l D cC cI cJ cZ o2 a2 M  r M1 h2) gCut_right ⟨Nat.le_of_ble_eq_true rfl, Nat.le_of_ble_eq_true rfl⟩ ⟨rfl, rfl⟩ ⟨Nat.le_of_ble_eq_true rfl, Nat.le_of_ble_eq_true rfl⟩ rfl rfl (Nat.le_of_ble_eq_true rfl) 5 33 rfl rfl rfl ?_
  refine g_icmp_eq (tgt := 743) C dL_law_379 (by decide) (fun _ => ?_) (fun cn => absurd rfl cn)
  exact next E1 M1 hR1
def opL10 (Rel : Nat → OE → OM → Prop) : Prop := ∀ (n : Nat) (E : OE) (M : OM) (y1 : Int32) (y2 : Int32) (y3 : Int32) (y4 : Int32), Rel (n + 1) E M → ∃ (r : Int32) (E1 : OE) (M1 : OM), fX5_clue E y1 y2 y3 y4 = some (r, E1) ∧ fX6_clue M y1 y2 y3 y4 = some (r, M1) ∧ Rel n E1 M1
set_option maxHeartbeats 4000000 in
set_option maxRecDepth 100000 in
theorem lawc_10 {p : Program} {l : Launch} {e : Env} {s : State} {m : MethodId} {args : Array Value} {below : List Frame} {meth : Method} {c : Code} {D : va_G} {cC cI cJ cZ : ClassId} {A : Nat → Prop} {rt : Option FieldType} {Q : State → Prop} {b L : Nat} {xs : Nat → Int32} (C : gC p s m args meth c cL_law 4 RL D (tysG cC cI cJ cZ) A rt) (hX : va_X b L xs s s.heap) (hbl : b < s.heap.size) (hbA : ¬ A b) {Rel : Nat → OE → OM → Prop} (op : opL10 Rel) {n : Nat} {E : OE} {M : OM} (hR : Rel (n + 1) E M) {x3 : Int32} (i1 : vp_in (x3 + (1 : Int32)) L) (i2 : vp_in (x3 + (2 : Int32)) L) (i3 : vp_in (x3 + (3 : Int32)) L) (i4 : vp_in (x3 + (4 : Int32)) L) {o o2 : Nat} {so a2 : Nat → Nat} {sa : Nat → Nat → Nat} (next : ∀ (E2 : OE) (M2 : OM), Rel n E2 M2 → gG p l e room_1 s m args below meth c 4 D A 53 3771 Q 743 [(3, .int x3), (2, .ref o2), (1, .ref o), (0, .ref b)] [] (wEP cC cI cZ o so sa E2 ++ wMod cI cJ o2 a2 M2)) : gG p l e room_1 s m args below meth c 4 D A 53 3771 Q 384 [(3, .int x3), (2, .ref o2), (1, .ref o), (0, .ref b)] [] (wEP cC cI cZ o so sa E ++ wMod cI cJ o2 a2 M) := by
  refine g_aload_n C dL_law_384 rfl 2 rfl ?_
  refine g_aload_n C dL_law_385 rfl 3 rfl ?_
  refine g_iload_n C dL_law_386 rfl 0 rfl ?_
  refine g_iconst (v := (1 : Int32)) C dL_law_387 (by decide) ?_
  refine g_iadd C dL_law_388 ?_
  refine g_sld C hX hbl hbA dL_law_389 i1 ?_
  refine g_aload_n C dL_law_390 rfl 3 rfl ?_
  refine g_iload_n C dL_law_391 rfl 0 rfl ?_
  refine g_iconst (v := (2 : Int32)) C dL_law_392 (by decide) ?_
  refine g_iadd C dL_law_393 ?_
  refine g_sld C hX hbl hbA dL_law_394 i2 ?_
  refine g_aload_n C dL_law_395 rfl 3 rfl ?_
  refine g_iload_n C dL_law_396 rfl 0 rfl ?_
  refine g_iconst (v := (3 : Int32)) C dL_law_397 (by decide) ?_
  refine g_iadd C dL_law_398 ?_
  refine g_sld C hX hbl hbA dL_law_399 i3 ?_
  refine g_aload_n C dL_law_400 rfl 3 rfl ?_
  refine g_iload_n C dL_law_401 rfl 0 rfl ?_
  refine g_iconst (v := (4 : Int32)) C dL_law_402 (by decide) ?_
  refine g_iadd C dL_law_403 ?_
  refine g_sld C hX hbl hbA dL_law_404 i4 ?_
  obtain ⟨r, E1, M1, h1, h2, hR1⟩ := op n E M (xs (x3 + (1 : Int32)).toNatClampNeg) (xs (x3 + (2 : Int32)).toNatClampNeg) (xs (x3 + (3 : Int32)).toNatClampNeg) (xs (x3 + (4 : Int32)).toNatClampNeg) hR
  refine g_callVi (st := []) (ws2 := wEP cC cI cZ o so sa E1 ++ wMod cI cJ o2 a2 M) C yv_X5_clue ml_L_56 dL_law_405 (kX5_clue l D cC cI cJ cZ o so sa E (xs (x3 + (1 : Int32)).toNatClampNeg) (xs (x3 + (2 : Int32)).toNatClampNeg) (xs (x3 + (3 : Int32)).toNatClampNeg) (xs (x3 + (4 : Int32)).toNatClampNeg) r E1 h1) gCut_left ⟨Nat.le_of_ble_eq_true rfl, Nat.le_of_ble_eq_true rfl⟩ ⟨rfl, rfl⟩ ⟨Nat.le_of_ble_eq_true rfl, Nat.le_of_ble_eq_true rfl⟩ rfl rfl (Nat.le_of_ble_eq_true rfl) 4 0 rfl rfl rfl ?_
  refine g_aload_n C dL_law_408 rfl 1 rfl ?_
  refine g_aload_n C dL_law_409 rfl 3 rfl ?_
  refine g_iload_n C dL_law_410 rfl 0 rfl ?_
  refine g_iconst (v := (1 : Int32)) C dL_law_411 (by decide) ?_
  refine g_iadd C dL_law_412 ?_
  refine g_sld C hX hbl hbA dL_law_413 i1 ?_
  refine g_aload_n C dL_law_414 rfl 3 rfl ?_
  refine g_iload_n C dL_law_415 rfl 0 rfl ?_
  refine g_iconst (v := (2 : Int32)) C dL_law_416 (by decide) ?_
  refine g_iadd C dL_law_417 ?_
  refine g_sld C hX hbl hbA dL_law_418 i2 ?_
  refine g_aload_n C dL_law_419 rfl 3 rfl ?_
  refine g_iload_n C dL_law_420 rfl 0 rfl ?_
  refine g_iconst (v := (3 : Int32)) C dL_law_421 (by decide) ?_
  refine g_iadd C dL_law_422 ?_
  refine g_sld C hX hbl hbA dL_law_423 i3 ?_
  refine g_aload_n C dL_law_424 rfl 3 rfl ?_
  refine g_iload_n C dL_law_425 rfl 0 rfl ?_
  refine g_iconst (v := (4 : Int32)) C dL_law_426 (by decide) ?_
  refine g_iadd C dL_law_427 ?_
  refine g_sld C hX hbl hbA dL_law_428 i4 ?_
  refine g_callVi (st := [.int r]) (ws2 := wEP cC cI cZ o so sa E1 ++ wMod cI cJ o2 a2 M1) C yv_X6_clue ml_L_60 dL_law_429 (kX6_clue l D cC cI cJ cZ o2 a2 M (xs (x3 + (1 : Int32)).toNatClampNeg) (xs (x3 + (2 : Int32)).toNatClampNeg) (xs (x3 + (3 : Int32)).toNatClampNeg) (xs (x3 + (4 : Int32)).toNatClampNeg) r M1 h2) gCut_right ⟨Nat.le_of_ble_eq_true rfl, Nat.le_of_ble_eq_true rfl⟩ ⟨rfl, rfl⟩ ⟨Nat.le_of_ble_eq_true rfl, Nat.le_of_ble_eq_true rfl⟩ rfl rfl (Nat.le_of_ble_eq_true rfl) 5 33 rfl rfl rfl ?_
  refine g_icmp_eq (tgt := 743) C dL_law_432 (by decide) (fun _ => ?_) (fun cn => absurd rfl cn)
  exact next E1 M1 hR1
def opL11 (Rel : Nat → OE → OM → Prop) : Prop := ∀ (n : Nat) (E : OE) (M : OM) , Rel (n + 1) E M → ∃ (r : Int32) (E1 : OE) (M1 : OM), fX5_left E  = some (r, E1) ∧ fX6_left M  = some (r, M1) ∧ Rel n E1 M1
set_option maxHeartbeats 4000000 in
set_option maxRecDepth 100000 in
theorem lawc_11 {p : Program} {l : Launch} {e : Env} {s : State} {m : MethodId} {args : Array Value} {below : List Frame} {meth : Method} {c : Code} {D : va_G} {cC cI cJ cZ : ClassId} {A : Nat → Prop} {rt : Option FieldType} {Q : State → Prop} {b L : Nat} {xs : Nat → Int32} (C : gC p s m args meth c cL_law 4 RL D (tysG cC cI cJ cZ) A rt) (hX : va_X b L xs s s.heap) (hbl : b < s.heap.size) (hbA : ¬ A b) {Rel : Nat → OE → OM → Prop} (op : opL11 Rel) {n : Nat} {E : OE} {M : OM} (hR : Rel (n + 1) E M) {x3 : Int32}  {o o2 : Nat} {so a2 : Nat → Nat} {sa : Nat → Nat → Nat} (next : ∀ (E2 : OE) (M2 : OM), Rel n E2 M2 → gG p l e room_1 s m args below meth c 4 D A 53 3771 Q 743 [(3, .int x3), (2, .ref o2), (1, .ref o), (0, .ref b)] [] (wEP cC cI cZ o so sa E2 ++ wMod cI cJ o2 a2 M2)) : gG p l e room_1 s m args below meth c 4 D A 53 3771 Q 437 [(3, .int x3), (2, .ref o2), (1, .ref o), (0, .ref b)] [] (wEP cC cI cZ o so sa E ++ wMod cI cJ o2 a2 M) := by
  refine g_aload_n C dL_law_437 rfl 2 rfl ?_
  obtain ⟨r, E1, M1, h1, h2, hR1⟩ := op n E M  hR
  refine g_callVi (st := []) (ws2 := wEP cC cI cZ o so sa E1 ++ wMod cI cJ o2 a2 M) C yv_X5_left ml_L_61 dL_law_438 (kX5_left l D cC cI cJ cZ o so sa E  r E1 h1) gCut_left ⟨Nat.le_of_ble_eq_true rfl, Nat.le_of_ble_eq_true rfl⟩ ⟨rfl, rfl⟩ ⟨Nat.le_of_ble_eq_true rfl, Nat.le_of_ble_eq_true rfl⟩ rfl rfl (Nat.le_of_ble_eq_true rfl) 4 0 rfl rfl rfl ?_
  refine g_aload_n C dL_law_441 rfl 1 rfl ?_
  refine g_callVi (st := [.int r]) (ws2 := wEP cC cI cZ o so sa E1 ++ wMod cI cJ o2 a2 M1) C yv_X6_left ml_L_64 dL_law_442 (kX6_left l D cC cI cJ cZ o2 a2 M  r M1 h2) gCut_right ⟨Nat.le_of_ble_eq_true rfl, Nat.le_of_ble_eq_true rfl⟩ ⟨rfl, rfl⟩ ⟨Nat.le_of_ble_eq_true rfl, Nat.le_of_ble_eq_true rfl⟩ rfl rfl (Nat.le_of_ble_eq_true rfl) 5 33 rfl rfl rfl ?_
  refine g_icmp_eq (tgt := 743) C dL_law_445 (by decide) (fun _ => ?_) (fun cn => absurd rfl cn)
  exact next E1 M1 hR1
def opL12 (Rel : Nat → OE → OM → Prop) : Prop := ∀ (n : Nat) (E : OE) (M : OM) (y1 : Int32), Rel (n + 1) E M → ∃ (r : Int32) (E1 : OE) (M1 : OM), fX5_picture E y1 = some (r, E1) ∧ fX6_picture M y1 = some (r, M1) ∧ Rel n E1 M1
set_option maxHeartbeats 4000000 in
set_option maxRecDepth 100000 in
theorem lawc_12 {p : Program} {l : Launch} {e : Env} {s : State} {m : MethodId} {args : Array Value} {below : List Frame} {meth : Method} {c : Code} {D : va_G} {cC cI cJ cZ : ClassId} {A : Nat → Prop} {rt : Option FieldType} {Q : State → Prop} {b L : Nat} {xs : Nat → Int32} (C : gC p s m args meth c cL_law 4 RL D (tysG cC cI cJ cZ) A rt) (hX : va_X b L xs s s.heap) (hbl : b < s.heap.size) (hbA : ¬ A b) {Rel : Nat → OE → OM → Prop} (op : opL12 Rel) {n : Nat} {E : OE} {M : OM} (hR : Rel (n + 1) E M) {x3 : Int32} (i1 : vp_in (x3 + (1 : Int32)) L) {o o2 : Nat} {so a2 : Nat → Nat} {sa : Nat → Nat → Nat} (next : ∀ (E2 : OE) (M2 : OM), Rel n E2 M2 → gG p l e room_1 s m args below meth c 4 D A 53 3771 Q 743 [(3, .int x3), (2, .ref o2), (1, .ref o), (0, .ref b)] [] (wEP cC cI cZ o so sa E2 ++ wMod cI cJ o2 a2 M2)) : gG p l e room_1 s m args below meth c 4 D A 53 3771 Q 450 [(3, .int x3), (2, .ref o2), (1, .ref o), (0, .ref b)] [] (wEP cC cI cZ o so sa E ++ wMod cI cJ o2 a2 M) := by
  refine g_aload_n C dL_law_450 rfl 2 rfl ?_
  refine g_aload_n C dL_law_451 rfl 3 rfl ?_
  refine g_iload_n C dL_law_452 rfl 0 rfl ?_
  refine g_iconst (v := (1 : Int32)) C dL_law_453 (by decide) ?_
  refine g_iadd C dL_law_454 ?_
  refine g_sld C hX hbl hbA dL_law_455 i1 ?_
  obtain ⟨r, E1, M1, h1, h2, hR1⟩ := op n E M (xs (x3 + (1 : Int32)).toNatClampNeg) hR
  refine g_callVi (st := []) (ws2 := wEP cC cI cZ o so sa E1 ++ wMod cI cJ o2 a2 M) C yv_X5_picture ml_L_65 dL_law_456 (kX5_picture l D cC cI cJ cZ o so sa E (xs (x3 + (1 : Int32)).toNatClampNeg) r E1 h1) gCut_left ⟨Nat.le_of_ble_eq_true rfl, Nat.le_of_ble_eq_true rfl⟩ ⟨rfl, rfl⟩ ⟨Nat.le_of_ble_eq_true rfl, Nat.le_of_ble_eq_true rfl⟩ rfl rfl (Nat.le_of_ble_eq_true rfl) 4 0 rfl rfl rfl ?_
  refine g_aload_n C dL_law_459 rfl 1 rfl ?_
  refine g_aload_n C dL_law_460 rfl 3 rfl ?_
  refine g_iload_n C dL_law_461 rfl 0 rfl ?_
  refine g_iconst (v := (1 : Int32)) C dL_law_462 (by decide) ?_
  refine g_iadd C dL_law_463 ?_
  refine g_sld C hX hbl hbA dL_law_464 i1 ?_
  refine g_callVi (st := [.int r]) (ws2 := wEP cC cI cZ o so sa E1 ++ wMod cI cJ o2 a2 M1) C yv_X6_picture ml_L_68 dL_law_465 (kX6_picture l D cC cI cJ cZ o2 a2 M (xs (x3 + (1 : Int32)).toNatClampNeg) r M1 h2) gCut_right ⟨Nat.le_of_ble_eq_true rfl, Nat.le_of_ble_eq_true rfl⟩ ⟨rfl, rfl⟩ ⟨Nat.le_of_ble_eq_true rfl, Nat.le_of_ble_eq_true rfl⟩ rfl rfl (Nat.le_of_ble_eq_true rfl) 5 33 rfl rfl rfl ?_
  refine g_icmp_eq (tgt := 743) C dL_law_468 (by decide) (fun _ => ?_) (fun cn => absurd rfl cn)
  exact next E1 M1 hR1
def opL13 (Rel : Nat → OE → OM → Prop) : Prop := ∀ (n : Nat) (E : OE) (M : OM) , Rel (n + 1) E M → ∃ (r : Int32) (E1 : OE) (M1 : OM), fX5_look E  = some (r, E1) ∧ fX6_look M  = some (r, M1) ∧ Rel n E1 M1
set_option maxHeartbeats 4000000 in
set_option maxRecDepth 100000 in
theorem lawc_13 {p : Program} {l : Launch} {e : Env} {s : State} {m : MethodId} {args : Array Value} {below : List Frame} {meth : Method} {c : Code} {D : va_G} {cC cI cJ cZ : ClassId} {A : Nat → Prop} {rt : Option FieldType} {Q : State → Prop} {b L : Nat} {xs : Nat → Int32} (C : gC p s m args meth c cL_law 4 RL D (tysG cC cI cJ cZ) A rt) (hX : va_X b L xs s s.heap) (hbl : b < s.heap.size) (hbA : ¬ A b) {Rel : Nat → OE → OM → Prop} (op : opL13 Rel) {n : Nat} {E : OE} {M : OM} (hR : Rel (n + 1) E M) {x3 : Int32}  {o o2 : Nat} {so a2 : Nat → Nat} {sa : Nat → Nat → Nat} (next : ∀ (E2 : OE) (M2 : OM), Rel n E2 M2 → gG p l e room_1 s m args below meth c 4 D A 53 3771 Q 743 [(3, .int x3), (2, .ref o2), (1, .ref o), (0, .ref b)] [] (wEP cC cI cZ o so sa E2 ++ wMod cI cJ o2 a2 M2)) : gG p l e room_1 s m args below meth c 4 D A 53 3771 Q 473 [(3, .int x3), (2, .ref o2), (1, .ref o), (0, .ref b)] [] (wEP cC cI cZ o so sa E ++ wMod cI cJ o2 a2 M) := by
  refine g_aload_n C dL_law_473 rfl 2 rfl ?_
  obtain ⟨r, E1, M1, h1, h2, hR1⟩ := op n E M  hR
  refine g_callVi (st := []) (ws2 := wEP cC cI cZ o so sa E1 ++ wMod cI cJ o2 a2 M) C yv_X5_look ml_L_69 dL_law_474 (kX5_look l D cC cI cJ cZ o so sa E  r E1 h1) gCut_left ⟨Nat.le_of_ble_eq_true rfl, Nat.le_of_ble_eq_true rfl⟩ ⟨rfl, rfl⟩ ⟨Nat.le_of_ble_eq_true rfl, Nat.le_of_ble_eq_true rfl⟩ rfl rfl (Nat.le_of_ble_eq_true rfl) 4 0 rfl rfl rfl ?_
  refine g_aload_n C dL_law_477 rfl 1 rfl ?_
  refine g_callVi (st := [.int r]) (ws2 := wEP cC cI cZ o so sa E1 ++ wMod cI cJ o2 a2 M1) C yv_X6_look ml_L_72 dL_law_478 (kX6_look l D cC cI cJ cZ o2 a2 M  r M1 h2) gCut_right ⟨Nat.le_of_ble_eq_true rfl, Nat.le_of_ble_eq_true rfl⟩ ⟨rfl, rfl⟩ ⟨Nat.le_of_ble_eq_true rfl, Nat.le_of_ble_eq_true rfl⟩ rfl rfl (Nat.le_of_ble_eq_true rfl) 5 33 rfl rfl rfl ?_
  refine g_icmp_eq (tgt := 743) C dL_law_481 (by decide) (fun _ => ?_) (fun cn => absurd rfl cn)
  exact next E1 M1 hR1
def opL14 (Rel : Nat → OE → OM → Prop) : Prop := ∀ (n : Nat) (E : OE) (M : OM) (y1 : Int32) (y2 : Int32), Rel (n + 1) E M → ∃ (r : Int32) (E1 : OE) (M1 : OM), fX5_odds E y1 y2 = some (r, E1) ∧ fX6_odds M y1 y2 = some (r, M1) ∧ Rel n E1 M1
set_option maxHeartbeats 4000000 in
set_option maxRecDepth 100000 in
theorem lawc_14 {p : Program} {l : Launch} {e : Env} {s : State} {m : MethodId} {args : Array Value} {below : List Frame} {meth : Method} {c : Code} {D : va_G} {cC cI cJ cZ : ClassId} {A : Nat → Prop} {rt : Option FieldType} {Q : State → Prop} {b L : Nat} {xs : Nat → Int32} (C : gC p s m args meth c cL_law 4 RL D (tysG cC cI cJ cZ) A rt) (hX : va_X b L xs s s.heap) (hbl : b < s.heap.size) (hbA : ¬ A b) {Rel : Nat → OE → OM → Prop} (op : opL14 Rel) {n : Nat} {E : OE} {M : OM} (hR : Rel (n + 1) E M) {x3 : Int32} (i1 : vp_in (x3 + (1 : Int32)) L) (i2 : vp_in (x3 + (2 : Int32)) L) {o o2 : Nat} {so a2 : Nat → Nat} {sa : Nat → Nat → Nat} (next : ∀ (E2 : OE) (M2 : OM), Rel n E2 M2 → gG p l e room_1 s m args below meth c 4 D A 53 3771 Q 743 [(3, .int x3), (2, .ref o2), (1, .ref o), (0, .ref b)] [] (wEP cC cI cZ o so sa E2 ++ wMod cI cJ o2 a2 M2)) : gG p l e room_1 s m args below meth c 4 D A 53 3771 Q 486 [(3, .int x3), (2, .ref o2), (1, .ref o), (0, .ref b)] [] (wEP cC cI cZ o so sa E ++ wMod cI cJ o2 a2 M) := by
  refine g_aload_n C dL_law_486 rfl 2 rfl ?_
  refine g_aload_n C dL_law_487 rfl 3 rfl ?_
  refine g_iload_n C dL_law_488 rfl 0 rfl ?_
  refine g_iconst (v := (1 : Int32)) C dL_law_489 (by decide) ?_
  refine g_iadd C dL_law_490 ?_
  refine g_sld C hX hbl hbA dL_law_491 i1 ?_
  refine g_aload_n C dL_law_492 rfl 3 rfl ?_
  refine g_iload_n C dL_law_493 rfl 0 rfl ?_
  refine g_iconst (v := (2 : Int32)) C dL_law_494 (by decide) ?_
  refine g_iadd C dL_law_495 ?_
  refine g_sld C hX hbl hbA dL_law_496 i2 ?_
  obtain ⟨r, E1, M1, h1, h2, hR1⟩ := op n E M (xs (x3 + (1 : Int32)).toNatClampNeg) (xs (x3 + (2 : Int32)).toNatClampNeg) hR
  refine g_callVi (st := []) (ws2 := wEP cC cI cZ o so sa E1 ++ wMod cI cJ o2 a2 M) C yv_X5_odds ml_L_73 dL_law_497 (kX5_odds l D cC cI cJ cZ o so sa E (xs (x3 + (1 : Int32)).toNatClampNeg) (xs (x3 + (2 : Int32)).toNatClampNeg) r E1 h1) gCut_left ⟨Nat.le_of_ble_eq_true rfl, Nat.le_of_ble_eq_true rfl⟩ ⟨rfl, rfl⟩ ⟨Nat.le_of_ble_eq_true rfl, Nat.le_of_ble_eq_true rfl⟩ rfl rfl (Nat.le_of_ble_eq_true rfl) 4 0 rfl rfl rfl ?_
  refine g_aload_n C dL_law_500 rfl 1 rfl ?_
  refine g_aload_n C dL_law_501 rfl 3 rfl ?_
  refine g_iload_n C dL_law_502 rfl 0 rfl ?_
  refine g_iconst (v := (1 : Int32)) C dL_law_503 (by decide) ?_
  refine g_iadd C dL_law_504 ?_
  refine g_sld C hX hbl hbA dL_law_505 i1 ?_
  refine g_aload_n C dL_law_506 rfl 3 rfl ?_
  refine g_iload_n C dL_law_507 rfl 0 rfl ?_
  refine g_iconst (v := (2 : Int32)) C dL_law_508 (by decide) ?_
  refine g_iadd C dL_law_509 ?_
  refine g_sld C hX hbl hbA dL_law_510 i2 ?_
  refine g_callVi (st := [.int r]) (ws2 := wEP cC cI cZ o so sa E1 ++ wMod cI cJ o2 a2 M1) C yv_X6_odds ml_L_76 dL_law_511 (kX6_odds l D cC cI cJ cZ o2 a2 M (xs (x3 + (1 : Int32)).toNatClampNeg) (xs (x3 + (2 : Int32)).toNatClampNeg) r M1 h2) gCut_right ⟨Nat.le_of_ble_eq_true rfl, Nat.le_of_ble_eq_true rfl⟩ ⟨rfl, rfl⟩ ⟨Nat.le_of_ble_eq_true rfl, Nat.le_of_ble_eq_true rfl⟩ rfl rfl (Nat.le_of_ble_eq_true rfl) 5 33 rfl rfl rfl ?_
  refine g_icmp_eq (tgt := 743) C dL_law_514 (by decide) (fun _ => ?_) (fun cn => absurd rfl cn)
  exact next E1 M1 hR1
def opL15 (Rel : Nat → OE → OM → Prop) : Prop := ∀ (n : Nat) (E : OE) (M : OM) (y1 : Int32) (y2 : Int32), Rel (n + 1) E M → ∃ (r : Int32) (E1 : OE) (M1 : OM), fX5_hints E y1 y2 = some (r, E1) ∧ fX6_hints M y1 y2 = some (r, M1) ∧ Rel n E1 M1
set_option maxHeartbeats 4000000 in
set_option maxRecDepth 100000 in
theorem lawc_15 {p : Program} {l : Launch} {e : Env} {s : State} {m : MethodId} {args : Array Value} {below : List Frame} {meth : Method} {c : Code} {D : va_G} {cC cI cJ cZ : ClassId} {A : Nat → Prop} {rt : Option FieldType} {Q : State → Prop} {b L : Nat} {xs : Nat → Int32} (C : gC p s m args meth c cL_law 4 RL D (tysG cC cI cJ cZ) A rt) (hX : va_X b L xs s s.heap) (hbl : b < s.heap.size) (hbA : ¬ A b) {Rel : Nat → OE → OM → Prop} (op : opL15 Rel) {n : Nat} {E : OE} {M : OM} (hR : Rel (n + 1) E M) {x3 : Int32} (i1 : vp_in (x3 + (1 : Int32)) L) (i2 : vp_in (x3 + (2 : Int32)) L) {o o2 : Nat} {so a2 : Nat → Nat} {sa : Nat → Nat → Nat} (next : ∀ (E2 : OE) (M2 : OM), Rel n E2 M2 → gG p l e room_1 s m args below meth c 4 D A 53 3771 Q 743 [(3, .int x3), (2, .ref o2), (1, .ref o), (0, .ref b)] [] (wEP cC cI cZ o so sa E2 ++ wMod cI cJ o2 a2 M2)) : gG p l e room_1 s m args below meth c 4 D A 53 3771 Q 519 [(3, .int x3), (2, .ref o2), (1, .ref o), (0, .ref b)] [] (wEP cC cI cZ o so sa E ++ wMod cI cJ o2 a2 M) := by
  refine g_aload_n C dL_law_519 rfl 2 rfl ?_
  refine g_aload_n C dL_law_520 rfl 3 rfl ?_
  refine g_iload_n C dL_law_521 rfl 0 rfl ?_
  refine g_iconst (v := (1 : Int32)) C dL_law_522 (by decide) ?_
  refine g_iadd C dL_law_523 ?_
  refine g_sld C hX hbl hbA dL_law_524 i1 ?_
  refine g_aload_n C dL_law_525 rfl 3 rfl ?_
  refine g_iload_n C dL_law_526 rfl 0 rfl ?_
  refine g_iconst (v := (2 : Int32)) C dL_law_527 (by decide) ?_
  refine g_iadd C dL_law_528 ?_
  refine g_sld C hX hbl hbA dL_law_529 i2 ?_
  obtain ⟨r, E1, M1, h1, h2, hR1⟩ := op n E M (xs (x3 + (1 : Int32)).toNatClampNeg) (xs (x3 + (2 : Int32)).toNatClampNeg) hR
  refine g_callVi (st := []) (ws2 := wEP cC cI cZ o so sa E1 ++ wMod cI cJ o2 a2 M) C yv_X5_hints ml_L_77 dL_law_530 (kX5_hints l D cC cI cJ cZ o so sa E (xs (x3 + (1 : Int32)).toNatClampNeg) (xs (x3 + (2 : Int32)).toNatClampNeg) r E1 h1) gCut_left ⟨Nat.le_of_ble_eq_true rfl, Nat.le_of_ble_eq_true rfl⟩ ⟨rfl, rfl⟩ ⟨Nat.le_of_ble_eq_true rfl, Nat.le_of_ble_eq_true rfl⟩ rfl rfl (Nat.le_of_ble_eq_true rfl) 4 0 rfl rfl rfl ?_
  refine g_aload_n C dL_law_533 rfl 1 rfl ?_
  refine g_aload_n C dL_law_534 rfl 3 rfl ?_
  refine g_iload_n C dL_law_535 rfl 0 rfl ?_
  refine g_iconst (v := (1 : Int32)) C dL_law_536 (by decide) ?_
  refine g_iadd C dL_law_537 ?_
  refine g_sld C hX hbl hbA dL_law_538 i1 ?_
  refine g_aload_n C dL_law_539 rfl 3 rfl ?_
  refine g_iload_n C dL_law_540 rfl 0 rfl ?_
  refine g_iconst (v := (2 : Int32)) C dL_law_541 (by decide) ?_
  refine g_iadd C dL_law_542 ?_
  refine g_sld C hX hbl hbA dL_law_543 i2 ?_
  refine g_callVi (st := [.int r]) (ws2 := wEP cC cI cZ o so sa E1 ++ wMod cI cJ o2 a2 M1) C yv_X6_hints ml_L_80 dL_law_544 (kX6_hints l D cC cI cJ cZ o2 a2 M (xs (x3 + (1 : Int32)).toNatClampNeg) (xs (x3 + (2 : Int32)).toNatClampNeg) r M1 h2) gCut_right ⟨Nat.le_of_ble_eq_true rfl, Nat.le_of_ble_eq_true rfl⟩ ⟨rfl, rfl⟩ ⟨Nat.le_of_ble_eq_true rfl, Nat.le_of_ble_eq_true rfl⟩ rfl rfl (Nat.le_of_ble_eq_true rfl) 5 33 rfl rfl rfl ?_
  refine g_icmp_eq (tgt := 743) C dL_law_547 (by decide) (fun _ => ?_) (fun cn => absurd rfl cn)
  exact next E1 M1 hR1
def opL16 (Rel : Nat → OE → OM → Prop) : Prop := ∀ (n : Nat) (E : OE) (M : OM) , Rel (n + 1) E M → ∃ (r : Int32) (E1 : OE) (M1 : OM), fX5_one E  = some (r, E1) ∧ fX6_one M  = some (r, M1) ∧ Rel n E1 M1
set_option maxHeartbeats 4000000 in
set_option maxRecDepth 100000 in
theorem lawc_16 {p : Program} {l : Launch} {e : Env} {s : State} {m : MethodId} {args : Array Value} {below : List Frame} {meth : Method} {c : Code} {D : va_G} {cC cI cJ cZ : ClassId} {A : Nat → Prop} {rt : Option FieldType} {Q : State → Prop} {b L : Nat} {xs : Nat → Int32} (C : gC p s m args meth c cL_law 4 RL D (tysG cC cI cJ cZ) A rt) (hX : va_X b L xs s s.heap) (hbl : b < s.heap.size) (hbA : ¬ A b) {Rel : Nat → OE → OM → Prop} (op : opL16 Rel) {n : Nat} {E : OE} {M : OM} (hR : Rel (n + 1) E M) {x3 : Int32}  {o o2 : Nat} {so a2 : Nat → Nat} {sa : Nat → Nat → Nat} (next : ∀ (E2 : OE) (M2 : OM), Rel n E2 M2 → gG p l e room_1 s m args below meth c 4 D A 53 3771 Q 743 [(3, .int x3), (2, .ref o2), (1, .ref o), (0, .ref b)] [] (wEP cC cI cZ o so sa E2 ++ wMod cI cJ o2 a2 M2)) : gG p l e room_1 s m args below meth c 4 D A 53 3771 Q 552 [(3, .int x3), (2, .ref o2), (1, .ref o), (0, .ref b)] [] (wEP cC cI cZ o so sa E ++ wMod cI cJ o2 a2 M) := by
  refine g_aload_n C dL_law_552 rfl 2 rfl ?_
  obtain ⟨r, E1, M1, h1, h2, hR1⟩ := op n E M  hR
  refine g_callVi (st := []) (ws2 := wEP cC cI cZ o so sa E1 ++ wMod cI cJ o2 a2 M) C yv_X5_one ml_L_81 dL_law_553 (kX5_one l D cC cI cJ cZ o so sa E  r E1 h1) gCut_left ⟨Nat.le_of_ble_eq_true rfl, Nat.le_of_ble_eq_true rfl⟩ ⟨rfl, rfl⟩ ⟨Nat.le_of_ble_eq_true rfl, Nat.le_of_ble_eq_true rfl⟩ rfl rfl (Nat.le_of_ble_eq_true rfl) 4 0 rfl rfl rfl ?_
  refine g_aload_n C dL_law_556 rfl 1 rfl ?_
  refine g_callVi (st := [.int r]) (ws2 := wEP cC cI cZ o so sa E1 ++ wMod cI cJ o2 a2 M1) C yv_X6_one ml_L_84 dL_law_557 (kX6_one l D cC cI cJ cZ o2 a2 M  r M1 h2) gCut_right ⟨Nat.le_of_ble_eq_true rfl, Nat.le_of_ble_eq_true rfl⟩ ⟨rfl, rfl⟩ ⟨Nat.le_of_ble_eq_true rfl, Nat.le_of_ble_eq_true rfl⟩ rfl rfl (Nat.le_of_ble_eq_true rfl) 5 33 rfl rfl rfl ?_
  refine g_icmp_eq (tgt := 743) C dL_law_560 (by decide) (fun _ => ?_) (fun cn => absurd rfl cn)
  exact next E1 M1 hR1
def opL17 (Rel : Nat → OE → OM → Prop) : Prop := ∀ (n : Nat) (E : OE) (M : OM) (y1 : Int32) (y2 : Int32) (y3 : Int32), (y3 = 0 ∨ y3 = 1) → Rel (n + 1) E M → ∃ (r : Int32) (E1 : OE) (M1 : OM), fX5_see E y1 y2 y3 = some (r, E1) ∧ fX6_see M y1 y2 y3 = some (r, M1) ∧ Rel n E1 M1
set_option maxHeartbeats 4000000 in
set_option maxRecDepth 100000 in
theorem lawc_17 {p : Program} {l : Launch} {e : Env} {s : State} {m : MethodId} {args : Array Value} {below : List Frame} {meth : Method} {c : Code} {D : va_G} {cC cI cJ cZ : ClassId} {A : Nat → Prop} {rt : Option FieldType} {Q : State → Prop} {b L : Nat} {xs : Nat → Int32} (C : gC p s m args meth c cL_law 4 RL D (tysG cC cI cJ cZ) A rt) (hX : va_X b L xs s s.heap) (hbl : b < s.heap.size) (hbA : ¬ A b) {Rel : Nat → OE → OM → Prop} (op : opL17 Rel) {n : Nat} {E : OE} {M : OM} (hR : Rel (n + 1) E M) {x3 : Int32} (i1 : vp_in (x3 + (1 : Int32)) L) (i2 : vp_in (x3 + (2 : Int32)) L) (i3 : vp_in (x3 + (3 : Int32)) L) {o o2 : Nat} {so a2 : Nat → Nat} {sa : Nat → Nat → Nat} (next : ∀ (E2 : OE) (M2 : OM), Rel n E2 M2 → gG p l e room_1 s m args below meth c 4 D A 53 3771 Q 743 [(3, .int x3), (2, .ref o2), (1, .ref o), (0, .ref b)] [] (wEP cC cI cZ o so sa E2 ++ wMod cI cJ o2 a2 M2)) : gG p l e room_1 s m args below meth c 4 D A 53 3771 Q 565 [(3, .int x3), (2, .ref o2), (1, .ref o), (0, .ref b)] [] (wEP cC cI cZ o so sa E ++ wMod cI cJ o2 a2 M) := by
  refine g_aload_n C dL_law_565 rfl 2 rfl ?_
  refine g_aload_n C dL_law_566 rfl 3 rfl ?_
  refine g_iload_n C dL_law_567 rfl 0 rfl ?_
  refine g_iconst (v := (1 : Int32)) C dL_law_568 (by decide) ?_
  refine g_iadd C dL_law_569 ?_
  refine g_sld C hX hbl hbA dL_law_570 i1 ?_
  refine g_aload_n C dL_law_571 rfl 3 rfl ?_
  refine g_iload_n C dL_law_572 rfl 0 rfl ?_
  refine g_iconst (v := (2 : Int32)) C dL_law_573 (by decide) ?_
  refine g_iadd C dL_law_574 ?_
  refine g_sld C hX hbl hbA dL_law_575 i2 ?_
  refine g_aload_n C dL_law_576 rfl 3 rfl ?_
  refine g_iload_n C dL_law_577 rfl 0 rfl ?_
  refine g_iconst (v := (3 : Int32)) C dL_law_578 (by decide) ?_
  refine g_iadd C dL_law_579 ?_
  refine g_sld C hX hbl hbA dL_law_580 i3 ?_
  refine g_if_eq (tgt := 588) C dL_law_581 (by decide) (fun c581 => ?_) (fun c581 => ?_)
  · refine g_iconst (v := (0 : Int32)) C dL_law_588 (by decide) ?_
    obtain ⟨r, E1, M1, h1, h2, hR1⟩ := op n E M (xs (x3 + (1 : Int32)).toNatClampNeg) (xs (x3 + (2 : Int32)).toNatClampNeg) (0 : Int32) (by decide) hR
    refine g_callVi (st := []) (ws2 := wEP cC cI cZ o so sa E1 ++ wMod cI cJ o2 a2 M) C yv_X5_see ml_L_85 dL_law_589 (kX5_see l D cC cI cJ cZ o so sa E (xs (x3 + (1 : Int32)).toNatClampNeg) (xs (x3 + (2 : Int32)).toNatClampNeg) (0 : Int32) r E1 h1) gCut_left ⟨Nat.le_of_ble_eq_true rfl, Nat.le_of_ble_eq_true rfl⟩ ⟨rfl, rfl⟩ ⟨Nat.le_of_ble_eq_true rfl, Nat.le_of_ble_eq_true rfl⟩ rfl rfl (Nat.le_of_ble_eq_true rfl) 4 0 rfl rfl rfl ?_
    refine g_aload_n C dL_law_592 rfl 1 rfl ?_
    refine g_aload_n C dL_law_593 rfl 3 rfl ?_
    refine g_iload_n C dL_law_594 rfl 0 rfl ?_
    refine g_iconst (v := (1 : Int32)) C dL_law_595 (by decide) ?_
    refine g_iadd C dL_law_596 ?_
    refine g_sld C hX hbl hbA dL_law_597 i1 ?_
    refine g_aload_n C dL_law_598 rfl 3 rfl ?_
    refine g_iload_n C dL_law_599 rfl 0 rfl ?_
    refine g_iconst (v := (2 : Int32)) C dL_law_600 (by decide) ?_
    refine g_iadd C dL_law_601 ?_
    refine g_sld C hX hbl hbA dL_law_602 i2 ?_
    refine g_aload_n C dL_law_603 rfl 3 rfl ?_
    refine g_iload_n C dL_law_604 rfl 0 rfl ?_
    refine g_iconst (v := (3 : Int32)) C dL_law_605 (by decide) ?_
    refine g_iadd C dL_law_606 ?_
    refine g_sld C hX hbl hbA dL_law_607 i3 ?_
    refine g_if_eq (tgt := 615) C dL_law_608 (by decide) (fun c608 => ?_) (fun c608 => ?_)
    · refine g_iconst (v := (0 : Int32)) C dL_law_615 (by decide) ?_
      refine g_callVi (st := [.int r]) (ws2 := wEP cC cI cZ o so sa E1 ++ wMod cI cJ o2 a2 M1) C yv_X6_see ml_L_89 dL_law_616 (kX6_see l D cC cI cJ cZ o2 a2 M (xs (x3 + (1 : Int32)).toNatClampNeg) (xs (x3 + (2 : Int32)).toNatClampNeg) (0 : Int32) r M1 h2) gCut_right ⟨Nat.le_of_ble_eq_true rfl, Nat.le_of_ble_eq_true rfl⟩ ⟨rfl, rfl⟩ ⟨Nat.le_of_ble_eq_true rfl, Nat.le_of_ble_eq_true rfl⟩ rfl rfl (Nat.le_of_ble_eq_true rfl) 5 33 rfl rfl rfl ?_
      refine g_icmp_eq (tgt := 743) C dL_law_619 (by decide) (fun _ => ?_) (fun cn => absurd rfl cn)
      exact next E1 M1 hR1
    · exact absurd c581 c608
  · refine g_iconst (v := (1 : Int32)) C dL_law_584 (by decide) ?_
    refine g_goto (tgt := 589) C dL_law_585 (by decide) ?_
    obtain ⟨r, E1, M1, h1, h2, hR1⟩ := op n E M (xs (x3 + (1 : Int32)).toNatClampNeg) (xs (x3 + (2 : Int32)).toNatClampNeg) (1 : Int32) (by decide) hR
    refine g_callVi (st := []) (ws2 := wEP cC cI cZ o so sa E1 ++ wMod cI cJ o2 a2 M) C yv_X5_see ml_L_85 dL_law_589 (kX5_see l D cC cI cJ cZ o so sa E (xs (x3 + (1 : Int32)).toNatClampNeg) (xs (x3 + (2 : Int32)).toNatClampNeg) (1 : Int32) r E1 h1) gCut_left ⟨Nat.le_of_ble_eq_true rfl, Nat.le_of_ble_eq_true rfl⟩ ⟨rfl, rfl⟩ ⟨Nat.le_of_ble_eq_true rfl, Nat.le_of_ble_eq_true rfl⟩ rfl rfl (Nat.le_of_ble_eq_true rfl) 4 0 rfl rfl rfl ?_
    refine g_aload_n C dL_law_592 rfl 1 rfl ?_
    refine g_aload_n C dL_law_593 rfl 3 rfl ?_
    refine g_iload_n C dL_law_594 rfl 0 rfl ?_
    refine g_iconst (v := (1 : Int32)) C dL_law_595 (by decide) ?_
    refine g_iadd C dL_law_596 ?_
    refine g_sld C hX hbl hbA dL_law_597 i1 ?_
    refine g_aload_n C dL_law_598 rfl 3 rfl ?_
    refine g_iload_n C dL_law_599 rfl 0 rfl ?_
    refine g_iconst (v := (2 : Int32)) C dL_law_600 (by decide) ?_
    refine g_iadd C dL_law_601 ?_
    refine g_sld C hX hbl hbA dL_law_602 i2 ?_
    refine g_aload_n C dL_law_603 rfl 3 rfl ?_
    refine g_iload_n C dL_law_604 rfl 0 rfl ?_
    refine g_iconst (v := (3 : Int32)) C dL_law_605 (by decide) ?_
    refine g_iadd C dL_law_606 ?_
    refine g_sld C hX hbl hbA dL_law_607 i3 ?_
    refine g_if_eq (tgt := 615) C dL_law_608 (by decide) (fun c608 => ?_) (fun c608 => ?_)
    · exact absurd c608 c581
    · refine g_iconst (v := (1 : Int32)) C dL_law_611 (by decide) ?_
      refine g_goto (tgt := 616) C dL_law_612 (by decide) ?_
      refine g_callVi (st := [.int r]) (ws2 := wEP cC cI cZ o so sa E1 ++ wMod cI cJ o2 a2 M1) C yv_X6_see ml_L_89 dL_law_616 (kX6_see l D cC cI cJ cZ o2 a2 M (xs (x3 + (1 : Int32)).toNatClampNeg) (xs (x3 + (2 : Int32)).toNatClampNeg) (1 : Int32) r M1 h2) gCut_right ⟨Nat.le_of_ble_eq_true rfl, Nat.le_of_ble_eq_true rfl⟩ ⟨rfl, rfl⟩ ⟨Nat.le_of_ble_eq_true rfl, Nat.le_of_ble_eq_true rfl⟩ rfl rfl (Nat.le_of_ble_eq_true rfl) 5 33 rfl rfl rfl ?_
      refine g_icmp_eq (tgt := 743) C dL_law_619 (by decide) (fun _ => ?_) (fun cn => absurd rfl cn)
      exact next E1 M1 hR1
def opL18 (Rel : Nat → OE → OM → Prop) : Prop := ∀ (n : Nat) (E : OE) (M : OM) , Rel (n + 1) E M → ∃ (r : Int32) (E1 : OE) (M1 : OM), fX5_forget E  = some (r, E1) ∧ fX6_forget M  = some (r, M1) ∧ Rel n E1 M1
set_option maxHeartbeats 4000000 in
set_option maxRecDepth 100000 in
theorem lawc_18 {p : Program} {l : Launch} {e : Env} {s : State} {m : MethodId} {args : Array Value} {below : List Frame} {meth : Method} {c : Code} {D : va_G} {cC cI cJ cZ : ClassId} {A : Nat → Prop} {rt : Option FieldType} {Q : State → Prop} {b L : Nat} {xs : Nat → Int32} (C : gC p s m args meth c cL_law 4 RL D (tysG cC cI cJ cZ) A rt) (hX : va_X b L xs s s.heap) (hbl : b < s.heap.size) (hbA : ¬ A b) {Rel : Nat → OE → OM → Prop} (op : opL18 Rel) {n : Nat} {E : OE} {M : OM} (hR : Rel (n + 1) E M) {x3 : Int32}  {o o2 : Nat} {so a2 : Nat → Nat} {sa : Nat → Nat → Nat} (next : ∀ (E2 : OE) (M2 : OM), Rel n E2 M2 → gG p l e room_1 s m args below meth c 4 D A 53 3771 Q 743 [(3, .int x3), (2, .ref o2), (1, .ref o), (0, .ref b)] [] (wEP cC cI cZ o so sa E2 ++ wMod cI cJ o2 a2 M2)) : gG p l e room_1 s m args below meth c 4 D A 53 3771 Q 624 [(3, .int x3), (2, .ref o2), (1, .ref o), (0, .ref b)] [] (wEP cC cI cZ o so sa E ++ wMod cI cJ o2 a2 M) := by
  refine g_aload_n C dL_law_624 rfl 2 rfl ?_
  obtain ⟨r, E1, M1, h1, h2, hR1⟩ := op n E M  hR
  refine g_callVi (st := []) (ws2 := wEP cC cI cZ o so sa E1 ++ wMod cI cJ o2 a2 M) C yv_X5_forget ml_L_90 dL_law_625 (kX5_forget l D cC cI cJ cZ o so sa E  r E1 h1) gCut_left ⟨Nat.le_of_ble_eq_true rfl, Nat.le_of_ble_eq_true rfl⟩ ⟨rfl, rfl⟩ ⟨Nat.le_of_ble_eq_true rfl, Nat.le_of_ble_eq_true rfl⟩ rfl rfl (Nat.le_of_ble_eq_true rfl) 4 0 rfl rfl rfl ?_
  refine g_aload_n C dL_law_628 rfl 1 rfl ?_
  refine g_callVi (st := [.int r]) (ws2 := wEP cC cI cZ o so sa E1 ++ wMod cI cJ o2 a2 M1) C yv_X6_forget ml_L_93 dL_law_629 (kX6_forget l D cC cI cJ cZ o2 a2 M  r M1 h2) gCut_right ⟨Nat.le_of_ble_eq_true rfl, Nat.le_of_ble_eq_true rfl⟩ ⟨rfl, rfl⟩ ⟨Nat.le_of_ble_eq_true rfl, Nat.le_of_ble_eq_true rfl⟩ rfl rfl (Nat.le_of_ble_eq_true rfl) 5 33 rfl rfl rfl ?_
  refine g_icmp_eq (tgt := 743) C dL_law_632 (by decide) (fun _ => ?_) (fun cn => absurd rfl cn)
  exact next E1 M1 hR1
def opL19 (Rel : Nat → OE → OM → Prop) : Prop := ∀ (n : Nat) (E : OE) (M : OM) (y1 : Int32) (y2 : Int32) (y3 : Int32), Rel (n + 1) E M → ∃ (r : Int32) (E1 : OE) (M1 : OM), fX5_games E y1 y2 y3 = some (r, E1) ∧ fX6_games M y1 y2 y3 = some (r, M1) ∧ Rel n E1 M1
set_option maxHeartbeats 4000000 in
set_option maxRecDepth 100000 in
theorem lawc_19 {p : Program} {l : Launch} {e : Env} {s : State} {m : MethodId} {args : Array Value} {below : List Frame} {meth : Method} {c : Code} {D : va_G} {cC cI cJ cZ : ClassId} {A : Nat → Prop} {rt : Option FieldType} {Q : State → Prop} {b L : Nat} {xs : Nat → Int32} (C : gC p s m args meth c cL_law 4 RL D (tysG cC cI cJ cZ) A rt) (hX : va_X b L xs s s.heap) (hbl : b < s.heap.size) (hbA : ¬ A b) {Rel : Nat → OE → OM → Prop} (op : opL19 Rel) {n : Nat} {E : OE} {M : OM} (hR : Rel (n + 1) E M) {x3 : Int32} (i1 : vp_in (x3 + (1 : Int32)) L) (i2 : vp_in (x3 + (2 : Int32)) L) (i3 : vp_in (x3 + (3 : Int32)) L) {o o2 : Nat} {so a2 : Nat → Nat} {sa : Nat → Nat → Nat} (next : ∀ (E2 : OE) (M2 : OM), Rel n E2 M2 → gG p l e room_1 s m args below meth c 4 D A 53 3771 Q 743 [(3, .int x3), (2, .ref o2), (1, .ref o), (0, .ref b)] [] (wEP cC cI cZ o so sa E2 ++ wMod cI cJ o2 a2 M2)) : gG p l e room_1 s m args below meth c 4 D A 53 3771 Q 637 [(3, .int x3), (2, .ref o2), (1, .ref o), (0, .ref b)] [] (wEP cC cI cZ o so sa E ++ wMod cI cJ o2 a2 M) := by
  refine g_aload_n C dL_law_637 rfl 2 rfl ?_
  refine g_aload_n C dL_law_638 rfl 3 rfl ?_
  refine g_iload_n C dL_law_639 rfl 0 rfl ?_
  refine g_iconst (v := (1 : Int32)) C dL_law_640 (by decide) ?_
  refine g_iadd C dL_law_641 ?_
  refine g_sld C hX hbl hbA dL_law_642 i1 ?_
  refine g_aload_n C dL_law_643 rfl 3 rfl ?_
  refine g_iload_n C dL_law_644 rfl 0 rfl ?_
  refine g_iconst (v := (2 : Int32)) C dL_law_645 (by decide) ?_
  refine g_iadd C dL_law_646 ?_
  refine g_sld C hX hbl hbA dL_law_647 i2 ?_
  refine g_aload_n C dL_law_648 rfl 3 rfl ?_
  refine g_iload_n C dL_law_649 rfl 0 rfl ?_
  refine g_iconst (v := (3 : Int32)) C dL_law_650 (by decide) ?_
  refine g_iadd C dL_law_651 ?_
  refine g_sld C hX hbl hbA dL_law_652 i3 ?_
  obtain ⟨r, E1, M1, h1, h2, hR1⟩ := op n E M (xs (x3 + (1 : Int32)).toNatClampNeg) (xs (x3 + (2 : Int32)).toNatClampNeg) (xs (x3 + (3 : Int32)).toNatClampNeg) hR
  refine g_callVi (st := []) (ws2 := wEP cC cI cZ o so sa E1 ++ wMod cI cJ o2 a2 M) C yv_X5_games ml_L_94 dL_law_653 (kX5_games l D cC cI cJ cZ o so sa E (xs (x3 + (1 : Int32)).toNatClampNeg) (xs (x3 + (2 : Int32)).toNatClampNeg) (xs (x3 + (3 : Int32)).toNatClampNeg) r E1 h1) gCut_left ⟨Nat.le_of_ble_eq_true rfl, Nat.le_of_ble_eq_true rfl⟩ ⟨rfl, rfl⟩ ⟨Nat.le_of_ble_eq_true rfl, Nat.le_of_ble_eq_true rfl⟩ rfl rfl (Nat.le_of_ble_eq_true rfl) 4 0 rfl rfl rfl ?_
  refine g_aload_n C dL_law_656 rfl 1 rfl ?_
  refine g_aload_n C dL_law_657 rfl 3 rfl ?_
  refine g_iload_n C dL_law_658 rfl 0 rfl ?_
  refine g_iconst (v := (1 : Int32)) C dL_law_659 (by decide) ?_
  refine g_iadd C dL_law_660 ?_
  refine g_sld C hX hbl hbA dL_law_661 i1 ?_
  refine g_aload_n C dL_law_662 rfl 3 rfl ?_
  refine g_iload_n C dL_law_663 rfl 0 rfl ?_
  refine g_iconst (v := (2 : Int32)) C dL_law_664 (by decide) ?_
  refine g_iadd C dL_law_665 ?_
  refine g_sld C hX hbl hbA dL_law_666 i2 ?_
  refine g_aload_n C dL_law_667 rfl 3 rfl ?_
  refine g_iload_n C dL_law_668 rfl 0 rfl ?_
  refine g_iconst (v := (3 : Int32)) C dL_law_669 (by decide) ?_
  refine g_iadd C dL_law_670 ?_
  refine g_sld C hX hbl hbA dL_law_671 i3 ?_
  refine g_callVi (st := [.int r]) (ws2 := wEP cC cI cZ o so sa E1 ++ wMod cI cJ o2 a2 M1) C yv_X6_games ml_L_98 dL_law_672 (kX6_games l D cC cI cJ cZ o2 a2 M (xs (x3 + (1 : Int32)).toNatClampNeg) (xs (x3 + (2 : Int32)).toNatClampNeg) (xs (x3 + (3 : Int32)).toNatClampNeg) r M1 h2) gCut_right ⟨Nat.le_of_ble_eq_true rfl, Nat.le_of_ble_eq_true rfl⟩ ⟨rfl, rfl⟩ ⟨Nat.le_of_ble_eq_true rfl, Nat.le_of_ble_eq_true rfl⟩ rfl rfl (Nat.le_of_ble_eq_true rfl) 5 33 rfl rfl rfl ?_
  refine g_icmp_eq (tgt := 743) C dL_law_675 (by decide) (fun _ => ?_) (fun cn => absurd rfl cn)
  exact next E1 M1 hR1
def opL20 (Rel : Nat → OE → OM → Prop) : Prop := ∀ (n : Nat) (E : OE) (M : OM) , Rel (n + 1) E M → ∃ (r : Int32) (E1 : OE) (M1 : OM), fX5_image E  = some (r, E1) ∧ fX6_image M  = some (r, M1) ∧ Rel n E1 M1
set_option maxHeartbeats 4000000 in
set_option maxRecDepth 100000 in
theorem lawc_20 {p : Program} {l : Launch} {e : Env} {s : State} {m : MethodId} {args : Array Value} {below : List Frame} {meth : Method} {c : Code} {D : va_G} {cC cI cJ cZ : ClassId} {A : Nat → Prop} {rt : Option FieldType} {Q : State → Prop} {b L : Nat} {xs : Nat → Int32} (C : gC p s m args meth c cL_law 4 RL D (tysG cC cI cJ cZ) A rt) (hX : va_X b L xs s s.heap) (hbl : b < s.heap.size) (hbA : ¬ A b) {Rel : Nat → OE → OM → Prop} (op : opL20 Rel) {n : Nat} {E : OE} {M : OM} (hR : Rel (n + 1) E M) {x3 : Int32}  {o o2 : Nat} {so a2 : Nat → Nat} {sa : Nat → Nat → Nat} (next : ∀ (E2 : OE) (M2 : OM), Rel n E2 M2 → gG p l e room_1 s m args below meth c 4 D A 53 3771 Q 743 [(3, .int x3), (2, .ref o2), (1, .ref o), (0, .ref b)] [] (wEP cC cI cZ o so sa E2 ++ wMod cI cJ o2 a2 M2)) : gG p l e room_1 s m args below meth c 4 D A 53 3771 Q 680 [(3, .int x3), (2, .ref o2), (1, .ref o), (0, .ref b)] [] (wEP cC cI cZ o so sa E ++ wMod cI cJ o2 a2 M) := by
  refine g_aload_n C dL_law_680 rfl 2 rfl ?_
  obtain ⟨r, E1, M1, h1, h2, hR1⟩ := op n E M  hR
  refine g_callVi (st := []) (ws2 := wEP cC cI cZ o so sa E1 ++ wMod cI cJ o2 a2 M) C yv_X5_image ml_L_99 dL_law_681 (kX5_image l D cC cI cJ cZ o so sa E  r E1 h1) gCut_left ⟨Nat.le_of_ble_eq_true rfl, Nat.le_of_ble_eq_true rfl⟩ ⟨rfl, rfl⟩ ⟨Nat.le_of_ble_eq_true rfl, Nat.le_of_ble_eq_true rfl⟩ rfl rfl (Nat.le_of_ble_eq_true rfl) 4 0 rfl rfl rfl ?_
  refine g_aload_n C dL_law_684 rfl 1 rfl ?_
  refine g_callVi (st := [.int r]) (ws2 := wEP cC cI cZ o so sa E1 ++ wMod cI cJ o2 a2 M1) C yv_X6_image ml_L_102 dL_law_685 (kX6_image l D cC cI cJ cZ o2 a2 M  r M1 h2) gCut_right ⟨Nat.le_of_ble_eq_true rfl, Nat.le_of_ble_eq_true rfl⟩ ⟨rfl, rfl⟩ ⟨Nat.le_of_ble_eq_true rfl, Nat.le_of_ble_eq_true rfl⟩ rfl rfl (Nat.le_of_ble_eq_true rfl) 5 33 rfl rfl rfl ?_
  refine g_icmp_eq (tgt := 743) C dL_law_688 (by decide) (fun _ => ?_) (fun cn => absurd rfl cn)
  exact next E1 M1 hR1
def opL21 (Rel : Nat → OE → OM → Prop) : Prop := ∀ (n : Nat) (E : OE) (M : OM) , Rel (n + 1) E M → ∃ (r : Int32) (E1 : OE) (M1 : OM), fX5_restore E  = some (r, E1) ∧ fX6_restore M  = some (r, M1) ∧ Rel n E1 M1
set_option maxHeartbeats 4000000 in
set_option maxRecDepth 100000 in
theorem lawc_21 {p : Program} {l : Launch} {e : Env} {s : State} {m : MethodId} {args : Array Value} {below : List Frame} {meth : Method} {c : Code} {D : va_G} {cC cI cJ cZ : ClassId} {A : Nat → Prop} {rt : Option FieldType} {Q : State → Prop} {b L : Nat} {xs : Nat → Int32} (C : gC p s m args meth c cL_law 4 RL D (tysG cC cI cJ cZ) A rt) (hX : va_X b L xs s s.heap) (hbl : b < s.heap.size) (hbA : ¬ A b) {Rel : Nat → OE → OM → Prop} (op : opL21 Rel) {n : Nat} {E : OE} {M : OM} (hR : Rel (n + 1) E M) {x3 : Int32}  {o o2 : Nat} {so a2 : Nat → Nat} {sa : Nat → Nat → Nat} (next : ∀ (E2 : OE) (M2 : OM), Rel n E2 M2 → gG p l e room_1 s m args below meth c 4 D A 53 3771 Q 743 [(3, .int x3), (2, .ref o2), (1, .ref o), (0, .ref b)] [] (wEP cC cI cZ o so sa E2 ++ wMod cI cJ o2 a2 M2)) : gG p l e room_1 s m args below meth c 4 D A 53 3771 Q 693 [(3, .int x3), (2, .ref o2), (1, .ref o), (0, .ref b)] [] (wEP cC cI cZ o so sa E ++ wMod cI cJ o2 a2 M) := by
  refine g_aload_n C dL_law_693 rfl 2 rfl ?_
  obtain ⟨r, E1, M1, h1, h2, hR1⟩ := op n E M  hR
  refine g_callVi (st := []) (ws2 := wEP cC cI cZ o so sa E1 ++ wMod cI cJ o2 a2 M) C yv_X5_restore ml_L_103 dL_law_694 (kX5_restore l D cC cI cJ cZ o so sa E  r E1 h1) gCut_left ⟨Nat.le_of_ble_eq_true rfl, Nat.le_of_ble_eq_true rfl⟩ ⟨rfl, rfl⟩ ⟨Nat.le_of_ble_eq_true rfl, Nat.le_of_ble_eq_true rfl⟩ rfl rfl (Nat.le_of_ble_eq_true rfl) 4 0 rfl rfl rfl ?_
  refine g_aload_n C dL_law_697 rfl 1 rfl ?_
  refine g_callVi (st := [.int r]) (ws2 := wEP cC cI cZ o so sa E1 ++ wMod cI cJ o2 a2 M1) C yv_X6_restore ml_L_106 dL_law_698 (kX6_restore l D cC cI cJ cZ o2 a2 M  r M1 h2) gCut_right ⟨Nat.le_of_ble_eq_true rfl, Nat.le_of_ble_eq_true rfl⟩ ⟨rfl, rfl⟩ ⟨Nat.le_of_ble_eq_true rfl, Nat.le_of_ble_eq_true rfl⟩ rfl rfl (Nat.le_of_ble_eq_true rfl) 5 33 rfl rfl rfl ?_
  refine g_icmp_eq (tgt := 743) C dL_law_701 (by decide) (fun _ => ?_) (fun cn => absurd rfl cn)
  exact next E1 M1 hR1
def opL22 (Rel : Nat → OE → OM → Prop) : Prop := ∀ (n : Nat) (E : OE) (M : OM) (y1 : Int32), Rel (n + 1) E M → ∃ (r : Int32) (E1 : OE) (M1 : OM), fX5_count E y1 = some (r, E1) ∧ fX6_count M y1 = some (r, M1) ∧ Rel n E1 M1
set_option maxHeartbeats 4000000 in
set_option maxRecDepth 100000 in
theorem lawc_22 {p : Program} {l : Launch} {e : Env} {s : State} {m : MethodId} {args : Array Value} {below : List Frame} {meth : Method} {c : Code} {D : va_G} {cC cI cJ cZ : ClassId} {A : Nat → Prop} {rt : Option FieldType} {Q : State → Prop} {b L : Nat} {xs : Nat → Int32} (C : gC p s m args meth c cL_law 4 RL D (tysG cC cI cJ cZ) A rt) (hX : va_X b L xs s s.heap) (hbl : b < s.heap.size) (hbA : ¬ A b) {Rel : Nat → OE → OM → Prop} (op : opL22 Rel) {n : Nat} {E : OE} {M : OM} (hR : Rel (n + 1) E M) {x3 : Int32} (i1 : vp_in (x3 + (1 : Int32)) L) {o o2 : Nat} {so a2 : Nat → Nat} {sa : Nat → Nat → Nat} (next : ∀ (E2 : OE) (M2 : OM), Rel n E2 M2 → gG p l e room_1 s m args below meth c 4 D A 53 3771 Q 743 [(3, .int x3), (2, .ref o2), (1, .ref o), (0, .ref b)] [] (wEP cC cI cZ o so sa E2 ++ wMod cI cJ o2 a2 M2)) : gG p l e room_1 s m args below meth c 4 D A 53 3771 Q 706 [(3, .int x3), (2, .ref o2), (1, .ref o), (0, .ref b)] [] (wEP cC cI cZ o so sa E ++ wMod cI cJ o2 a2 M) := by
  refine g_aload_n C dL_law_706 rfl 2 rfl ?_
  refine g_aload_n C dL_law_707 rfl 3 rfl ?_
  refine g_iload_n C dL_law_708 rfl 0 rfl ?_
  refine g_iconst (v := (1 : Int32)) C dL_law_709 (by decide) ?_
  refine g_iadd C dL_law_710 ?_
  refine g_sld C hX hbl hbA dL_law_711 i1 ?_
  obtain ⟨r, E1, M1, h1, h2, hR1⟩ := op n E M (xs (x3 + (1 : Int32)).toNatClampNeg) hR
  refine g_callVi (st := []) (ws2 := wEP cC cI cZ o so sa E1 ++ wMod cI cJ o2 a2 M) C yv_X5_count ml_L_107 dL_law_712 (kX5_count l D cC cI cJ cZ o so sa E (xs (x3 + (1 : Int32)).toNatClampNeg) r E1 h1) gCut_left ⟨Nat.le_of_ble_eq_true rfl, Nat.le_of_ble_eq_true rfl⟩ ⟨rfl, rfl⟩ ⟨Nat.le_of_ble_eq_true rfl, Nat.le_of_ble_eq_true rfl⟩ rfl rfl (Nat.le_of_ble_eq_true rfl) 4 0 rfl rfl rfl ?_
  refine g_aload_n C dL_law_715 rfl 1 rfl ?_
  refine g_aload_n C dL_law_716 rfl 3 rfl ?_
  refine g_iload_n C dL_law_717 rfl 0 rfl ?_
  refine g_iconst (v := (1 : Int32)) C dL_law_718 (by decide) ?_
  refine g_iadd C dL_law_719 ?_
  refine g_sld C hX hbl hbA dL_law_720 i1 ?_
  refine g_callVi (st := [.int r]) (ws2 := wEP cC cI cZ o so sa E1 ++ wMod cI cJ o2 a2 M1) C yv_X6_count ml_L_110 dL_law_721 (kX6_count l D cC cI cJ cZ o2 a2 M (xs (x3 + (1 : Int32)).toNatClampNeg) r M1 h2) gCut_right ⟨Nat.le_of_ble_eq_true rfl, Nat.le_of_ble_eq_true rfl⟩ ⟨rfl, rfl⟩ ⟨Nat.le_of_ble_eq_true rfl, Nat.le_of_ble_eq_true rfl⟩ rfl rfl (Nat.le_of_ble_eq_true rfl) 5 33 rfl rfl rfl ?_
  refine g_icmp_eq (tgt := 743) C dL_law_724 (by decide) (fun _ => ?_) (fun cn => absurd rfl cn)
  exact next E1 M1 hR1
def opL23 (Rel : Nat → OE → OM → Prop) : Prop := ∀ (n : Nat) (E : OE) (M : OM) , Rel (n + 1) E M → ∃ (r : Int64) (E1 : OE) (M1 : OM), fX5_digest E  = some (r, E1) ∧ fX6_digest M  = some (r, M1) ∧ Rel n E1 M1
set_option maxHeartbeats 4000000 in
set_option maxRecDepth 100000 in
theorem lawc_23 {p : Program} {l : Launch} {e : Env} {s : State} {m : MethodId} {args : Array Value} {below : List Frame} {meth : Method} {c : Code} {D : va_G} {cC cI cJ cZ : ClassId} {A : Nat → Prop} {rt : Option FieldType} {Q : State → Prop} {b L : Nat} {xs : Nat → Int32} (C : gC p s m args meth c cL_law 4 RL D (tysG cC cI cJ cZ) A rt) (hX : va_X b L xs s s.heap) (hbl : b < s.heap.size) (hbA : ¬ A b) {Rel : Nat → OE → OM → Prop} (op : opL23 Rel) {n : Nat} {E : OE} {M : OM} (hR : Rel (n + 1) E M) {x3 : Int32}  {o o2 : Nat} {so a2 : Nat → Nat} {sa : Nat → Nat → Nat} (next : ∀ (E2 : OE) (M2 : OM), Rel n E2 M2 → gG p l e room_1 s m args below meth c 4 D A 53 3771 Q 743 [(3, .int x3), (2, .ref o2), (1, .ref o), (0, .ref b)] [] (wEP cC cI cZ o so sa E2 ++ wMod cI cJ o2 a2 M2)) : gG p l e room_1 s m args below meth c 4 D A 53 3771 Q 729 [(3, .int x3), (2, .ref o2), (1, .ref o), (0, .ref b)] [] (wEP cC cI cZ o so sa E ++ wMod cI cJ o2 a2 M) := by
  refine g_aload_n C dL_law_729 rfl 2 rfl ?_
  obtain ⟨r, E1, M1, h1, h2, hR1⟩ := op n E M  hR
  refine g_callVl (st := []) (ws2 := wEP cC cI cZ o so sa E1 ++ wMod cI cJ o2 a2 M) C yv_X5_digest ml_L_111 dL_law_730 (kX5_digest l D cC cI cJ cZ o so sa E  r E1 h1) gCut_left ⟨Nat.le_of_ble_eq_true rfl, Nat.le_of_ble_eq_true rfl⟩ ⟨rfl, rfl⟩ ⟨Nat.le_of_ble_eq_true rfl, Nat.le_of_ble_eq_true rfl⟩ rfl rfl (Nat.le_of_ble_eq_true rfl) 4 0 rfl rfl rfl ?_
  refine g_aload_n C dL_law_733 rfl 1 rfl ?_
  refine g_callVl (st := [.long r]) (ws2 := wEP cC cI cZ o so sa E1 ++ wMod cI cJ o2 a2 M1) C yv_X6_digest ml_L_115 dL_law_734 (kX6_digest l D cC cI cJ cZ o2 a2 M  r M1 h2) gCut_right ⟨Nat.le_of_ble_eq_true rfl, Nat.le_of_ble_eq_true rfl⟩ ⟨rfl, rfl⟩ ⟨Nat.le_of_ble_eq_true rfl, Nat.le_of_ble_eq_true rfl⟩ rfl rfl (Nat.le_of_ble_eq_true rfl) 5 33 rfl rfl rfl ?_
  refine g_lcmp C dL_law_737 ?_
  refine g_if_eq (tgt := 743) C dL_law_738 (by decide) (fun _ => ?_) (fun cn => absurd (lg_cmp_self r) cn)
  exact next E1 M1 hR1
def lawOps (Rel : Nat → OE → OM → Prop) : Prop := (∀ (n : Nat) (E : OE) (M : OM), Rel (n + 1) E M → Rel n E M) ∧ opL0 Rel ∧ opL1 Rel ∧ opL2 Rel ∧ opL3 Rel ∧ opL4 Rel ∧ opL5 Rel ∧ opL6 Rel ∧ opL7 Rel ∧ opL8 Rel ∧ opL9 Rel ∧ opL10 Rel ∧ opL11 Rel ∧ opL12 Rel ∧ opL13 Rel ∧ opL14 Rel ∧ opL15 Rel ∧ opL16 Rel ∧ opL17 Rel ∧ opL18 Rel ∧ opL19 Rel ∧ opL20 Rel ∧ opL21 Rel ∧ opL22 Rel ∧ opL23 Rel
set_option maxHeartbeats 4000000 in
set_option maxRecDepth 100000 in
theorem law_loop {p : Program} {l : Launch} {e : Env} {s : State} {m : MethodId} {args : Array Value} {below : List Frame} {meth : Method} {c : Code} {D : va_G} {cC cI cJ cZ : ClassId} {A : Nat → Prop} {rt : Option FieldType} {Q : State → Prop} {b L : Nat} {xs : Nat → Int32} (C : gC p s m args meth c cL_law 4 RL D (tysG cC cI cJ cZ) A rt) (hX : va_X b L xs s s.heap) (hbl : b < s.heap.size) (hbA : ¬ A b) {Rel : Nat → OE → OM → Prop} (hops : lawOps Rel) (hL : L ≤ 2560) {o o2 : Nat} {so a2 : Nat → Nat} {sa : Nat → Nat → Nat} (fin : ∀ (x3 : Int32) (E2 : OE) (M2 : OM), gG p l e room_1 s m args below meth c 4 D A 53 3771 Q 749 [(3, .int x3), (2, .ref o2), (1, .ref o), (0, .ref b)] [] (wEP cC cI cZ o so sa E2 ++ wMod cI cJ o2 a2 M2)) : ∀ (fu i : Nat) (x3 : Int32) (E : OE) (M : OM), L + 6 ≤ i + fu → i ≤ L → x3 = nI i → Rel fu E M → gG p l e room_1 s m args below meth c 4 D A 53 3771 Q 18 [(3, .int x3), (2, .ref o2), (1, .ref o), (0, .ref b)] [] (wEP cC cI cZ o so sa E ++ wMod cI cJ o2 a2 M) := by
  obtain ⟨hmono, op0, op1, op2, op3, op4, op5, op6, op7, op8, op9, op10, op11, op12, op13, op14, op15, op16, op17, op18, op19, op20, op21, op22, op23⟩ := hops
  intro fu
  induction fu with
  | zero => intro i x3 E M h1 h2; exact absurd h1 (by omega)
  | succ fu ih =>
    intro i x3 E M h1 h2 ex3 hR
    refine g_iload_n C dL_law_18 rfl 0 rfl ?_
    refine g_aload_n C dL_law_19 rfl 3 rfl ?_
    refine g_slen C hX hbl hbA dL_law_20 ?_
    refine g_iconst (v := (5 : Int32)) C dL_law_21 (by decide) ?_
    refine g_isub C dL_law_22 ?_
    refine g_icmp_gt (tgt := 749) C dL_law_23 (by decide) (fun c23 => ?_) (fun c23 => ?_)
    · exact fin x3 E M
    · have hi : i + 5 ≤ L := by
        have e1 : (Int32.ofNat L - 5).toInt = (L : Int) - 5 := pk_sub_toInt (a := L) (b := 5) (by omega) (by omega)
        have e2 : x3.toInt = (i : Int) := by rw [ex3]; exact nI_toInt (by omega)
        have e3 : ¬ ((Int32.ofNat L - 5).toInt < x3.toInt) := fun h => c23 (Int32.lt_iff_toInt_lt.mpr h)
        rw [e1, e2] at e3
        omega
      have i1 : vp_in (x3 + (1 : Int32)) L := by rw [ex3, show (1 : Int32) = nI 1 from rfl, nI_add]; exact vp_in_nI (by omega) (by omega)
      have i2 : vp_in (x3 + (2 : Int32)) L := by rw [ex3, show (2 : Int32) = nI 2 from rfl, nI_add]; exact vp_in_nI (by omega) (by omega)
      have i3 : vp_in (x3 + (3 : Int32)) L := by rw [ex3, show (3 : Int32) = nI 3 from rfl, nI_add]; exact vp_in_nI (by omega) (by omega)
      have i4 : vp_in (x3 + (4 : Int32)) L := by rw [ex3, show (4 : Int32) = nI 4 from rfl, nI_add]; exact vp_in_nI (by omega) (by omega)
      have i0 : vp_in x3 L := by rw [ex3]; exact vp_in_nI (by omega) (by omega)
      have next : ∀ (E2 : OE) (M2 : OM), Rel fu E2 M2 → gG p l e room_1 s m args below meth c 4 D A 53 3771 Q 743 [(3, .int x3), (2, .ref o2), (1, .ref o), (0, .ref b)] [] (wEP cC cI cZ o so sa E2 ++ wMod cI cJ o2 a2 M2) := by
        intro E2 M2 hR2
        refine g_iinc (j := 0) (v := (x3 + (5 : Int32))) (lv' := [(3, .int (x3 + (5 : Int32))), (2, .ref o2), (1, .ref o), (0, .ref b)]) C dL_law_743 rfl rfl (by decide) rfl ?_
        refine g_goto (tgt := 18) C dL_law_746 (by decide) ?_
        exact ih (i + 5) (x3 + (5 : Int32)) E2 M2 (by omega) hi (by rw [ex3, show (5 : Int32) = nI 5 from rfl, nI_add]) hR2
      refine g_aload_n C dL_law_26 rfl 3 rfl ?_
      refine g_iload_n C dL_law_27 rfl 0 rfl ?_
      refine g_sld C hX hbl hbA dL_law_28 i0 ?_
      refine g_bipush (v := (31 : Int32)) C dL_law_29 (by decide) ?_
      refine g_iand C dL_law_31 ?_
      generalize (xs x3.toNatClampNeg &&& (31 : Int32)) = w
      by_cases c0 : w = 0
      · refine g_tableAt (v := 0) (off := 112) (tgt := 144) C dL_law_32 c0 (by decide) (by decide) rfl (by decide) ?_
        exact lawc_0 C hX hbl hbA op0 hR i1 next
      · by_cases c1 : w = 1
        · refine g_tableAt (v := 1) (off := 135) (tgt := 167) C dL_law_32 c1 (by decide) (by decide) rfl (by decide) ?_
          exact lawc_1 C hX hbl hbA op1 hR  next
        · by_cases c2 : w = 2
          · refine g_tableAt (v := 2) (off := 148) (tgt := 180) C dL_law_32 c2 (by decide) (by decide) rfl (by decide) ?_
            exact lawc_2 C hX hbl hbA op2 hR  next
          · by_cases c3 : w = 3
            · refine g_tableAt (v := 3) (off := 161) (tgt := 193) C dL_law_32 c3 (by decide) (by decide) rfl (by decide) ?_
              exact lawc_3 C hX hbl hbA op3 hR  next
            · by_cases c4 : w = 4
              · refine g_tableAt (v := 4) (off := 174) (tgt := 206) C dL_law_32 c4 (by decide) (by decide) rfl (by decide) ?_
                exact lawc_4 C hX hbl hbA op4 hR i1 i2 next
              · by_cases c5 : w = 5
                · refine g_tableAt (v := 5) (off := 207) (tgt := 239) C dL_law_32 c5 (by decide) (by decide) rfl (by decide) ?_
                  exact lawc_5 C hX hbl hbA op5 hR i1 i2 next
                · by_cases c6 : w = 6
                  · refine g_tableAt (v := 6) (off := 240) (tgt := 272) C dL_law_32 c6 (by decide) (by decide) rfl (by decide) ?_
                    exact lawc_6 C hX hbl hbA op6 hR i1 i2 next
                  · by_cases c7 : w = 7
                    · refine g_tableAt (v := 7) (off := 273) (tgt := 305) C dL_law_32 c7 (by decide) (by decide) rfl (by decide) ?_
                      exact lawc_7 C hX hbl hbA op7 hR i1 i2 next
                    · by_cases c8 : w = 8
                      · refine g_tableAt (v := 8) (off := 306) (tgt := 338) C dL_law_32 c8 (by decide) (by decide) rfl (by decide) ?_
                        exact lawc_8 C hX hbl hbA op8 hR i1 i2 next
                      · by_cases c9 : w = 9
                        · refine g_tableAt (v := 9) (off := 339) (tgt := 371) C dL_law_32 c9 (by decide) (by decide) rfl (by decide) ?_
                          exact lawc_9 C hX hbl hbA op9 hR  next
                        · by_cases c10 : w = 10
                          · refine g_tableAt (v := 10) (off := 352) (tgt := 384) C dL_law_32 c10 (by decide) (by decide) rfl (by decide) ?_
                            exact lawc_10 C hX hbl hbA op10 hR i1 i2 i3 i4 next
                          · by_cases c11 : w = 11
                            · refine g_tableAt (v := 11) (off := 405) (tgt := 437) C dL_law_32 c11 (by decide) (by decide) rfl (by decide) ?_
                              exact lawc_11 C hX hbl hbA op11 hR  next
                            · by_cases c12 : w = 12
                              · refine g_tableAt (v := 12) (off := 418) (tgt := 450) C dL_law_32 c12 (by decide) (by decide) rfl (by decide) ?_
                                exact lawc_12 C hX hbl hbA op12 hR i1 next
                              · by_cases c13 : w = 13
                                · refine g_tableAt (v := 13) (off := 441) (tgt := 473) C dL_law_32 c13 (by decide) (by decide) rfl (by decide) ?_
                                  exact lawc_13 C hX hbl hbA op13 hR  next
                                · by_cases c14 : w = 14
                                  · refine g_tableAt (v := 14) (off := 454) (tgt := 486) C dL_law_32 c14 (by decide) (by decide) rfl (by decide) ?_
                                    exact lawc_14 C hX hbl hbA op14 hR i1 i2 next
                                  · by_cases c15 : w = 15
                                    · refine g_tableAt (v := 15) (off := 487) (tgt := 519) C dL_law_32 c15 (by decide) (by decide) rfl (by decide) ?_
                                      exact lawc_15 C hX hbl hbA op15 hR i1 i2 next
                                    · by_cases c16 : w = 16
                                      · refine g_tableAt (v := 16) (off := 520) (tgt := 552) C dL_law_32 c16 (by decide) (by decide) rfl (by decide) ?_
                                        exact lawc_16 C hX hbl hbA op16 hR  next
                                      · by_cases c17 : w = 17
                                        · refine g_tableAt (v := 17) (off := 533) (tgt := 565) C dL_law_32 c17 (by decide) (by decide) rfl (by decide) ?_
                                          exact lawc_17 C hX hbl hbA op17 hR i1 i2 i3 next
                                        · by_cases c18 : w = 18
                                          · refine g_tableAt (v := 18) (off := 592) (tgt := 624) C dL_law_32 c18 (by decide) (by decide) rfl (by decide) ?_
                                            exact lawc_18 C hX hbl hbA op18 hR  next
                                          · by_cases c19 : w = 19
                                            · refine g_tableAt (v := 19) (off := 605) (tgt := 637) C dL_law_32 c19 (by decide) (by decide) rfl (by decide) ?_
                                              exact lawc_19 C hX hbl hbA op19 hR i1 i2 i3 next
                                            · by_cases c20 : w = 20
                                              · refine g_tableAt (v := 20) (off := 648) (tgt := 680) C dL_law_32 c20 (by decide) (by decide) rfl (by decide) ?_
                                                exact lawc_20 C hX hbl hbA op20 hR  next
                                              · by_cases c21 : w = 21
                                                · refine g_tableAt (v := 21) (off := 661) (tgt := 693) C dL_law_32 c21 (by decide) (by decide) rfl (by decide) ?_
                                                  exact lawc_21 C hX hbl hbA op21 hR  next
                                                · by_cases c22 : w = 22
                                                  · refine g_tableAt (v := 22) (off := 674) (tgt := 706) C dL_law_32 c22 (by decide) (by decide) rfl (by decide) ?_
                                                    exact lawc_22 C hX hbl hbA op22 hR i1 next
                                                  · by_cases c23 : w = 23
                                                    · refine g_tableAt (v := 23) (off := 697) (tgt := 729) C dL_law_32 c23 (by decide) (by decide) rfl (by decide) ?_
                                                      exact lawc_23 C hX hbl hbA op23 hR  next
                                                    · refine g_tableOut (tgt := 743) C dL_law_32 (by have q0 := lv_neT (a := 0) c0 (by decide); have q1 := lv_neT (a := 1) c1 (by decide); have q2 := lv_neT (a := 2) c2 (by decide); have q3 := lv_neT (a := 3) c3 (by decide); have q4 := lv_neT (a := 4) c4 (by decide); have q5 := lv_neT (a := 5) c5 (by decide); have q6 := lv_neT (a := 6) c6 (by decide); have q7 := lv_neT (a := 7) c7 (by decide); have q8 := lv_neT (a := 8) c8 (by decide); have q9 := lv_neT (a := 9) c9 (by decide); have q10 := lv_neT (a := 10) c10 (by decide); have q11 := lv_neT (a := 11) c11 (by decide); have q12 := lv_neT (a := 12) c12 (by decide); have q13 := lv_neT (a := 13) c13 (by decide); have q14 := lv_neT (a := 14) c14 (by decide); have q15 := lv_neT (a := 15) c15 (by decide); have q16 := lv_neT (a := 16) c16 (by decide); have q17 := lv_neT (a := 17) c17 (by decide); have q18 := lv_neT (a := 18) c18 (by decide); have q19 := lv_neT (a := 19) c19 (by decide); have q20 := lv_neT (a := 20) c20 (by decide); have q21 := lv_neT (a := 21) c21 (by decide); have q22 := lv_neT (a := 22) c22 (by decide); have q23 := lv_neT (a := 23) c23 (by decide); omega) (by decide) ?_
                                                      exact next E M (hmono _ _ _ hR)
