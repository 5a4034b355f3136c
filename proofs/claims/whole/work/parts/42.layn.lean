/-! the same without a list: how many, up to the limit -/
set_option maxHeartbeats 1000000 in
theorem a_lay_n {h w bl wt lim : Nat} {tb : Nat → Nat → Bool} (hh : h ≤ 4) (hw : w ≤ 4) (hbl : bl < 2 ^ 16) (hwt : wt < 2 ^ 16) (hlc : lim < 90000) : ∀ (r P d : Nat) (S : Ob) (cols f : Nat), r ≤ h → r < d → srS S h w bl wt lim tb → S.1 7 = nI f → f ≤ lim → (r = 0 → f < lim) → 2 ^ (w * r) * P < 2 ^ (h * w) → cols < 2 ^ 16 → colsOK w h (2 ^ (w * r) * P) cols →
    fX3_lay_n d S (nI r - 1) (nI (2 ^ (w * r) * P)) (nI cols) = some (va_up S.1 7 (nI (f + ((LSq h w tb bl wt r P).take (lim - f)).length)), S.2) := by
  have hm : h * w ≤ 16 := Nat.mul_le_mul hh hw
  have hpw : 2 ^ (h * w) ≤ 2 ^ 16 := pw_le hm
  have hw16 : 2 ^ w ≤ 16 := pw_le (b := 4) hw
  have hw0 := Nat.two_pow_pos w
  intro r
  induction r with
  | zero =>
    intro P d S cols f hr hd hS h7 hf h0 hp hcl hc
    obtain ⟨d, rfl⟩ : ∃ q, d = q + 1 := ⟨d - 1, by omega⟩
    have hf2 := h0 rfl
    have et : ([P] : List Nat).take (lim - f) = [P] := List.take_of_length_le (by simp; omega)
    show fX3_lay_n_B (fX3_lay_n d) S (nI 0 - 1) (nI (2 ^ (w * 0) * P)) (nI cols) = _
    unfold fX3_lay_n_B
    rw [if_pos (show nI 0 - 1 < (4 : Int32) by decide), if_neg (show ¬ (0 : Int32) ≤ nI 0 - 1 by decide), h7, show (1 : Int32) = nI 1 from rfl, nI_add]
    show _ = some (va_up S.1 7 (nI (f + (([P] : List Nat).take (lim - f)).length)), S.2)
    rw [et]
    rfl
  | succ r ih =>
    intro P d S cols f hr hd hS h7 hf h0 hp hcl hc
    obtain ⟨d, rfl⟩ : ∃ q, d = q + 1 := ⟨d - 1, by omega⟩
    obtain ⟨s0, s1, s2, s3, s6, s4, s5⟩ := id hS
    have ep : nI (r + 1) - 1 = nI r := nI_pred r
    have c4 : nI r < (4 : Int32) := by rw [show (4 : Int32) = nI 4 from rfl, nI_ltI (by omega) (by omega)]; omega
    have c0 : (0 : Int32) ≤ nI r := nI_pos' (by omega)
    have eall : (1 : Int32) <<< (nI w &&& 31) - 1 = nI (2 ^ w - 1) := by rw [sh1 (by omega), show (1 : Int32) = nI 1 from rfl, pk_sub hw0]
    have hrw : r * w ≤ 3 * 4 := Nat.mul_le_mul (by omega) hw
    have emust : ∀ b : Nat, b < 2 ^ 16 → (nI b >>> ((nI r * nI w) &&& 31)) &&& nI (2 ^ w - 1) = nI (rowN w b r) := by
      intro b hb
      rw [pk_mul, nq_shr (by omega) (by omega)]
      have h4 : b / 2 ^ (r * w) < 2 ^ 32 := Nat.lt_of_le_of_lt (Nat.div_le_self _ _) (by omega)
      rw [pk_andN h4 w (pk_tn (by omega))]
      unfold rowN
      rw [Nat.mul_comm r w]
    have loop : ∀ (dd k m f : Nat), k + dd = 2 ^ w → dd < m → f ≤ lim →
        wh (σ := Int32 × Ob) (ρ := Ob) (fun t => fX3_lay_n_L77 (fX3_lay_n d) (nI r) (nI (2 ^ (w * (r + 1)) * P)) (nI cols) (nI (2 ^ w - 1)) (nI (rowN w bl r)) (nI (rowN w wt r)) t.1 t.2) m (nI k, (va_up S.1 7 (nI f), S.2)) = some (va_up S.1 7 (nI (f + (((List.range' k dd).flatMap (fun c => if okB h w tb bl wt r P c = true then LSq h w tb bl wt r (2 ^ w * P + c) else [])).take (lim - f)).length)), S.2) := by
      intro dd
      induction dd with
      | zero =>
        intro k m f hk hm hf
        obtain ⟨m, rfl⟩ : ∃ q, m = q + 1 := ⟨m - 1, by omega⟩
        have c1 : nI (2 ^ w - 1) < nI k := by rw [nI_ltI (by omega) (by omega)]; omega
        rw [wh_r (r := (va_up S.1 7 (nI f), S.2))]
        · simp
        · show fX3_lay_n_L77 _ _ _ _ _ _ _ (nI k) _ = _
          unfold fX3_lay_n_L77
          rw [if_pos c1]
      | succ dd ihd =>
        intro k m f hk hm hf
        obtain ⟨m, rfl⟩ : ∃ q, m = q + 1 := ⟨m - 1, by omega⟩
        have c1 : ¬ nI (2 ^ w - 1) < nI k := by rw [nI_ltI (by omega) (by omega)]; omega
        have c2 : (nI lim ≤ nI f) ↔ lim ≤ f := nI_leI (by omega) (by omega)
        by_cases a : lim ≤ f
        · have ez : lim - f = 0 := by omega
          rw [wh_r (r := (va_up S.1 7 (nI f), S.2)), ez]
          · simp
          · show fX3_lay_n_L77 _ _ _ _ _ _ _ (nI k) (va_up S.1 7 (nI f), S.2) = _
            unfold fX3_lay_n_L77
            rw [if_neg c1, if_pos (show (va_up S.1 7 (nI f)) 6 ≤ (va_up S.1 7 (nI f)) 7 by show S.1 6 ≤ nI f; rw [s6]; exact c2.mpr a)]
        · have c3 : ¬ (va_up S.1 7 (nI f)) 6 ≤ (va_up S.1 7 (nI f)) 7 := by
            show ¬ S.1 6 ≤ nI f
            rw [s6]
            exact fun q => a (c2.mp q)
          have o1 := okI_t (show r < 8 by omega) (by decide)
          have cl : (nI r).toNatClampNeg = r := nI_clamp (by omega)
          have ek : nI k + (1 : Int32) = nI (k + 1) := nI_1 k
          obtain ⟨wm, w1, w2, w3⟩ := s4 r (by omega)
          have e3 := nbit0 (a := wm) (k := k) (by omega) (by omega)
          rw [w3 k (by omega)] at e3
          have hrb := rowN_lt w bl r
          have hrt := rowN_lt w wt r
          have ka : k &&& rowN w bl r < 2 ^ 16 := Nat.lt_of_le_of_lt Nat.and_le_left (by omega)
          have kb : k &&& rowN w wt r < 2 ^ 16 := Nat.lt_of_le_of_lt Nat.and_le_left (by omega)
          have e4 : ((nI k &&& nI (rowN w bl r)) = nI (rowN w bl r)) ↔ (k &&& rowN w bl r = rowN w bl r) := by rw [nq_and (by omega) (by omega)]; exact nI_eq (by omega) (by omega)
          have e5 : ((nI k &&& nI (rowN w wt r)) = 0) ↔ (k &&& rowN w wt r = 0) := by rw [nq_and (by omega) (by omega)]; exact nI_eq (b := 0) (by omega) (by decide)
          have skip : okB h w tb bl wt r P k = false → fX3_lay_n_L77 (fX3_lay_n d) (nI r) (nI (2 ^ (w * (r + 1)) * P)) (nI cols) (nI (2 ^ w - 1)) (nI (rowN w bl r)) (nI (rowN w wt r)) (nI k) (va_up S.1 7 (nI f), S.2) = some (.inl (nI (k + 1), (va_up S.1 7 (nI f), S.2))) → wh (σ := Int32 × Ob) (ρ := Ob) (fun t => fX3_lay_n_L77 (fX3_lay_n d) (nI r) (nI (2 ^ (w * (r + 1)) * P)) (nI cols) (nI (2 ^ w - 1)) (nI (rowN w bl r)) (nI (rowN w wt r)) t.1 t.2) (m + 1) (nI k, (va_up S.1 7 (nI f), S.2)) = some (va_up S.1 7 (nI (f + (((List.range' k (dd + 1)).flatMap (fun c => if okB h w tb bl wt r P c = true then LSq h w tb bl wt r (2 ^ w * P + c) else [])).take (lim - f)).length)), S.2) := by
            intro hk0 hbody
            rw [List.range'_succ, List.flatMap_cons, if_neg (by rw [hk0]; decide), List.nil_append, wh_i hbody]
            exact ihd (k + 1) m f (by omega) (by omega) hf
          by_cases b1 : tb r k = true
          · by_cases b2 : k &&& rowN w bl r = rowN w bl r
            · by_cases b3 : k &&& rowN w wt r = 0
              · have hk16 : k < 16 := by omega
                have esp : nI cols ||| (nI (spN k) <<< (nI r &&& 31)) = nI (cols ||| spN k * 2 ^ r) := by
                  have := spN_lt hk16 (show r < 4 by omega)
                  rw [nq_shl (by omega) (by omega), nq_or (by omega) (by omega)]
                have hcl2 : cols ||| spN k * 2 ^ r < 2 ^ 16 := Nat.or_lt_two_pow hcl (spN_lt hk16 (by omega))
                have hc2 := cols_step hw (show r < h by omega) hh (show k < 2 ^ w by omega) hc
                have hgo := a_canGoOn (S := (va_up S.1 7 (nI f), S.2)) (p := 2 ^ (w * r) * (2 ^ w * P + k)) (srS_f hS _) hh hw (show r < h by omega) hcl2 hc2
                by_cases b4 : goB h w tb r (2 ^ (w * r) * (2 ^ w * P + k)) = true
                · have hok : okB h w tb bl wt r P k = true := by unfold okB; rw [Nat.mul_comm (2 ^ w * P + k)]; simp [b1, b2, b3, b4]
                  have hp2 := pic_lt (show r < h by omega) (show k < 2 ^ w by omega) hp
                  have hpr : k * 2 ^ (r * w) ≤ 2 ^ (w * r) * (2 ^ w * P + k) := by
                    rw [Nat.mul_comm r w, Nat.mul_comm k]
                    exact Nat.mul_le_mul_left _ (by omega)
                  have epic : nI (2 ^ (w * (r + 1)) * P) ||| (nI k <<< ((nI r * nI w) &&& 31)) = nI (2 ^ (w * r) * (2 ^ w * P + k)) := by
                    rw [pk_mul, nq_shl (by omega) (by omega), nq_or (by omega) (by omega), pic_or (by omega)]
                  have t1 := ih (2 ^ w * P + k) d (va_up S.1 7 (nI f), S.2) (cols ||| spN k * 2 ^ r) f (by omega) (by omega) (srS_f hS _) rfl hf (fun _ => by omega) hp2 hcl2 hc2
                  dsimp only at t1
                  rw [vu_u] at t1
                  generalize hA : LSq h w tb bl wt r (2 ^ w * P + k) = Al at *
                  have hlt := List.length_take (l := Al) (i := lim - f)
                  have u1 := ihd (k + 1) m (f + (Al.take (lim - f)).length) (by omega) (by omega) (by omega)
                  rw [wh_i (s' := (nI (k + 1), (va_up S.1 7 (nI (f + (Al.take (lim - f)).length)), S.2))), u1, List.range'_succ, List.flatMap_cons, if_pos hok, hA, List.take_append]
                  · have : lim - (f + (Al.take (lim - f)).length) = lim - f - Al.length := by omega
                    rw [this, List.length_append, Nat.add_assoc]
                  · show fX3_lay_n_L77 _ _ _ _ _ _ _ (nI k) (va_up S.1 7 (nI f), S.2) = _
                    unfold fX3_lay_n_L77
                    rw [if_neg c1, if_neg c3, if_pos o1]
                    dsimp only
                    rw [cl, w2, if_neg (fun q => by rw [e3, b1] at q; cases q), if_pos (e4.mpr b2), if_pos (e5.mpr b3), a_spread hk16, Option.bind_some, esp, hgo, iz_t b4, Option.bind_some, if_neg (by decide), show va_up S.1 7 (nI f) 1 = nI w from s1, epic, t1, Option.bind_some, ek]
                · have hok : okB h w tb bl wt r P k = false := by unfold okB; rw [Nat.mul_comm (2 ^ w * P + k)]; simp [b4]
                  refine skip hok ?_
                  unfold fX3_lay_n_L77
                  rw [if_neg c1, if_neg c3, if_pos o1]
                  dsimp only
                  rw [cl, w2, if_neg (fun q => by rw [e3, b1] at q; cases q), if_pos (e4.mpr b2), if_pos (e5.mpr b3), a_spread hk16, Option.bind_some, esp, hgo, iz_f b4, Option.bind_some, if_pos rfl, ek]
              · have hok : okB h w tb bl wt r P k = false := by unfold okB; simp [b3]
                refine skip hok ?_
                unfold fX3_lay_n_L77
                rw [if_neg c1, if_neg c3, if_pos o1]
                dsimp only
                rw [cl, w2, if_neg (fun q => by rw [e3, b1] at q; cases q), if_pos (e4.mpr b2), if_neg (fun q => b3 (e5.mp q)), ek]
            · have hok : okB h w tb bl wt r P k = false := by unfold okB; simp [b2]
              refine skip hok ?_
              unfold fX3_lay_n_L77
              rw [if_neg c1, if_neg c3, if_pos o1]
              dsimp only
              rw [cl, w2, if_neg (fun q => by rw [e3, b1] at q; cases q), if_neg (fun q => b2 (e4.mp q)), ek]
          · have b0 : tb r k = false := by simpa using b1
            have hok : okB h w tb bl wt r P k = false := by unfold okB; simp [b0]
            refine skip hok ?_
            unfold fX3_lay_n_L77
            rw [if_neg c1, if_neg c3, if_pos o1]
            dsimp only
            rw [cl, w2, if_pos (e3.mpr b0), ek]
    have u1 := loop (2 ^ w) 0 100000 f (by omega) (by omega) hf
    rw [← List.range_eq_range'] at u1
    have eS : (va_up S.1 7 (nI f), S.2) = S := by rw [← h7, vu_id]
    rw [eS] at u1
    show fX3_lay_n_B (fX3_lay_n d) S (nI (r + 1) - 1) (nI (2 ^ (w * (r + 1)) * P)) (nI cols) = _
    unfold fX3_lay_n_B
    rw [ep, if_pos c4, if_pos c0, s1, s2, s3, eall, emust bl hbl, emust wt hwt]
    show (wh _ 100000 (nI 0, S)).bind _ = _
    rw [u1]
    rfl
/-! run: the columns are opened, then the rows laid -/
/-- ways, marks and size are there; the rest is scratch -/
def srW (S : Ob) (h w bl wt : Nat) (tb : Nat → Nat → Bool) : Prop := S.1 0 = nI h ∧ S.1 1 = nI w ∧ S.1 2 = nI bl ∧ S.1 3 = nI wt ∧ ∀ l, l < h + w → ∃ m, m < 2 ^ 16 ∧ S.2 4 l = nI m ∧ ∀ c, c < 16 → m.testBit c = tb l c
theorem a_open1 {S : Ob} {h w bl wt : Nat} {tb : Nat → Nat → Bool} (hS : srW S h w bl wt tb) (hh : h ≤ 4) (hw : w ≤ 4) {col : Nat} (hcol : col < w) : ∃ f, wh (σ := Int32 × Ob) (ρ := Ob) (fun t => fX3_run_n_L23 (nI col) t.1 t.2) 100000 ((0 : Int32), S) = some (S.1, va_up S.2 5 f) ∧ (∀ j, (∀ r, r < h → ¬ j = r * 4 + col) → f j = S.2 5 j) ∧ ∀ r, r < h → ∃ m, m < 2 ^ 16 ∧ f (r * 4 + col) = nI m ∧ ∀ x, x < 16 → m.testBit x = opB h w tb r col x := by
  obtain ⟨s0, s1, s2, s3, s4⟩ := hS
  obtain ⟨wm, w1, w2, w3⟩ := s4 (h + col) (by omega)
  have hp : 2 ^ h ≤ 2 ^ 4 := pw_le hh
  let g : Nat → Nat → Int32 := fun k j => if ∃ r, r < k ∧ j = r * 4 + col then nI (opN (tb (h + col)) (j / 4) (2 ^ h)) else S.2 5 j
  have hg : ∀ k, k < 4 → upd (g k) (k * 4 + col) (nI (opN (tb (h + col)) k (2 ^ h))) = g (k + 1) := by
    intro k hk
    funext j
    by_cases a : j = k * 4 + col
    · subst a
      rw [up_s]
      show _ = (if _ then _ else _)
      rw [if_pos ⟨k, Nat.lt_succ_self _, rfl⟩, show (k * 4 + col) / 4 = k by omega]
    · rw [up_n _ _ a]
      show (if _ then _ else _) = (if _ then _ else _)
      have : (∃ r, r < k + 1 ∧ j = r * 4 + col) ↔ (∃ r, r < k ∧ j = r * 4 + col) := by
        constructor
        · rintro ⟨r, h1, h2⟩
          by_cases e : r = k
          · subst e; exact absurd h2 a
          · exact ⟨r, by omega, h2⟩
        · rintro ⟨r, h1, h2⟩
          exact ⟨r, by omega, h2⟩
      simp only [this]
  refine ⟨g h, ?_, fun j hj => ?_, fun r hr => ?_⟩
  · refine wh_for0 (fun k => (nI k, (S.1, va_up S.2 5 (g k)))) h ?_ (by omega) ?_ ?_
    · have e : g 0 = S.2 5 := by
        funext j
        show (if _ then _ else _) = _
        rw [if_neg]
        rintro ⟨r, h1, _⟩
        omega
      show _ = (nI 0, _)
      rw [e, vu_id]
      rfl
    · intro k hk
      show fX3_run_n_L23 (nI col) (nI k) (S.1, va_up S.2 5 (g k)) = _
      have c1 : ¬ nI h ≤ nI k := by rw [nI_leI (by omega) (by omega)]; omega
      have ek : nI k + (1 : Int32) = nI (k + 1) := nI_1 k
      have oc := a_openColumn (S := (S.1, va_up S.2 5 (g k))) (h := h) (r := k) (col := col) (m := wm) (g := tb (h + col)) s0 hh (by omega) (by omega) w1 (show va_up S.2 5 (g k) 4 (h + col) = nI wm from w2) w3
      unfold fX3_run_n_L23
      dsimp only
      rw [s0, if_neg c1, oc, Option.bind_some, ek]
      dsimp only
      rw [vu_s, vu_u, hg k (by omega)]
    · show fX3_run_n_L23 (nI col) (nI h) (S.1, va_up S.2 5 (g h)) = _
      unfold fX3_run_n_L23
      dsimp only
      rw [s0, if_pos (Int32.le_refl _)]
  · show (if _ then _ else _) = _
    rw [if_neg]
    rintro ⟨r, h1, h2⟩
    exact hj r h1 h2
  · refine ⟨opN (tb (h + col)) r (2 ^ h), Nat.lt_of_lt_of_le (opN_lt _ _ _) (pw_le (by omega)), ?_, fun x hx => ?_⟩
    · show (if _ then _ else _) = _
      rw [if_pos ⟨r, hr, rfl⟩, show (r * 4 + col) / 4 = r by omega]
    · rw [opN_tb]
      rfl
