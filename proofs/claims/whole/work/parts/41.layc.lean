/-! the class's search: it finds the list LSq, up to its limit -/
def colsOK (w h p cols : Nat) : Prop := ∀ col, col < w → ∀ i, i < 4 → cols.testBit (4 * col + i) = (decide (i < h) && p.testBit (w * i + col))
theorem cols_step {w h r P k cols : Nat} (hw : w ≤ 4) (hr : r < h) (hh : h ≤ 4) (hk : k < 2 ^ w) (hc : colsOK w h (2 ^ (w * (r + 1)) * P) cols) : colsOK w h (2 ^ (w * r) * (2 ^ w * P + k)) (cols ||| spN k * 2 ^ r) := by
  intro col hcol i hi
  have h16 : 2 ^ w ≤ 16 := pw_le (b := 4) hw
  have e0 : 2 ^ (w * (r + 1)) * P = 2 ^ (w * r) * (2 ^ w * P + 0) + 0 := by rw [Nat.mul_succ, Nat.pow_add, Nat.mul_assoc]; simp
  have e1 : 2 ^ (w * r) * (2 ^ w * P + k) = 2 ^ (w * r) * (2 ^ w * P + k) + 0 := rfl
  rw [Nat.testBit_or, hc col hcol i hi, spN_tb (by omega) (by omega) (by omega) hi, e0, lay_tb (Nat.two_pow_pos _) (Nat.two_pow_pos _), e1, lay_tb hk (Nat.two_pow_pos _)]
  rcases Nat.lt_trichotomy i r with a | a | a
  · have b : w * i + col < w * r := by
      have := Nat.mul_le_mul_left w (show i + 1 ≤ r from a)
      rw [Nat.mul_succ] at this
      omega
    have c : ¬ i = r := by omega
    simp [b, c]
  · subst a
    have b : ¬ w * i + col < w * i := by omega
    have d : w * i + col - w * i = col := by omega
    rw [if_neg b, if_neg b, d, if_pos hcol, if_pos hcol]
    simp [hr]
  · have b : ¬ w * i + col < w * r := by
      have := Nat.mul_le_mul_left w (show r ≤ i by omega)
      omega
    have d : ¬ w * i + col - w * r < w := by
      have := Nat.mul_le_mul_left w (show r + 1 ≤ i from a)
      rw [Nat.mul_succ] at this
      omega
    have c : ¬ i = r := by omega
    rw [if_neg b, if_neg b, if_neg d, if_neg d]
    simp [c]
theorem pic_lt {w h r P k : Nat} (hr : r < h) (hk : k < 2 ^ w) (hp : 2 ^ (w * (r + 1)) * P < 2 ^ (h * w)) : 2 ^ (w * r) * (2 ^ w * P + k) < 2 ^ (h * w) := by
  have e1 : h * w = w * (r + 1) + w * (h - (r + 1)) := by rw [← Nat.mul_add, Nat.mul_comm]; congr 1; omega
  rw [e1, Nat.pow_add] at hp ⊢
  have h1 : P < 2 ^ (w * (h - (r + 1))) := Nat.lt_of_mul_lt_mul_left hp
  have h2 : 2 ^ w * P + k < 2 ^ w * (P + 1) := by rw [Nat.mul_succ]; omega
  have h3 : 2 ^ (w * (r + 1)) = 2 ^ (w * r) * 2 ^ w := by rw [Nat.mul_succ, Nat.pow_add]
  calc 2 ^ (w * r) * (2 ^ w * P + k) < 2 ^ (w * r) * (2 ^ w * (P + 1)) := Nat.mul_lt_mul_of_pos_left h2 (Nat.two_pow_pos _)
    _ = 2 ^ (w * (r + 1)) * (P + 1) := by rw [h3, Nat.mul_assoc]
    _ ≤ 2 ^ (w * (r + 1)) * 2 ^ (w * (h - (r + 1))) := Nat.mul_le_mul_left _ h1
theorem pic_or {w r P k : Nat} (hk : k < 2 ^ w) : 2 ^ (w * (r + 1)) * P ||| k * 2 ^ (r * w) = 2 ^ (w * r) * (2 ^ w * P + k) := by
  have h3 : 2 ^ (w * (r + 1)) = 2 ^ (w * r) * 2 ^ w := by rw [Nat.mul_succ, Nat.pow_add]
  have h4 : k * 2 ^ (r * w) < 2 ^ (w * (r + 1)) := by
    rw [h3, Nat.mul_comm r w, Nat.mul_comm]
    exact Nat.mul_lt_mul_of_pos_left hk (Nat.two_pow_pos _)
  rw [← Nat.two_pow_add_eq_or_of_lt h4, h3, Nat.mul_add, Nat.mul_assoc, Nat.mul_comm r w, Nat.mul_comm k]
set_option maxHeartbeats 1000000 in
theorem a_lay_f {h w bl wt lim cN : Nat} {tb : Nat → Nat → Bool} (hh : h ≤ 4) (hw : w ≤ 4) (hbl : bl < 2 ^ 16) (hwt : wt < 2 ^ 16) (hlc : lim ≤ cN) (hcN : cN < 90000) : ∀ (r P d : Nat) (S S2 : Ob) (L : List Nat) (cols f : Nat), r ≤ h → r < d → srS S h w bl wt lim tb → S.1 7 = nI f → L.length = f → fitsO S2 L → f ≤ lim → (r = 0 → f < lim) → 2 ^ (w * r) * P < 2 ^ (h * w) → cols < 2 ^ 16 → colsOK w h (2 ^ (w * r) * P) cols →
    ∃ S2', fX3_lay_f cN d S S2 (nI r - 1) (nI (2 ^ (w * r) * P)) (nI cols) = some ((va_up S.1 7 (nI (f + ((LSq h w tb bl wt r P).take (lim - f)).length)), S.2), S2') ∧ fitsO S2' (L ++ (LSq h w tb bl wt r P).take (lim - f)) := by
  have hm : h * w ≤ 16 := Nat.mul_le_mul hh hw
  have hpw : 2 ^ (h * w) ≤ 2 ^ 16 := pw_le hm
  have hw16 : 2 ^ w ≤ 16 := pw_le (b := 4) hw
  have hw0 := Nat.two_pow_pos w
  intro r
  induction r with
  | zero =>
    intro P d S S2 L cols f hr hd hS h7 hL hF hf h0 hp hcl hc
    obtain ⟨d, rfl⟩ : ∃ q, d = q + 1 := ⟨d - 1, by omega⟩
    have hf2 := h0 rfl
    obtain ⟨S2', a1, a2, _⟩ := a_add hF (show L.length < cN by omega) (by omega) (show 2 ^ (w * 0) * P < 2 ^ 16 by omega)
    have et : ([P] : List Nat).take (lim - f) = [P] := List.take_of_length_le (by simp; omega)
    have e1 : 2 ^ (w * 0) * P = P := by simp
    refine ⟨S2', ?_, ?_⟩
    · show fX3_lay_f_B (fX3_lay_f cN d) cN S S2 (nI 0 - 1) (nI (2 ^ (w * 0) * P)) (nI cols) = _
      unfold fX3_lay_f_B
      rw [if_pos (show nI 0 - 1 < (4 : Int32) by decide), if_neg (show ¬ (0 : Int32) ≤ nI 0 - 1 by decide), a1, Option.bind_some, h7, show (1 : Int32) = nI 1 from rfl, nI_add]
      show _ = some ((va_up S.1 7 (nI (f + (([P] : List Nat).take (lim - f)).length)), S.2), S2')
      rw [et]
      rfl
    · show fitsO S2' (L ++ ([P] : List Nat).take (lim - f))
      rw [et, ← e1]
      exact a2
  | succ r ih =>
    intro P d S S2 L cols f hr hd hS h7 hL hF hf h0 hp hcl hc
    obtain ⟨d, rfl⟩ : ∃ q, d = q + 1 := ⟨d - 1, by omega⟩
    obtain ⟨s0, s1, s2, s3, s6, s4, s5⟩ := id hS
    have ep : nI (r + 1) - 1 = nI r := nI_pred r
    have c4 : nI r < (4 : Int32) := by rw [show (4 : Int32) = nI 4 from rfl, nI_ltI (by omega) (by omega)]; omega
    have c0 : (0 : Int32) ≤ nI r := nI_pos' (by omega)
    have eall : (1 : Int32) <<< (nI w &&& 31) - 1 = nI (2 ^ w - 1) := by rw [sh1 (by omega), show (1 : Int32) = nI 1 from rfl, pk_sub hw0]
    have hrw : r * w ≤ 3 * 4 := Nat.mul_le_mul (by omega) hw
    have emust : ∀ b : Nat, b < 2 ^ 16 → (nI b >>> ((nI r * nI w) &&& 31)) &&& nI (2 ^ w - 1) = nI (rowN w b r) := by
      intro b hb
      rw [pk_mul, nq_shr (by omega) (by omega)]
      have h4 : b / 2 ^ (r * w) < 2 ^ 32 := Nat.lt_of_le_of_lt (Nat.div_le_self _ _) (by omega)
      rw [pk_andN h4 w (pk_tn (by omega))]
      unfold rowN
      rw [Nat.mul_comm r w]
    have loop : ∀ (dd k m f : Nat) (L : List Nat) (S2 : Ob), k + dd = 2 ^ w → dd < m → L.length = f → fitsO S2 L → f ≤ lim →
        ∃ S2', wh (σ := Int32 × Ob × Ob) (ρ := Ob × Ob) (fun t => fX3_lay_f_L77 (fX3_lay_f cN d) cN (nI r) (nI (2 ^ (w * (r + 1)) * P)) (nI cols) (nI (2 ^ w - 1)) (nI (rowN w bl r)) (nI (rowN w wt r)) t.1 t.2.1 t.2.2) m (nI k, (va_up S.1 7 (nI f), S.2), S2) = some ((va_up S.1 7 (nI (f + (((List.range' k dd).flatMap (fun c => if okB h w tb bl wt r P c = true then LSq h w tb bl wt r (2 ^ w * P + c) else [])).take (lim - f)).length)), S.2), S2') ∧ fitsO S2' (L ++ ((List.range' k dd).flatMap (fun c => if okB h w tb bl wt r P c = true then LSq h w tb bl wt r (2 ^ w * P + c) else [])).take (lim - f)) := by
      intro dd
      induction dd with
      | zero =>
        intro k m f L S2 hk hm hL hF hf
        obtain ⟨m, rfl⟩ : ∃ q, m = q + 1 := ⟨m - 1, by omega⟩
        have c1 : nI (2 ^ w - 1) < nI k := by rw [nI_ltI (by omega) (by omega)]; omega
        refine ⟨S2, ?_, ?_⟩
        · rw [wh_r (r := ((va_up S.1 7 (nI f), S.2), S2))]
          · simp
          · show fX3_lay_f_L77 _ _ _ _ _ _ _ _ (nI k) _ _ = _
            unfold fX3_lay_f_L77
            rw [if_pos c1]
        · simpa using hF
      | succ dd ihd =>
        intro k m f L S2 hk hm hL hF hf
        obtain ⟨m, rfl⟩ : ∃ q, m = q + 1 := ⟨m - 1, by omega⟩
        have c1 : ¬ nI (2 ^ w - 1) < nI k := by rw [nI_ltI (by omega) (by omega)]; omega
        have c2 : (nI lim ≤ nI f) ↔ lim ≤ f := nI_leI (by omega) (by omega)
        by_cases a : lim ≤ f
        · have ez : lim - f = 0 := by omega
          refine ⟨S2, ?_, ?_⟩
          · rw [wh_r (r := ((va_up S.1 7 (nI f), S.2), S2)), ez]
            · simp
            · show fX3_lay_f_L77 _ _ _ _ _ _ _ _ (nI k) (va_up S.1 7 (nI f), S.2) S2 = _
              unfold fX3_lay_f_L77
              rw [if_neg c1, if_pos (show (va_up S.1 7 (nI f)) 6 ≤ (va_up S.1 7 (nI f)) 7 by show S.1 6 ≤ nI f; rw [s6]; exact c2.mpr a)]
          · rw [ez]; simpa using hF
        · have c3 : ¬ (va_up S.1 7 (nI f)) 6 ≤ (va_up S.1 7 (nI f)) 7 := by
            show ¬ S.1 6 ≤ nI f
            rw [s6]
            exact fun q => a (c2.mp q)
          have o1 := okI_t (show r < 8 by omega) (by decide)
          have cl : (nI r).toNatClampNeg = r := nI_clamp (by omega)
          have ek : nI k + (1 : Int32) = nI (k + 1) := nI_1 k
          obtain ⟨wm, w1, w2, w3⟩ := s4 r (by omega)
          have e3 := nbit0 (a := wm) (k := k) (by omega) (by omega)
          rw [w3 k (by omega)] at e3
          have hrb := rowN_lt w bl r
          have hrt := rowN_lt w wt r
          have ka : k &&& rowN w bl r < 2 ^ 16 := Nat.lt_of_le_of_lt Nat.and_le_left (by omega)
          have kb : k &&& rowN w wt r < 2 ^ 16 := Nat.lt_of_le_of_lt Nat.and_le_left (by omega)
          have e4 : ((nI k &&& nI (rowN w bl r)) = nI (rowN w bl r)) ↔ (k &&& rowN w bl r = rowN w bl r) := by rw [nq_and (by omega) (by omega)]; exact nI_eq (by omega) (by omega)
          have e5 : ((nI k &&& nI (rowN w wt r)) = 0) ↔ (k &&& rowN w wt r = 0) := by rw [nq_and (by omega) (by omega)]; exact nI_eq (b := 0) (by omega) (by decide)
          -- it goes on without a picture
          have skip : okB h w tb bl wt r P k = false → fX3_lay_f_L77 (fX3_lay_f cN d) cN (nI r) (nI (2 ^ (w * (r + 1)) * P)) (nI cols) (nI (2 ^ w - 1)) (nI (rowN w bl r)) (nI (rowN w wt r)) (nI k) (va_up S.1 7 (nI f), S.2) S2 = some (.inl (nI (k + 1), (va_up S.1 7 (nI f), S.2), S2)) → ∃ S2', wh (σ := Int32 × Ob × Ob) (ρ := Ob × Ob) (fun t => fX3_lay_f_L77 (fX3_lay_f cN d) cN (nI r) (nI (2 ^ (w * (r + 1)) * P)) (nI cols) (nI (2 ^ w - 1)) (nI (rowN w bl r)) (nI (rowN w wt r)) t.1 t.2.1 t.2.2) (m + 1) (nI k, (va_up S.1 7 (nI f), S.2), S2) = some ((va_up S.1 7 (nI (f + (((List.range' k (dd + 1)).flatMap (fun c => if okB h w tb bl wt r P c = true then LSq h w tb bl wt r (2 ^ w * P + c) else [])).take (lim - f)).length)), S.2), S2') ∧ fitsO S2' (L ++ ((List.range' k (dd + 1)).flatMap (fun c => if okB h w tb bl wt r P c = true then LSq h w tb bl wt r (2 ^ w * P + c) else [])).take (lim - f)) := by
            intro hk0 hbody
            rw [List.range'_succ, List.flatMap_cons, if_neg (by rw [hk0]; decide), List.nil_append, wh_i hbody]
            exact ihd (k + 1) m f L S2 (by omega) (by omega) hL hF hf
          by_cases b1 : tb r k = true
          · by_cases b2 : k &&& rowN w bl r = rowN w bl r
            · by_cases b3 : k &&& rowN w wt r = 0
              · have hk16 : k < 16 := by omega
                have esp : nI cols ||| (nI (spN k) <<< (nI r &&& 31)) = nI (cols ||| spN k * 2 ^ r) := by
                  have := spN_lt hk16 (show r < 4 by omega)
                  rw [nq_shl (by omega) (by omega), nq_or (by omega) (by omega)]
                have hcl2 : cols ||| spN k * 2 ^ r < 2 ^ 16 := Nat.or_lt_two_pow hcl (spN_lt hk16 (by omega))
                have hc2 := cols_step hw (show r < h by omega) hh (show k < 2 ^ w by omega) hc
                have hgo := a_canGoOn (S := (va_up S.1 7 (nI f), S.2)) (p := 2 ^ (w * r) * (2 ^ w * P + k)) (srS_f hS _) hh hw (show r < h by omega) hcl2 hc2
                by_cases b4 : goB h w tb r (2 ^ (w * r) * (2 ^ w * P + k)) = true
                · have hok : okB h w tb bl wt r P k = true := by unfold okB; rw [Nat.mul_comm (2 ^ w * P + k)]; simp [b1, b2, b3, b4]
                  have hp2 := pic_lt (show r < h by omega) (show k < 2 ^ w by omega) hp
                  have hpr : k * 2 ^ (r * w) ≤ 2 ^ (w * r) * (2 ^ w * P + k) := by
                    rw [Nat.mul_comm r w, Nat.mul_comm k]
                    exact Nat.mul_le_mul_left _ (by omega)
                  have epic : nI (2 ^ (w * (r + 1)) * P) ||| (nI k <<< ((nI r * nI w) &&& 31)) = nI (2 ^ (w * r) * (2 ^ w * P + k)) := by
                    rw [pk_mul, nq_shl (by omega) (by omega), nq_or (by omega) (by omega), pic_or (by omega)]
                  obtain ⟨T2, t1, t2⟩ := ih (2 ^ w * P + k) d (va_up S.1 7 (nI f), S.2) S2 L (cols ||| spN k * 2 ^ r) f (by omega) (by omega) (srS_f hS _) rfl hL hF hf (fun _ => by omega) hp2 hcl2 hc2
                  dsimp only at t1
                  rw [vu_u] at t1
                  generalize hA : LSq h w tb bl wt r (2 ^ w * P + k) = Al at *
                  have hlen : (L ++ Al.take (lim - f)).length = f + (Al.take (lim - f)).length := by rw [List.length_append, hL]
                  have hlt := List.length_take (l := Al) (i := lim - f)
                  obtain ⟨S2', u1, u2⟩ := ihd (k + 1) m (f + (Al.take (lim - f)).length) (L ++ Al.take (lim - f)) T2 (by omega) (by omega) hlen t2 (by omega)
                  refine ⟨S2', ?_, ?_⟩
                  · rw [wh_i (s' := (nI (k + 1), (va_up S.1 7 (nI (f + (Al.take (lim - f)).length)), S.2), T2)), u1, List.range'_succ, List.flatMap_cons, if_pos hok, hA, List.take_append]
                    · have : lim - (f + (Al.take (lim - f)).length) = lim - f - Al.length := by omega
                      rw [this, List.length_append, Nat.add_assoc]
                    · show fX3_lay_f_L77 _ _ _ _ _ _ _ _ (nI k) (va_up S.1 7 (nI f), S.2) S2 = _
                      unfold fX3_lay_f_L77
                      rw [if_neg c1, if_neg c3, if_pos o1]
                      dsimp only
                      rw [cl, w2, if_neg (fun q => by rw [e3, b1] at q; cases q), if_pos (e4.mpr b2), if_pos (e5.mpr b3), a_spread hk16, Option.bind_some, esp, hgo, iz_t b4, Option.bind_some, if_neg (by decide), show va_up S.1 7 (nI f) 1 = nI w from s1, epic, t1, Option.bind_some, ek]
                  · rw [List.range'_succ, List.flatMap_cons, if_pos hok, hA, List.take_append, ← List.append_assoc]
                    have : lim - (f + (Al.take (lim - f)).length) = lim - f - Al.length := by omega
                    rw [this] at u2
                    exact u2
                · have hok : okB h w tb bl wt r P k = false := by unfold okB; rw [Nat.mul_comm (2 ^ w * P + k)]; simp [b4]
                  refine skip hok ?_
                  unfold fX3_lay_f_L77
                  rw [if_neg c1, if_neg c3, if_pos o1]
                  dsimp only
                  rw [cl, w2, if_neg (fun q => by rw [e3, b1] at q; cases q), if_pos (e4.mpr b2), if_pos (e5.mpr b3), a_spread hk16, Option.bind_some, esp, hgo, iz_f b4, Option.bind_some, if_pos rfl, ek]
              · have hok : okB h w tb bl wt r P k = false := by unfold okB; simp [b3]
                refine skip hok ?_
                unfold fX3_lay_f_L77
                rw [if_neg c1, if_neg c3, if_pos o1]
                dsimp only
                rw [cl, w2, if_neg (fun q => by rw [e3, b1] at q; cases q), if_pos (e4.mpr b2), if_neg (fun q => b3 (e5.mp q)), ek]
            · have hok : okB h w tb bl wt r P k = false := by unfold okB; simp [b2]
              refine skip hok ?_
              unfold fX3_lay_f_L77
              rw [if_neg c1, if_neg c3, if_pos o1]
              dsimp only
              rw [cl, w2, if_neg (fun q => by rw [e3, b1] at q; cases q), if_neg (fun q => b2 (e4.mp q)), ek]
          · have b0 : tb r k = false := by simpa using b1
            have hok : okB h w tb bl wt r P k = false := by unfold okB; simp [b0]
            refine skip hok ?_
            unfold fX3_lay_f_L77
            rw [if_neg c1, if_neg c3, if_pos o1]
            dsimp only
            rw [cl, w2, if_pos (e3.mpr b0), ek]
    obtain ⟨S2', u1, u2⟩ := loop (2 ^ w) 0 100000 f L S2 (by omega) (by omega) hL hF hf
    rw [← List.range_eq_range'] at u1 u2
    refine ⟨S2', ?_, u2⟩
    have eS : (va_up S.1 7 (nI f), S.2) = S := by rw [← h7, vu_id]
    rw [eS] at u1
    show fX3_lay_f_B (fX3_lay_f cN d) cN S S2 (nI (r + 1) - 1) (nI (2 ^ (w * (r + 1)) * P)) (nI cols) = _
    unfold fX3_lay_f_B
    rw [ep, if_pos c4, if_pos c0, s1, s2, s3, eall, emust bl hbl, emust wt hwt]
    show (wh _ 100000 (nI 0, S, S2)).bind _ = _
    rw [u1]
    rfl
