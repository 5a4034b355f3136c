/-! fault and board -/
theorem c_faultOf {M M' : OM} {p : Nat} (h : wF 100000 ((0 : Int32), R0 M) = some (nI p, M')) : fX6_faultOf M = some (nI p, M') := by
  unfold fX6_faultOf
  show (wF 100000 ((0 : Int32), R0 M)).bind _ = _
  rw [h, Option.bind_some]
  rfl
theorem es_rd {A : Ab} {E : OE} {S T : Ob} {p : Nat} (es : ES A E) (hS : pgS A S p) : ES A (E.1, va_up (va_up E.2 0 S) 3 T) := ⟨hS.1, hS.2.2, es.t, es.br, es.hd, es.od, es.im, es.k⟩
theorem op_fault : opL2 Rel := by
  rintro n E M ⟨A, o, es, ec, ms, mc⟩
  obtain ⟨S', T', p, hp, hS, h⟩ := j_read o es ms
  obtain ⟨x, M', h1, h2, h3⟩ : ∃ x M', fX2_readInto (E.2 0) (E.2 3) = some (x, S', T') ∧ fX6_faultOf M = some (nI p, M') ∧ pM M M' := by
    rcases h with ⟨h1, M', h2, h3, _⟩ | ⟨h1, hb, h', w', M', _, _, h2, h3, _⟩
    · exact ⟨0, M', h1, c_faultOf h2, h3⟩
    · rw [← hb] at h2
      exact ⟨1, M', h1, c_faultOf h2, h3⟩
  refine ⟨nI p, (E.1, va_up (va_up E.2 0 S') 3 T'), M', ?_, ?_, A, o.dn, es_rd es hS, ec, pM_s h3 ms, pM_c h3 mc⟩
  · unfold fX5_fault
    rw [h1, Option.bind_some]
    dsimp only
    rw [hS.2.1]
  · unfold fX6_fault
    rw [h2, Option.bind_some]
theorem c_brd (M : OM) : wh (σ := Int32 × OM) (ρ := OM) (fun t => fX6_board_L104 t.1 t.2) 100000 ((0 : Int32), M) = some (M.1, va_up M.2.1 15 (fun j => if j < 16 then 0 else M.2.1 15 j), M.2.2.1, M.2.2.2) := by
  refine wh_for0 (fun k => (nI k, (M.1, va_up M.2.1 15 (fun j => if j < k then 0 else M.2.1 15 j), M.2.2.1, M.2.2.2))) 16 ?_ (by decide) ?_ ?_
  · rw [zr_0, vu_id]; rfl
  · intro k hk
    have o1 := okI_t hk (by decide)
    have c1 : ¬ (16 : Int32) ≤ nI k := by rw [show (16 : Int32) = nI 16 from rfl, nI_leI (by omega) (by omega)]; omega
    have cl : (nI k).toNatClampNeg = k := nI_clamp (by omega)
    show fX6_board_L104 (nI k) (M.1, va_up M.2.1 15 (fun j => if j < k then 0 else M.2.1 15 j), M.2.2.1, M.2.2.2) = _
    unfold fX6_board_L104
    rw [if_neg c1, if_pos o1, cl, nI_1]
    show some (Sum.inl (nI (k + 1), (M.1, va_up (va_up M.2.1 15 (fun j => if j < k then 0 else M.2.1 15 j)) 15 (upd (fun j => if j < k then 0 else M.2.1 15 j) k 0), M.2.2.1, M.2.2.2))) = _
    rw [vu_u, zr_i]
  · show fX6_board_L104 (nI 16) (M.1, va_up M.2.1 15 (fun j => if j < 16 then 0 else M.2.1 15 j), M.2.2.1, M.2.2.2) = _
    unfold fX6_board_L104
    rw [if_pos (by decide)]
def bdM (M : OM) (h w br : Nat) : OM := (va_up (va_up (va_up (va_up (va_up (va_up M.1 9 (nI h)) 10 (nI w)) 1 (0 : Int32)) 11 (nI (br + 1))) 20 (1 : Int32)) 28 (0 : Int32), va_up (va_up (va_up (va_up M.2.1 12 (cpN 8 (M.2.1 6) (M.2.1 12))) 13 (cpN 8 (M.2.1 7) (M.2.1 13))) 14 (cpN 8 (M.2.1 8) (M.2.1 14))) 15 (fun j => if j < 16 then 0 else M.2.1 15 j), M.2.2.1, M.2.2.2)
theorem c_boardG {n : Nat} {A : Ab} {M M' : OM} {h w : Nat} (o : abOK n A) (ms : MS A M) (ms' : MS A M') (d : dg A h w) (p3 : 3 ≤ A.ps) (fo : fX6_faultOf M = some (nI A.ps, M')) (m2 : M'.1 2 = nI (h + w - 1)) (m3 : M'.1 3 = 3) : fX6_board M = some (nI (h * w), bdM M' h w A.br) := by
  have hps := o.ps
  have e1 := c_lines ms' d
  have e2 := c_dig ms' d
  obtain ⟨d0, d1, d2, d3, d4, d5, d6⟩ := id d
  unfold fX6_board
  rw [ms.ps, if_neg (show ¬ nI A.ps < (3 : Int32) by rw [show (3 : Int32) = nI 3 from rfl, nI_ltI (by omega) (by decide)]; omega), fo, Option.bind_some]
  dsimp only
  rw [ms'.ps, if_neg (show ¬ nI A.ps < nI A.ps from Int32.lt_irrefl), if_pos m3, e1, Option.bind_some, m2, if_pos (show nI (h + w - 1) = nI (h + w) - (1 : Int32) by rw [show (1 : Int32) = nI 1 from rfl, pk_sub (by omega)]), if_pos (by decide), if_pos (by decide), c_copy (by decide), Option.bind_some, c_copy (by decide), Option.bind_some, c_copy (by decide), Option.bind_some, z_clamp, o_clamp, e2.1, e2.2, c_brd, Option.bind_some]
  show some (nI h * nI w, (va_up (va_up (va_up (va_up (va_up (va_up M'.1 9 (nI h)) 10 (nI w)) 1 (0 : Int32)) 11 (M'.1 11 + (1 : Int32))) 20 (1 : Int32)) 28 (0 : Int32), va_up (va_up (va_up (va_up M'.2.1 12 (cpN 8 (M'.2.1 6) (M'.2.1 12))) 13 (cpN 8 (M'.2.1 7) (M'.2.1 13))) 14 (cpN 8 (M'.2.1 8) (M'.2.1 14))) 15 (fun j => if j < 16 then 0 else M'.2.1 15 j), M'.2.2.1, M'.2.2.2)) = _
  rw [pk_mul, ms'.br, nI_1]
  rfl
theorem c_boardB {n : Nat} {A : Ab} {M M' : OM} {p : Nat} (o : abOK n A) (ms : MS A M) (ms' : MS A M') (p3 : ¬ A.ps < 3) (hp : p ≤ A.ps) (fo : fX6_faultOf M = some (nI p, M')) (nb : nbR A p M') : fX6_board M = some (-103, M') := by
  have hps := o.ps
  unfold fX6_board
  rw [ms.ps, if_neg (show ¬ nI A.ps < (3 : Int32) by rw [show (3 : Int32) = nI 3 from rfl, nI_ltI (by omega) (by decide)]; omega), fo, Option.bind_some]
  dsimp only
  rw [ms'.ps]
  by_cases b : p < A.ps
  · rw [if_pos (show nI p < nI A.ps by rw [nI_ltI (by omega) (by omega)]; exact b)]
  · rw [if_neg (show ¬ nI p < nI A.ps by rw [nI_ltI (by omega) (by omega)]; exact b)]
    rcases nb with nb | nb | nb | ⟨x, nb1, nb2⟩
    · exact absurd nb p3
    · exact absurd nb b
    · rw [if_neg nb]
    · by_cases c : M'.1 3 = (3 : Int32)
      · rw [if_pos c, nb1, Option.bind_some, if_neg nb2]
      · rw [if_neg c]
theorem op_board : opL3 Rel := by
  rintro n E M ⟨A, o, es, ec, ms, mc⟩
  have hps := o.ps
  obtain ⟨S', T', p, hp, hS, h⟩ := j_read o es ms
  rcases h with ⟨h1, M', h2, h3, h4⟩ | ⟨h1, hb, h, w, M', d, p3, h2, h3, m2, m3, ⟨t0, t1, t5, t6, t10⟩, rows⟩
  · have cls : fX5_board E = some (-103, (E.1, va_up (va_up E.2 0 S') 3 T')) := by
      unfold fX5_board
      rw [h1, Option.bind_some]
      dsimp only
      rw [if_pos rfl]
    by_cases p3 : A.ps < 3
    · refine ⟨-103, (E.1, va_up (va_up E.2 0 S') 3 T'), M, cls, ?_, A, o.dn, es_rd es hS, ec, ms, mc⟩
      unfold fX6_board
      rw [ms.ps, if_pos (show nI A.ps < (3 : Int32) by rw [show (3 : Int32) = nI 3 from rfl, nI_ltI (by omega) (by decide)]; exact p3)]
    · exact ⟨-103, (E.1, va_up (va_up E.2 0 S') 3 T'), M', cls, c_boardB o ms (pM_s h3 ms) p3 hp (c_faultOf h2) h4, A, o.dn, es_rd es hS, ec, pM_s h3 ms, pM_c h3 mc⟩
  · have ms' := pM_s h3 ms
    obtain ⟨d0, d1, d2, d3, d4, d5, d6⟩ := id d
    obtain ⟨kd, fr, sc, rw2⟩ : ∃ kd fr sc : Nat → Nat, ∀ j, j < h + w → (T'.2 2 j = nI (kd j) ∧ T'.2 3 j = nI (fr j) ∧ T'.2 4 j = nI (sc j)) ∧ (M'.2.1 6 j = nI (kd j) ∧ M'.2.1 7 j = nI (fr j) ∧ M'.2.1 8 j = nI (sc j)) ∧ kd j < 5 ∧ fr j < 5 ∧ sc j < 5 ∧ (fr j = 0 → sc j = 0) := by
      refine ⟨fun j => (T'.2 2 j).toNatClampNeg, fun j => (T'.2 3 j).toNatClampNeg, fun j => (T'.2 4 j).toNatClampNeg, fun j hj => ?_⟩
      obtain ⟨a, b, c, e1, e2, e3, e4, e5, e6, e7, e8, e9, e10⟩ := rows j hj
      dsimp only
      rw [e1, e2, e3, e4, e5, e6, nI_clamp (n := a) (by omega), nI_clamp (n := b) (by omega), nI_clamp (n := c) (by omega)]
      exact ⟨⟨rfl, rfl, rfl⟩, ⟨rfl, rfl, rfl⟩, e7, e8, e9, e10⟩
    have ot : tbOK (⟨h, w, kd, fr, sc, fun _ => 0, 0, fun _ => 0, fun _ => 0, fun _ => 0⟩ : Tb) := ⟨Or.inr ⟨d3, d4, d5, d6⟩, fun l hl => (rw2 l hl).2.2, fun _ => (by decide : 0 < 3), (by decide : 0 ≤ 6), fun i hi => absurd hi (Nat.not_lt_zero i)⟩
    have tq : tT T' (⟨h, w, kd, fr, sc, fun _ => 0, 0, fun _ => 0, fun _ => 0, fun _ => 0⟩ : Tb) := by
      refine ⟨t0, t1, fun l hl => (rw2 l hl).1, ?_, ?_, t10, fun i hi => absurd hi (Nat.not_lt_zero i)⟩
      · rw [t5]
        show (0 : Int32) = nI (mskN (fun _ => 0) 1 _)
        rw [msk_0 1 _ (by decide)]; rfl
      · rw [t6]
        show (0 : Int32) = nI (mskN (fun _ => 0) 2 _)
        rw [msk_0 2 _ (by decide)]; rfl
    obtain ⟨T2, cp, tq2⟩ := a_copyT (S := E.2 1) ot tq
    have ce : fX4_cells T2 = some (nI (h * w)) := a_cells tq2
    subst hb
    have br := o.br
    refine ⟨nI (h * w), (va_up (va_up (va_up E.1 7 (1 : Int32)) 8 (0 : Int32)) 9 (nI (A.br + 1)), va_up (va_up (va_up E.2 0 (va_up S'.1 1 (0 : Int32), S'.2)) 1 T2) 3 T'), bdM M' h w A.br, ?_, c_boardG o ms ms' d p3 (c_faultOf h2) m2 m3, ⟨0, A.pc, ⟨h, w, kd, fr, sc, fun _ => 0, 0, fun _ => 0, fun _ => 0, fun _ => 0⟩, A.br + 1, A.hd, A.od, false, A.k⟩, ?_, ?_, nstale rfl, ?_, ?_⟩
    · unfold fX5_board
      rw [h1, Option.bind_some]
      dsimp only
      rw [if_neg (by decide), cp, Option.bind_some, ce, Option.bind_some, es.br, nI_1]
    · exact ⟨Nat.zero_le _, fun i hi => absurd hi (Nat.not_lt_zero i), ot, (by omega : A.br + 1 + n ≤ 3000), o.hd, o.od, fun q => by cases q⟩
    · exact ⟨rfl, fun i hi => absurd hi (Nat.not_lt_zero i), tq2, rfl, es.hd, es.od, rfl, fun q => by cases q⟩
    · refine ⟨rfl, fun i hi => absurd hi (Nat.not_lt_zero i), rfl, rfl, ⟨?_, ?_, fun i hi => absurd hi (Nat.not_lt_zero i)⟩, rfl, rfl, ms'.hd, ms'.od, fun q => (by cases q), fun _ => ?_⟩
      · intro l hl
        have hl : l < h + w := hl
        obtain ⟨_, ⟨e1, e2, e3⟩, _⟩ := rw2 l hl
        refine ⟨?_, ?_, ?_⟩
        · show cpN 8 (M'.2.1 6) (M'.2.1 12) l = nI (kd l)
          rw [cpN_i (by omega)]; exact e1
        · show cpN 8 (M'.2.1 7) (M'.2.1 13) l = nI (fr l)
          rw [cpN_i (by omega)]; exact e2
        · show cpN 8 (M'.2.1 8) (M'.2.1 14) l = nI (sc l)
          rw [cpN_i (by omega)]; exact e3
      · intro j hj
        have hm : h * w ≤ 16 := Nat.mul_le_mul d4 d6
        have hj2 : j < h * w := hj
        show (if j < 16 then (0 : Int32) else M'.2.1 15 j) = nI 0
        rw [if_pos (by omega)]
        rfl
      · show M'.1 33 = -1 ∨ ∃ q, q < A.br + 1 ∧ M'.1 33 = nI q
        cases e : A.im with
        | true => exact Or.inr ⟨A.br, Nat.lt_succ_self _, (ms'.k e).1⟩
        | false =>
          rcases ms'.nk e with z | ⟨q, z1, z2⟩
          · exact Or.inl z
          · exact Or.inr ⟨q, by omega, z2⟩
    · unfold bdM
      exact mstale rfl
/-! the start, and all calls -/
theorem rel_start : ∀ n, n ≤ 2566 → Rel n E00 M00 := by
  intro n hn
  refine ⟨⟨0, fun _ => 0, ⟨0, 0, fun _ => 0, fun _ => 0, fun _ => 0, fun _ => 0, 0, fun _ => 0, fun _ => 0, fun _ => 0⟩, 0, 0, 0, false, ⟨0, 0, fun _ => 0, fun _ => 0, fun _ => 0, fun _ => 0, 0, fun _ => 0, fun _ => 0, fun _ => 0⟩⟩, ?_, ?_, ?_, ?_, ?_⟩
  · exact ⟨Nat.zero_le _, fun i hi => absurd hi (Nat.not_lt_zero i), ⟨Or.inl ⟨rfl, rfl⟩, fun l hl => absurd hl (Nat.not_lt_zero l), fun _ => (by decide : 0 < 3), Nat.zero_le _, fun i hi => absurd hi (Nat.not_lt_zero i)⟩, (by omega : 0 + n ≤ 3000), Nat.zero_le _, Nat.zero_le _, fun q => by cases q⟩
  · exact ⟨rfl, fun i hi => absurd hi (Nat.not_lt_zero i), ⟨rfl, rfl, fun l hl => absurd hl (Nat.not_lt_zero l), rfl, rfl, rfl, fun i hi => absurd hi (Nat.not_lt_zero i)⟩, rfl, rfl, rfl, rfl, fun q => by cases q⟩
  · exact fun _ q => absurd rfl q
  · exact ⟨rfl, fun i hi => absurd hi (Nat.not_lt_zero i), rfl, rfl, ⟨fun l hl => absurd hl (Nat.not_lt_zero l), fun l hl => absurd hl (Nat.not_lt_zero l), fun i hi => absurd hi (Nat.not_lt_zero i)⟩, rfl, rfl, rfl, rfl, fun q => (by cases q), fun _ => Or.inl rfl⟩
  · exact fun q => absurd (show (1 : Int32) = 0 from q) (by decide)
theorem rel_ops : lawOps Rel := ⟨rel_dn, op_letter, op_blank, op_fault, op_board, op_line, op_as, op_cell, op_keeps, op_mark, op_clear, op_clue, op_left, op_picture, op_look, op_odds, op_hints, op_one, op_see, op_forget, op_games, op_image, op_restore, op_count, op_digest⟩
