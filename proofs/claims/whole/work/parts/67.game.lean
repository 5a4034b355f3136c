/-! games: the reference's game -/
theorem c_bestCell32 {M : OM} {h w n mk : Nat} {b : Nat → Nat} (h9 : M.1 9 = nI h) (h10 : M.1 10 = nI w) (hm : h * w ≤ 16) (hb : ∀ j, j < 16 → M.2.1 32 j = nI (b j)) (hbn : ∀ j, b j ≤ n) (hn : n < 90000) (hk : mk < 2 ^ 16) : fX6_bestCell_32 M (nI n) (nI mk) = some (if n = 0 then -1 else bsI (bsN (fun k => wN n (b k)) mk (h * w))) := by
  unfold fX6_bestCell_32
  by_cases z : n = 0
  · rw [if_pos z]
    have : fX6_bestCell_32_L11 M (nI n) (nI mk) (-1) 100000 0 = some (.inr (-1)) := by
      unfold fX6_bestCell_32_L11
      rw [h9, h10, pk_mul]
      by_cases q : nI (h * w) ≤ 0
      · rw [if_pos q]
      · rw [if_neg q, if_pos (by rw [z]; exact Int32.le_refl _)]
    rw [wh_r this]
    rfl
  · rw [if_neg z]
    have hg : ∀ j, (fun k => wN n (b k)) j ≤ n := fun j => wN_le (hbn j)
    refine wh_b (fun k => (bsI (bsN (fun k => wN n (b k)) mk k), bsW 100000 (bsN (fun k => wN n (b k)) mk k), nI k)) (h * w) (bsI (bsN (fun k => wN n (b k)) mk (h * w))) rfl (by omega) ?_ ?_ rfl
    · intro k hk2
      have c1 : ¬ nI (h * w) ≤ nI k := by rw [nI_leI (by omega) (by omega)]; omega
      have c2 := nbit0 (a := mk) (k := k) (by omega) (by omega)
      have hbk := hbn k
      have o1 := okI_t (show k < 16 by omega) (by decide)
      have cl : (nI k).toNatClampNeg = k := nI_clamp (by omega)
      have hgk := hg k
      dsimp only at hgk
      show fX6_bestCell_32_L11 M (nI n) (nI mk) (bsI (bsN (fun k => wN n (b k)) mk k)) (bsW 100000 (bsN (fun k => wN n (b k)) mk k)) (nI k) = some (.inl (bsI (bsN (fun k => wN n (b k)) mk (k + 1)), bsW 100000 (bsN (fun k => wN n (b k)) mk (k + 1)), nI (k + 1)))
      have st : bsN (fun k => wN n (b k)) mk (k + 1) = if mk.testBit k = true then bsN (fun k => wN n (b k)) mk k else match bsN (fun k => wN n (b k)) mk k with
        | none => some (k, wN n (b k))
        | some r => if wN n (b k) < r.2 then some (k, wN n (b k)) else some r := rfl
      have toJ : fX6_bestCell_32_L11 M (nI n) (nI mk) (bsI (bsN (fun k => wN n (b k)) mk k)) (bsW 100000 (bsN (fun k => wN n (b k)) mk k)) (nI k) = fX6_bestCell_32_J55 M (nI n) (nI mk) (bsI (bsN (fun k => wN n (b k)) mk k)) (bsW 100000 (bsN (fun k => wN n (b k)) mk k)) (nI k) (nI (wN n (b k))) := by
        unfold fX6_bestCell_32_L11
        rw [h9, h10, pk_mul, if_neg c1, if_neg (nI_nle (by omega) (by omega)), if_pos o1, if_pos o1, cl, hb k (by omega), pk_sub hbk]
        unfold wN
        by_cases q : b k ≤ n - b k
        · rw [if_pos (by rw [nI_leI (by omega) (by omega)]; exact q), if_pos o1]
          by_cases q2 : b k < n - b k
          · rw [if_pos q2]
          · rw [if_neg q2, show n - b k = b k by omega]
        · rw [if_neg (by rw [nI_leI (by omega) (by omega)]; exact q), if_pos o1, if_neg (by omega)]
      rw [toJ, st]
      unfold fX6_bestCell_32_J55
      by_cases a : mk.testBit k = true
      · rw [if_neg (by rw [c2, a]; decide), if_pos a, nI_1]
      · rw [if_pos (c2.mpr (by simpa using a)), if_neg a, nI_1]
        cases e : bsN (fun k => wN n (b k)) mk k with
        | none =>
          have c4 : ¬ bsW 100000 none ≤ nI (wN n (b k)) := by
            show ¬ nI 100000 ≤ _
            rw [nI_leI (by decide) (by omega)]; omega
          rw [if_neg c4]
          rfl
        | some r =>
          obtain ⟨r1, r2⟩ := bsN_le hg e
          have c3 : bsW 100000 (some r) ≤ nI (wN n (b k)) ↔ ¬ wN n (b k) < r.2 := by
            show nI r.2 ≤ _ ↔ _
            rw [nI_leI (by omega) (by omega)]; omega
          by_cases b1 : wN n (b k) < r.2
          · rw [if_neg (by rw [c3]; exact fun q => q b1)]
            dsimp only
            rw [if_pos b1]
            rfl
          · rw [if_pos (c3.mpr b1)]
            dsimp only
            rw [if_neg b1]
    · show fX6_bestCell_32_L11 M (nI n) (nI mk) (bsI (bsN (fun k => wN n (b k)) mk (h * w))) (bsW 100000 (bsN (fun k => wN n (b k)) mk (h * w))) (nI (h * w)) = _
      unfold fX6_bestCell_32_L11
      rw [h9, h10, pk_mul, if_pos (Int32.le_refl _)]
def gM (M M1 : OM) : Prop := mfr [30] [31, 32] M M1 ∧ M1.2.2.2 = M.2.2.2
theorem gM_rfl {M : OM} : gM M M := ⟨mfr_rfl, rfl⟩
theorem gM_tr {M M1 M2 : OM} (a : gM M M1) (b : gM M1 M2) : gM M M2 := ⟨mfr_tr a.1 b.1, b.2.trans a.2⟩
theorem gM_w {M M1 : OM} {h w : Nat} {F : Nat → Bool} (a : gM M M1) (k : walkM M h w F) : walkM M1 h w F := ⟨(a.1.1 9 (by decide)).trans k.1, (a.1.1 10 (by decide)).trans k.2.1, k.2.2.1, by rw [a.2]; exact k.2.2.2⟩
theorem gM_k {A : Ab} {M M1 : OM} (a : gM M M1) (s : MS A M) (k : MC A M) : MS A M1 ∧ MC A M1 := by
  refine ⟨MS_fr s (mfr_mono a.1 (by decide) (by decide)), ?_⟩
  intro q
  have k1 := k ((a.1.1 20 (by decide)).symm.trans q)
  refine ⟨(a.1.1 22 (by decide)).trans k1.n, ?_, gM_w a k1.wk⟩
  rw [a.1.2.1 23 (by decide)]; exact k1.b
theorem gM_31 (M : OM) (f : Nat → Int32) : gM M (M.1, va_up M.2.1 31 f, M.2.2.1, M.2.2.2) := ⟨⟨fr1_rfl, fr1_up fr1_rfl (by decide), rfl⟩, rfl⟩
theorem gM_32 (M : OM) (f : Nat → Int32) : gM M (M.1, va_up M.2.1 32 f, M.2.2.1, M.2.2.2) := ⟨⟨fr1_rfl, fr1_up fr1_rfl (by decide), rfl⟩, rfl⟩
def soM (M : OM) (L : List Nat) : Prop := ∀ i q, L[i]? = some q → M.2.1 31 i = nI q
theorem c_laySome {M : OM} {t : Tb} (o : tbOK t) (f : fM M t.h t.w t.F) (hl : t.L.length ≤ 200) : ∃ M', fX6_laySome M = some (nI t.L.length, M') ∧ gM M M' ∧ soM M' t.L ∧ M'.1 = M.1 := by
  have n0 : fX6_nextFit M (-1 : Int32) = some (hdI t.L) := c_next0 f.wk
  obtain ⟨r, r1, r2, r3, r4, r5⟩ := wh_inv (body := fun u => fX6_laySome_L8 u.1 u.2.1 u.2.2) (fun k (u : Int32 × Int32 × OM) => u.1 = nI k ∧ u.2.1 = hdI (t.L.drop k) ∧ gM M u.2.2 ∧ u.2.2.1 = M.1 ∧ soM u.2.2 (t.L.take k)) (fun (u : Int32 × OM) => u.1 = nI t.L.length ∧ gM M u.2 ∧ soM u.2 t.L ∧ u.2.1 = M.1) t.L.length
    (by
      rintro k ⟨x, y, M1⟩ hk ⟨e1, e2, e3, e5, e4⟩
      dsimp only at e1 e2 e3 e4 e5
      subst e1 e2
      have hq : t.L[k]? = some t.L[k] := List.getElem?_eq_getElem hk
      have q16 := tb_Lt o (List.getElem_mem hk)
      have o1 := okI_t (show k < 200 by omega) (by decide)
      have cl : (nI k).toNatClampNeg = k := nI_clamp (by omega)
      have g1 : gM M (M1.1, va_up M1.2.1 31 (upd (M1.2.1 31) k (nI t.L[k])), M1.2.2.1, M1.2.2.2) := gM_tr e3 (gM_31 _ _)
      have nx : fX6_nextFit (M1.1, va_up M1.2.1 31 (upd (M1.2.1 31) k (nI t.L[k])), M1.2.2.1, M1.2.2.2) (nI t.L[k]) = some (hdI (t.L.drop (k + 1))) := c_nextI (gM_w g1 f.wk) hq
      refine ⟨(nI (k + 1), hdI (t.L.drop (k + 1)), (M1.1, va_up M1.2.1 31 (upd (M1.2.1 31) k (nI t.L[k])), M1.2.2.1, M1.2.2.2)), ?_, rfl, rfl, g1, e5, ?_⟩
      · show fX6_laySome_L8 (nI k) (hdI (t.L.drop k)) M1 = _
        unfold fX6_laySome_L8
        rw [hd_drop hq, if_neg (nI_ne1 (by omega)), if_pos o1, cl, nx, Option.bind_some, nI_1]
      · intro i q hi
        show upd (M1.2.1 31) k (nI t.L[k]) i = nI q
        rw [List.getElem?_take] at hi
        by_cases a : i = k
        · subst a
          rw [if_pos (by omega), hq] at hi
          rw [up_s, Option.some.inj hi]
        · rw [up_n _ _ a]
          by_cases b : i < k
          · rw [if_pos (by omega)] at hi
            exact e4 i q (by rw [List.getElem?_take, if_pos b]; exact hi)
          · rw [if_neg (by omega)] at hi
            cases hi)
    (by
      rintro ⟨x, y, M1⟩ ⟨e1, e2, e3, e5, e4⟩
      dsimp only at e1 e2 e3 e4 e5
      subst e1 e2
      rw [List.take_length] at e4
      refine ⟨(nI t.L.length, M1), ?_, rfl, e3, e4, e5⟩
      show fX6_laySome_L8 (nI t.L.length) (hdI (t.L.drop t.L.length)) M1 = _
      rw [List.drop_length]
      unfold fX6_laySome_L8
      rw [if_pos (show hdI [] = -1 from rfl)])
    (n := 100000) (s := ((0 : Int32), hdI t.L, M)) ⟨rfl, rfl, gM_rfl, rfl, fun i q h => by rw [List.take_zero] at h; cases h⟩ (by omega)
  refine ⟨r.2, ?_, r3, r4, r5⟩
  unfold fX6_laySome
  rw [n0, Option.bind_some, r1, Option.bind_some]
  show some (r.1, r.2) = _
  rw [r2]
def sdN (s : Nat) : Nat := (1103515245 * s + 12345) % 2 ^ 31
theorem sdN_lt (s : Nat) : sdN s < 2 ^ 31 := Nat.mod_lt _ (by decide)
theorem lN_bv {n : Nat} (h : n < 2 ^ 64) : (lN n).toBitVec.toNat = n := by
  show (BitVec.ofNat 64 n).toNat = n
  rw [BitVec.toNat_ofNat, Nat.mod_eq_of_lt h]
theorem lN_and {n : Nat} (h : n < 2 ^ 64) : lN n &&& (2147483647 : Int64) = lN (n % 2 ^ 31) := by
  apply Int64.toBitVec_inj.mp
  apply BitVec.eq_of_toNat_eq
  rw [Int64.toBitVec_and, BitVec.toNat_and, lN_bv h, lN_bv (Nat.lt_of_le_of_lt (Nat.mod_le _ _) h), show (2147483647 : Int64).toBitVec.toNat = 2 ^ 31 - 1 from rfl, Nat.and_two_pow_sub_one_eq_mod]
theorem sd_l {s : Nat} (hs : s < 2 ^ 31) : ((1103515245 : Int64) * lN s) + (12345 : Int64) = lN (1103515245 * s + 12345) := by
  rw [show (1103515245 : Int64) = lN 1103515245 from rfl, lN_mul, show (12345 : Int64) = lN 12345 from rfl, lN_add]
theorem a_seed {s : Nat} (hs : s < 2 ^ 31) : fX5_nextSeed (lN s) = some (lN (sdN s)) := by
  unfold fX5_nextSeed
  rw [if_pos (by decide), sd_l hs, show (2147483648 : Int64) = lN (2 ^ 31) from rfl, pk_lRem (by omega) (by decide) (by decide)]
  rfl
theorem c_draw {M : OM} {s n : Nat} (h30 : M.1 30 = nI s) (hs : s < 2 ^ 31) (h0 : 0 < n) (hn : n < 2 ^ 31) : fX6_draw M (nI n) = some (nI (sdN s / 65536 % n), (va_up M.1 30 (nI (sdN s)), M.2.1, M.2.2.1, M.2.2.2)) := by
  have e : (((((1103515245 : Int64) * (M.1 30).toInt64) + (12345 : Int64)) &&& (2147483647 : Int64)).toInt32) = nI (sdN s) := by
    rw [h30, nI_l hs, sd_l hs, lN_and (by omega), lN_i]
    rfl
  have hsd := sdN_lt s
  unfold fX6_draw
  rw [if_pos (by decide), if_pos (nI_ne0 h0 hn), e, show (65536 : Int32) = nI 65536 from rfl, pk_div hsd (by decide) (by decide), pk_rem (Nat.lt_of_le_of_lt (Nat.div_le_self _ _) hsd) h0 hn]
theorem blk_take {L : List Nat} {i : Nat} (hi : i < L.length) (k : Nat) : blkL (L.take (i + 1)) k = blkL (L.take i) k + bq L[i] k := by
  rw [List.take_succ_eq_append_getElem hi, blkL_app]
theorem c_g57 {M : OM} {L : List Nat} (s : soM M L) (hl : L.length ≤ 200) (hq : ∀ q ∈ L, q < 2 ^ 16) {k : Nat} (hk : k < 16) (x2 x3 x4 : Int32) (h0 : M.2.1 32 k = 0) : ∃ g, wh (σ := Int32 × OM) (ρ := OM) (fun t => fX6_gameOne_L57 (nI L.length) x2 x3 x4 (nI k) t.1 t.2) 100000 ((0 : Int32), M) = some (M.1, va_up M.2.1 32 g, M.2.2.1, M.2.2.2) ∧ g k = nI (blkL L k) ∧ ∀ j, ¬ j = k → g j = M.2.1 32 j := by
  obtain ⟨r, r1, g, r2, r3, r4⟩ := wh_inv (body := fun t => fX6_gameOne_L57 (nI L.length) x2 x3 x4 (nI k) t.1 t.2) (fun i (u : Int32 × OM) => u.1 = nI i ∧ ∃ g, u.2 = (M.1, va_up M.2.1 32 g, M.2.2.1, M.2.2.2) ∧ g k = nI (blkL (L.take i) k) ∧ ∀ j, ¬ j = k → g j = M.2.1 32 j) (fun (u : OM) => ∃ g, u = (M.1, va_up M.2.1 32 g, M.2.2.1, M.2.2.2) ∧ g k = nI (blkL L k) ∧ ∀ j, ¬ j = k → g j = M.2.1 32 j) L.length
    (by
      rintro i ⟨x, M1⟩ hi ⟨e1, g, e2, e3, e4⟩
      dsimp only at e1 e2
      subst e1 e2
      have c1 : ¬ nI L.length ≤ nI i := by rw [nI_leI (by omega) (by omega)]; omega
      have o1 := okI_t hk (by decide)
      have o2 := okI_t (show i < 200 by omega) (by decide)
      have ck : (nI k).toNatClampNeg = k := nI_clamp (by omega)
      have ci : (nI i).toNatClampNeg = i := nI_clamp (by omega)
      have q16 := hq _ (List.getElem_mem hi)
      have rd := s i L[i] (List.getElem?_eq_getElem hi)
      refine ⟨(nI (i + 1), (M.1, va_up M.2.1 32 (upd g k (nI (blkL (L.take (i + 1)) k))), M.2.2.1, M.2.2.2)), ?_, rfl, _, rfl, up_s _ _ _, fun j hj => by rw [up_n _ _ hj]; exact e4 j hj⟩
      show fX6_gameOne_L57 (nI L.length) x2 x3 x4 (nI k) (nI i) (M.1, va_up M.2.1 32 g, M.2.2.1, M.2.2.2) = _
      unfold fX6_gameOne_L57
      rw [if_neg c1, if_pos o1, if_pos o2, if_pos o1, ck, ci, nI_1]
      show some (Sum.inl (nI (i + 1), (M.1, va_up (va_up M.2.1 32 g) 32 (upd g k (g k + (((M.2.1 31 i) >>> (nI k &&& 31)) &&& (1 : Int32)))), M.2.2.1, M.2.2.2))) = _
      rw [vu_u, e3, rd, nbit (by omega) (by omega), nI_add, blk_take hi])
    (by
      rintro ⟨x, M1⟩ ⟨e1, g, e2, e3, e4⟩
      dsimp only at e1 e2
      subst e1 e2
      rw [List.take_length] at e3
      refine ⟨(M.1, va_up M.2.1 32 g, M.2.2.1, M.2.2.2), ?_, g, rfl, e3, e4⟩
      show fX6_gameOne_L57 (nI L.length) x2 x3 x4 (nI k) (nI L.length) (M.1, va_up M.2.1 32 g, M.2.2.1, M.2.2.2) = _
      unfold fX6_gameOne_L57
      rw [if_pos (Int32.le_refl _)])
    (n := 100000) (s := ((0 : Int32), M)) ⟨rfl, M.2.1 32, by rw [vu_id], by rw [h0, List.take_zero]; rfl, fun _ _ => rfl⟩ (by omega)
  exact ⟨g, by rw [r1, r2], r3, r4⟩
theorem c_g39 {M : OM} {L : List Nat} (s : soM M L) (hl : L.length ≤ 200) (hq : ∀ q ∈ L, q < 2 ^ 16) (x2 x3 x4 : Int32) : ∃ g, wh (σ := Int32 × OM) (ρ := OM) (fun t => fX6_gameOne_L39 (nI L.length) x2 x3 x4 t.1 t.2) 100000 ((0 : Int32), M) = some (M.1, va_up M.2.1 32 g, M.2.2.1, M.2.2.2) ∧ ∀ j, j < 16 → g j = nI (blkL L j) := by
  obtain ⟨r, r1, g, r2, r3⟩ := wh_inv (body := fun t => fX6_gameOne_L39 (nI L.length) x2 x3 x4 t.1 t.2) (fun k (u : Int32 × OM) => u.1 = nI k ∧ ∃ g, u.2 = (M.1, va_up M.2.1 32 g, M.2.2.1, M.2.2.2) ∧ ∀ j, j < k → g j = nI (blkL L j)) (fun (u : OM) => ∃ g, u = (M.1, va_up M.2.1 32 g, M.2.2.1, M.2.2.2) ∧ ∀ j, j < 16 → g j = nI (blkL L j)) 16
    (by
      rintro k ⟨x, M1⟩ hk ⟨e1, g, e2, e3⟩
      dsimp only at e1 e2
      subst e1 e2
      have c1 : ¬ (16 : Int32) ≤ nI k := by rw [show (16 : Int32) = nI 16 from rfl, nI_leI (by omega) (by omega)]; omega
      have o1 := okI_t hk (by decide)
      have ck : (nI k).toNatClampNeg = k := nI_clamp (by omega)
      obtain ⟨g2, p1, p2, p3⟩ := c_g57 (M := (M.1, va_up M.2.1 32 (upd g k 0), M.2.2.1, M.2.2.2)) (fun i q h => s i q h) hl hq hk x2 x3 x4 (up_s _ _ _)
      refine ⟨(nI (k + 1), (M.1, va_up M.2.1 32 g2, M.2.2.1, M.2.2.2)), ?_, rfl, g2, rfl, ?_⟩
      · show fX6_gameOne_L39 (nI L.length) x2 x3 x4 (nI k) (M.1, va_up M.2.1 32 g, M.2.2.1, M.2.2.2) = _
        unfold fX6_gameOne_L39 fX6_gameOne_J91
        rw [if_neg c1, if_pos o1, ck]
        show ((wh (σ := Int32 × OM) (ρ := OM) (fun t => fX6_gameOne_L57 (nI L.length) x2 x3 x4 (nI k) t.1 t.2) 100000 ((0 : Int32), (M.1, va_up (va_up M.2.1 32 g) 32 (upd g k 0), M.2.2.1, M.2.2.2))).bind (fun M_E57 => some (Sum.inl ((nI k + (1 : Int32)), M_E57)))) = _
        rw [vu_u, p1, Option.bind_some, nI_1]
        show some (Sum.inl (nI (k + 1), (M.1, va_up (va_up M.2.1 32 (upd g k 0)) 32 g2, M.2.2.1, M.2.2.2))) = _
        rw [vu_u]
      · intro j hj
        by_cases a : j = k
        · subst a
          exact p2
        · rw [p3 j a]
          show upd g k 0 j = _
          rw [up_n _ _ a]
          exact e3 j (by omega))
    (by
      rintro ⟨x, M1⟩ ⟨e1, g, e2, e3⟩
      dsimp only at e1 e2
      subst e1 e2
      refine ⟨(M.1, va_up M.2.1 32 g, M.2.2.1, M.2.2.2), ?_, g, rfl, e3⟩
      show fX6_gameOne_L39 (nI L.length) x2 x3 x4 (nI 16) (M.1, va_up M.2.1 32 g, M.2.2.1, M.2.2.2) = _
      unfold fX6_gameOne_L39
      rw [if_pos (by decide)])
    (n := 100000) (s := ((0 : Int32), M)) ⟨rfl, M.2.1 32, by rw [vu_id], fun j hj => absurd hj (Nat.not_lt_zero _)⟩ (by decide)
  exact ⟨g, by rw [r1, r2], r3⟩
theorem c_g125 {M : OM} {L : List Nat} (s : soM M L) (hl : L.length ≤ 200) (hq : ∀ q ∈ L, q < 2 ^ 16) {hid c : Nat} (hh : hid < 2 ^ 16) (hc : c < 16) (x3 x4 : Int32) : ∃ g, wh (σ := Int32 × Int32 × OM) (ρ := Int32 × OM) (fun t => fX6_gameOne_L125 (nI L.length) (nI hid) x3 x4 (nI c) t.1 t.2.1 t.2.2) 100000 ((0 : Int32), (0 : Int32), M) = some (nI (L.filter (fun q => !((q ^^^ hid).testBit c))).length, (M.1, va_up M.2.1 31 g, M.2.2.1, M.2.2.2)) ∧ ∀ i q, (L.filter (fun q => !((q ^^^ hid).testBit c)))[i]? = some q → g i = nI q := by
  obtain ⟨r, r1, g, r2, r3⟩ := wh_inv (body := fun t => fX6_gameOne_L125 (nI L.length) (nI hid) x3 x4 (nI c) t.1 t.2.1 t.2.2) (fun k (u : Int32 × Int32 × OM) => u.1 = nI ((L.take k).filter (fun q => !((q ^^^ hid).testBit c))).length ∧ u.2.1 = nI k ∧ ∃ g, u.2.2 = (M.1, va_up M.2.1 31 g, M.2.2.1, M.2.2.2) ∧ (∀ i q, ((L.take k).filter (fun q => !((q ^^^ hid).testBit c)))[i]? = some q → g i = nI q) ∧ ∀ i q, k ≤ i → L[i]? = some q → g i = nI q) (fun (u : Int32 × OM) => ∃ g, u = (nI (L.filter (fun q => !((q ^^^ hid).testBit c))).length, (M.1, va_up M.2.1 31 g, M.2.2.1, M.2.2.2)) ∧ ∀ i q, (L.filter (fun q => !((q ^^^ hid).testBit c)))[i]? = some q → g i = nI q) L.length
    (by
      rintro k ⟨x, y, M1⟩ hk ⟨e1, e2, g, e3, e4, e5⟩
      dsimp only at e1 e2 e3
      subst e1 e2 e3
      have c1 : ¬ nI L.length ≤ nI k := by rw [nI_leI (by omega) (by omega)]; omega
      have o1 := okI_t (show k < 200 by omega) (by decide)
      have ck : (nI k).toNatClampNeg = k := nI_clamp (by omega)
      have q16 := hq _ (List.getElem_mem hk)
      have rd := e5 k L[k] (Nat.le_refl _) (List.getElem?_eq_getElem hk)
      have hx : L[k] ^^^ hid < 2 ^ 16 := Nat.xor_lt_two_pow q16 hh
      have c3 := nbit0 (a := L[k] ^^^ hid) (k := c) (by omega) (by omega)
      have lf : ((L.take k).filter (fun q => !((q ^^^ hid).testBit c))).length ≤ k := Nat.le_trans (List.length_filter_le _ _) (by rw [List.length_take]; omega)
      have tk : (L.take (k + 1)).filter (fun q => !((q ^^^ hid).testBit c)) = (L.take k).filter (fun q => !((q ^^^ hid).testBit c)) ++ [L[k]].filter (fun q => !((q ^^^ hid).testBit c)) := by
        rw [List.take_succ_eq_append_getElem hk, List.filter_append]
      have rd' : ((M.1, va_up M.2.1 31 g, M.2.2.1, M.2.2.2) : OM).2.1 31 k = nI L[k] := rd
      by_cases a : (L[k] ^^^ hid).testBit c = false
      · rw [flt1 (show (!((L[k] ^^^ hid).testBit c)) = true by rw [a]; rfl)] at tk
        generalize hF : (L.take k).filter (fun q => !((q ^^^ hid).testBit c)) = FL0 at lf tk e4 ⊢
        have o2 := okI_t (show FL0.length < 200 by omega) (by decide)
        have cf : (nI FL0.length).toNatClampNeg = FL0.length := nI_clamp (by omega)
        refine ⟨(nI (FL0.length + 1), nI (k + 1), (M.1, va_up M.2.1 31 (upd g FL0.length (nI L[k])), M.2.2.1, M.2.2.2)), ?_, ?_, rfl, upd g FL0.length (nI L[k]), rfl, ?_, ?_⟩
        · show fX6_gameOne_L125 (nI L.length) (nI hid) x3 x4 (nI c) (nI FL0.length) (nI k) (M.1, va_up M.2.1 31 g, M.2.2.1, M.2.2.2) = _
          unfold fX6_gameOne_L125
          rw [if_neg c1, if_pos o1, ck, rd', nq_xor (by omega) (by omega), if_pos (c3.mpr a), if_pos o1, if_pos o2, cf, nI_1, nI_1]
          show some (Sum.inl (nI (FL0.length + 1), nI (k + 1), (M.1, va_up (va_up M.2.1 31 g) 31 (upd g FL0.length (nI L[k])), M.2.2.1, M.2.2.2))) = _
          rw [vu_u]
        · show nI (FL0.length + 1) = nI ((L.take (k + 1)).filter (fun q => !((q ^^^ hid).testBit c))).length
          rw [tk, List.length_append]
          rfl
        · intro i q hi
          rw [tk] at hi
          by_cases b : i = FL0.length
          · subst b
            rw [List.getElem?_append_right (Nat.le_refl _), Nat.sub_self] at hi
            have : L[k] = q := Option.some.inj hi
            rw [up_s, this]
          · rw [up_n _ _ b]
            by_cases d : i < FL0.length
            · rw [List.getElem?_append_left d] at hi
              exact e4 i q hi
            · rw [List.getElem?_eq_none (by rw [List.length_append]; show FL0.length + 1 ≤ i; omega)] at hi
              cases hi
        · intro i q hi hL
          rw [up_n _ _ (by omega)]
          exact e5 i q (by omega) hL
      · have a' : (L[k] ^^^ hid).testBit c = true := by simpa using a
        rw [flt0 (show ¬ (!((L[k] ^^^ hid).testBit c)) = true by rw [a']; decide), List.append_nil] at tk
        refine ⟨(nI ((L.take k).filter (fun q => !((q ^^^ hid).testBit c))).length, nI (k + 1), (M.1, va_up M.2.1 31 g, M.2.2.1, M.2.2.2)), ?_, ?_, rfl, g, rfl, ?_, ?_⟩
        · show fX6_gameOne_L125 (nI L.length) (nI hid) x3 x4 (nI c) (nI ((L.take k).filter (fun q => !((q ^^^ hid).testBit c))).length) (nI k) (M.1, va_up M.2.1 31 g, M.2.2.1, M.2.2.2) = _
          unfold fX6_gameOne_L125
          rw [if_neg c1, if_pos o1, ck, rd', nq_xor (by omega) (by omega), if_neg (fun z => a (c3.mp z)), nI_1]
        · show nI ((L.take k).filter (fun q => !((q ^^^ hid).testBit c))).length = nI ((L.take (k + 1)).filter (fun q => !((q ^^^ hid).testBit c))).length
          rw [tk]
        · intro i q hi
          rw [tk] at hi
          exact e4 i q hi
        · intro i q hi hL
          exact e5 i q (by omega) hL)
    (by
      rintro ⟨x, y, M1⟩ ⟨e1, e2, g, e3, e4, e5⟩
      dsimp only at e1 e2 e3
      subst e1 e2 e3
      rw [List.take_length] at e4 ⊢
      refine ⟨(nI (L.filter (fun q => !((q ^^^ hid).testBit c))).length, (M.1, va_up M.2.1 31 g, M.2.2.1, M.2.2.2)), ?_, g, rfl, e4⟩
      show fX6_gameOne_L125 (nI L.length) (nI hid) x3 x4 (nI c) (nI (L.filter (fun q => !((q ^^^ hid).testBit c))).length) (nI L.length) (M.1, va_up M.2.1 31 g, M.2.2.1, M.2.2.2) = _
      unfold fX6_gameOne_L125
      rw [if_pos (Int32.le_refl _)])
    (n := 100000) (s := ((0 : Int32), (0 : Int32), M)) ⟨by rw [List.take_zero]; rfl, rfl, M.2.1 31, by rw [vu_id], fun i q h => (by rw [List.take_zero] at h; cases h), fun i q _ h => s i q h⟩ (by omega)
  exact ⟨g, by rw [r1, r2], r3⟩
