/-! games: the reference's game, and the promise -/
theorem gM_f {M M1 : OM} {h w : Nat} {F : Nat → Bool} (a : gM M M1) (f : fM M h w F) : fM M1 h w F := by
  refine ⟨(a.1.1 22 (by decide)).trans f.n, ?_, gM_w a f.wk⟩
  rw [a.1.2.1 23 (by decide)]; exact f.b
theorem gM_30 (M : OM) (x : Int32) : gM M (va_up M.1 30 x, M.2.1, M.2.2.1, M.2.2.2) := ⟨⟨fr1_up fr1_rfl (by decide), fr1_rfl, rfl⟩, rfl⟩
theorem gM_s {A : Ab} {M M1 : OM} (a : gM M M1) (s : MS A M) : MS A M1 := MS_fr s (mfr_mono a.1 (by decide) (by decide))
theorem c_gameOne {A : Ab} {M : OM} (o : tbOK A.t) (ms : MS A M) (f : fM M A.t.h A.t.w A.t.F) (hl : A.t.L.length ≤ 200) (h0 : 0 < A.t.L.length) {s : Nat} (hs : s < 2 ^ 31) (h30 : M.1 30 = nI s) {hid K : Nat} (hq : A.t.L[sdN s / 65536 % A.t.L.length]? = some hid) (hK : K ≤ 16) (k0 : (sqG A.t hid K).1.length ≤ 1) (k1 : ∀ k, k < K → ¬ (sqG A.t hid k).1.length ≤ 1) (k2 : ∀ k, k ≤ K → inG A.t hid (sqG A.t hid k)) : ∃ M', fX6_gameOne M = some (nI K, M') ∧ gM M M' ∧ M'.1 30 = nI (sdN s) := by
  have hm := o.hm
  have hh : hid ∈ A.t.L := List.mem_of_getElem? hq
  have h16 := tb_Lt o hh
  obtain ⟨M1, l1, l2, l3, l4⟩ := c_laySome o f hl
  have q30 : M1.1 30 = nI s := by rw [l4]; exact h30
  have dr := c_draw (M := M1) q30 hs h0 (by omega)
  have hidx : sdN s / 65536 % A.t.L.length < A.t.L.length := Nat.mod_lt _ h0
  have gT0 := gM_tr l2 (gM_30 M1 (nI (sdN s)))
  have rd0 : ((va_up M1.1 30 (nI (sdN s)), M1.2.1, M1.2.2.1, M1.2.2.2) : OM).2.1 31 (sdN s / 65536 % A.t.L.length) = nI hid := l3 _ _ hq
  have so0 : soM (va_up M1.1 30 (nI (sdN s)), M1.2.1, M1.2.2.1, M1.2.2.2) A.t.L := fun i q h => l3 i q h
  have t30 : ((va_up M1.1 30 (nI (sdN s)), M1.2.1, M1.2.2.1, M1.2.2.2) : OM).1 30 = nI (sdN s) := show va_up M1.1 30 (nI (sdN s)) 30 = nI (sdN s) from vu_s _ _ _
  generalize ((va_up M1.1 30 (nI (sdN s)), M1.2.1, M1.2.2.1, M1.2.2.2) : OM) = T at dr gT0 rd0 so0 t30
  have msT : MS A T := gM_s gT0 ms
  obtain ⟨r, r1, r2, r3, r4⟩ := wh_inv (body := fun t => fX6_gameOne_L31 (nI hid) t.1 t.2.1 t.2.2.1 t.2.2.2) (fun k (u : Int32 × Int32 × Int32 × OM) => u.1 = nI (sqG A.t hid k).1.length ∧ u.2.1 = nI (sqG A.t hid k).2 ∧ u.2.2.1 = nI k ∧ gM T u.2.2.2 ∧ u.2.2.2.1 = T.1 ∧ soM u.2.2.2 (sqG A.t hid k).1) (fun (u : Int32 × OM) => u.1 = nI K ∧ gM T u.2 ∧ u.2.1 = T.1) K
    (by
      rintro k ⟨x, y, z, M2⟩ hk ⟨e1, e2, e3, e4, e5, e6⟩
      dsimp only at e1 e2 e3 e4 e5 e6
      subst e1 e2 e3
      have i := k2 k (by omega)
      have ns := k1 k hk
      obtain ⟨r, b1, b2, b3⟩ := g_open i ns
      obtain ⟨nd, hi, lt, ag, len, u16⟩ := i
      have hL16 : ∀ q ∈ (sqG A.t hid k).1, q < 2 ^ 16 := fun q hq => Nat.lt_of_lt_of_le (lt q hq) (pw_le hm)
      have pr := pw16 (show r.1 < 16 by omega)
      have c1 : ¬ nI (sqG A.t hid k).1.length ≤ (1 : Int32) := by rw [show (1 : Int32) = nI 1 from rfl, nI_leI (by omega) (by decide)]; exact ns
      have sq : sqG A.t hid (k + 1) = ((sqG A.t hid k).1.filter (fun q => !((q ^^^ hid).testBit r.1)), (sqG A.t hid k).2 ||| 2 ^ r.1) := by
        show stG A.t hid (sqG A.t hid k) = _
        unfold stG
        rw [b1]
      obtain ⟨g, p1, p2⟩ := c_g39 e6 len hL16 (nI hid) (nI (sqG A.t hid k).2) (nI k)
      have h9 : M2.1 9 = nI A.t.h := by rw [e5]; exact msT.h
      have h10 : M2.1 10 = nI A.t.w := by rw [e5]; exact msT.w
      have g3 : gM T (M2.1, va_up M2.2.1 32 g, M2.2.2.1, M2.2.2.2) := gM_tr e4 (gM_32 _ _)
      have bc := c_bestCell32 (M := (M2.1, va_up M2.2.1 32 g, M2.2.2.1, M2.2.2.2)) (h := A.t.h) (w := A.t.w) (n := (sqG A.t hid k).1.length) (mk := (sqG A.t hid k).2) (b := blkL (sqG A.t hid k).1) h9 h10 hm (fun j hj => p2 j hj) (fun j => blkL_le _ _) (by omega) u16
      rw [if_neg (by omega), b1] at bc
      obtain ⟨g', s1, s2⟩ := c_g125 (M := (M2.1, va_up M2.2.1 32 g, M2.2.2.1, M2.2.2.2)) (fun i q h => e6 i q h) len hL16 h16 (show r.1 < 16 by omega) (nI (sqG A.t hid k).2 ||| ((1 : Int32) <<< (nI r.1 &&& 31))) (nI k + (1 : Int32))
      refine ⟨(nI (sqG A.t hid (k + 1)).1.length, nI (sqG A.t hid (k + 1)).2, nI (k + 1), (M2.1, va_up (va_up M2.2.1 32 g) 31 g', M2.2.2.1, M2.2.2.2)), ?_, rfl, rfl, rfl, gM_tr g3 (gM_31 _ _), e5, ?_⟩
      · show fX6_gameOne_L31 (nI hid) (nI (sqG A.t hid k).1.length) (nI (sqG A.t hid k).2) (nI k) M2 = _
        unfold fX6_gameOne_L31
        rw [if_neg c1, p1, Option.bind_some]
        unfold fX6_gameOne_J97
        rw [bc, Option.bind_some]
        show ((wh (σ := Int32 × Int32 × OM) (ρ := Int32 × OM) (fun t => fX6_gameOne_L125 (nI (sqG A.t hid k).1.length) (nI hid) (nI (sqG A.t hid k).2 ||| ((1 : Int32) <<< (nI r.1 &&& 31))) (nI k + (1 : Int32)) (nI r.1) t.1 t.2.1 t.2.2) 100000 ((0 : Int32), (0 : Int32), (M2.1, va_up M2.2.1 32 g, M2.2.2.1, M2.2.2.2))).bind (fun X => fX6_gameOne_J171 (nI hid) (nI (sqG A.t hid k).2 ||| ((1 : Int32) <<< (nI r.1 &&& 31))) (nI k + (1 : Int32)) X.1 X.2)) = _
        rw [s1, Option.bind_some]
        show some (Sum.inl (nI ((sqG A.t hid k).1.filter (fun q => !((q ^^^ hid).testBit r.1))).length, nI (sqG A.t hid k).2 ||| ((1 : Int32) <<< (nI r.1 &&& 31)), nI k + (1 : Int32), (M2.1, va_up (va_up M2.2.1 32 g) 31 g', M2.2.2.1, M2.2.2.2))) = _
        rw [sh1 (by omega), nq_or (by omega) (by omega), nI_1, sq]
      · rw [sq]
        exact fun i q h => s2 i q h)
    (by
      rintro ⟨x, y, z, M2⟩ ⟨e1, e2, e3, e4, e5, e6⟩
      dsimp only at e1 e2 e3 e4 e5 e6
      subst e1 e2 e3
      have c1 : nI (sqG A.t hid K).1.length ≤ (1 : Int32) := by rw [show (1 : Int32) = nI 1 from rfl, nI_leI (by omega) (by decide)]; exact k0
      refine ⟨(nI K, M2), ?_, rfl, e4, e5⟩
      show fX6_gameOne_L31 (nI hid) (nI (sqG A.t hid K).1.length) (nI (sqG A.t hid K).2) (nI K) M2 = _
      unfold fX6_gameOne_L31
      rw [if_pos c1])
    (n := 100000) (s := (nI A.t.L.length, nI (A.t.bl ||| A.t.wt), (0 : Int32), T)) ⟨rfl, rfl, rfl, gM_rfl, rfl, so0⟩ (by omega)
  refine ⟨r.2, ?_, gM_tr gT0 r3, by rw [r4]; exact t30⟩
  have o1 := okI_t (show sdN s / 65536 % A.t.L.length < 200 by omega) (by decide)
  have cl : (nI (sdN s / 65536 % A.t.L.length)).toNatClampNeg = sdN s / 65536 % A.t.L.length := nI_clamp (by omega)
  have bw1 := tt_b o
  have bw2 := tt_w o
  unfold fX6_gameOne
  rw [l1, Option.bind_some]
  dsimp only
  rw [dr, Option.bind_some]
  dsimp only
  rw [if_pos o1, c_mk1 o msT.h msT.w msT.t.mk, Option.bind_some, c_mk2 o msT.h msT.w msT.t.mk, Option.bind_some, cl, rd0, nq_or (by omega) (by omega), r1, Option.bind_some]
  show some (r.1, r.2) = _
  rw [r2]
def sdI (s : Nat) : Nat → Nat
  | 0 => s
  | k + 1 => sdN (sdI s k)
theorem sdI_lt {s : Nat} (h : s < 2 ^ 31) (k : Nat) : sdI s k < 2 ^ 31 := by
  cases k with
  | zero => exact h
  | succ k => exact sdN_lt _
def hidN (L : List Nat) (s k : Nat) : Nat := L.getD (sdI s (k + 1) / 65536 % L.length) 0
theorem hid_q {L : List Nat} (h : 0 < L.length) (s k : Nat) : L[sdI s (k + 1) / 65536 % L.length]? = some (hidN L s k) := by
  have := Nat.mod_lt (sdI s (k + 1) / 65536) h
  unfold hidN
  rw [gd_eq this, List.getElem?_eq_getElem this]
def gsN (Kf : Nat → Nat) (L : List Nat) (s : Nat) : Nat → Nat
  | 0 => 0
  | k + 1 => gsN Kf L s k + Kf (hidN L s k)
def gcN (Kf : Nat → Nat) (L : List Nat) (s : Nat) : Nat → Nat
  | 0 => 0
  | k + 1 => gcN Kf L s k + (if Kf (hidN L s k) ≤ 2 then 1 else 0)
abbrev okK (t : Tb) (hid K : Nat) : Prop := K ≤ 16 ∧ (sqG t hid K).1.length ≤ 1 ∧ (∀ k, k < K → ¬ (sqG t hid k).1.length ≤ 1) ∧ ∀ k, k ≤ K → inG t hid (sqG t hid k)
theorem ex_K {t : Tb} (o : tbOK t) (hl : t.L.length ≤ 200) : ∃ Kf : Nat → Nat, ∀ hid, hid ∈ t.L → okK t hid (Kf hid) := by
  have h : ∀ hid, ∃ K, hid ∈ t.L → okK t hid K := fun hid => by
    by_cases a : hid ∈ t.L
    · obtain ⟨K, q⟩ := g_K o a hl
      exact ⟨K, fun _ => q⟩
    · exact ⟨0, fun q => absurd q a⟩
  exact ⟨fun hid => Classical.choose (h hid), fun hid => Classical.choose_spec (h hid)⟩
theorem a_gL {A : Ab} {E : OE} (o : tbOK A.t) (es : ES A E) (ec : EC A E) (f : fitsO (E.2 5) A.t.L) (hl : A.t.L.length ≤ 200) (h0 : 0 < A.t.L.length) {Kf : Nat → Nat} (hK : ∀ hid, hid ∈ A.t.L → okK A.t hid (Kf hid)) {s g : Nat} (hs : s < 2 ^ 31) (hg : g ≤ 10) (x3 : Int32) : ∃ E', wh (σ := Int64 × Int32 × Int32 × Int32 × OE) (ρ := Int64 × Int32 × Int32 × OE) (fun t => fX5_games_L79 (nI g) x3 (nI A.t.L.length) t.1 t.2.1 t.2.2.1 t.2.2.2.1 t.2.2.2.2) 100000 (lN s, (0 : Int32), (0 : Int32), (0 : Int32), E) = some (lN (sdI s g), nI (gsN Kf A.t.L s g), nI (gcN Kf A.t.L s g), E') ∧ ES A E' ∧ EC A E' := by
  obtain ⟨r, r1, r2, r3, r4, r5, r6⟩ := wh_inv (body := fun t => fX5_games_L79 (nI g) x3 (nI A.t.L.length) t.1 t.2.1 t.2.2.1 t.2.2.2.1 t.2.2.2.2) (fun k (u : Int64 × Int32 × Int32 × Int32 × OE) => u.1 = lN (sdI s k) ∧ u.2.1 = nI (gsN Kf A.t.L s k) ∧ u.2.2.1 = nI (gcN Kf A.t.L s k) ∧ u.2.2.2.1 = nI k ∧ ES A u.2.2.2.2 ∧ EC A u.2.2.2.2 ∧ fitsO (u.2.2.2.2.2 5) A.t.L) (fun (u : Int64 × Int32 × Int32 × OE) => u.1 = lN (sdI s g) ∧ u.2.1 = nI (gsN Kf A.t.L s g) ∧ u.2.2.1 = nI (gcN Kf A.t.L s g) ∧ ES A u.2.2.2 ∧ EC A u.2.2.2) g
    (by
      rintro k ⟨x, y, z, w, E1⟩ hk ⟨e1, e2, e3, e4, e5, e6, e7⟩
      dsimp only at e1 e2 e3 e4 e5 e6 e7
      subst e1 e2 e3 e4
      have c1 : ¬ nI g ≤ nI k := by rw [nI_leI (by omega) (by omega)]; omega
      have sk := sdI_lt hs k
      have sk1 := sdI_lt hs (k + 1)
      have hq := hid_q h0 s k
      have hh : hidN A.t.L s k ∈ A.t.L := List.mem_of_getElem? hq
      obtain ⟨q0, q1, q2, q3⟩ := hK _ hh
      have i16 : sdI s (k + 1) / 65536 % A.t.L.length < A.t.L.length := Nat.mod_lt _ h0
      have hdv : sdI s (k + 1) / 65536 < 2 ^ 31 := Nat.lt_of_le_of_lt (Nat.div_le_self _ _) sk1
      obtain ⟨T, pl⟩ := a_play o e5 e7 hh hl q0 q1 q2 q3
      have at1 := a_at e7 (show A.t.L.length ≤ 1690 by omega) (by decide) (show sdI s (k + 1) / 65536 % A.t.L.length < 2 ^ 31 by omega)
      rw [hq] at at1
      dsimp only at at1
      have n0 : ¬ (nI A.t.L.length).toInt64 = 0 := by
        rw [nI_l (by omega), show (0 : Int64) = lN 0 from rfl, lN_eq (by omega) (by decide)]; omega
      have ei : (((lN (sdI s (k + 1)) / (65536 : Int64)) - (lN (sdI s (k + 1)) / (65536 : Int64)) / (nI A.t.L.length).toInt64 * (nI A.t.L.length).toInt64).toInt32) = nI (sdI s (k + 1) / 65536 % A.t.L.length) := by
        rw [show (65536 : Int64) = lN 65536 from rfl, pk_lDiv (by omega) (by decide) (by decide), nI_l (by omega), pk_lRem (by omega) h0 (by omega), lN_i]
      have sd : fX5_nextSeed (lN (sdI s k)) = some (lN (sdI s (k + 1))) := a_seed sk
      have j1 : (2 : Int32) < nI (Kf (hidN A.t.L s k)) ↔ 2 < Kf (hidN A.t.L s k) := nI_ltI (a := 2) (by decide) (by omega)
      refine ⟨(lN (sdI s (k + 1)), nI (gsN Kf A.t.L s (k + 1)), nI (gcN Kf A.t.L s (k + 1)), nI (k + 1), (E1.1, va_up E1.2 6 T)), ?_, rfl, rfl, rfl, rfl, ES_6 e5 T, e6, e7⟩
      show fX5_games_L79 (nI g) x3 (nI A.t.L.length) (lN (sdI s k)) (nI (gsN Kf A.t.L s k)) (nI (gcN Kf A.t.L s k)) (nI k) E1 = _
      unfold fX5_games_L79
      rw [if_neg c1, sd, Option.bind_some, if_pos (by decide), if_pos n0, ei, at1, Option.bind_some, pl, Option.bind_some]
      dsimp only
      show _ = some (Sum.inl (lN (sdI s (k + 1)), nI (gsN Kf A.t.L s k + Kf (hidN A.t.L s k)), nI (gcN Kf A.t.L s k + (if Kf (hidN A.t.L s k) ≤ 2 then 1 else 0)), nI (k + 1), (E1.1, va_up E1.2 6 T)))
      by_cases b : 2 < Kf (hidN A.t.L s k)
      · rw [if_pos (j1.mpr b), if_neg (show ¬ Kf (hidN A.t.L s k) ≤ 2 by omega), nI_add, nI_1, Nat.add_zero (gcN Kf A.t.L s k)]
      · rw [if_neg (fun q => b (j1.mp q)), if_pos (show Kf (hidN A.t.L s k) ≤ 2 by omega), nI_add, nI_1, nI_1])
    (by
      rintro ⟨x, y, z, w, E1⟩ ⟨e1, e2, e3, e4, e5, e6, e7⟩
      dsimp only at e1 e2 e3 e4 e5 e6 e7
      subst e1 e2 e3 e4
      refine ⟨(lN (sdI s g), nI (gsN Kf A.t.L s g), nI (gcN Kf A.t.L s g), E1), ?_, rfl, rfl, rfl, e5, e6⟩
      show fX5_games_L79 (nI g) x3 (nI A.t.L.length) (lN (sdI s g)) (nI (gsN Kf A.t.L s g)) (nI (gcN Kf A.t.L s g)) (nI g) E1 = _
      unfold fX5_games_L79
      rw [if_pos (Int32.le_refl _)])
    (n := 100000) (s := (lN s, (0 : Int32), (0 : Int32), (0 : Int32), E)) ⟨rfl, rfl, rfl, rfl, es, ec, f⟩ (by omega)
  obtain ⟨u1, u2, u3, u4⟩ := r
  dsimp only at r2 r3 r4 r5 r6
  subst r2 r3 r4
  exact ⟨u4, r1, r5, r6⟩
theorem c_gL {A : Ab} {M : OM} (o : tbOK A.t) (ms : MS A M) (f : fM M A.t.h A.t.w A.t.F) (hl : A.t.L.length ≤ 200) (h0 : 0 < A.t.L.length) {Kf : Nat → Nat} (hK : ∀ hid, hid ∈ A.t.L → okK A.t hid (Kf hid)) {s g : Nat} (hs : s < 2 ^ 31) (hg : g ≤ 10) (x3 : Int32) (h30 : M.1 30 = nI s) : ∃ M', wh (σ := Int32 × Int32 × Int32 × OM) (ρ := Int32 × Int32 × OM) (fun t => fX6_games_L70 (nI g) x3 t.1 t.2.1 t.2.2.1 t.2.2.2) 100000 ((0 : Int32), (0 : Int32), (0 : Int32), M) = some (nI (gsN Kf A.t.L s g), nI (gcN Kf A.t.L s g), M') ∧ gM M M' ∧ M'.1 30 = nI (sdI s g) := by
  obtain ⟨r, r1, r2, r3, r4, r5⟩ := wh_inv (body := fun t => fX6_games_L70 (nI g) x3 t.1 t.2.1 t.2.2.1 t.2.2.2) (fun k (u : Int32 × Int32 × Int32 × OM) => u.1 = nI (gsN Kf A.t.L s k) ∧ u.2.1 = nI (gcN Kf A.t.L s k) ∧ u.2.2.1 = nI k ∧ gM M u.2.2.2 ∧ u.2.2.2.1 30 = nI (sdI s k)) (fun (u : Int32 × Int32 × OM) => u.1 = nI (gsN Kf A.t.L s g) ∧ u.2.1 = nI (gcN Kf A.t.L s g) ∧ gM M u.2.2 ∧ u.2.2.1 30 = nI (sdI s g)) g
    (by
      rintro k ⟨x, y, z, M1⟩ hk ⟨e1, e2, e3, e4, e5⟩
      dsimp only at e1 e2 e3 e4 e5
      subst e1 e2 e3
      have c1 : ¬ nI g ≤ nI k := by rw [nI_leI (by omega) (by omega)]; omega
      have hq := hid_q h0 s k
      have hh : hidN A.t.L s k ∈ A.t.L := List.mem_of_getElem? hq
      obtain ⟨q0, q1, q2, q3⟩ := hK _ hh
      obtain ⟨M2, g1, g2, g3⟩ := c_gameOne o (gM_s e4 ms) (gM_f e4 f) hl h0 (sdI_lt hs k) e5 hq q0 q1 q2 q3
      have j1 : (3 : Int32) ≤ nI (Kf (hidN A.t.L s k)) ↔ 3 ≤ Kf (hidN A.t.L s k) := nI_leI (a := 3) (by decide) (by omega)
      refine ⟨(nI (gsN Kf A.t.L s (k + 1)), nI (gcN Kf A.t.L s (k + 1)), nI (k + 1), M2), ?_, rfl, rfl, rfl, gM_tr e4 g2, g3⟩
      show fX6_games_L70 (nI g) x3 (nI (gsN Kf A.t.L s k)) (nI (gcN Kf A.t.L s k)) (nI k) M1 = _
      unfold fX6_games_L70
      rw [if_neg c1, g1, Option.bind_some]
      dsimp only
      show _ = some (Sum.inl (nI (gsN Kf A.t.L s k + Kf (hidN A.t.L s k)), nI (gcN Kf A.t.L s k + (if Kf (hidN A.t.L s k) ≤ 2 then 1 else 0)), nI (k + 1), M2))
      by_cases b : 3 ≤ Kf (hidN A.t.L s k)
      · rw [if_pos (j1.mpr b), if_neg (show ¬ Kf (hidN A.t.L s k) ≤ 2 by omega), nI_add, nI_1, Int32.add_zero, Nat.add_zero (gcN Kf A.t.L s k)]
      · rw [if_neg (fun q => b (j1.mp q)), if_pos (show Kf (hidN A.t.L s k) ≤ 2 by omega), nI_add, nI_1, nI_1])
    (by
      rintro ⟨x, y, z, M1⟩ ⟨e1, e2, e3, e4, e5⟩
      dsimp only at e1 e2 e3 e4 e5
      subst e1 e2 e3
      refine ⟨(nI (gsN Kf A.t.L s g), nI (gcN Kf A.t.L s g), M1), ?_, rfl, rfl, e4, e5⟩
      show fX6_games_L70 (nI g) x3 (nI (gsN Kf A.t.L s g)) (nI (gcN Kf A.t.L s g)) (nI g) M1 = _
      unfold fX6_games_L70
      rw [if_pos (Int32.le_refl _)])
    (n := 100000) (s := ((0 : Int32), (0 : Int32), (0 : Int32), M)) ⟨rfl, rfl, rfl, gM_rfl, h30⟩ (by omega)
  obtain ⟨u1, u2, u3⟩ := r
  dsimp only at r2 r3 r4 r5
  subst r2 r3
  exact ⟨u3, r1, r4, r5⟩
theorem op_games : opL19 Rel := by
  rintro n E M x y z ⟨A, o, es, ec, ms, mc⟩
  have hR : Rel n E M := ⟨A, o.dn, es, ec, ms, mc⟩
  have h1 := a_isBoard o.t es.t
  have h2 := c_lacks o.t.hh ms.h
  have hL := tb_L o.t
  have ex := c_inL x 1 10 (a' := 1) (b' := 10) (p := 1) (q := 10) rfl rfl rfl rfl
  have ez := c_inL z 0 2 (a' := 0) (b' := 2) (p := 0) (q := 2) rfl rfl rfl rfl
  have j1 : x < (1 : Int32) ↔ x.toInt < 1 := i_lt _ _
  have j2 : (10 : Int32) < x ↔ 10 < x.toInt := i_lt _ _
  have j3 : y < 0 ↔ y.toInt < 0 := i_lt _ _
  have j4 : z < 0 ↔ z.toInt < 0 := i_lt _ _
  have j5 : z ≤ (2 : Int32) ↔ z.toInt ≤ 2 := i_le _ _
  by_cases a1 : 1 ≤ x.toInt ∧ x.toInt ≤ 10
  · have d1 : ¬ x < (1 : Int32) := by rw [j1]; omega
    have d2 : ¬ (10 : Int32) < x := by rw [j2]; omega
    by_cases a2 : y < 0
    · refine ⟨-102, E, M, ?_, ?_, hR⟩
      · unfold fX5_games
        rw [if_neg d1, if_neg d2, if_pos a2]
      · unfold fX6_games
        rw [ex, Option.bind_some, if_neg (izn a1), if_pos a2]
    · by_cases a3 : 0 ≤ z.toInt ∧ z.toInt ≤ 2
      · have d4 : ¬ z < 0 := by rw [j4]; omega
        have d5 : z ≤ (2 : Int32) := by rw [j5]; omega
        by_cases a : A.t.h = 0
        · refine ⟨-103, E, M, ?_, ?_, hR⟩
          · unfold fX5_games
            rw [if_neg d1, if_neg d2, if_neg a2, if_neg d4, if_pos d5, h1, Option.bind_some, if_pos (iz0 (fun k => k a))]
          · unfold fX6_games
            rw [ex, Option.bind_some, if_neg (izn a1), if_neg a2, ez, Option.bind_some, if_neg (izn a3), h2, Option.bind_some, if_neg (izn a)]
        · obtain ⟨E', M', s1, s2, es', ec', ms', mc', f1, f2⟩ := both o es ec ms mc a
          have lf : fX6_leftOf M = some (nI A.t.L.length, M') := by
            unfold fX6_leftOf
            rw [s2, Option.bind_some, f2.nL]
          have ein := c_inL (nI A.t.L.length) 1 200 (a' := 1) (b' := 200) (p := 1) (q := 200) rfl rfl rfl rfl
          have ti : (nI A.t.L.length).toInt = (A.t.L.length : Int) := nI_toInt (by omega)
          have t1 : nI A.t.L.length < (1 : Int32) ↔ A.t.L.length < 1 := nI_ltI (b := 1) (by omega) (by decide)
          have t2 : nI A.t.L.length ≤ (200 : Int32) ↔ A.t.L.length ≤ 200 := nI_leI (b := 200) (by omega) (by decide)
          have g5 : ∀ R : Option (Int32 × OE), (if nI A.t.L.length < (1 : Int32) then some ((-103 : Int32), E') else (if nI A.t.L.length ≤ (200 : Int32) then ((wh (σ := Int64 × Int32 × Int32 × Int32 × OE) (ρ := Int64 × Int32 × Int32 × OE) (fun t => fX5_games_L79 x z (nI A.t.L.length) t.1 t.2.1 t.2.2.1 t.2.2.2.1 t.2.2.2.2) 100000 (y.toInt64, (0 : Int32), (0 : Int32), (0 : Int32), E')).bind (fun X => fX5_games_J138 z X.1 X.2.1 X.2.2.1 X.2.2.2)) else some ((-103 : Int32), E'))) = R → fX5_games E x y z = R := by
            intro R hr
            unfold fX5_games
            rw [if_neg d1, if_neg d2, if_neg a2, if_neg d4, if_pos d5, h1, Option.bind_some, if_neg (izn a), s1, Option.bind_some, f1.1]
            exact hr
          have g6 : ∀ R : Option (Int32 × OM), (if iz (1 ≤ (nI A.t.L.length).toInt ∧ (nI A.t.L.length).toInt ≤ 200) = 0 then some ((-103 : Int32), M') else ((wh (σ := Int32 × Int32 × Int32 × OM) (ρ := Int32 × Int32 × OM) (fun t => fX6_games_L70 x z t.1 t.2.1 t.2.2.1 t.2.2.2) 100000 ((0 : Int32), (0 : Int32), (0 : Int32), ((va_up M'.1 30 y), M'.2.1, M'.2.2.1, M'.2.2.2))).bind (fun X => fX6_games_J111 z X.1 X.2.1 X.2.2))) = R → fX6_games M x y z = R := by
            intro R hr
            unfold fX6_games
            rw [ex, Option.bind_some, if_neg (izn a1), if_neg a2, ez, Option.bind_some, if_neg (izn a3), h2, Option.bind_some, if_pos (iz0 a), lf, Option.bind_some]
            dsimp only
            rw [ein, Option.bind_some]
            exact hr
          by_cases b : 1 ≤ A.t.L.length ∧ A.t.L.length ≤ 200
          · obtain ⟨g, hg, rfl⟩ := nI_of3 (x := x) (n := 11) (by omega)
            obtain ⟨s, hs, rfl⟩ := nI_of3 (x := y) (n := 2 ^ 31) ⟨by rw [j3] at a2; omega, by have := Int32.toInt_lt y; omega⟩
            obtain ⟨Kf, hK⟩ := ex_K o.t b.2
            obtain ⟨E2, u1, u2, u3⟩ := a_gL o.t es' ec' f1 b.2 b.1 hK hs (show g ≤ 10 by omega) z
            have gm := gM_30 M' (nI s)
            obtain ⟨M2, v1, v2, v3⟩ := c_gL o.t (gM_s gm ms') (gM_f gm f2) b.2 b.1 hK hs (show g ≤ 10 by omega) z (show va_up M'.1 30 (nI s) 30 = nI s from vu_s _ _ _)
            obtain ⟨w1, w2⟩ := gM_k (gM_tr gm v2) ms' mc'
            have r5 := g5 _ (by
              rw [if_neg (by rw [t1]; omega), if_pos (t2.mpr b.2), nI_l hs, u1, Option.bind_some])
            have r6 := g6 _ (by
              rw [if_neg (izn (by omega)), v1, Option.bind_some])
            dsimp only at r5 r6
            unfold fX5_games_J138 at r5
            unfold fX6_games_J111 at r6
            rw [v3] at r6
            rw [lN_i] at r5
            by_cases c0 : z = 0
            · rw [if_pos c0] at r5 r6
              exact ⟨_, E2, M2, r5, r6, A, o.dn, u2, u3, w1, w2⟩
            · rw [if_neg c0] at r5 r6
              by_cases c1 : z = (1 : Int32)
              · rw [if_pos c1] at r5 r6
                exact ⟨_, E2, M2, r5, r6, A, o.dn, u2, u3, w1, w2⟩
              · rw [if_neg c1] at r5 r6
                exact ⟨_, E2, M2, r5, r6, A, o.dn, u2, u3, w1, w2⟩
          · refine ⟨-103, E', M', g5 _ ?_, g6 _ ?_, A, o.dn, es', ec', ms', mc'⟩
            · by_cases c : A.t.L.length < 1
              · rw [if_pos (t1.mpr c)]
              · rw [if_neg (fun q => c (t1.mp q)), if_neg (by rw [t2]; omega)]
            · rw [if_pos (iz0 (by omega))]
      · refine ⟨-102, E, M, ?_, ?_, hR⟩
        · unfold fX5_games
          rw [if_neg d1, if_neg d2, if_neg a2]
          by_cases d : z < 0
          · rw [if_pos d]
          · rw [if_neg d, if_neg (by rw [j5]; rw [j4] at d; omega)]
        · unfold fX6_games
          rw [ex, Option.bind_some, if_neg (izn a1), if_neg a2, ez, Option.bind_some, if_pos (iz0 a3)]
  · refine ⟨-102, E, M, ?_, ?_, hR⟩
    · unfold fX5_games
      by_cases d : x < (1 : Int32)
      · rw [if_pos d]
      · rw [if_neg d, if_pos (by rw [j2]; rw [j1] at d; omega)]
    · unfold fX6_games
      rw [ex, Option.bind_some, if_pos (iz0 a1)]
