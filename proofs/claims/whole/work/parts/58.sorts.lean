/-! sorts, try -/
def soG (t : Tb) (l kind i : Nat) : Bool := !(t.sl i == l) || decide ((keptN kind (t.fr l) (t.sc l) (t.ce i)).toNat = t.sk i)
def soB (t : Tb) (l m kind : Nat) : Bool := (List.range m).all (soG t l kind)
def soN (t : Tb) (l : Nat) : Nat := bmN (soB t l t.sn) 5
def kbN (t : Tb) (l c : Nat) : Nat := bmN (fun kind => keptN kind (t.fr l) (t.sc l) c) 5
theorem a_would {T : Ob} {t : Tb} (o : tbOK t) (q : tT T t) {l k c : Nat} (hl : l < t.h + t.w) (hk : k < 5) (hc : c < 16) : fX4_wouldKeep T (nI l) (nI k) (nI c) = some (nI (keptN k (t.fr l) (t.sc l) c).toNat) := by
  have hl8 := o.hl
  have o1 := okI_t (show l < 8 by omega) (by decide)
  have cl : (nI l).toNatClampNeg = l := nI_clamp (by omega)
  obtain ⟨_, q2, q3⟩ := q.cl l hl
  obtain ⟨_, k2, k3, k4⟩ := o.cl l hl
  have c0 : ¬ nI l < (0 : Int32) := by rw [i_lt0, nI_toInt (by omega)]; omega
  have c1 : nI l < (8 : Int32) := by rw [show (8 : Int32) = nI 8 from rfl, nI_ltI (by omega) (by omega)]; omega
  unfold fX4_wouldKeep
  rw [if_neg c0, if_pos c1, if_pos o1, if_pos o1, cl, q2, q3, a_isKept hk k2 k3 k4 hc, Option.bind_some]
  cases keptN k (t.fr l) (t.sc l) c
  · exact if_pos (by decide)
  · exact if_pos (by decide)
theorem a_canBe {T : Ob} {t : Tb} (o : tbOK t) (q : tT T t) {l k : Nat} (hl : l < t.h + t.w) (hk : k < 5) : fX4_canBeOf T (nI l) (nI k) = some (iz (soB t l t.sn k = true)) := by
  have hl8 := o.hl
  have h6 := o.sn6
  unfold fX4_canBeOf
  have := wh_all (body := fun u => fX4_canBeOf_L2 T (nI l) (nI k) u) (N := t.sn) (n := 100000) (soG t l k) 0 (by
    intro i hi
    obtain ⟨s1, s2, s3⟩ := q.se i hi
    obtain ⟨z1, z2, z3⟩ := o.se i hi
    have c1 : ¬ nI t.sn ≤ nI i := by rw [nI_leI (by omega) (by omega)]; omega
    have c2 : ¬ (6 : Int32) ≤ nI i := by rw [show (6 : Int32) = nI 6 from rfl, nI_leI (by omega) (by omega)]; omega
    have o1 := okI_t (show i < 6 by omega) (by decide)
    have cl : (nI i).toNatClampNeg = i := nI_clamp (by omega)
    have c3 : nI (t.sl i) = nI l ↔ t.sl i = l := nI_eq (by omega) (by omega)
    show fX4_canBeOf_L2 T (nI l) (nI k) (nI i) = _
    unfold fX4_canBeOf_L2
    rw [q.sn, if_neg c1, if_neg c2, if_pos o1, cl, s1, s2, s3, nI_1]
    have hb : (keptN k (t.fr l) (t.sc l) (t.ce i)).toNat < 2 := by cases keptN k (t.fr l) (t.sc l) (t.ce i) <;> decide
    have c4 : nI (keptN k (t.fr l) (t.sc l) (t.ce i)).toNat = nI (t.sk i) ↔ (keptN k (t.fr l) (t.sc l) (t.ce i)).toNat = t.sk i := nI_eq (by omega) (by omega)
    by_cases a : t.sl i = l
    · rw [if_pos (c3.mpr a), if_pos o1, a_would o q hl hk z2, Option.bind_some, if_pos o1]
      by_cases b : (keptN k (t.fr l) (t.sc l) (t.ce i)).toNat = t.sk i
      · rw [if_pos (c4.mpr b), if_pos (by unfold soG; simp [b])]
      · rw [if_neg (fun z => b (c4.mp z)), if_neg (by unfold soG; simp [a, b])]
    · rw [if_neg (fun z => a (c3.mp z)), if_pos (by unfold soG; simp [a])])
    (by
      show fX4_canBeOf_L2 T (nI l) (nI k) (nI t.sn) = _
      unfold fX4_canBeOf_L2
      rw [q.sn, if_pos (Int32.le_refl _)]) (by omega)
  rw [show (0 : Int32) = nI 0 from rfl, this, Option.bind_some]
  show _ = some (iz ((List.range t.sn).all (soG t l k) = true))
  by_cases a : (List.range t.sn).all (soG t l k) = true
  · rw [if_pos a, iz_t a]; rfl
  · rw [if_neg a, iz_f a]; rfl
theorem soN_lt (t : Tb) (l : Nat) : soN t l < 32 := bmN_lt _ 5
theorem kbN_lt (t : Tb) (l c : Nat) : kbN t l c < 32 := bmN_lt _ 5
theorem a_sorts {T : Ob} {t : Tb} (o : tbOK t) (q : tT T t) {l : Nat} (hl : l < t.h + t.w) : fX4_sorts T (nI l) = some (nI (soN t l)) := by
  unfold fX4_sorts
  refine wh_b (fun j => (nI (bmN (soB t l t.sn) j), nI j)) 5 (nI (soN t l)) rfl (by decide) ?hs ?he rfl
  case he => rfl
  case hs =>
    intro j hj
    show fX4_sorts_L4 T (nI l) (nI (bmN (soB t l t.sn) j)) (nI j) = some (.inl (nI (bmN (soB t l t.sn) j ||| (if soB t l t.sn j = true then 2 ^ j else 0)), nI (j + 1)))
    have c1 : ¬ (5 : Int32) ≤ nI j := by rw [show (5 : Int32) = nI 5 from rfl, nI_leI (by omega) (by omega)]; omega
    have hlt := bmN_lt (soB t l t.sn) j
    have h16 : 2 ^ j ≤ 2 ^ 15 := pw_le (by omega)
    unfold fX4_sorts_L4
    rw [if_neg c1, a_canBe o q hl hj, Option.bind_some, nI_1]
    by_cases a : soB t l t.sn j = true
    · rw [if_neg (izn a), if_pos a, sh1 (by omega), nq_or (by omega) (by omega)]
    · rw [if_pos (iz0 a), if_neg a, Nat.or_zero]
/-- only the reference's runs are others -/
def rM (M M1 : OM) : Prop := mfr [16, 17, 18, 19] [] M M1 ∧ M1.2.2.2 = M.2.2.2
theorem rM_rfl {M : OM} : rM M M := ⟨mfr_rfl, rfl⟩
theorem rM_tr {M M1 M2 : OM} (a : rM M M1) (b : rM M1 M2) : rM M M2 := ⟨mfr_tr a.1 b.1, b.2.trans a.2⟩
theorem rM_run {M : OM} (t : Nat × Nat × Nat × Nat × Nat) : rM M (runF M.1 t, M.2.1, M.2.2.1, M.2.2.2) := ⟨⟨fr1_run fr1_rfl (by decide) (by decide) (by decide) (by decide), fr1_rfl, rfl⟩, rfl⟩
theorem rM_a {M M1 : OM} (a : rM M M1) (j : Nat) : M1.2.1 j = M.2.1 j := a.1.2.1 j (by simp)
theorem rM_s {M M1 : OM} (a : rM M M1) {j : Nat} (h : j < 16 ∨ 19 < j) : M1.1 j = M.1 j := a.1.1 j (by simp; omega)
theorem rM_k {A : Ab} {M M1 : OM} (a : rM M M1) (s : MS A M) (k : MC A M) : kM A M M1 := by
  refine ⟨MS_fr s (mfr_mono a.1 (by decide) (by decide)), ?_, a.1.2.2⟩
  intro q
  have k1 := k ((rM_s a (by decide)).symm.trans q)
  refine ⟨(rM_s a (by decide)).trans k1.n, ?_, (rM_s a (by decide)).trans k1.wk.1, (rM_s a (by decide)).trans k1.wk.2.1, k1.wk.2.2.1, ?_⟩
  · rw [rM_a a 23]; exact k1.b
  · rw [a.2]; exact k1.wk.2.2.2
theorem c_keptBy {A : Ab} {M : OM} (o : tbOK A.t) (s : MS A M) {l c : Nat} (hl : l < A.t.h + A.t.w) (hc : c < 16) : ∃ M', fX6_keptBy M (nI l) (nI c) = some (nI (kbN A.t l c), M') ∧ rM M M' := by
  have hl8 := o.hl
  have o1 := okI_t (show l < 8 by omega) (by decide)
  have cl : (nI l).toNatClampNeg = l := nI_clamp (by omega)
  obtain ⟨_, p2, p3⟩ := s.t.cl l hl
  obtain ⟨_, k2, k3, k4⟩ := o.cl l hl
  obtain ⟨r, r1, r2, r3⟩ := wh_inv (body := fun u => fX6_keptBy_L5 (nI l) (nI c) u.1 u.2.1 u.2.2) (fun j (u : Int32 × Int32 × OM) => u.1 = nI (bmN (fun kind => keptN kind (A.t.fr l) (A.t.sc l) c) j) ∧ u.2.1 = nI j ∧ rM M u.2.2) (fun (u : Int32 × OM) => u.1 = nI (kbN A.t l c) ∧ rM M u.2) 5
    (by
      rintro j ⟨x, y, M1⟩ hj ⟨e1, e2, e3⟩
      dsimp only at e1 e2 e3
      subst e1 e2
      have c1 : ¬ (5 : Int32) ≤ nI j := by rw [show (5 : Int32) = nI 5 from rfl, nI_leI (by omega) (by omega)]; omega
      have hlt := bmN_lt (fun kind => keptN kind (A.t.fr l) (A.t.sc l) c) j
      have h16 : 2 ^ j ≤ 2 ^ 15 := pw_le (by omega)
      have ik := c_isKept M1 hj k2 k3 hc
      refine ⟨(nI (bmN (fun kind => keptN kind (A.t.fr l) (A.t.sc l) c) (j + 1)), nI (j + 1), (runF M1.1 (rsN c 5), M1.2.1, M1.2.2.1, M1.2.2.2)), ?_, rfl, rfl, rM_tr e3 (rM_run _)⟩
      show fX6_keptBy_L5 (nI l) (nI c) (nI (bmN (fun kind => keptN kind (A.t.fr l) (A.t.sc l) c) j)) (nI j) M1 = some (.inl (nI (bmN (fun kind => keptN kind (A.t.fr l) (A.t.sc l) c) j ||| (if keptN j (A.t.fr l) (A.t.sc l) c = true then 2 ^ j else 0)), nI (j + 1), (runF M1.1 (rsN c 5), M1.2.1, M1.2.2.1, M1.2.2.2)))
      unfold fX6_keptBy_L5
      rw [if_neg c1, if_pos o1, if_pos o1, cl, rM_a e3 13, rM_a e3 14, p2, p3, ik, Option.bind_some, nI_1]
      dsimp only
      cases keptN j (A.t.fr l) (A.t.sc l) c with
      | true => rw [if_neg (by decide), if_pos rfl, sh1 (by omega), nq_or (by omega) (by omega)]
      | false => rw [if_pos (by decide), if_neg (by decide), Nat.or_zero, show (0 : Int32) = nI 0 from rfl, nq_or (by omega) (by decide), Nat.or_zero])
    (by
      rintro ⟨x, y, M1⟩ ⟨e1, e2, e3⟩
      dsimp only at e1 e2 e3
      subst e1 e2
      exact ⟨(nI (kbN A.t l c), M1), rfl, rfl, e3⟩)
    (n := 100000) (s := ((0 : Int32), (0 : Int32), M)) ⟨rfl, rfl, rM_rfl⟩ (by decide)
  refine ⟨r.2, ?_, r3⟩
  unfold fX6_keptBy
  rw [r1, Option.bind_some]
  show some (r.1, r.2) = _
  rw [r2]
theorem bm_and (g g' : Nat → Bool) (n : Nat) : bmN g n &&& bmN g' n = bmN (fun k => g k && g' k) n := by
  apply Nat.eq_of_testBit_eq
  intro i
  rw [Nat.testBit_and, bmN_tb, bmN_tb, bmN_tb]
  by_cases a : i < n <;> simp [a]
theorem bm_not (g : Nat → Bool) : 31 - bmN g 5 = bmN (fun k => !g k) 5 := by
  apply Nat.eq_of_testBit_eq
  intro i
  have h := bmN_lt g 5
  rw [show 31 - bmN g 5 = 2 ^ 5 - (bmN g 5 + 1) by omega, Nat.testBit_two_pow_sub_succ h, bmN_tb, bmN_tb]
  by_cases a : i < 5 <;> simp [a]
theorem bm_congr {g g' : Nat → Bool} (h : ∀ k, g k = g' k) (n : Nat) : bmN g n = bmN g' n := by rw [funext h]
theorem soB_s (t : Tb) (l m kind : Nat) : soB t l (m + 1) kind = (soB t l m kind && soG t l kind m) := by
  unfold soB
  rw [List.range_succ, List.all_append]
  simp
theorem c_sorts {A : Ab} {M : OM} (o : tbOK A.t) (s : MS A M) {l : Nat} (hl : l < A.t.h + A.t.w) : ∃ M', fX6_sortsOf M (nI l) = some (nI (soN A.t l), M') ∧ rM M M' := by
  have hl8 := o.hl
  have h6 := o.sn6
  obtain ⟨r, r1, r2, r3⟩ := wh_inv (body := fun u => fX6_sortsOf_L5 (nI l) u.1 u.2.1 u.2.2) (fun m (u : Int32 × Int32 × OM) => u.1 = nI (bmN (soB A.t l m) 5) ∧ u.2.1 = nI (3 * m) ∧ rM M u.2.2) (fun (u : Int32 × OM) => u.1 = nI (soN A.t l) ∧ rM M u.2) A.t.sn
    (by
      rintro m ⟨x, y, M1⟩ hm ⟨e1, e2, e3⟩
      dsimp only at e1 e2 e3
      subst e1 e2
      obtain ⟨s1, s2, s3⟩ := s.t.se m hm
      obtain ⟨z1, z2, z3⟩ := o.se m hm
      have c0 : M1.1 28 = nI A.t.sn := (rM_s e3 (by decide)).trans s.sn
      have c1 : ¬ nI (3 * A.t.sn) ≤ nI (3 * m) := by rw [nI_leI (by omega) (by omega)]; omega
      have o0 := okI_t (show 3 * m < 18 by omega) (by decide)
      have o1 := okI_t (show 3 * m + 1 < 18 by omega) (by decide)
      have o2 := okI_t (show 3 * m + 2 < 18 by omega) (by decide)
      have cl0 : (nI (3 * m)).toNatClampNeg = 3 * m := nI_clamp (by omega)
      have cl1 : (nI (3 * m + 1)).toNatClampNeg = 3 * m + 1 := nI_clamp (by omega)
      have cl2 : (nI (3 * m + 2)).toNatClampNeg = 3 * m + 2 := nI_clamp (by omega)
      have a1 : nI (3 * m) + (1 : Int32) = nI (3 * m + 1) := nI_1 _
      have a2 : nI (3 * m) + (2 : Int32) = nI (3 * m + 2) := nI_add _ 2
      have a3 : nI (3 * m) + (3 : Int32) = nI (3 * (m + 1)) := nI_add _ 3
      have hlt := bmN_lt (soB A.t l m) 5
      have c3 : nI (A.t.sl m) = nI l ↔ A.t.sl m = l := nI_eq (by omega) (by omega)
      have e29 := rM_a e3 29
      by_cases a : A.t.sl m = l
      · have sM1 : MS A M1 := MS_fr s (mfr_mono e3.1 (by decide) (by decide))
        obtain ⟨M2, q1, q2⟩ := c_keptBy o sM1 hl z2
        have hk := kbN_lt A.t l (A.t.ce m)
        have e29b : M2.2.1 29 = M.2.1 29 := (rM_a q2 29).trans e29
        have g : fX6_sortsOf_L5 (nI l) (nI (bmN (soB A.t l m) 5)) (nI (3 * m)) M1 = some (.inl (nI (bmN (soB A.t l (m + 1)) 5), nI (3 * (m + 1)), M2)) := by
          unfold fX6_sortsOf_L5
          rw [c0, show (3 : Int32) * nI A.t.sn = nI (3 * A.t.sn) from pk_mul 3 _, if_neg c1, if_pos o0, cl0, e29, s1, if_pos (c3.mpr a), a1, if_pos o1, cl1, s2, q1, Option.bind_some]
          dsimp only
          rw [a2, if_pos o2, cl2, e29b, s3, a3]
          have v : A.t.sk m = 0 ∨ A.t.sk m = 1 := by omega
          rcases v with v | v
          · rw [v, if_neg (by decide), show (31 : Int32) = nI 31 from rfl, pk_sub (by omega), nq_and (by omega) (by omega)]
            congr 3
            unfold kbN
            rw [bm_not, bm_and]
            congr 1
            refine bm_congr (fun k => ?_) 5
            rw [soB_s]
            unfold soG
            rw [v]
            cases keptN k (A.t.fr l) (A.t.sc l) (A.t.ce m) <;> simp [a]
          · rw [v, if_pos (by decide), nq_and (by omega) (by omega)]
            congr 3
            unfold kbN
            rw [bm_and]
            congr 1
            refine bm_congr (fun k => ?_) 5
            rw [soB_s]
            unfold soG
            rw [v]
            cases keptN k (A.t.fr l) (A.t.sc l) (A.t.ce m) <;> simp [a]
        exact ⟨_, g, rfl, rfl, rM_tr e3 q2⟩
      · refine ⟨(nI (bmN (soB A.t l (m + 1)) 5), nI (3 * (m + 1)), M1), ?_, rfl, rfl, e3⟩
        show fX6_sortsOf_L5 (nI l) (nI (bmN (soB A.t l m) 5)) (nI (3 * m)) M1 = _
        unfold fX6_sortsOf_L5
        rw [c0, show (3 : Int32) * nI A.t.sn = nI (3 * A.t.sn) from pk_mul 3 _, if_neg c1, if_pos o0, cl0, e29, s1, if_neg (fun z => a (c3.mp z)), a3]
        congr 3
        congr 1
        refine bm_congr (fun k => ?_) 5
        rw [soB_s]
        unfold soG
        simp [a])
    (by
      rintro ⟨x, y, M1⟩ ⟨e1, e2, e3⟩
      dsimp only at e1 e2 e3
      subst e1 e2
      have c0 : M1.1 28 = nI A.t.sn := (rM_s e3 (by decide)).trans s.sn
      refine ⟨(nI (soN A.t l), M1), ?_, rfl, e3⟩
      show fX6_sortsOf_L5 (nI l) (nI (bmN (soB A.t l A.t.sn) 5)) (nI (3 * A.t.sn)) M1 = _
      unfold fX6_sortsOf_L5
      rw [c0, show (3 : Int32) * nI A.t.sn = nI (3 * A.t.sn) from pk_mul 3 _, if_pos (Int32.le_refl _)]
      rfl)
    (n := 100000) (s := ((31 : Int32), (0 : Int32), M)) ⟨by
      show nI 31 = nI (bmN (soB A.t l 0) 5)
      rw [bm_congr (g := soB A.t l 0) (g' := fun _ => true) (fun k => by unfold soB; simp) 5]
      rfl, rfl, rM_rfl⟩ (by omega)
  refine ⟨r.2, ?_, r3⟩
  unfold fX6_sortsOf
  rw [r1, Option.bind_some]
  show some (r.1, r.2) = _
  rw [r2]
