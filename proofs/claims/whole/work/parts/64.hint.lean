/-! hints, the last of it -/
theorem c_telling {M : OM} {t : Tb} (o : tbOK t) (f : fM M t.h t.w t.F) {p m : Nat} (hp : p < 2 ^ 16) (hm : m < 4) : fX6_telling M (nI p) (nI m) (nI (opN2 t)) = some (nI (((List.range' 0 (16 - 0)).findSome? (g1X t p m)).getD 0)) := by
  have e1 : nI m ≤ (1 : Int32) ↔ ¬ 1 < m := by rw [show (1 : Int32) = nI 1 from rfl, nI_leI (by omega) (by omega)]; omega
  have e2 : nI m ≤ (2 : Int32) ↔ ¬ 2 < m := by rw [show (2 : Int32) = nI 2 from rfl, nI_leI (by omega) (by omega)]; omega
  have l3 : ∀ a b B, a < 16 → b < 16 → B < 2 ^ 16 → wh (σ := Int32 × Int32) (ρ := Int32) (fun u => fX6_telling_L52 M (nI p) (nI m) (nI (opN2 t)) (nI a) (nI b) u.1 u.2) 100000 (nI B, nI (if 2 < m then b + 1 else 15)) = some (nI (if B = 0 then (g2X t p m a b).getD 0 else B)) := by
    intro a b B ha hb hB
    exact wh_best (fun c => tsN t p (cvX m a b c)) (fun k v _ h => by rw [ts_v h]; exact cvX_pos) (fun B' k hk _ hB' => c_t52 o f hp hm ha hb hk hB') (fun k v hk h => by rw [ts_v h]; exact cvX_lt ha hb hk) (fun x => by
      show fX6_telling_L52 M (nI p) (nI m) (nI (opN2 t)) (nI a) (nI b) x (nI 16) = _
      unfold fX6_telling_L52
      rw [if_pos (by decide)]) (by split <;> omega) (by decide) hB
  have l2 : ∀ a B, a < 16 → B < 2 ^ 16 → wh (σ := Int32 × Int32) (ρ := Int32) (fun u => fX6_telling_L29 M (nI p) (nI m) (nI (opN2 t)) (nI a) u.1 u.2) 100000 (nI B, nI (if 1 < m then a + 1 else 15)) = some (nI (if B = 0 then (g1X t p m a).getD 0 else B)) := by
    intro a B ha hB
    refine wh_best (g2X t p m a) (fun k v hk h => (g2X_v ha hk h).2) (fun B' k hk _ hB' => ?_) (fun k v hk h => (g2X_v ha hk h).1) (fun x => by
      show fX6_telling_L29 M (nI p) (nI m) (nI (opN2 t)) (nI a) x (nI 16) = _
      unfold fX6_telling_L29
      rw [if_pos (by decide)]) (by split <;> omega) (by decide) hB
    have c1 : ¬ (16 : Int32) ≤ nI k := by rw [show (16 : Int32) = nI 16 from rfl, nI_leI (by omega) (by omega)]; omega
    have toJ : fX6_telling_L29 M (nI p) (nI m) (nI (opN2 t)) (nI a) (nI B') (nI k) = fX6_telling_J50 M (nI p) (nI m) (nI (opN2 t)) (nI a) (nI B') (nI k) (nI (if 2 < m then k + 1 else 15)) := by
      unfold fX6_telling_L29
      rw [if_neg c1, nI_1]
      by_cases q : 2 < m
      · rw [if_neg (by rw [e2]; exact fun z => z q), if_pos q]
      · rw [if_pos (e2.mpr q), if_neg q]
        rfl
    show fX6_telling_L29 M (nI p) (nI m) (nI (opN2 t)) (nI a) (nI B') (nI k) = _
    rw [toJ]
    unfold fX6_telling_J50 fX6_telling_J127
    rw [l3 a k B' ha hk hB', Option.bind_some, nI_1]
  unfold fX6_telling
  have l1 := wh_best (body := fun u => fX6_telling_L6 M (nI p) (nI m) (nI (opN2 t)) u.1 u.2) (n := 100000) (k0 := 0) (b := 0) (g1X t p m) (fun k v hk h => (g1X_v hk h).2) (fun B' k hk _ hB' => by
      have c1 : ¬ (16 : Int32) ≤ nI k := by rw [show (16 : Int32) = nI 16 from rfl, nI_leI (by omega) (by omega)]; omega
      have toJ : fX6_telling_L6 M (nI p) (nI m) (nI (opN2 t)) (nI B') (nI k) = fX6_telling_J27 M (nI p) (nI m) (nI (opN2 t)) (nI B') (nI k) (nI (if 1 < m then k + 1 else 15)) := by
        unfold fX6_telling_L6
        rw [if_neg c1, nI_1]
        by_cases q : 1 < m
        · rw [if_neg (by rw [e1]; exact fun z => z q), if_pos q]
        · rw [if_pos (e1.mpr q), if_neg q]
          rfl
      show fX6_telling_L6 M (nI p) (nI m) (nI (opN2 t)) (nI B') (nI k) = _
      rw [toJ]
      unfold fX6_telling_J27 fX6_telling_J133
      rw [l2 k B' hk hB', Option.bind_some, nI_1]) (fun k v hk h => (g1X_v hk h).1) (fun x => by
      show fX6_telling_L6 M (nI p) (nI m) (nI (opN2 t)) x (nI 16) = _
      unfold fX6_telling_L6
      rw [if_pos (by decide)]) (by decide) (by decide) (by decide)
  rw [show ((0 : Int32), (0 : Int32)) = (nI 0, nI 0) from rfl, l1, if_pos rfl, Option.bind_some]
  rfl
theorem fs_one {β : Type} (g : Nat → Option β) : (List.range' 15 (16 - 15)).findSome? g = g 15 := by
  show (List.range' 15 1).findSome? g = _
  rw [List.range'_succ, List.findSome?_cons]
  cases g 15 with
  | none => rfl
  | some v => rfl
theorem g_md {t : Tb} {p m : Nat} (h0 : 0 < m) (h4 : m < 4) : (List.range' 0 (16 - 0)).findSome? (g1X t p m) = mdN t p m 0 0 := by
  have k : m = 1 ∨ m = 2 ∨ m = 3 := by omega
  rcases k with rfl | rfl | rfl
  · show _ = (List.range' 0 (16 - 0)).findSome? (fun c => tsN t p (0 ||| 2 ^ c))
    refine fs_congr (fun a _ => ?_)
    unfold g1X
    rw [if_neg (by decide), fs_one]
    unfold g2X
    rw [if_neg (by decide), fs_one]
    unfold cvX
    rw [if_neg (by decide), if_neg (by decide), Nat.or_zero, Nat.or_zero, Nat.zero_or]
  · show _ = (List.range' 0 (16 - 0)).findSome? (fun c => (List.range' (c + 1) (16 - (c + 1))).findSome? (fun d => tsN t p (0 ||| 2 ^ c ||| 2 ^ d)))
    refine fs_congr (fun a _ => ?_)
    unfold g1X
    rw [if_pos (by decide)]
    refine fs_congr (fun b _ => ?_)
    unfold g2X
    rw [if_neg (by decide), fs_one]
    unfold cvX
    rw [if_pos (by decide), if_neg (by decide), Nat.or_zero, Nat.zero_or]
  · show _ = (List.range' 0 (16 - 0)).findSome? (fun c => (List.range' (c + 1) (16 - (c + 1))).findSome? (fun d => (List.range' (d + 1) (16 - (d + 1))).findSome? (fun e => tsN t p (0 ||| 2 ^ c ||| 2 ^ d ||| 2 ^ e))))
    refine fs_congr (fun a _ => ?_)
    unfold g1X
    rw [if_pos (by decide)]
    refine fs_congr (fun b _ => ?_)
    unfold g2X
    rw [if_pos (by decide)]
    refine fs_congr (fun c _ => ?_)
    unfold cvX
    rw [if_pos (by decide), if_pos (by decide), Nat.zero_or]
theorem c_tell {M : OM} {t : Tb} (o : tbOK t) (f : fM M t.h t.w t.F) {p m : Nat} (hp : p < 2 ^ 16) (h0 : 0 < m) (h4 : m < 4) : fX6_telling M (nI p) (nI m) (nI (opN2 t)) = some (nI ((hiN t p m 0 0).getD 0)) := by
  rw [c_telling o f hp h4, g_md h0 h4, md_hi m 0 0 (by decide), if_pos (by unfold okX; rw [Nat.zero_and]; rfl)]
def hintX (t : Tb) (p v : Nat) (r : Option Nat) : Int32 := match r with | none => -1 | some X => if v = 0 then nI (cntN X 16) else atN X v 16
def hintV (t : Tb) (p v : Nat) : Int32 := hintX t p v ((List.range 4).findSome? (fun m => hiN t p m 0 0))
theorem L_nodup (t : Tb) : t.L.Nodup := by
  unfold Tb.L FL
  exact List.Pairwise.filter _ List.nodup_range
theorem tl_0 {t : Tb} {p : Nat} (hp : p ∈ t.L) : tlB t.L p 0 = true ↔ t.L.length = 1 := by
  rw [tlB_iff]
  have nd := L_nodup t
  constructor
  · intro h
    have all : ∀ q ∈ t.L, q = p := fun q hq => by
      by_cases a : q = p
      · exact a
      · exact absurd (Nat.and_zero _) (h q hq a)
    cases e : t.L with
    | nil => rw [e] at hp; cases hp
    | cons a l =>
      cases l with
      | nil => rfl
      | cons b l =>
        rw [e] at all nd
        have h1 := all a List.mem_cons_self
        have h2 := all b (List.mem_cons_of_mem _ List.mem_cons_self)
        rw [h1, h2] at nd
        exact absurd List.mem_cons_self (List.nodup_cons.mp nd).1
  · intro h q hq hne
    obtain ⟨a, e⟩ := List.length_eq_one_iff.mp h
    rw [e] at hp hq
    have h1 := List.mem_singleton.mp hp
    have h2 := List.mem_singleton.mp hq
    exact absurd (h2.trans h1.symm) hne
theorem cnt_00 (k : Nat) : cntN 0 k = 0 := by
  induction k with
  | zero => rfl
  | succ k ih =>
    show cntN 0 k + bq 0 k = 0
    rw [ih, bq_tb, Nat.zero_testBit]
    rfl
theorem c_hintsOf {A : Ab} {M : OM} (o : tbOK A.t) (ms : MS A M) (f : fM M A.t.h A.t.w A.t.F) {p v : Nat} (hp : p ∈ A.t.L) (hv : v < 4) : fX6_hintsOf M (nI p) (nI v) = some (hintV A.t p v) := by
  have hL := tb_L o
  have hp16 := tb_Lt o hp
  have hm := o.hm
  have v0 : nI v = 0 ↔ v = 0 := nI_eq (b := 0) (by omega) (by decide)
  have cL : nI A.t.L.length = (1 : Int32) ↔ A.t.L.length = 1 := nI_eq (b := 1) (by omega) (by decide)
  unfold fX6_hintsOf
  rw [f.nL]
  by_cases a : A.t.L.length = 1
  · rw [if_pos (cL.mpr a)]
    have e0 : hiN A.t p 0 0 0 = some 0 := by unfold hiN; rw [if_pos ((tl_0 hp).mpr a)]
    have e : (List.range 4).findSome? (fun m => hiN A.t p m 0 0) = some 0 := by
      rw [show List.range 4 = 0 :: [1, 2, 3] from rfl, List.findSome?_cons, e0]
    unfold hintV
    rw [e]
    unfold hintX
    by_cases b : v = 0
    · rw [if_pos (v0.mpr b)]
      dsimp only
      rw [if_pos b, cnt_00]
      rfl
    · rw [if_neg (fun z => b (v0.mp z))]
      dsimp only
      rw [if_neg b, atN_none 16 (fun j _ q => by rw [cnt_00] at q; omega)]
  · rw [if_neg (fun z => a (cL.mp z))]
    have e0 : hiN A.t p 0 0 0 = none := by unfold hiN; rw [if_neg (fun z => a ((tl_0 hp).mp z))]
    have e : (List.range 4).findSome? (fun m => hiN A.t p m 0 0) = (List.range' 1 (4 - 1)).findSome? (fun m => hiN A.t p m 0 0) := by
      rw [show List.range 4 = 0 :: List.range' 1 (4 - 1) from rfl, List.findSome?_cons, e0]
    have sum := msk_sum A.t.mk o.mk3 (A.t.h * A.t.w)
    have pos := Nat.two_pow_pos (A.t.h * A.t.w)
    have esum : opN2 A.t + A.t.bl + A.t.wt = 2 ^ (A.t.h * A.t.w) - 1 := sum
    have eop : (((1 : Int32) <<< (((M.1 9) * (M.1 10)) &&& 31)) - (1 : Int32)) - nI A.t.bl - nI A.t.wt = nI (opN2 A.t) := by
      rw [ms.h, ms.w, pk_mul, sh1 (by omega), show (1 : Int32) = nI 1 from rfl, pk_sub (by omega), pk_sub (by omega), pk_sub (by omega)]
      congr 1
      omega
    rw [c_mk1 o ms.h ms.w ms.t.mk, Option.bind_some, c_mk2 o ms.h ms.w ms.t.mk, Option.bind_some, eop]
    have := wh_fs (body := fun u => fX6_hintsOf_L47 M (nI p) (nI v) (nI (opN2 A.t)) u) (N := 4) (n := 100000) (k0 := 1) (fun m => hiN A.t p m 0 0) (fun X => hintX A.t p v (some X))
      (by
        intro k hk hk1
        have c1 : ¬ (4 : Int32) ≤ nI k := by rw [show (4 : Int32) = nI 4 from rfl, nI_leI (by omega) (by omega)]; omega
        show fX6_hintsOf_L47 M (nI p) (nI v) (nI (opN2 A.t)) (nI k) = match hiN A.t p k 0 0 with | none => some (.inl (nI (k + 1))) | some X => some (.inr (.inl (hintX A.t p v (some X))))
        unfold fX6_hintsOf_L47
        rw [if_neg c1, c_tell o f hp16 hk1 hk, Option.bind_some, nI_1]
        cases e : hiN A.t p k 0 0 with
        | none =>
          rw [if_pos (show nI ((none : Option Nat).getD 0) = 0 from rfl)]
        | some X =>
          obtain ⟨x1, x2⟩ := hiN_ok _ _ _ _ (by omega) (by decide) e
          rw [cnt_00, Nat.zero_add] at x2
          have xp : ¬ X = 0 := fun q => by rw [q, cnt_00] at x2; omega
          show (if nI X = 0 then _ else _) = _
          rw [if_neg (nI_ne0 (by omega) (by omega))]
          show ((wh (σ := Int32 × Int32 × Int32) (ρ := Int32) (fun t => fX6_hintsOf_L77 M (nI v) (nI k) (nI X) t.1 t.2.1 t.2.2) 100000 ((0 : Int32), (-1 : Int32), (0 : Int32))).bind (fun e7_L77 => fX6_hintsOf_J128 M (nI v) (nI k) e7_L77)) = _
          rw [c_cellAt M (nI k) x1 hv, Option.bind_some]
          unfold fX6_hintsOf_J128 hintX
          by_cases b : v = 0
          · rw [if_pos (v0.mpr b)]
            dsimp only
            rw [if_pos b, x2]
          · rw [if_neg (fun z => b (v0.mp z))]
            dsimp only
            rw [if_neg b])
      (by
        show fX6_hintsOf_L47 M (nI p) (nI v) (nI (opN2 A.t)) (nI 4) = _
        unfold fX6_hintsOf_L47
        rw [if_pos (by decide)])
      (by decide) (by decide)
    rw [show (1 : Int32) = nI 1 from rfl, this, Option.bind_some]
    unfold hintV
    rw [e]
    cases (List.range' 1 (4 - 1)).findSome? (fun m => hiN A.t p m 0 0) with
    | none => rfl
    | some X => rfl
def hdU (A : Ab) : Ab := ⟨A.ps, A.pc, A.t, A.br, A.hd + 1, A.od, A.im, A.k⟩
theorem op_hints : opL15 Rel := by
  rintro n E M x y ⟨A, o, es, ec, ms, mc⟩
  have hR : Rel n E M := ⟨A, o.dn, es, ec, ms, mc⟩
  have h1 := a_isBoard o.t es.t
  have h2 := c_lacks o.t.hh ms.h
  have hd := o.hd
  have hm := o.t.hm
  have hL := tb_L o.t
  by_cases a : A.t.h = 0
  · refine ⟨-101, E, M, ?_, ?_, hR⟩
    · unfold fX5_hints
      rw [h1, Option.bind_some, if_pos (iz0 (fun k => k a))]
    · unfold fX6_hints
      rw [h2, Option.bind_some, if_neg (izn a)]
  · have hpos := Nat.two_pow_pos (A.t.h * A.t.w)
    have hpw : 2 ^ (A.t.h * A.t.w) ≤ 2 ^ 16 := pw_le hm
    have ein : fX6_in x.toInt64 (0 : Int64) ((((1 : Int32) <<< (((M.1 9) * (M.1 10)) &&& 31)) - (1 : Int32)).toInt64) = some (iz (0 ≤ x.toInt ∧ x.toInt < ((2 ^ (A.t.h * A.t.w) : Nat) : Int))) := by
      rw [ms.h, ms.w, pk_mul, sh1 (by omega), show (0 : Int64) = (0 : Int32).toInt64 from rfl, c_in32, nI_m1 (by omega)]
      refine congrArg some (iz_c ?_)
      show (0 : Int) ≤ _ ∧ _ ↔ _
      omega
    obtain ⟨E', M', a1, b1, es', ec', ms', mc', f1, f2⟩ := both o es ec ms mc a
    have ho := a_holds f1 hL (by decide) (fun q hq => tb_Lt o.t hq) x
    by_cases b : ∃ q ∈ A.t.L, nI q = x
    · obtain ⟨p, hp, rfl⟩ := b
      have hp16 := tb_Lt o.t hp
      obtain ⟨p1, p2⟩ := tb_Lm.mp hp
      have b0 : 0 ≤ (nI p).toInt ∧ (nI p).toInt < ((2 ^ (A.t.h * A.t.w) : Nat) : Int) := by rw [nI_toInt (by omega)]; omega
      have bh : ∃ q ∈ A.t.L, nI q = nI p := ⟨p, hp, rfl⟩
      have fi := c_isFit f2.wk (show p < 65536 by omega)
      have fq : p < 2 ^ (A.t.h * A.t.w) ∧ A.t.F p = true := ⟨p1, p2⟩
      have ey := c_inL y 0 3 (a' := 0) (b' := 3) (p := 0) (q := 3) rfl rfl rfl rfl
      have j1 : y < 0 ↔ y.toInt < 0 := i_lt _ _
      have j2 : y ≤ (3 : Int32) ↔ y.toInt ≤ 3 := i_le _ _
      by_cases c : 0 ≤ y.toInt ∧ y.toInt ≤ 3
      · obtain ⟨v, hv, rfl⟩ := nI_of3 (x := y) (n := 4) (by omega)
        have d1 : ¬ nI v < 0 := by rw [j1]; omega
        have d2 : nI v ≤ (3 : Int32) := by rw [j2]; omega
        have c1 : nI A.hd < (12 : Int32) ↔ A.hd < 12 := nI_ltI (b := 12) (by omega) (by decide)
        have c2 : nI A.hd = (12 : Int32) ↔ A.hd = 12 := nI_eq (b := 12) (by omega) (by decide)
        by_cases d : A.hd = 12
        · refine ⟨-103, E', M', ?_, ?_, A, o.dn, es', ec', ms', mc'⟩
          · unfold fX5_hints
            rw [h1, Option.bind_some, if_neg (izn a), a1, Option.bind_some, ho, Option.bind_some, if_neg (izn bh), if_neg d1, if_pos d2, es'.hd, if_neg (by rw [c1]; omega)]
          · unfold fX6_hints
            rw [h2, Option.bind_some, if_pos (iz0 a), ein, Option.bind_some, if_neg (izn b0), b1, Option.bind_some, fi, Option.bind_some, if_neg (izn fq), ey, Option.bind_some, if_neg (izn c), ms'.hd, if_pos (c2.mpr d)]
        · have hlt : A.hd < 12 := by omega
          have o2 : abOK n (hdU A) := ⟨o.ps, o.pc, o.t, o.dn.br, hlt, o.od, o.im⟩
          have es2 : ES (hdU A) (va_up E'.1 10 (nI (A.hd + 1)), E'.2) := ⟨es'.ps, es'.pc, es'.t, es'.br, rfl, es'.od, es'.im, es'.k⟩
          have ms2 : MS (hdU A) (va_up M'.1 26 (nI (A.hd + 1)), M'.2.1, M'.2.2.1, M'.2.2.2) := ⟨ms'.ps, ms'.pc, ms'.h, ms'.w, ms'.t, ms'.sn, ms'.br, rfl, ms'.od, ms'.k, ms'.nk⟩
          have mc2 : MC (hdU A) (va_up M'.1 26 (nI (A.hd + 1)), M'.2.1, M'.2.2.1, M'.2.2.2) := fun q => ⟨(mc' q).n, (mc' q).b, (mc' q).wk⟩
          have ec2 : EC (hdU A) (va_up E'.1 10 (nI (A.hd + 1)), E'.2) := ec'
          have f3 : fM (va_up M'.1 26 (nI (A.hd + 1)), M'.2.1, M'.2.2.1, M'.2.2.2) (hdU A).t.h (hdU A).t.w (hdU A).t.F := ⟨f2.n, f2.b, f2.wk⟩
          have hp2 : p ∈ (hdU A).t.L := hp
          have r1 := a_fewest o2.t es2 (show fitsO (E'.2 5) (hdU A).t.L from f1) hp16
          have r2 := c_hintsOf o2.t ms2 f3 hp2 hv
          refine ⟨hintV (hdU A).t p v, (va_up E'.1 10 (nI (A.hd + 1)), E'.2), (va_up M'.1 26 (nI (A.hd + 1)), M'.2.1, M'.2.2.1, M'.2.2.2), ?_, ?_, hdU A, o2, es2, ec2, ms2, mc2⟩
          · unfold fX5_hints
            rw [h1, Option.bind_some, if_neg (izn a), a1, Option.bind_some, ho, Option.bind_some, if_neg (izn bh), if_neg d1, if_pos d2, es'.hd, if_pos (c1.mpr hlt), nI_1, r1, Option.bind_some]
            unfold hintV
            have v0 : nI v = 0 ↔ v = 0 := nI_eq (b := 0) (by omega) (by decide)
            cases e : (List.range 4).findSome? (fun m => hiN (hdU A).t p m 0 0) with
            | none => rw [if_pos (show oI none = -1 from rfl)]; rfl
            | some X =>
              obtain ⟨m, _, hX⟩ := List.exists_of_findSome?_eq_some e
              obtain ⟨x1, x2⟩ := hiN_ok _ _ _ _ (by omega) (by decide) hX
              rw [if_neg (show ¬ oI (some X) = -1 from nI_ne1 (by omega))]
              unfold hintX
              by_cases z : v = 0
              · rw [if_pos (v0.mpr z), show oI (some X) = nI X from rfl, a_bits x1, Option.bind_some]
                dsimp only
                rw [if_pos z]
              · rw [if_neg (fun q => z (v0.mp q)), show oI (some X) = nI X from rfl, a_cellAt x1 (by omega) hv, Option.bind_some]
                dsimp only
                rw [if_neg z]
          · unfold fX6_hints
            rw [h2, Option.bind_some, if_pos (iz0 a), ein, Option.bind_some, if_neg (izn b0), b1, Option.bind_some, fi, Option.bind_some, if_neg (izn fq), ey, Option.bind_some, if_neg (izn c), ms'.hd, if_neg (fun z => d (c2.mp z)), nI_1, r2, Option.bind_some]
      · refine ⟨-102, E', M', ?_, ?_, A, o.dn, es', ec', ms', mc'⟩
        · unfold fX5_hints
          rw [h1, Option.bind_some, if_neg (izn a), a1, Option.bind_some, ho, Option.bind_some, if_neg (izn bh)]
          by_cases d : y < 0
          · rw [if_pos d]
          · rw [if_neg d, if_neg (by rw [j2]; rw [j1] at d; omega)]
        · unfold fX6_hints
          rw [h2, Option.bind_some, if_pos (iz0 a), ein, Option.bind_some, if_neg (izn b0), b1, Option.bind_some, fi, Option.bind_some, if_neg (izn fq), ey, Option.bind_some, if_pos (iz0 c)]
    · have g5 : fX5_hints E x y = some (-101, E') := by
        unfold fX5_hints
        rw [h1, Option.bind_some, if_neg (izn a), a1, Option.bind_some, ho, Option.bind_some, if_pos (iz0 b)]
      by_cases b0 : 0 ≤ x.toInt ∧ x.toInt < ((2 ^ (A.t.h * A.t.w) : Nat) : Int)
      · refine ⟨-101, E', M', g5, ?_, A, o.dn, es', ec', ms', mc'⟩
        obtain ⟨p, hp, rfl⟩ := nI_of3 b0
        have fi := c_isFit f2.wk (show p < 65536 by omega)
        have fq : ¬ (p < 2 ^ (A.t.h * A.t.w) ∧ A.t.F p = true) := fun q => b ⟨p, tb_Lm.mpr q, rfl⟩
        unfold fX6_hints
        rw [h2, Option.bind_some, if_pos (iz0 a), ein, Option.bind_some, if_neg (izn b0), b1, Option.bind_some, fi, Option.bind_some, if_pos (iz0 fq)]
      · refine ⟨-101, E', M, g5, ?_, A, o.dn, es', ec', ms, mc⟩
        unfold fX6_hints
        rw [h2, Option.bind_some, if_pos (iz0 a), ein, Option.bind_some, if_pos (iz0 b0)]
