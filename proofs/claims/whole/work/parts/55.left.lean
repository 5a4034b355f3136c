/-! left, picture, look, cell -/
theorem both {n : Nat} {A : Ab} {E : OE} {M : OM} (o : abOK n A) (es : ES A E) (ec : EC A E) (ms : MS A M) (mc : MC A M) (hb : ¬ A.t.h = 0) : ∃ E' M', fX5_settled E = some E' ∧ fX6_freshen M = some M' ∧ ES A E' ∧ EC A E' ∧ MS A M' ∧ MC A M' ∧ fitsO (E'.2 5) A.t.L ∧ fM M' A.t.h A.t.w A.t.F := by
  obtain ⟨E', a1, a2, a3, a4, a5⟩ := a_settled o es ec hb
  obtain ⟨M', b1, b2, b3, b4, _⟩ := c_fresh o ms mc
  exact ⟨E', M', a1, b1, a2, fun _ _ => ⟨a4, a5⟩, b2, fun _ => b4, a4, b4⟩
theorem fM.nL {M : OM} {t : Tb} (f : fM M t.h t.w t.F) : M.1 22 = nI t.L.length := f.n
theorem fM.bL {M : OM} {t : Tb} (f : fM M t.h t.w t.F) {j : Nat} (hj : j < 16) : M.2.1 23 j = nI (blkL t.L j) := f.b j hj
theorem op_left : opL11 Rel := by
  rintro n E M ⟨A, o, es, ec, ms, mc⟩
  have h1 := a_isBoard o.t es.t
  have h2 := c_lacks o.t.hh ms.h
  by_cases a : A.t.h = 0
  · refine ⟨-103, E, M, ?_, ?_, A, o.dn, es, ec, ms, mc⟩
    · unfold fX5_left
      rw [h1, Option.bind_some, if_pos (iz0 (fun k => k a))]
    · unfold fX6_left
      rw [h2, Option.bind_some, if_neg (izn a)]
  · obtain ⟨E', M', a1, b1, es', ec', ms', mc', f1, f2⟩ := both o es ec ms mc a
    refine ⟨nI A.t.L.length, E', M', ?_, ?_, A, o.dn, es', ec', ms', mc'⟩
    · unfold fX5_left
      rw [h1, Option.bind_some, if_neg (izn a), a1, Option.bind_some, f1.1]
    · unfold fX6_left fX6_leftOf
      rw [h2, Option.bind_some, if_pos (iz0 a), b1, Option.bind_some, Option.bind_some, f2.nL]
def picV (t : Tb) (j : Nat) : Int32 := match t.L[j]? with | some q => nI q | none => -1
theorem hd_drop {L : List Nat} {i q : Nat} (h : L[i]? = some q) : hdI (L.drop i) = nI q := by
  obtain ⟨h1, h2⟩ := List.getElem?_eq_some_iff.mp h
  rw [List.drop_eq_getElem_cons h1, h2]
  rfl
theorem c_soM {M : OM} {t : Tb} (o : tbOK t) (f : fM M t.h t.w t.F) {j : Nat} (hj : j < t.L.length) : fX6_soManieth M (nI j) = some (picV t j) := by
  have hL := tb_L o
  have get : ∀ k, k < t.L.length → ∃ q, t.L[k]? = some q ∧ q < 2 ^ 16 := fun k hk => ⟨t.L[k], List.getElem?_eq_getElem hk, tb_Lt o (List.getElem_mem hk)⟩
  unfold fX6_soManieth
  have n0 : fX6_nextFit M (-1 : Int32) = some (hdI t.L) := c_next0 f.wk
  rw [n0, Option.bind_some]
  obtain ⟨q, hq, _⟩ := get j hj
  have ev : picV t j = nI q := by unfold picV; rw [hq]
  refine wh_b (fun k => (hdI (t.L.drop k), nI k)) j (nI q) rfl (by omega) ?_ ?_ (by rw [ev]; rfl)
  · intro k hk
    obtain ⟨p, hp, hp2⟩ := get k (by omega)
    have c1 : ¬ nI j ≤ nI k := by rw [nI_leI (by omega) (by omega)]; omega
    show fX6_soManieth_L8 M (nI j) (hdI (t.L.drop k)) (nI k) = _
    unfold fX6_soManieth_L8
    have nx : fX6_nextFit M (nI p) = some (hdI (t.L.drop (k + 1))) := c_nextI f.wk hp
    rw [if_neg c1, hd_drop hp, if_neg (nI_ne1 (by omega)), nx, Option.bind_some, nI_1]
  · show fX6_soManieth_L8 M (nI j) (hdI (t.L.drop j)) (nI j) = _
    unfold fX6_soManieth_L8
    rw [if_pos (Int32.le_refl _), hd_drop hq]
theorem a_pic {A : Ab} {E : OE} (o : tbOK A.t) (f : fitsO (E.2 5) A.t.L) {j : Nat} (hj : j < 2 ^ 31) : fX0_at 1690 (E.2 5) (nI j) = some (picV A.t j) := a_at f (tb_L o) (by decide) hj
theorem c_pic {A : Ab} {M M' : OM} (o : tbOK A.t) (b1 : fX6_freshen M = some M') (f : fM M' A.t.h A.t.w A.t.F) {j : Nat} (hj : j < 2 ^ 31) : fX6_pictureOf M (nI j) = some (picV A.t j, M') := by
  have hL := tb_L o
  unfold fX6_pictureOf
  rw [b1, Option.bind_some, f.nL]
  by_cases a : A.t.L.length ≤ j
  · rw [if_pos (by rw [nI_leI (by omega) hj]; exact a)]
    unfold picV
    rw [List.getElem?_eq_none a]
  · rw [if_neg (by rw [nI_leI (by omega) hj]; exact a), c_soM o f (by omega), Option.bind_some]
theorem op_picture : opL12 Rel := by
  rintro n E M x ⟨A, o, es, ec, ms, mc⟩
  have hR : Rel n E M := ⟨A, o.dn, es, ec, ms, mc⟩
  have h1 := a_isBoard o.t es.t
  have h2 := c_lacks o.t.hh ms.h
  by_cases c : 0 ≤ x
  · by_cases a : A.t.h = 0
    · refine ⟨-103, E, M, ?_, ?_, hR⟩
      · unfold fX5_picture
        rw [if_pos c, h1, Option.bind_some, if_pos (iz0 (fun k => k a))]
      · unfold fX6_picture
        rw [if_pos c, h2, Option.bind_some, if_neg (izn a)]
    · obtain ⟨E', M', a1, b1, es', ec', ms', mc', f1, f2⟩ := both o es ec ms mc a
      obtain ⟨j, hj, rfl⟩ := nI_of (x := x) (Int32.not_lt.mpr c)
      refine ⟨picV A.t j, E', M', ?_, ?_, A, o.dn, es', ec', ms', mc'⟩
      · unfold fX5_picture
        rw [if_pos c, h1, Option.bind_some, if_neg (izn a), a1, Option.bind_some, a_pic o.t f1 hj, Option.bind_some]
      · unfold fX6_picture
        rw [if_pos c, h2, Option.bind_some, if_pos (iz0 a), c_pic o.t b1 f2 hj, Option.bind_some]
  · refine ⟨-102, E, M, ?_, ?_, hR⟩
    · unfold fX5_picture
      rw [if_neg c]
    · unfold fX6_picture
      rw [if_neg c]
/-! the best cell -/
def wN (n b : Nat) : Nat := if b < n - b then n - b else b
def bsN (g : Nat → Nat) (mk : Nat) : Nat → Option (Nat × Nat)
  | 0 => none
  | k + 1 => if mk.testBit k = true then bsN g mk k else match bsN g mk k with
    | none => some (k, g k)
    | some r => if g k < r.2 then some (k, g k) else some r
def bsI (r : Option (Nat × Nat)) : Int32 := match r with | none => -1 | some r => nI r.1
def bsW (d : Int32) (r : Option (Nat × Nat)) : Int32 := match r with | none => d | some r => nI r.2
theorem bsN_le {g : Nat → Nat} {mk k : Nat} {r : Nat × Nat} {N : Nat} (hg : ∀ j, g j ≤ N) : bsN g mk k = some r → r.1 < k ∧ r.2 ≤ N := by
  induction k with
  | zero => intro h; cases h
  | succ k ih =>
    intro h
    show r.1 < k + 1 ∧ _
    unfold bsN at h
    by_cases a : mk.testBit k = true
    · rw [if_pos a] at h
      have := ih h
      omega
    · rw [if_neg a] at h
      cases e : bsN g mk k with
      | none =>
        rw [e] at h
        simp only [Option.some.injEq] at h
        rw [← h]
        exact ⟨Nat.lt_succ_self _, hg k⟩
      | some r' =>
        rw [e] at h ih
        dsimp only at h
        split at h
        · simp only [Option.some.injEq] at h
          rw [← h]
          exact ⟨Nat.lt_succ_self _, hg k⟩
        · simp only [Option.some.injEq] at h
          subst h
          have := ih rfl
          omega
theorem wN_le {n b : Nat} (h : b ≤ n) : wN n b ≤ n := by unfold wN; split <;> omega
theorem wN_i {n b : Nat} (hb : b ≤ n) (hn : n < 2 ^ 30) : (if nI b < nI n - nI b then nI n - nI b else nI b) = nI (wN n b) := by
  unfold wN
  rw [pk_sub hb]
  by_cases a : b < n - b
  · rw [if_pos a, if_pos (by rw [nI_ltI (by omega) (by omega)]; exact a)]
  · rw [if_neg a, if_neg (by rw [nI_ltI (by omega) (by omega)]; exact a)]
theorem a_bestLook {cN : Nat} {S : Ob} {L : List Nat} (f : fitsO S L) (hl : L.length < 90000) {m mk : Nat} (hm : m ≤ 16) (hk : mk < 2 ^ 16) : fX0_bestLook cN S (nI m) (nI mk) = some (if L.length = 0 then -1 else bsI (bsN (fun k => wN L.length (blkL L k)) mk m)) := by
  unfold fX0_bestLook
  rw [f.1]
  by_cases z : L.length = 0
  · rw [if_pos (by rw [z]; rfl), if_pos z]
  · rw [if_neg (nI_ne0 (by omega) (by omega)), if_neg z]
    have hg : ∀ j, (fun k => wN L.length (blkL L k)) j ≤ L.length := fun j => wN_le (blkL_le L j)
    refine wh_b (fun k => (bsI (bsN (fun k => wN L.length (blkL L k)) mk k), bsW (nI L.length) (bsN (fun k => wN L.length (blkL L k)) mk k), nI k)) m (bsI (bsN (fun k => wN L.length (blkL L k)) mk m)) rfl (by omega) ?_ ?_ rfl
    · intro k hk2
      have c1 : ¬ nI m ≤ nI k := by rw [nI_leI (by omega) (by omega)]; omega
      have c2 := nbit0 (a := mk) (k := k) (by omega) (by omega)
      have hb := blkL_le L k
      have wi := wN_i hb (show L.length < 2 ^ 30 by omega)
      have bi := a_blackIn cN f (show k < 16 by omega)
      have hgk := hg k
      dsimp only at hgk
      show fX0_bestLook_L20 cN S (nI m) (nI mk) (bsI (bsN (fun k => wN L.length (blkL L k)) mk k)) (bsW (nI L.length) (bsN (fun k => wN L.length (blkL L k)) mk k)) (nI k) = some (.inl (bsI (bsN (fun k => wN L.length (blkL L k)) mk (k + 1)), bsW (nI L.length) (bsN (fun k => wN L.length (blkL L k)) mk (k + 1)), nI (k + 1)))
      unfold fX0_bestLook_L20
      rw [if_neg c1, f.1]
      have st : bsN (fun k => wN L.length (blkL L k)) mk (k + 1) = if mk.testBit k = true then bsN (fun k => wN L.length (blkL L k)) mk k else match bsN (fun k => wN L.length (blkL L k)) mk k with
        | none => some (k, wN L.length (blkL L k))
        | some r => if wN L.length (blkL L k) < r.2 then some (k, wN L.length (blkL L k)) else some r := rfl
      rw [st]
      by_cases a : mk.testBit k = true
      · rw [if_neg (by rw [c2, a]; decide), if_pos a, nI_1]
      · rw [if_pos (c2.mpr (by simpa using a)), if_neg a, bi, Option.bind_some, Option.bind_some, wi, nI_1]
        cases e : bsN (fun k => wN L.length (blkL L k)) mk k with
        | none =>
          rw [if_pos (show bsI none = -1 from rfl)]
          rfl
        | some r =>
          obtain ⟨r1, r2⟩ := bsN_le hg e
          rw [if_neg (show ¬ bsI (some r) = -1 from nI_ne1 (by omega))]
          have c3 : bsW (nI L.length) (some r) ≤ nI (wN L.length (blkL L k)) ↔ ¬ wN L.length (blkL L k) < r.2 := by
            show nI r.2 ≤ _ ↔ _
            rw [nI_leI (by omega) (by omega)]; omega
          by_cases b : wN L.length (blkL L k) < r.2
          · rw [if_neg (by rw [c3]; exact fun q => q b)]
            dsimp only
            rw [if_pos b]
            rfl
          · rw [if_pos (c3.mpr b)]
            dsimp only
            rw [if_neg b]
    · show fX0_bestLook_L20 cN S (nI m) (nI mk) (bsI (bsN (fun k => wN L.length (blkL L k)) mk m)) (bsW (nI L.length) (bsN (fun k => wN L.length (blkL L k)) mk m)) (nI m) = _
      unfold fX0_bestLook_L20
      rw [if_pos (Int32.le_refl _)]
theorem c_bestCell23 {M : OM} {h w n mk : Nat} {b : Nat → Nat} (h9 : M.1 9 = nI h) (h10 : M.1 10 = nI w) (hm : h * w ≤ 16) (hb : ∀ j, j < 16 → M.2.1 23 j = nI (b j)) (hbn : ∀ j, b j ≤ n) (hn : n < 90000) (hk : mk < 2 ^ 16) : fX6_bestCell_23 M (nI n) (nI mk) = some (if n = 0 then -1 else bsI (bsN (fun k => wN n (b k)) mk (h * w))) := by
  unfold fX6_bestCell_23
  by_cases z : n = 0
  · rw [if_pos z]
    have : fX6_bestCell_23_L11 M (nI n) (nI mk) (-1) 100000 0 = some (.inr (-1)) := by
      unfold fX6_bestCell_23_L11
      rw [h9, h10, pk_mul]
      by_cases q : nI (h * w) ≤ 0
      · rw [if_pos q]
      · rw [if_neg q, if_pos (by rw [z]; exact Int32.le_refl _)]
    rw [wh_r this]
    rfl
  · rw [if_neg z]
    have hg : ∀ j, (fun k => wN n (b k)) j ≤ n := fun j => wN_le (hbn j)
    refine wh_b (fun k => (bsI (bsN (fun k => wN n (b k)) mk k), bsW 100000 (bsN (fun k => wN n (b k)) mk k), nI k)) (h * w) (bsI (bsN (fun k => wN n (b k)) mk (h * w))) rfl (by omega) ?_ ?_ rfl
    · intro k hk2
      have c1 : ¬ nI (h * w) ≤ nI k := by rw [nI_leI (by omega) (by omega)]; omega
      have c2 := nbit0 (a := mk) (k := k) (by omega) (by omega)
      have hbk := hbn k
      have o1 := okI_t (show k < 16 by omega) (by decide)
      have cl : (nI k).toNatClampNeg = k := nI_clamp (by omega)
      have hgk := hg k
      dsimp only at hgk
      show fX6_bestCell_23_L11 M (nI n) (nI mk) (bsI (bsN (fun k => wN n (b k)) mk k)) (bsW 100000 (bsN (fun k => wN n (b k)) mk k)) (nI k) = some (.inl (bsI (bsN (fun k => wN n (b k)) mk (k + 1)), bsW 100000 (bsN (fun k => wN n (b k)) mk (k + 1)), nI (k + 1)))
      have st : bsN (fun k => wN n (b k)) mk (k + 1) = if mk.testBit k = true then bsN (fun k => wN n (b k)) mk k else match bsN (fun k => wN n (b k)) mk k with
        | none => some (k, wN n (b k))
        | some r => if wN n (b k) < r.2 then some (k, wN n (b k)) else some r := rfl
      have toJ : fX6_bestCell_23_L11 M (nI n) (nI mk) (bsI (bsN (fun k => wN n (b k)) mk k)) (bsW 100000 (bsN (fun k => wN n (b k)) mk k)) (nI k) = fX6_bestCell_23_J55 M (nI n) (nI mk) (bsI (bsN (fun k => wN n (b k)) mk k)) (bsW 100000 (bsN (fun k => wN n (b k)) mk k)) (nI k) (nI (wN n (b k))) := by
        unfold fX6_bestCell_23_L11
        rw [h9, h10, pk_mul, if_neg c1, if_neg (nI_nle (by omega) (by omega)), if_pos o1, if_pos o1, cl, hb k (by omega), pk_sub hbk]
        unfold wN
        by_cases q : b k ≤ n - b k
        · rw [if_pos (by rw [nI_leI (by omega) (by omega)]; exact q), if_pos o1]
          by_cases q2 : b k < n - b k
          · rw [if_pos q2]
          · rw [if_neg q2, show n - b k = b k by omega]
        · rw [if_neg (by rw [nI_leI (by omega) (by omega)]; exact q), if_pos o1, if_neg (by omega)]
      rw [toJ, st]
      unfold fX6_bestCell_23_J55
      by_cases a : mk.testBit k = true
      · rw [if_neg (by rw [c2, a]; decide), if_pos a, nI_1]
      · rw [if_pos (c2.mpr (by simpa using a)), if_neg a, nI_1]
        cases e : bsN (fun k => wN n (b k)) mk k with
        | none =>
          have c4 : ¬ bsW 100000 none ≤ nI (wN n (b k)) := by
            show ¬ nI 100000 ≤ _
            rw [nI_leI (by decide) (by omega)]; omega
          rw [if_neg c4]
          rfl
        | some r =>
          obtain ⟨r1, r2⟩ := bsN_le hg e
          have c3 : bsW 100000 (some r) ≤ nI (wN n (b k)) ↔ ¬ wN n (b k) < r.2 := by
            show nI r.2 ≤ _ ↔ _
            rw [nI_leI (by omega) (by omega)]; omega
          by_cases b1 : wN n (b k) < r.2
          · rw [if_neg (by rw [c3]; exact fun q => q b1)]
            dsimp only
            rw [if_pos b1]
            rfl
          · rw [if_pos (c3.mpr b1)]
            dsimp only
            rw [if_neg b1]
    · show fX6_bestCell_23_L11 M (nI n) (nI mk) (bsI (bsN (fun k => wN n (b k)) mk (h * w))) (bsW 100000 (bsN (fun k => wN n (b k)) mk (h * w))) (nI (h * w)) = _
      unfold fX6_bestCell_23_L11
      rw [h9, h10, pk_mul, if_pos (Int32.le_refl _)]
def lookV (t : Tb) : Int32 := if t.L.length = 0 then -1 else bsI (bsN (fun k => wN t.L.length (blkL t.L k)) (t.bl ||| t.wt) (t.h * t.w))
theorem a_cells {T : Ob} {t : Tb} (q : tT T t) : fX4_cells T = some (nI (t.h * t.w)) := by
  unfold fX4_cells
  rw [q.h, q.w, pk_mul]
theorem a_lines {T : Ob} {t : Tb} (q : tT T t) : fX4_lines T = some (nI (t.h + t.w)) := by
  unfold fX4_lines
  rw [q.h, q.w, nI_add]
theorem c_look {A : Ab} {M M' : OM} (o : tbOK A.t) (b1 : fX6_freshen M = some M') (ms : MS A M') (f : fM M' A.t.h A.t.w A.t.F) : fX6_lookOf M = some (lookV A.t, M') := by
  have hL := tb_L o
  unfold fX6_lookOf
  rw [b1, Option.bind_some, c_mk1 o ms.h ms.w ms.t.mk, Option.bind_some, c_mk2 o ms.h ms.w ms.t.mk, Option.bind_some, nq_or (Nat.lt_of_lt_of_le (tt_b o) (by decide)) (Nat.lt_of_lt_of_le (tt_w o) (by decide)), f.nL, c_bestCell23 (b := blkL A.t.L) ms.h ms.w o.hm (fun j hj => f.bL hj) (fun j => blkL_le _ j) (by omega) (Nat.or_lt_two_pow (tt_b o) (tt_w o)), Option.bind_some]
  rfl
theorem op_look : opL13 Rel := by
  rintro n E M ⟨A, o, es, ec, ms, mc⟩
  have h1 := a_isBoard o.t es.t
  have h2 := c_lacks o.t.hh ms.h
  by_cases a : A.t.h = 0
  · refine ⟨-103, E, M, ?_, ?_, A, o.dn, es, ec, ms, mc⟩
    · unfold fX5_look
      rw [h1, Option.bind_some, if_pos (iz0 (fun k => k a))]
    · unfold fX6_look
      rw [h2, Option.bind_some, if_neg (izn a)]
  · obtain ⟨E', M', a1, b1, es', ec', ms', mc', f1, f2⟩ := both o es ec ms mc a
    have hL := tb_L o.t
    refine ⟨lookV A.t, E', M', ?_, ?_, A, o.dn, es', ec', ms', mc'⟩
    · unfold fX5_look
      rw [h1, Option.bind_some, if_neg (izn a), a1, Option.bind_some, a_cells es'.t, Option.bind_some, a_marked o.t es'.t, Option.bind_some, a_bestLook f1 (by omega) o.t.hm (Nat.or_lt_two_pow (tt_b o.t) (tt_w o.t)), Option.bind_some]
      rfl
    · unfold fX6_look
      rw [h2, Option.bind_some, if_pos (iz0 a), c_look o.t b1 ms' f2, Option.bind_some]
