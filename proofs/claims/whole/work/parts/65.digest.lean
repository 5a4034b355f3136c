/-! digest -/
def syV (h : Int64) (v : Int32) : Int64 := ((31 : Int64) * h) + v.toInt64
def hLn (t : Tb) (l : Nat) (h : Int64) : Nat → Int64
  | 0 => h
  | k + 1 => if k = 4 then hLn t l h k else syV (hLn t l h k) (lineV t l k)
def hLs (t : Tb) (h : Int64) : Nat → Int64
  | 0 => h
  | l + 1 => hLn t l (hLs t h l) 7
def hCn (t : Tb) (c : Nat) (h : Int64) : Nat → Int64
  | 0 => h
  | k + 1 => syV (hCn t c h k) (cellV t c k)
def hCs (t : Tb) (h : Int64) : Nat → Int64
  | 0 => h
  | c + 1 => hCn t c (hCs t h c) 3
def hPs (A : Ab) (h : Int64) : Nat → Int64
  | 0 => h
  | k + 1 => syV (hPs A h k) (nI (A.pc k))
def hQs (A : Ab) (h : Int64) : Nat → Int64
  | 0 => h
  | k + 1 => syV (hQs A h k) (countV A k)
def hBd (t : Tb) (h : Int64) : Int64 := if t.h = 0 then h else syV (syV (syV h (nI t.L.length)) (picV t 0)) (lookV t)
def digV (A : Ab) : Int64 := hQs A (hPs A (hBd A.t (hCs A.t (hLs A.t 1301 (A.t.h + A.t.w)) (A.t.h * A.t.w))) A.ps) 11
theorem a_leftV {A : Ab} {E : OE} {n : Nat} (o : abOK n A) (k : kE A E) (hb : ¬ A.t.h = 0) : ∃ E', fX5_left E = some (nI A.t.L.length, E') ∧ kE A E' := by
  obtain ⟨E', e1, e2, e3⟩ := settl o k.1 k.2 hb
  refine ⟨E', ?_, e2⟩
  unfold fX5_left
  rw [a_isBoard o.t k.1.t, Option.bind_some, if_neg (izn hb), e1, Option.bind_some, e3.1]
theorem a_picV {A : Ab} {E : OE} {n : Nat} (o : abOK n A) (k : kE A E) (hb : ¬ A.t.h = 0) : ∃ E', fX5_picture E 0 = some (picV A.t 0, E') ∧ kE A E' := by
  obtain ⟨E', e1, e2, e3⟩ := settl o k.1 k.2 hb
  refine ⟨E', ?_, e2⟩
  unfold fX5_picture
  rw [if_pos (by decide), a_isBoard o.t k.1.t, Option.bind_some, if_neg (izn hb), e1, Option.bind_some, show (0 : Int32) = nI 0 from rfl, a_pic o.t e3 (by decide), Option.bind_some]
theorem a_lookV {A : Ab} {E : OE} {n : Nat} (o : abOK n A) (k : kE A E) (hb : ¬ A.t.h = 0) : ∃ E', fX5_look E = some (lookV A.t, E') ∧ kE A E' := by
  obtain ⟨E', e1, e2, e3⟩ := settl o k.1 k.2 hb
  have hL := tb_L o.t
  refine ⟨E', ?_, e2⟩
  unfold fX5_look
  rw [a_isBoard o.t k.1.t, Option.bind_some, if_neg (izn hb), e1, Option.bind_some, a_cells e2.1.t, Option.bind_some, a_marked o.t e2.1.t, Option.bind_some, a_bestLook e3 (by omega) o.t.hm (Nat.or_lt_two_pow (tt_b o.t) (tt_w o.t)), Option.bind_some]
  rfl
theorem a_dL20 {A : Ab} {E : OE} {n : Nat} (o : abOK n A) (k : kE A E) {l : Nat} (hl : l < A.t.h + A.t.w) (h : Int64) : ∃ E', wh (σ := Int64 × Int32 × OE) (ρ := Int64 × OE) (fun t => fX5_digest_L20 (nI l) t.1 t.2.1 t.2.2) 100000 (h, (0 : Int32), E) = some (hLn A.t l h 7, E') ∧ kE A E' := by
  obtain ⟨r, r1, r2, r3⟩ := wh_inv (body := fun t => fX5_digest_L20 (nI l) t.1 t.2.1 t.2.2) (fun k (u : Int64 × Int32 × OE) => u.1 = hLn A.t l h k ∧ u.2.1 = nI k ∧ kE A u.2.2) (fun (u : Int64 × OE) => u.1 = hLn A.t l h 7 ∧ kE A u.2) 7
    (by
      rintro j ⟨x, y, E1⟩ hj ⟨e1, e2, e3⟩
      dsimp only at e1 e2 e3
      subst e1 e2
      have c1 : ¬ (6 : Int32) < nI j := by rw [show (6 : Int32) = nI 6 from rfl, nI_ltI (by omega) (by omega)]; omega
      have c2 : nI j = (4 : Int32) ↔ j = 4 := nI_eq (b := 4) (by omega) (by decide)
      by_cases a : j = 4
      · refine ⟨(hLn A.t l h (j + 1), nI (j + 1), E1), ?_, rfl, rfl, e3⟩
        show fX5_digest_L20 (nI l) (hLn A.t l h j) (nI j) E1 = some (.inl ((if j = 4 then hLn A.t l h j else syV (hLn A.t l h j) (lineV A.t l j)), nI (j + 1), E1))
        unfold fX5_digest_L20
        rw [if_neg c1, if_pos (c2.mpr a), if_pos a, nI_1]
      · obtain ⟨E2, f1, f2⟩ := a_lineV o e3.1 e3.2 hl hj
        refine ⟨(hLn A.t l h (j + 1), nI (j + 1), E2), ?_, rfl, rfl, f2⟩
        show fX5_digest_L20 (nI l) (hLn A.t l h j) (nI j) E1 = some (.inl ((if j = 4 then hLn A.t l h j else syV (hLn A.t l h j) (lineV A.t l j)), nI (j + 1), E2))
        unfold fX5_digest_L20
        rw [if_neg c1, if_neg (fun z => a (c2.mp z)), if_neg a, f1, Option.bind_some, nI_1]
        rfl)
    (by
      rintro ⟨x, y, E1⟩ ⟨e1, e2, e3⟩
      dsimp only at e1 e2 e3
      subst e1 e2
      refine ⟨(hLn A.t l h 7, E1), ?_, rfl, e3⟩
      show fX5_digest_L20 (nI l) (hLn A.t l h 7) (nI 7) E1 = _
      unfold fX5_digest_L20
      rw [if_pos (by decide)])
    (n := 100000) (s := (h, (0 : Int32), E)) ⟨rfl, rfl, k⟩ (by decide)
  refine ⟨r.2, ?_, r3⟩
  rw [r1, ← r2]
theorem a_dL6 {A : Ab} {E : OE} {n : Nat} (o : abOK n A) (k : kE A E) (h : Int64) : ∃ E', wh (σ := Int64 × Int32 × OE) (ρ := Int64 × OE) (fun t => fX5_digest_L6 t.1 t.2.1 t.2.2) 100000 (h, (0 : Int32), E) = some (hLs A.t h (A.t.h + A.t.w), E') ∧ kE A E' := by
  have hl8 := o.t.hl
  obtain ⟨r, r1, r2, r3⟩ := wh_inv (body := fun t => fX5_digest_L6 t.1 t.2.1 t.2.2) (fun k (u : Int64 × Int32 × OE) => u.1 = hLs A.t h k ∧ u.2.1 = nI k ∧ kE A u.2.2) (fun (u : Int64 × OE) => u.1 = hLs A.t h (A.t.h + A.t.w) ∧ kE A u.2) (A.t.h + A.t.w)
    (by
      rintro j ⟨x, y, E1⟩ hj ⟨e1, e2, e3⟩
      dsimp only at e1 e2 e3
      subst e1 e2
      have c1 : ¬ nI (A.t.h + A.t.w) ≤ nI j := by rw [nI_leI (by omega) (by omega)]; omega
      obtain ⟨E2, f1, f2⟩ := a_dL20 o e3 hj (hLs A.t h j)
      refine ⟨(hLs A.t h (j + 1), nI (j + 1), E2), ?_, rfl, rfl, f2⟩
      show fX5_digest_L6 (hLs A.t h j) (nI j) E1 = some (.inl (hLn A.t j (hLs A.t h j) 7, nI (j + 1), E2))
      unfold fX5_digest_L6 fX5_digest_J54
      rw [a_lines e3.1.t, Option.bind_some, if_neg c1, f1, Option.bind_some, nI_1])
    (by
      rintro ⟨x, y, E1⟩ ⟨e1, e2, e3⟩
      dsimp only at e1 e2 e3
      subst e1 e2
      refine ⟨(hLs A.t h (A.t.h + A.t.w), E1), ?_, rfl, e3⟩
      show fX5_digest_L6 (hLs A.t h (A.t.h + A.t.w)) (nI (A.t.h + A.t.w)) E1 = _
      unfold fX5_digest_L6
      rw [a_lines e3.1.t, Option.bind_some, if_pos (Int32.le_refl _)])
    (n := 100000) (s := (h, (0 : Int32), E)) ⟨rfl, rfl, k⟩ (by omega)
  refine ⟨r.2, ?_, r3⟩
  rw [r1, ← r2]
theorem a_dL76 {A : Ab} {E : OE} {n : Nat} (o : abOK n A) (k : kE A E) {c : Nat} (hc : c < A.t.h * A.t.w) (h : Int64) : ∃ E', wh (σ := Int64 × Int32 × OE) (ρ := Int64 × OE) (fun t => fX5_digest_L76 (nI c) t.1 t.2.1 t.2.2) 100000 (h, (0 : Int32), E) = some (hCn A.t c h 3, E') ∧ kE A E' := by
  obtain ⟨r, r1, r2, r3⟩ := wh_inv (body := fun t => fX5_digest_L76 (nI c) t.1 t.2.1 t.2.2) (fun k (u : Int64 × Int32 × OE) => u.1 = hCn A.t c h k ∧ u.2.1 = nI k ∧ kE A u.2.2) (fun (u : Int64 × OE) => u.1 = hCn A.t c h 3 ∧ kE A u.2) 3
    (by
      rintro j ⟨x, y, E1⟩ hj ⟨e1, e2, e3⟩
      dsimp only at e1 e2 e3
      subst e1 e2
      have c1 : ¬ (2 : Int32) < nI j := by rw [show (2 : Int32) = nI 2 from rfl, nI_ltI (by omega) (by omega)]; omega
      obtain ⟨E2, f1, f2⟩ := a_cellV o e3.1 e3.2 hc hj
      refine ⟨(hCn A.t c h (j + 1), nI (j + 1), E2), ?_, rfl, rfl, f2⟩
      show fX5_digest_L76 (nI c) (hCn A.t c h j) (nI j) E1 = some (.inl (syV (hCn A.t c h j) (cellV A.t c j), nI (j + 1), E2))
      unfold fX5_digest_L76
      rw [if_neg c1, f1, Option.bind_some, nI_1]
      rfl)
    (by
      rintro ⟨x, y, E1⟩ ⟨e1, e2, e3⟩
      dsimp only at e1 e2 e3
      subst e1 e2
      refine ⟨(hCn A.t c h 3, E1), ?_, rfl, e3⟩
      show fX5_digest_L76 (nI c) (hCn A.t c h 3) (nI 3) E1 = _
      unfold fX5_digest_L76
      rw [if_pos (by decide)])
    (n := 100000) (s := (h, (0 : Int32), E)) ⟨rfl, rfl, k⟩ (by decide)
  refine ⟨r.2, ?_, r3⟩
  rw [r1, ← r2]
theorem a_dL62 {A : Ab} {E : OE} {n : Nat} (o : abOK n A) (k : kE A E) (h : Int64) : ∃ E', wh (σ := Int64 × Int32 × OE) (ρ := Int64 × OE) (fun t => fX5_digest_L62 t.1 t.2.1 t.2.2) 100000 (h, (0 : Int32), E) = some (hCs A.t h (A.t.h * A.t.w), E') ∧ kE A E' := by
  have hm := o.t.hm
  obtain ⟨r, r1, r2, r3⟩ := wh_inv (body := fun t => fX5_digest_L62 t.1 t.2.1 t.2.2) (fun k (u : Int64 × Int32 × OE) => u.1 = hCs A.t h k ∧ u.2.1 = nI k ∧ kE A u.2.2) (fun (u : Int64 × OE) => u.1 = hCs A.t h (A.t.h * A.t.w) ∧ kE A u.2) (A.t.h * A.t.w)
    (by
      rintro j ⟨x, y, E1⟩ hj ⟨e1, e2, e3⟩
      dsimp only at e1 e2 e3
      subst e1 e2
      have c1 : ¬ nI (A.t.h * A.t.w) ≤ nI j := by rw [nI_leI (by omega) (by omega)]; omega
      obtain ⟨E2, f1, f2⟩ := a_dL76 o e3 hj (hCs A.t h j)
      refine ⟨(hCs A.t h (j + 1), nI (j + 1), E2), ?_, rfl, rfl, f2⟩
      show fX5_digest_L62 (hCs A.t h j) (nI j) E1 = some (.inl (hCn A.t j (hCs A.t h j) 3, nI (j + 1), E2))
      unfold fX5_digest_L62 fX5_digest_J103
      rw [a_cells e3.1.t, Option.bind_some, if_neg c1, f1, Option.bind_some, nI_1])
    (by
      rintro ⟨x, y, E1⟩ ⟨e1, e2, e3⟩
      dsimp only at e1 e2 e3
      subst e1 e2
      refine ⟨(hCs A.t h (A.t.h * A.t.w), E1), ?_, rfl, e3⟩
      show fX5_digest_L62 (hCs A.t h (A.t.h * A.t.w)) (nI (A.t.h * A.t.w)) E1 = _
      unfold fX5_digest_L62
      rw [a_cells e3.1.t, Option.bind_some, if_pos (Int32.le_refl _)])
    (n := 100000) (s := (h, (0 : Int32), E)) ⟨rfl, rfl, k⟩ (by omega)
  refine ⟨r.2, ?_, r3⟩
  rw [r1, ← r2]
theorem a_codeAt {A : Ab} {E : OE} {n : Nat} (o : abOK n A) (es : ES A E) {i : Nat} (hi : i < A.ps) : fX2_codeAt (E.2 0) (nI i) = some (nI (A.pc i)) := by
  have := o.ps
  have c1 : ¬ Int32.ofNat 36 ≤ nI i := by
    show ¬ nI 36 ≤ nI i
    rw [nI_leI (by omega) (by omega)]; omega
  unfold fX2_codeAt
  rw [if_neg (nI_pos (by omega)), if_neg c1, if_pos (okI_t (show i < 36 by omega) (by decide)), nI_clamp (by omega), es.pc i hi]
theorem a_dL158 {A : Ab} {E : OE} {n : Nat} (o : abOK n A) (k : kE A E) (h : Int64) : wh (σ := Int64 × Int32) (ρ := Int64) (fun t => fX5_digest_L158 E t.1 t.2) 100000 (h, (0 : Int32)) = some (hPs A h A.ps) := by
  have := o.ps
  refine wh_for0 (fun j => (hPs A h j, nI j)) A.ps rfl (by omega) ?_ ?_
  · intro j hj
    show fX5_digest_L158 E (hPs A h j) (nI j) = some (.inl (syV (hPs A h j) (nI (A.pc j)), nI (j + 1)))
    have c1 : ¬ nI A.ps ≤ nI j := by rw [nI_leI (by omega) (by omega)]; omega
    unfold fX5_digest_L158
    rw [k.1.ps, if_neg c1, a_codeAt o k.1 hj, Option.bind_some, nI_1]
    rfl
  · show fX5_digest_L158 E (hPs A h A.ps) (nI A.ps) = _
    unfold fX5_digest_L158
    rw [k.1.ps, if_pos (Int32.le_refl _)]
theorem a_dL193 {A : Ab} {E : OE} {n : Nat} (o : abOK n A) (k : kE A E) (h : Int64) : ∃ E', wh (σ := Int64 × Int32 × OE) (ρ := Int64 × OE) (fun t => fX5_digest_L193 t.1 t.2.1 t.2.2) 100000 (h, (0 : Int32), E) = some (hQs A h 11, E') ∧ kE A E' := by
  obtain ⟨r, r1, r2, r3⟩ := wh_inv (body := fun t => fX5_digest_L193 t.1 t.2.1 t.2.2) (fun k (u : Int64 × Int32 × OE) => u.1 = hQs A h k ∧ u.2.1 = nI k ∧ kE A u.2.2) (fun (u : Int64 × OE) => u.1 = hQs A h 11 ∧ kE A u.2) 11
    (by
      rintro j ⟨x, y, E1⟩ hj ⟨e1, e2, e3⟩
      dsimp only at e1 e2 e3
      subst e1 e2
      have c1 : ¬ (11 : Int32) ≤ nI j := by rw [show (11 : Int32) = nI 11 from rfl, nI_leI (by omega) (by omega)]; omega
      obtain ⟨E2, f1, f2⟩ := a_countV o e3.1 e3.2 hj
      refine ⟨(hQs A h (j + 1), nI (j + 1), E2), ?_, rfl, rfl, f2⟩
      show fX5_digest_L193 (hQs A h j) (nI j) E1 = some (.inl (syV (hQs A h j) (countV A j), nI (j + 1), E2))
      unfold fX5_digest_L193
      rw [if_neg c1, f1, Option.bind_some, nI_1]
      rfl)
    (by
      rintro ⟨x, y, E1⟩ ⟨e1, e2, e3⟩
      dsimp only at e1 e2 e3
      subst e1 e2
      refine ⟨(hQs A h 11, E1), ?_, rfl, e3⟩
      show fX5_digest_L193 (hQs A h 11) (nI 11) E1 = _
      unfold fX5_digest_L193
      rw [if_pos (by decide)])
    (n := 100000) (s := (h, (0 : Int32), E)) ⟨rfl, rfl, k⟩ (by decide)
  refine ⟨r.2, ?_, r3⟩
  rw [r1, ← r2]
theorem a_digest {A : Ab} {E : OE} {n : Nat} (o : abOK n A) (k : kE A E) : ∃ E', fX5_digest E = some (digV A, E') ∧ kE A E' := by
  obtain ⟨E1, e1, k1⟩ := a_dL6 o k 1301
  obtain ⟨E2, e2, k2⟩ := a_dL62 o k1 (hLs A.t 1301 (A.t.h + A.t.w))
  have fin : ∀ (E3 : OE) (h : Int64), kE A E3 → ∃ E', fX5_digest_J156 h E3 = some (hQs A (hPs A h A.ps) 11, E') ∧ kE A E' := by
    intro E3 h k3
    obtain ⟨E4, e4, k4⟩ := a_dL193 o k3 (hPs A h A.ps)
    refine ⟨E4, ?_, k4⟩
    unfold fX5_digest_J156 fX5_digest_J191
    rw [a_dL158 o k3, Option.bind_some, e4, Option.bind_some]
    rfl
  have pre : ∀ R, fX5_digest_J109 (hCs A.t (hLs A.t 1301 (A.t.h + A.t.w)) (A.t.h * A.t.w)) E2 = R → fX5_digest E = R := by
    intro R hR
    unfold fX5_digest
    rw [e1, Option.bind_some]
    show fX5_digest_J60 _ E1 = _
    unfold fX5_digest_J60
    rw [e2, Option.bind_some]
    exact hR
  by_cases a : A.t.h = 0
  · obtain ⟨E5, e5, k5⟩ := fin E2 (hCs A.t (hLs A.t 1301 (A.t.h + A.t.w)) (A.t.h * A.t.w)) k2
    refine ⟨E5, pre _ ?_, k5⟩
    unfold fX5_digest_J109 digV hBd
    rw [a_isBoard o.t k2.1.t, Option.bind_some, if_pos (iz0 (fun z => z a)), if_pos a, e5]
  · obtain ⟨E3, e3, k3⟩ := a_leftV o k2 a
    obtain ⟨E4, e4, k4⟩ := a_picV o k3 a
    obtain ⟨E5, e5, k5⟩ := a_lookV o k4 a
    obtain ⟨E6, e6, k6⟩ := fin E5 (hBd A.t (hCs A.t (hLs A.t 1301 (A.t.h + A.t.w)) (A.t.h * A.t.w))) k5
    refine ⟨E6, pre _ ?_, k6⟩
    unfold fX5_digest_J109 digV
    rw [a_isBoard o.t k2.1.t, Option.bind_some, if_neg (izn a), e3, Option.bind_some]
    dsimp only
    rw [e4, Option.bind_some]
    dsimp only
    rw [e5, Option.bind_some, ← e6]
    unfold hBd
    rw [if_neg a]
    rfl
/-! the reference's digest -/
def kH (A : Ab) (h : Int64) (M : OM) : Prop := MS A M ∧ MC A M ∧ M.2.2.1 = h
theorem kH_say {A : Ab} {M : OM} {h : Int64} (k : kH A h M) (v : Int32) : ∃ M', fX6_say M v.toInt64 = some M' ∧ kH A (syV h v) M' := by
  refine ⟨(M.1, M.2.1, ((31 : Int64) * M.2.2.1) + v.toInt64, M.2.2.2), rfl, k.1, fun q => ?_, ?_⟩
  · have := k.2.1 q
    exact ⟨this.n, this.b, this.wk⟩
  · show ((31 : Int64) * M.2.2.1) + v.toInt64 = _
    rw [k.2.2]
    rfl
theorem kM_H {A : Ab} {M M' : OM} {h : Int64} (k : kH A h M) (q : kM A M M') : kH A h M' := ⟨q.1, q.2.1, q.2.2.trans k.2.2⟩
theorem c_sayLine {A : Ab} {M : OM} {n : Nat} {h : Int64} (o : abOK n A) (k : kH A h M) {l : Nat} (hl : l < A.t.h + A.t.w) : ∃ M', fX6_sayLine M (nI l) = some M' ∧ kH A (hLn A.t l h 7) M' := by
  obtain ⟨r, r1, r2⟩ := wh_inv (body := fun t => fX6_sayLine_L2 (nI l) t.1 t.2) (fun k (u : Int32 × OM) => u.1 = nI k ∧ kH A (hLn A.t l h k) u.2) (fun (u : OM) => kH A (hLn A.t l h 7) u) 7
    (by
      rintro j ⟨y, M1⟩ hj ⟨e2, e3⟩
      dsimp only at e2 e3
      subst e2
      have c1 : ¬ (7 : Int32) ≤ nI j := by rw [show (7 : Int32) = nI 7 from rfl, nI_leI (by omega) (by omega)]; omega
      have c2 : nI j = (4 : Int32) ↔ j = 4 := nI_eq (b := 4) (by omega) (by decide)
      by_cases a : j = 4
      · refine ⟨(nI (j + 1), M1), ?_, rfl, ?_⟩
        · show fX6_sayLine_L2 (nI l) (nI j) M1 = _
          unfold fX6_sayLine_L2
          rw [if_neg c1, if_pos (c2.mpr a), nI_1]
        · show kH A (if j = 4 then hLn A.t l h j else syV (hLn A.t l h j) (lineV A.t l j)) M1
          rw [if_pos a]
          exact e3
      · obtain ⟨M2, f1, f2⟩ := c_lineV o e3.1 e3.2.1 hl hj
        obtain ⟨M3, g1, g2⟩ := kH_say (kM_H e3 f2) (lineV A.t l j)
        refine ⟨(nI (j + 1), M3), ?_, rfl, ?_⟩
        · show fX6_sayLine_L2 (nI l) (nI j) M1 = _
          unfold fX6_sayLine_L2
          rw [if_neg c1, if_neg (fun z => a (c2.mp z)), f1, Option.bind_some]
          dsimp only
          rw [g1, Option.bind_some, nI_1]
        · show kH A (if j = 4 then hLn A.t l h j else syV (hLn A.t l h j) (lineV A.t l j)) M3
          rw [if_neg a]
          exact g2)
    (by
      rintro ⟨y, M1⟩ ⟨e2, e3⟩
      dsimp only at e2 e3
      subst e2
      refine ⟨M1, ?_, e3⟩
      show fX6_sayLine_L2 (nI l) (nI 7) M1 = _
      unfold fX6_sayLine_L2
      rw [if_pos (by decide)])
    (n := 100000) (s := ((0 : Int32), M)) ⟨rfl, k⟩ (by decide)
  refine ⟨r, ?_, r2⟩
  unfold fX6_sayLine
  rw [r1, Option.bind_some]
  rfl
theorem c_dL9 {A : Ab} {M : OM} {n : Nat} {h : Int64} (o : abOK n A) (k : kH A h M) : ∃ M', wh (σ := Int32 × OM) (ρ := OM) (fun t => fX6_digest_L9 t.1 t.2) 100000 ((0 : Int32), M) = some M' ∧ kH A (hLs A.t h (A.t.h + A.t.w)) M' := by
  have hl8 := o.t.hl
  exact wh_inv (body := fun t => fX6_digest_L9 t.1 t.2) (fun k (u : Int32 × OM) => u.1 = nI k ∧ kH A (hLs A.t h k) u.2) (fun (u : OM) => kH A (hLs A.t h (A.t.h + A.t.w)) u) (A.t.h + A.t.w)
    (by
      rintro j ⟨y, M1⟩ hj ⟨e2, e3⟩
      dsimp only at e2 e3
      subst e2
      have c1 : ¬ nI (A.t.h + A.t.w) ≤ nI j := by rw [nI_leI (by omega) (by omega)]; omega
      obtain ⟨M2, f1, f2⟩ := c_sayLine o e3 hj
      refine ⟨(nI (j + 1), M2), ?_, rfl, f2⟩
      show fX6_digest_L9 (nI j) M1 = _
      unfold fX6_digest_L9
      rw [e3.1.h, e3.1.w, nI_add, if_neg c1, f1, Option.bind_some, nI_1])
    (by
      rintro ⟨y, M1⟩ ⟨e2, e3⟩
      dsimp only at e2 e3
      subst e2
      refine ⟨M1, ?_, e3⟩
      show fX6_digest_L9 (nI (A.t.h + A.t.w)) M1 = _
      unfold fX6_digest_L9
      rw [e3.1.h, e3.1.w, nI_add, if_pos (Int32.le_refl _)])
    (n := 100000) (s := ((0 : Int32), M)) ⟨rfl, k⟩ (by omega)
theorem c_dL35 {A : Ab} {M : OM} {n : Nat} {h : Int64} (o : abOK n A) (k : kH A h M) : ∃ M', wh (σ := Int32 × OM) (ρ := OM) (fun t => fX6_digest_L35 t.1 t.2) 100000 ((0 : Int32), M) = some M' ∧ kH A (hCs A.t h (A.t.h * A.t.w)) M' := by
  have hm := o.t.hm
  exact wh_inv (body := fun t => fX6_digest_L35 t.1 t.2) (fun k (u : Int32 × OM) => u.1 = nI k ∧ kH A (hCs A.t h k) u.2) (fun (u : OM) => kH A (hCs A.t h (A.t.h * A.t.w)) u) (A.t.h * A.t.w)
    (by
      rintro j ⟨y, M1⟩ hj ⟨e2, e3⟩
      dsimp only at e2 e3
      subst e2
      have c1 : ¬ nI (A.t.h * A.t.w) ≤ nI j := by rw [nI_leI (by omega) (by omega)]; omega
      have o1 := okI_t (show j < 16 by omega) (by decide)
      obtain ⟨M2, g1, g2⟩ := kH_say e3 (cellV A.t j 0)
      obtain ⟨M3, g3, g4⟩ := c_blackOf o g2.1 g2.2.1 hj
      obtain ⟨M4, g5, g6⟩ := kH_say (kM_H g2 g4) (cellV A.t j 1)
      obtain ⟨M5, g7, g8⟩ := c_sureOf o g6.1 g6.2.1 hj
      obtain ⟨M6, g9, g10⟩ := kH_say (kM_H g6 g8) (cellV A.t j 2)
      refine ⟨(nI (j + 1), M6), ?_, rfl, g10⟩
      show fX6_digest_L35 (nI j) M1 = _
      unfold fX6_digest_L35
      rw [e3.1.h, e3.1.w, pk_mul, if_neg c1, if_pos o1, nI_clamp (by omega), e3.1.t.mk j hj, show nI (A.t.mk j) = cellV A.t j 0 from rfl, g1, Option.bind_some, g3, Option.bind_some]
      dsimp only
      rw [g5, Option.bind_some, g7, Option.bind_some]
      dsimp only
      rw [g9, Option.bind_some, nI_1])
    (by
      rintro ⟨y, M1⟩ ⟨e2, e3⟩
      dsimp only at e2 e3
      subst e2
      refine ⟨M1, ?_, e3⟩
      show fX6_digest_L35 (nI (A.t.h * A.t.w)) M1 = _
      unfold fX6_digest_L35
      rw [e3.1.h, e3.1.w, pk_mul, if_pos (Int32.le_refl _)])
    (n := 100000) (s := ((0 : Int32), M)) ⟨rfl, k⟩ (by omega)
theorem c_dL122 {A : Ab} {M : OM} {n : Nat} {h : Int64} (o : abOK n A) (k : kH A h M) : ∃ M', wh (σ := Int32 × OM) (ρ := OM) (fun t => fX6_digest_L122 t.1 t.2) 100000 ((0 : Int32), M) = some M' ∧ kH A (hPs A h A.ps) M' := by
  have hps := o.ps
  exact wh_inv (body := fun t => fX6_digest_L122 t.1 t.2) (fun k (u : Int32 × OM) => u.1 = nI k ∧ kH A (hPs A h k) u.2) (fun (u : OM) => kH A (hPs A h A.ps) u) A.ps
    (by
      rintro j ⟨y, M1⟩ hj ⟨e2, e3⟩
      dsimp only at e2 e3
      subst e2
      have c1 : ¬ nI A.ps ≤ nI j := by rw [nI_leI (by omega) (by omega)]; omega
      have o1 := okI_t (show j < 36 by omega) (by decide)
      obtain ⟨M2, g1, g2⟩ := kH_say e3 (nI (A.pc j))
      refine ⟨(nI (j + 1), M2), ?_, rfl, g2⟩
      show fX6_digest_L122 (nI j) M1 = _
      unfold fX6_digest_L122
      rw [e3.1.ps, if_neg c1, if_pos o1, nI_clamp (by omega), e3.1.pc j hj, g1, Option.bind_some, nI_1])
    (by
      rintro ⟨y, M1⟩ ⟨e2, e3⟩
      dsimp only at e2 e3
      subst e2
      refine ⟨M1, ?_, e3⟩
      show fX6_digest_L122 (nI A.ps) M1 = _
      unfold fX6_digest_L122
      rw [e3.1.ps, if_pos (Int32.le_refl _)])
    (n := 100000) (s := ((0 : Int32), M)) ⟨rfl, k⟩ (by omega)
theorem c_dL149 {A : Ab} {M : OM} {n : Nat} {h : Int64} (o : abOK n A) (k : kH A h M) : ∃ M', wh (σ := Int32 × OM) (ρ := OM) (fun t => fX6_digest_L149 t.1 t.2) 100000 ((0 : Int32), M) = some M' ∧ kH A (hQs A h 11) M' := by
  exact wh_inv (body := fun t => fX6_digest_L149 t.1 t.2) (fun k (u : Int32 × OM) => u.1 = nI k ∧ kH A (hQs A h k) u.2) (fun (u : OM) => kH A (hQs A h 11) u) 11
    (by
      rintro j ⟨y, M1⟩ hj ⟨e2, e3⟩
      dsimp only at e2 e3
      subst e2
      have c1 : ¬ (11 : Int32) ≤ nI j := by rw [show (11 : Int32) = nI 11 from rfl, nI_leI (by omega) (by omega)]; omega
      obtain ⟨M2, f1, f2⟩ := c_countV o e3.1 e3.2.1 hj
      obtain ⟨M3, g1, g2⟩ := kH_say (kM_H e3 f2) (countV A j)
      refine ⟨(nI (j + 1), M3), ?_, rfl, g2⟩
      show fX6_digest_L149 (nI j) M1 = _
      unfold fX6_digest_L149
      rw [if_neg c1, f1, Option.bind_some]
      dsimp only
      rw [g1, Option.bind_some, nI_1])
    (by
      rintro ⟨y, M1⟩ ⟨e2, e3⟩
      dsimp only at e2 e3
      subst e2
      refine ⟨M1, ?_, e3⟩
      show fX6_digest_L149 (nI 11) M1 = _
      unfold fX6_digest_L149
      rw [if_pos (by decide)])
    (n := 100000) (s := ((0 : Int32), M)) ⟨rfl, k⟩ (by decide)
theorem c_digest {A : Ab} {M : OM} {n : Nat} (o : abOK n A) (ms : MS A M) (mc : MC A M) : ∃ M', fX6_digest M = some (digV A, M') ∧ MS A M' ∧ MC A M' := by
  have k0 : kH A 1301 (M.1, M.2.1, (1301 : Int64), M.2.2.2) := ⟨ms, fun q => ⟨(mc q).n, (mc q).b, (mc q).wk⟩, rfl⟩
  obtain ⟨M1, e1, k1⟩ := c_dL9 o k0
  obtain ⟨M2, e2, k2⟩ := c_dL35 o k1
  have fin : ∀ (M3 : OM) (h : Int64), kH A h M3 → ∃ M', fX6_digest_J120 M3 = some (hQs A (hPs A h A.ps) 11, M') ∧ MS A M' ∧ MC A M' := by
    intro M3 h k3
    obtain ⟨M4, e4, k4⟩ := c_dL122 o k3
    obtain ⟨M5, e5, k5⟩ := c_dL149 o k4
    refine ⟨M5, ?_, k5.1, k5.2.1⟩
    unfold fX6_digest_J120 fX6_digest_J147 fX6_digest_J171
    rw [e4, Option.bind_some, e5, Option.bind_some, k5.2.2]
  have pre : ∀ R, fX6_digest_J85 M2 = R → fX6_digest M = R := by
    intro R hR
    unfold fX6_digest fX6_digest_J33
    rw [e1, Option.bind_some, e2, Option.bind_some]
    exact hR
  by_cases a : A.t.h = 0
  · obtain ⟨M5, e5, k5⟩ := fin M2 _ k2
    refine ⟨M5, pre _ ?_, k5⟩
    unfold fX6_digest_J85 digV hBd
    rw [c_lacks o.t.hh k2.1.h, Option.bind_some, if_neg (izn a), if_pos a, e5]
  · obtain ⟨M3, e3, k3, f3⟩ := fresh o k2.1 k2.2.1
    obtain ⟨M4, e4, k4⟩ := kH_say (kM_H k2 k3) (nI A.t.L.length)
    obtain ⟨M5, e5, k5, f5⟩ := fresh o k4.1 k4.2.1
    obtain ⟨M6, e6, k6⟩ := kH_say (kM_H k4 k5) (picV A.t 0)
    obtain ⟨M7, e7, k7, f7⟩ := fresh o k6.1 k6.2.1
    obtain ⟨M8, e8, k8⟩ := kH_say (kM_H k6 k7) (lookV A.t)
    obtain ⟨M9, e9, k9⟩ := fin M8 _ k8
    refine ⟨M9, pre _ ?_, k9⟩
    unfold fX6_digest_J85 digV hBd fX6_leftOf
    rw [c_lacks o.t.hh k2.1.h, Option.bind_some, if_pos (iz0 a), e3, Option.bind_some, Option.bind_some]
    dsimp only
    rw [f3.nL, e4, Option.bind_some, show (0 : Int32) = nI 0 from rfl, c_pic o.t e5 f5 (by decide), Option.bind_some]
    dsimp only
    rw [e6, Option.bind_some, c_look o.t e7 k7.1 f7, Option.bind_some]
    dsimp only
    rw [e8, Option.bind_some, e9, if_neg a]
theorem op_digest : opL23 Rel := by
  rintro n E M ⟨A, o, es, ec, ms, mc⟩
  obtain ⟨E', e1, e2, e3⟩ := a_digest o ⟨es, ec⟩
  obtain ⟨M', m1, m2, m3⟩ := c_digest o ms mc
  exact ⟨digV A, E', M', e1, m1, A, o.dn, e2, e3, m2, m3⟩
