/-! image, restore -/
def cpN (k : Nat) (f g : Nat → Int32) : Nat → Int32 := fun j => if j < k then f j else g j
theorem cpN_s (k : Nat) (f g : Nat → Int32) : upd (cpN k f g) k (f k) = cpN (k + 1) f g := by
  funext j
  unfold upd cpN
  by_cases a : j = k
  · subst a
    rw [if_pos rfl, if_pos (by omega)]
  · rw [if_neg a]
    by_cases b : j < k
    · rw [if_pos b, if_pos (by omega)]
    · rw [if_neg b, if_neg (by omega)]
theorem cpN_i {k j : Nat} {f g : Nat → Int32} (h : j < k) : cpN k f g j = f j := if_pos h
theorem c_copy {n : Nat} (hn : n < 90000) (f g : Nat → Int32) : fX6_copy n n f g = some (cpN n f g) := by
  unfold fX6_copy
  refine wh_b (fun k => (nI k, cpN k f g)) n (cpN n f g) ?_ (by omega) ?_ ?_ rfl
  · exact Prod.ext rfl (funext fun j => rfl)
  · intro k hk
    have o1 := okI_t hk (by omega)
    have c1 : ¬ nI n ≤ nI k := by rw [nI_leI (by omega) (by omega)]; omega
    have cl : (nI k).toNatClampNeg = k := nI_clamp (by omega)
    show fX6_copy_L2 n n f (nI k) (cpN k f g) = _
    unfold fX6_copy_L2
    rw [if_neg (show ¬ Int32.ofNat n ≤ nI k from c1), if_pos o1, if_pos o1, cl, nI_1, cpN_s]
  · show fX6_copy_L2 n n f (nI n) (cpN n f g) = _
    unfold fX6_copy_L2
    rw [if_pos (show Int32.ofNat n ≤ nI n from Int32.le_refl _)]
theorem a_copyT {S T : Ob} {t : Tb} (o : tbOK t) (q : tT T t) : ∃ S', fX4_copyFrom S T = some S' ∧ tT S' t := by
  have hl := o.hl
  have h6 := o.sn6
  obtain ⟨S1, r1, r2, r3⟩ := wh_inv (body := fun t => fX4_copyFrom_L42 T t.1 t.2) (fun k (s : Int32 × Ob) => s.1 = nI k ∧ s.2.1 = va_up (va_up (va_up (va_up (va_up S.1 0 (T.1 0)) 1 (T.1 1)) 5 (T.1 5)) 6 (T.1 6)) 10 (T.1 10) ∧ ∀ i, i < k → s.2.2 2 i = T.2 2 i ∧ s.2.2 3 i = T.2 3 i ∧ s.2.2 4 i = T.2 4 i) (fun (s : Ob) => s.1 = va_up (va_up (va_up (va_up (va_up S.1 0 (T.1 0)) 1 (T.1 1)) 5 (T.1 5)) 6 (T.1 6)) 10 (T.1 10) ∧ ∀ i, i < 8 → s.2 2 i = T.2 2 i ∧ s.2 3 i = T.2 3 i ∧ s.2 4 i = T.2 4 i) 8
    (by
      rintro k ⟨x, s⟩ hk ⟨e1, e2, e3⟩
      dsimp only at e1 e2 e3
      subst e1
      have o1 := okI_t hk (by decide)
      have c1 : ¬ (8 : Int32) ≤ nI k := by rw [show (8 : Int32) = nI 8 from rfl, nI_leI (by omega) (by omega)]; omega
      have cl : (nI k).toNatClampNeg = k := nI_clamp (by omega)
      refine ⟨(nI (k + 1), (s.1, va_up (va_up (va_up s.2 2 (upd (s.2 2) k (T.2 2 k))) 3 (upd (s.2 3) k (T.2 3 k))) 4 (upd (s.2 4) k (T.2 4 k)))), ?_, rfl, e2, ?_⟩
      · show fX4_copyFrom_L42 T (nI k) s = _
        unfold fX4_copyFrom_L42
        rw [if_neg c1, if_pos o1, if_pos o1, if_pos o1, if_pos o1, if_pos o1, if_pos o1, cl, nI_1]
      · intro i hi
        show upd (s.2 2) k (T.2 2 k) i = _ ∧ upd (s.2 3) k (T.2 3 k) i = _ ∧ upd (s.2 4) k (T.2 4 k) i = _
        by_cases a : i = k
        · subst a
          rw [up_s, up_s, up_s]
          exact ⟨rfl, rfl, rfl⟩
        · rw [up_n _ _ a, up_n _ _ a, up_n _ _ a]
          exact e3 i (by omega))
    (by
      rintro ⟨x, s⟩ ⟨e1, e2, e3⟩
      dsimp only at e1 e2 e3
      subst e1
      refine ⟨s, ?_, e2, e3⟩
      show fX4_copyFrom_L42 T (nI 8) s = _
      unfold fX4_copyFrom_L42
      rw [if_pos (by decide)])
    (n := 100000) (s := ((0 : Int32), (va_up (va_up (va_up (va_up (va_up S.1 0 (T.1 0)) 1 (T.1 1)) 5 (T.1 5)) 6 (T.1 6)) 10 (T.1 10), S.2))) ⟨rfl, rfl, fun i hi => absurd hi (Nat.not_lt_zero _)⟩ (by decide)
  obtain ⟨S2, u1, u2, u3, u4⟩ := wh_inv (body := fun t => fX4_copyFrom_L92 T t.1 t.2) (fun k (s : Int32 × Ob) => s.1 = nI k ∧ s.2.1 = S1.1 ∧ (∀ j, j < 5 → s.2.2 j = S1.2 j) ∧ ∀ i, i < k → i < t.sn → s.2.2 7 i = T.2 7 i ∧ s.2.2 8 i = T.2 8 i ∧ s.2.2 9 i = T.2 9 i) (fun (s : Ob) => s.1 = S1.1 ∧ (∀ j, j < 5 → s.2 j = S1.2 j) ∧ ∀ i, i < 6 → i < t.sn → s.2 7 i = T.2 7 i ∧ s.2 8 i = T.2 8 i ∧ s.2 9 i = T.2 9 i) 6
    (by
      rintro k ⟨x, s⟩ hk ⟨e1, e2, e3, e4⟩
      dsimp only at e1 e2 e3 e4
      subst e1
      have o1 := okI_t hk (by decide)
      have c1 : ¬ (6 : Int32) ≤ nI k := by rw [show (6 : Int32) = nI 6 from rfl, nI_leI (by omega) (by omega)]; omega
      have cl : (nI k).toNatClampNeg = k := nI_clamp (by omega)
      refine ⟨(nI (k + 1), (s.1, va_up (va_up (va_up s.2 7 (upd (s.2 7) k (T.2 7 k))) 8 (upd (s.2 8) k (T.2 8 k))) 9 (upd (s.2 9) k (vp_nar .boolean (T.2 9 k))))), ?_, rfl, e2, ?_, ?_⟩
      · show fX4_copyFrom_L92 T (nI k) s = _
        unfold fX4_copyFrom_L92
        rw [if_neg c1, if_pos o1, if_pos o1, if_pos o1, if_pos o1, if_pos o1, if_pos o1, cl, nI_1]
      · intro j hj
        show va_up (va_up (va_up s.2 7 _) 8 _) 9 _ j = _
        rw [vu_n _ _ (by omega), vu_n _ _ (by omega), vu_n _ _ (by omega)]
        exact e3 j hj
      · intro i hi hi2
        show upd (s.2 7) k (T.2 7 k) i = _ ∧ upd (s.2 8) k (T.2 8 k) i = _ ∧ upd (s.2 9) k (vp_nar .boolean (T.2 9 k)) i = _
        by_cases a : i = k
        · subst a
          rw [up_s, up_s, up_s]
          refine ⟨rfl, rfl, ?_⟩
          rw [(q.se i hi2).2.2]
          have hv := (o.se i hi2).2.2
          generalize t.sk i = v at hv
          have : v = 0 ∨ v = 1 := by omega
          rcases this with rfl | rfl <;> rfl
        · rw [up_n _ _ a, up_n _ _ a, up_n _ _ a]
          exact e4 i (by omega) hi2)
    (by
      rintro ⟨x, s⟩ ⟨e1, e2, e3, e4⟩
      dsimp only at e1 e2 e3 e4
      subst e1
      refine ⟨s, ?_, e2, e3, e4⟩
      show fX4_copyFrom_L92 T (nI 6) s = _
      unfold fX4_copyFrom_L92
      rw [if_pos (by decide)])
    (n := 100000) (s := ((0 : Int32), S1)) ⟨rfl, rfl, fun _ _ => rfl, fun i hi => absurd hi (Nat.not_lt_zero _)⟩ (by decide)
  refine ⟨S2, ?_, ?_⟩
  · unfold fX4_copyFrom fX4_copyFrom_J90
    rw [r1, Option.bind_some, u1, Option.bind_some]
    rfl
  · refine ⟨?_, ?_, ?_, ?_, ?_, ?_, ?_⟩
    · rw [u2, r2]; exact q.h
    · rw [u2, r2]; exact q.w
    · intro l hl2
      obtain ⟨a1, a2, a3⟩ := r3 l (by omega)
      rw [u3 2 (by decide), u3 3 (by decide), u3 4 (by decide), a1, a2, a3]
      exact q.cl l hl2
    · rw [u2, r2]; exact q.b
    · rw [u2, r2]; exact q.wh
    · rw [u2, r2]; exact q.sn
    · intro i hi
      obtain ⟨a1, a2, a3⟩ := u4 i (by omega) hi
      rw [a1, a2, a3]
      exact q.se i hi
theorem a_isBoard {T : Ob} {t : Tb} (o : tbOK t) (q : tT T t) : fX4_isBoard T = some (iz (¬ t.h = 0)) := by
  have := o.hh
  have e : nI t.h ≤ 0 ↔ t.h = 0 := by rw [show (0 : Int32) = nI 0 from rfl, nI_leI (by omega) (by decide)]; omega
  unfold fX4_isBoard
  rw [q.h]
  by_cases a : t.h = 0
  · rw [if_pos (e.mpr a), iz_f (fun k => k a)]
  · rw [if_neg (fun k => a (e.mp k)), iz_t a]
theorem c_lacks {M : OM} {h : Nat} (hh : h ≤ 4) (q : M.1 9 = nI h) : fX6_lacks M = some (iz (h = 0)) := by
  have e : nI h = 0 ↔ h = 0 := nI_eq (b := 0) (by omega) (by decide)
  unfold fX6_lacks
  rw [q]
  by_cases a : h = 0
  · rw [if_pos (e.mpr a), iz_t a]
  · rw [if_neg (fun k => a (e.mp k)), iz_f a]
theorem tM_cp {f : Nat → Nat → Int32} {a b c d e : Nat} {t : Tb} (o : tbOK t) (q : tM f a b c d e t) (g : Nat → Nat → Int32) {a' b' c' d' e' : Nat} {ga gb gc gd ge : Nat → Int32} (ha : g a' = cpN 8 (f a) ga) (hb : g b' = cpN 8 (f b) gb) (hc : g c' = cpN 8 (f c) gc) (hd : g d' = cpN 16 (f d) gd) (he : g e' = cpN 18 (f e) ge) : tM g a' b' c' d' e' t := by
  have hl := o.hl
  have hm := o.hm
  have h6 := o.sn6
  refine ⟨?_, ?_, ?_⟩
  · intro l hl2
    rw [ha, hb, hc, cpN_i (by omega), cpN_i (by omega), cpN_i (by omega)]
    exact q.cl l hl2
  · intro j hj
    rw [hd, cpN_i (by omega)]
    exact q.mk j hj
  · intro i hi
    rw [he, cpN_i (by omega), cpN_i (by omega), cpN_i (by omega)]
    exact q.se i hi
theorem op_image : opL20 Rel := by
  rintro n E M ⟨A, o, es, ec, ms, mc⟩
  have hR : Rel n E M := ⟨A, o.dn, es, ec, ms, mc⟩
  have h1 := a_isBoard o.t es.t
  have h2 := c_lacks o.t.hh ms.h
  by_cases a : A.t.h = 0
  · refine ⟨-103, E, M, ?_, ?_, hR⟩
    · unfold fX5_image
      rw [h1, Option.bind_some, if_pos (iz0 (fun k => k a))]
    · unfold fX6_image
      rw [h2, Option.bind_some, if_neg (izn a)]
  · obtain ⟨T, t1, t2⟩ := a_copyT (S := E.2 2) o.t es.t
    refine ⟨nI A.t.mm, (va_up E.1 8 1, va_up E.2 2 T), (va_up (va_up M.1 33 (M.1 11)) 34 (M.1 28), va_up (va_up (va_up (va_up (va_up M.2.1 35 (cpN 8 (M.2.1 12) (M.2.1 35))) 36 (cpN 8 (M.2.1 13) (M.2.1 36))) 37 (cpN 8 (M.2.1 14) (M.2.1 37))) 38 (cpN 16 (M.2.1 15) (M.2.1 38))) 39 (cpN 18 (M.2.1 29) (M.2.1 39)), M.2.2.1, M.2.2.2), ?_, ?_, ⟨A.ps, A.pc, A.t, A.br, A.hd, A.od, true, A.t⟩, ?_, ?_, ec, ?_, ?_⟩
    · unfold fX5_image
      rw [h1, Option.bind_some, if_neg (izn a), t1, Option.bind_some, a_markedCells o.t t2, Option.bind_some]
    · unfold fX6_image
      rw [h2, Option.bind_some, if_pos (iz0 a), c_copy (by decide), Option.bind_some, c_copy (by decide), Option.bind_some, c_copy (by decide), Option.bind_some, c_copy (by decide), Option.bind_some, c_copy (by decide), Option.bind_some, c_markedMany (t := A.t) o.t (by exact ms.h) (by exact ms.w) (by exact ms.t.mk), Option.bind_some]
    · exact ⟨o.ps, o.pc, o.t, o.dn.br, o.hd, o.od, fun _ => ⟨o.t, rfl, rfl, a⟩⟩
    · exact ⟨es.ps, es.pc, es.t, es.br, es.hd, es.od, rfl, fun _ => t2⟩
    · exact ⟨ms.ps, ms.pc, ms.h, ms.w, ⟨ms.t.cl, ms.t.mk, ms.t.se⟩, ms.sn, ms.br, ms.hd, ms.od, fun _ => ⟨ms.br, ms.sn, tM_cp o.t ms.t _ rfl rfl rfl rfl rfl⟩, fun q => by cases q⟩
    · exact fun q => ⟨(mc q).n, (mc q).b, (mc q).wk⟩
theorem op_restore : opL21 Rel := by
  rintro n E M ⟨A, o, es, ec, ms, mc⟩
  have hR : Rel n E M := ⟨A, o.dn, es, ec, ms, mc⟩
  have obr := o.br
  cases a : A.im with
  | false =>
    have e1 : E.1 8 = 0 := by rw [es.im, a]; rfl
    have e2 : ¬ M.1 33 = M.1 11 := by
      rw [ms.br]
      rcases ms.nk a with q | ⟨k, hk, q⟩
      · rw [q]
        exact fun z => nI_ne1 (by omega) z.symm
      · rw [q]
        exact fun z => by have := (nI_eq (by omega) (by omega)).mp z; omega
    refine ⟨-103, E, M, ?_, ?_, hR⟩
    · unfold fX5_restore
      rw [if_pos e1]
    · unfold fX6_restore
      rw [if_neg e2]
  | true =>
    obtain ⟨ok, kh, kw, kb⟩ := o.im a
    obtain ⟨m1, m2, m3⟩ := ms.k a
    obtain ⟨T, t1, t2⟩ := a_copyT (S := E.2 1) ok (es.k a)
    have e1 : ¬ E.1 8 = 0 := by rw [es.im, a]; decide
    have e2 : M.1 33 = M.1 11 := by rw [ms.br]; exact m1
    have h9 : M.1 9 = nI A.k.h := by rw [kh]; exact ms.h
    have h10 : M.1 10 = nI A.k.w := by rw [kw]; exact ms.w
    have q3 : tM (va_up (va_up (va_up (va_up (va_up M.2.1 12 (cpN 8 (M.2.1 35) (M.2.1 12))) 13 (cpN 8 (M.2.1 36) (M.2.1 13))) 14 (cpN 8 (M.2.1 37) (M.2.1 14))) 15 (cpN 16 (M.2.1 38) (M.2.1 15))) 29 (cpN 18 (M.2.1 39) (M.2.1 29))) 12 13 14 15 29 A.k := tM_cp ok m3 _ rfl rfl rfl rfl rfl
    refine ⟨nI A.k.mm, (va_up E.1 7 1, va_up E.2 1 T), (va_up (va_up M.1 20 1) 28 (M.1 34), va_up (va_up (va_up (va_up (va_up M.2.1 12 (cpN 8 (M.2.1 35) (M.2.1 12))) 13 (cpN 8 (M.2.1 36) (M.2.1 13))) 14 (cpN 8 (M.2.1 37) (M.2.1 14))) 15 (cpN 16 (M.2.1 38) (M.2.1 15))) 29 (cpN 18 (M.2.1 39) (M.2.1 29)), M.2.2.1, M.2.2.2), ?_, ?_, ⟨A.ps, A.pc, A.k, A.br, A.hd, A.od, true, A.k⟩, ?_, ?_, nstale rfl, ?_, mstale rfl⟩
    · unfold fX5_restore
      rw [if_neg e1, t1, Option.bind_some, a_markedCells ok t2, Option.bind_some]
    · unfold fX6_restore
      rw [if_pos e2, c_copy (by decide), Option.bind_some, c_copy (by decide), Option.bind_some, c_copy (by decide), Option.bind_some, c_copy (by decide), Option.bind_some, c_copy (by decide), Option.bind_some, c_markedMany (t := A.k) ok (by exact h9) (by exact h10) q3.mk, Option.bind_some]
    · exact ⟨o.ps, o.pc, ok, o.dn.br, o.hd, o.od, fun _ => ⟨ok, rfl, rfl, fun z => kb (by rw [← kh]; exact z)⟩⟩
    · exact ⟨es.ps, es.pc, t2, es.br, es.hd, es.od, by show E.1 8 = nI true.toNat; rw [es.im, a], fun _ => es.k a⟩
    · exact ⟨ms.ps, ms.pc, h9, h10, q3, m2, ms.br, ms.hd, ms.od, fun _ => ⟨m1, m2, m3.cl, m3.mk, m3.se⟩, fun q => by cases q⟩
