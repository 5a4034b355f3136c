/-! the number of bits -/
def bcN (x : Nat) : Nat :=
  (fun i1 => (fun i2 => (fun i3 => (fun i4 => (i4 + i4 / 2 ^ 16) &&& 63) (i3 + i3 / 2 ^ 8)) ((i2 + i2 / 2 ^ 4) &&& 252645135)) ((i1 &&& 858993459) + ((i1 / 2 ^ 2) &&& 858993459))) (x - ((x / 2 ^ 1) &&& 1431655765))
def by1 (b : Nat) : Nat := b - ((b / 2 ^ 1) &&& 0x55)
def by2 (b : Nat) : Nat := (b &&& 0x33) + ((b / 2 ^ 2) &&& 0x33)
def by3 (b : Nat) : Nat := (b + b / 2 ^ 4) &&& 0x0f
theorem by_1 : ((List.range 256).all fun a => decide (((a / 2) &&& 0x555555 = (a / 2 ^ 1) &&& 0x55) ∧ by1 a < 256)) = true := by decide +kernel
theorem by_1b : ((List.range 2).all fun e => (List.range 128).all fun y => decide ((128 * e + y) &&& 0x55 = y &&& 0x55)) = true := by decide +kernel
theorem by_2 : ((List.range 256).all fun p => decide ((p &&& 0x333333 = p &&& 0x33) ∧ ((p / 4) &&& 0x333333 = (p / 2 ^ 2) &&& 0x33))) = true := by decide +kernel
theorem by_2b : ((List.range 4).all fun e => (List.range 64).all fun y => decide ((64 * e + y) &&& 0x33 = y &&& 0x33)) = true := by decide +kernel
theorem by_3 : ((List.range 256).all fun b => decide (by2 (by1 b) ≤ 68 ∧ by2 (by1 b) % 16 ≤ 4 ∧ by3 (by2 (by1 b)) = cntN b 8)) = true := by decide +kernel
theorem by_3a : ((List.range 69).all fun p => decide ((p + p / 16) &&& 0x0f0f0f = (p + p / 2 ^ 4) &&& 0x0f)) = true := by decide +kernel
theorem by_3b : ((List.range 5).all fun e => (List.range 69).all fun y => decide ((y + 16 * e + y / 16) &&& 0x0f = (y + y / 2 ^ 4) &&& 0x0f)) = true := by decide +kernel
theorem la1 {n : Nat} {P : Nat → Prop} [DecidablePred P] (h : ((List.range n).all fun a => decide (P a)) = true) {a : Nat} (ha : a < n) : P a := by
  rw [List.all_eq_true] at h
  exact of_decide_eq_true (h a (List.mem_range.mpr ha))
theorem la2 {n m : Nat} {P : Nat → Nat → Prop} [∀ a, DecidablePred (P a)] (h : ((List.range n).all fun a => (List.range m).all fun b => decide (P a b)) = true) {a b : Nat} (ha : a < n) (hb : b < m) : P a b := by
  rw [List.all_eq_true] at h
  have := h a (List.mem_range.mpr ha)
  rw [List.all_eq_true] at this
  exact of_decide_eq_true (this b (List.mem_range.mpr hb))
theorem an_blk {a b c d : Nat} (hb : b < 256) (hd : d < 256) : (256 * a + b) &&& (256 * c + d) = 256 * (a &&& c) + (b &&& d) := and_blk (k := 8) hb hd
theorem bits1 {a b : Nat} (ha : a < 256) (hb : b < 256) : (256 * a + b) - (((256 * a + b) / 2 ^ 1) &&& 1431655765) = 256 * by1 a + by1 b := by
  obtain ⟨f1, _⟩ := la1 by_1 ha
  have f2 := la2 by_1b (show a % 2 < 2 by omega) (show b / 2 < 128 by omega)
  have e1 : (256 * a + b) / 2 ^ 1 = 256 * (a / 2) + (128 * (a % 2) + b / 2) := by omega
  have e2 : (1431655765 : Nat) = 256 * 0x555555 + 0x55 := rfl
  rw [e1, e2, an_blk (by omega) (by decide), f1, f2]
  have g1 : (a / 2 ^ 1) &&& 0x55 ≤ a / 2 ^ 1 := Nat.and_le_left
  have g2 : (b / 2) &&& 0x55 ≤ b / 2 := Nat.and_le_left
  unfold by1
  show _ = 256 * (a - ((a / 2 ^ 1) &&& 0x55)) + (b - ((b / 2) &&& 0x55))
  omega
theorem bits2 {p q : Nat} (hp : p < 256) (hq : q < 256) : ((256 * p + q) &&& 858993459) + (((256 * p + q) / 2 ^ 2) &&& 858993459) = 256 * by2 p + by2 q := by
  obtain ⟨f1, f2⟩ := la1 by_2 hp
  have f3 := la2 by_2b (show p % 4 < 4 by omega) (show q / 4 < 64 by omega)
  have e1 : (256 * p + q) / 2 ^ 2 = 256 * (p / 4) + (64 * (p % 4) + q / 4) := by omega
  have e2 : (858993459 : Nat) = 256 * 0x333333 + 0x33 := rfl
  rw [e1, e2, an_blk hq (by decide), an_blk (by omega) (by decide), f1, f2, f3]
  unfold by2
  show _ = 256 * ((p &&& 0x33) + ((p / 2 ^ 2) &&& 0x33)) + ((q &&& 0x33) + ((q / 4) &&& 0x33))
  omega
theorem bits3 {p q : Nat} (hp : p ≤ 68) (hq : q ≤ 68) (h4 : p % 16 ≤ 4) : ((256 * p + q) + (256 * p + q) / 2 ^ 4) &&& 252645135 = 256 * by3 p + by3 q := by
  have f1 := la1 by_3a (show p < 69 by omega)
  have f2 := la2 by_3b (show p % 16 < 5 by omega) (show q < 69 by omega)
  have e1 : (256 * p + q) + (256 * p + q) / 2 ^ 4 = 256 * (p + p / 16) + (q + 16 * (p % 16) + q / 16) := by omega
  have e2 : (252645135 : Nat) = 256 * 0x0f0f0f + 0x0f := rfl
  rw [e1, e2, an_blk (by omega) (by decide), f1, f2]
  rfl
theorem cntN_split {a b : Nat} (hb : b < 256) : ∀ k, cntN (256 * a + b) (8 + k) = cntN b 8 + cntN a k := by
  have low : ∀ k, k ≤ 8 → cntN (256 * a + b) k = cntN b k := by
    intro k
    induction k with
    | zero => intro _; rfl
    | succ k ih =>
      intro hk
      show cntN (256 * a + b) k + bq (256 * a + b) k = cntN b k + bq b k
      rw [ih (by omega), bq_tb, bq_tb, show (256 : Nat) = 2 ^ 8 from rfl, Nat.testBit_two_pow_mul_add _ hb, if_pos (by omega)]
  intro k
  induction k with
  | zero => exact low 8 (Nat.le_refl _)
  | succ k ih =>
    show cntN (256 * a + b) (8 + k) + bq (256 * a + b) (8 + k) = cntN b 8 + (cntN a k + bq a k)
    rw [ih, bq_tb, bq_tb, show (256 : Nat) = 2 ^ 8 from rfl, Nat.testBit_two_pow_mul_add _ hb, if_neg (by omega), Nat.add_sub_cancel_left]
    omega
theorem bc_eq {x : Nat} (hx : x < 2 ^ 16) : bcN x = cntN x 16 := by
  have ha : x / 256 < 256 := by omega
  have hb : x % 256 < 256 := by omega
  have ex : x = 256 * (x / 256) + x % 256 := by omega
  generalize x / 256 = a at ha ex
  generalize x % 256 = b at hb ex
  subst ex
  obtain ⟨_, a1⟩ := la1 by_1 ha
  obtain ⟨_, b1⟩ := la1 by_1 hb
  obtain ⟨a2, a3, a4⟩ := la1 by_3 ha
  obtain ⟨b2, b3, b4⟩ := la1 by_3 hb
  unfold bcN
  dsimp only
  rw [bits1 ha hb, bits2 a1 b1, bits3 a2 b2 a3, a4, b4]
  have c0 : cntN (256 * a + b) 16 = cntN b 8 + cntN a 8 := cntN_split hb 8
  have c1 := cntN_le a 8
  have c2 := cntN_le b 8
  rw [c0]
  generalize cntN a 8 = u at c1 ⊢
  generalize cntN b 8 = v at c2 ⊢
  have g1 : (256 * u + v) / 2 ^ 8 = u := by omega
  have g2 : (256 * u + v + u) / 2 ^ 16 = 0 := by omega
  rw [show (63 : Nat) = 2 ^ 6 - 1 from rfl, Nat.and_two_pow_sub_one_eq_mod, g1, g2]
  omega
theorem nq_ush {n : Nat} (hn : n < 2 ^ 32) (s : Int32) (k : Nat) (hs : ((s.toUInt32 &&& Int32.toUInt32 31).toBitVec % 32).toNat = k) : ((nI n).toUInt32 >>> (s.toUInt32 &&& Int32.toUInt32 31)).toInt32 = nI (n / 2 ^ k) := pk_ushrN hn s k hs
theorem a_bits {x : Nat} (hx : x < 2 ^ 16) : fbitCount (nI x) = some (nI (cntN x 16)) := by
  rw [← bc_eq hx]
  unfold fbitCount bcN
  dsimp only
  have l1 : (x / 2 ^ 1) &&& 1431655765 ≤ x / 2 ^ 1 := Nat.and_le_left
  have e1 : nI x - (((nI x).toUInt32 >>> ((1 : Int32).toUInt32 &&& Int32.toUInt32 31)).toInt32 &&& (1431655765 : Int32)) = nI (x - ((x / 2 ^ 1) &&& 1431655765)) := by
    rw [nq_ush (by omega) 1 1 rfl, show (1431655765 : Int32) = nI 1431655765 from rfl, nq_and (by omega) (by decide), pk_sub (by omega)]
  rw [e1]
  have b1 : x - ((x / 2 ^ 1) &&& 1431655765) < 2 ^ 16 := by omega
  generalize x - ((x / 2 ^ 1) &&& 1431655765) = i1 at b1 ⊢
  have e2 : (nI i1 &&& (858993459 : Int32)) + (((nI i1).toUInt32 >>> ((2 : Int32).toUInt32 &&& Int32.toUInt32 31)).toInt32 &&& (858993459 : Int32)) = nI ((i1 &&& 858993459) + ((i1 / 2 ^ 2) &&& 858993459)) := by
    rw [nq_ush (by omega) 2 2 rfl, show (858993459 : Int32) = nI 858993459 from rfl, nq_and (by omega) (by decide), nq_and (by omega) (by decide), nI_add]
  rw [e2]
  have l2 : i1 &&& 858993459 ≤ i1 := Nat.and_le_left
  have l3 : (i1 / 2 ^ 2) &&& 858993459 ≤ i1 / 2 ^ 2 := Nat.and_le_left
  have b2 : (i1 &&& 858993459) + ((i1 / 2 ^ 2) &&& 858993459) < 2 ^ 17 := by omega
  generalize (i1 &&& 858993459) + ((i1 / 2 ^ 2) &&& 858993459) = i2 at b2 ⊢
  have e3 : (nI i2 + ((nI i2).toUInt32 >>> ((4 : Int32).toUInt32 &&& Int32.toUInt32 31)).toInt32) &&& (252645135 : Int32) = nI ((i2 + i2 / 2 ^ 4) &&& 252645135) := by
    rw [nq_ush (by omega) 4 4 rfl, nI_add, show (252645135 : Int32) = nI 252645135 from rfl, nq_and (by omega) (by decide)]
  rw [e3]
  have l4 : (i2 + i2 / 2 ^ 4) &&& 252645135 ≤ i2 + i2 / 2 ^ 4 := Nat.and_le_left
  have b3 : (i2 + i2 / 2 ^ 4) &&& 252645135 < 2 ^ 18 := by omega
  generalize (i2 + i2 / 2 ^ 4) &&& 252645135 = i3 at b3 ⊢
  have e4 : nI i3 + ((nI i3).toUInt32 >>> ((8 : Int32).toUInt32 &&& Int32.toUInt32 31)).toInt32 = nI (i3 + i3 / 2 ^ 8) := by
    rw [nq_ush (by omega) 8 8 rfl, nI_add]
  rw [e4]
  have b4 : i3 + i3 / 2 ^ 8 < 2 ^ 19 := by omega
  generalize i3 + i3 / 2 ^ 8 = i4 at b4 ⊢
  have e5 : nI i4 + ((nI i4).toUInt32 >>> ((16 : Int32).toUInt32 &&& Int32.toUInt32 31)).toInt32 = nI (i4 + i4 / 2 ^ 16) := by
    rw [nq_ush (by omega) 16 16 rfl, nI_add]
  rw [e5, show (63 : Int32) = nI 63 from rfl, nq_and (by omega) (by decide)]
