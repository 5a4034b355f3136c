/-! no board has more than 1690 fits: counted over sets of pictures as bits of one number -/
theorem and_blk {k a b c d : Nat} (hb : b < 2 ^ k) (hd : d < 2 ^ k) : (2 ^ k * a + b) &&& (2 ^ k * c + d) = 2 ^ k * (a &&& c) + (b &&& d) := by
  apply Nat.eq_of_testBit_eq
  intro i
  have h1 : b &&& d < 2 ^ k := Nat.lt_of_le_of_lt Nat.and_le_left hb
  rw [Nat.testBit_and, Nat.testBit_two_pow_mul_add _ hb, Nat.testBit_two_pow_mul_add _ hd, Nat.testBit_two_pow_mul_add _ h1]
  by_cases a : i < k
  · rw [if_pos a, if_pos a, if_pos a, Nat.testBit_and]
  · rw [if_neg a, if_neg a, if_neg a, Nat.testBit_and]
/-- the sum of n fields of w bits -/
def fsN (w : Nat) : Nat → Nat → Nat
  | 0, _ => 0
  | n + 1, x => x % 2 ^ w + fsN w n (x / 2 ^ w)
def fmN (w : Nat) : Nat → Nat
  | 0 => 0
  | k + 1 => 2 ^ (2 * w) * fmN w k + (2 ^ w - 1)
theorem fmN_mul (w k : Nat) : fmN w k * (2 ^ w + 1) = 2 ^ (2 * w * k) - 1 := by
  induction k with
  | zero => simp [fmN]
  | succ k ih =>
    show (2 ^ (2 * w) * fmN w k + (2 ^ w - 1)) * (2 ^ w + 1) = _
    have h1 : 2 ^ (2 * w) = 2 ^ w * 2 ^ w := by rw [Nat.two_mul, Nat.pow_add]
    have h2 := Nat.two_pow_pos w
    have h3 : (2 ^ w - 1) * (2 ^ w + 1) = 2 ^ (2 * w) - 1 := by
      rw [h1, Nat.sub_mul, Nat.mul_add]
      omega
    rw [Nat.add_mul, Nat.mul_assoc, ih, h3, Nat.mul_sub, ← Nat.pow_add, show 2 * w + 2 * w * k = 2 * w * (k + 1) by rw [Nat.mul_succ]; omega]
    have h4 : 2 ^ (2 * w) ≤ 2 ^ (2 * w * (k + 1)) := pw_le (by rw [Nat.mul_succ]; omega)
    have h5 := Nat.two_pow_pos (2 * w)
    omega
theorem fmN_eq (w k : Nat) : (2 ^ (2 * w * k) - 1) / (2 ^ w + 1) = fmN w k := by
  rw [← fmN_mul, Nat.mul_div_cancel _ (Nat.succ_pos _)]
theorem fs_step {w : Nat} (hw : 0 < w) : ∀ (k x : Nat), fsN (2 * w) k ((x &&& fmN w k) + ((x / 2 ^ w) &&& fmN w k)) = fsN w (2 * k) x := by
  intro k
  induction k with
  | zero => intro x; rfl
  | succ k ih =>
    intro x
    have hp := Nat.two_pow_pos w
    have h1 : 2 ^ (2 * w) = 2 ^ w * 2 ^ w := by rw [Nat.two_mul, Nat.pow_add]
    have hlow : 2 ^ w - 1 < 2 ^ (2 * w) := by
      have : 2 ^ w ≤ 2 ^ (2 * w) := pw_le (by omega)
      omega
    -- the lowest two fields
    have ex : x = 2 ^ (2 * w) * (x / 2 ^ (2 * w)) + x % 2 ^ (2 * w) := (Nat.div_add_mod _ _).symm
    have hx := Nat.mod_lt x (Nat.two_pow_pos (2 * w))
    generalize hq : x / 2 ^ (2 * w) = x' at ex
    have e1 : x &&& fmN w (k + 1) = 2 ^ (2 * w) * (x' &&& fmN w k) + x % 2 ^ w := by
      show x &&& (2 ^ (2 * w) * fmN w k + (2 ^ w - 1)) = _
      rw [ex, and_blk hx hlow, Nat.and_two_pow_sub_one_eq_mod, ← ex]
      congr 1
      rw [h1]
      exact Nat.mod_mul_right_mod x _ _
    have ex2 : x / 2 ^ w = 2 ^ (2 * w) * (x' / 2 ^ w) + (x / 2 ^ w) % 2 ^ (2 * w) := by
      have := (Nat.div_add_mod (x / 2 ^ w) (2 ^ (2 * w))).symm
      have e : x / 2 ^ w / 2 ^ (2 * w) = x' / 2 ^ w := by rw [← hq, Nat.div_div_eq_div_mul, Nat.div_div_eq_div_mul, Nat.mul_comm]
      rw [e] at this
      exact this
    have e2 : (x / 2 ^ w) &&& fmN w (k + 1) = 2 ^ (2 * w) * ((x' / 2 ^ w) &&& fmN w k) + (x / 2 ^ w) % 2 ^ w := by
      show (x / 2 ^ w) &&& (2 ^ (2 * w) * fmN w k + (2 ^ w - 1)) = _
      have hy := Nat.mod_lt (x / 2 ^ w) (Nat.two_pow_pos (2 * w))
      rw [ex2, and_blk hy hlow, Nat.and_two_pow_sub_one_eq_mod, ← ex2]
      congr 1
      rw [h1]
      exact Nat.mod_mul_right_mod _ _ _
    have hs : x % 2 ^ w + (x / 2 ^ w) % 2 ^ w < 2 ^ (2 * w) := by
      have a := Nat.mod_lt x hp
      have b := Nat.mod_lt (x / 2 ^ w) hp
      have c : 2 * 2 ^ w ≤ 2 ^ (2 * w) := by
        have : 2 ^ (w + 1) ≤ 2 ^ (2 * w) := pw_le (by omega)
        rw [Nat.pow_succ] at this
        omega
      omega
    rw [e1, e2]
    generalize hA : x' &&& fmN w k = A at *
    generalize hB : (x' / 2 ^ w) &&& fmN w k = B at *
    have e3 : 2 ^ (2 * w) * A + x % 2 ^ w + (2 ^ (2 * w) * B + x / 2 ^ w % 2 ^ w) = 2 ^ (2 * w) * (A + B) + (x % 2 ^ w + x / 2 ^ w % 2 ^ w) := by rw [Nat.mul_add]; omega
    show ((_ : Nat) % 2 ^ (2 * w)) + fsN (2 * w) k (_ / 2 ^ (2 * w)) = _
    rw [e3, Nat.mul_add_mod, Nat.mod_eq_of_lt hs, Nat.mul_add_div (Nat.two_pow_pos _), Nat.div_eq_of_lt hs, Nat.add_zero, ← hA, ← hB, ih x']
    show _ = x % 2 ^ w + ((x / 2 ^ w) % 2 ^ w + fsN w (2 * k) (x / 2 ^ w / 2 ^ w))
    rw [Nat.div_div_eq_div_mul, ← h1, hq, Nat.add_assoc]
/-- how many bits are set, of 2^j fields of w bits -/
def plN : Nat → Nat → Nat → Nat
  | 0, w, x => x % 2 ^ w
  | j + 1, w, x => plN j (2 * w) ((x &&& ((2 ^ (2 * w * 2 ^ j) - 1) / (2 ^ w + 1))) + ((x / 2 ^ w) &&& ((2 ^ (2 * w * 2 ^ j) - 1) / (2 ^ w + 1))))
theorem plN_eq : ∀ (j w x : Nat), 0 < w → plN j w x = fsN w (2 ^ j) x := by
  intro j
  induction j with
  | zero => intro w x _; show x % 2 ^ w = x % 2 ^ w + 0; rfl
  | succ j ih =>
    intro w x hw
    show plN j (2 * w) _ = _
    rw [fmN_eq, ih _ _ (by omega), fs_step hw, Nat.pow_succ, Nat.mul_comm 2]
theorem fs_cnt : ∀ (n x s : Nat), fsN 1 n (x / 2 ^ s) + cntF (fun p => x.testBit p) s = cntF (fun p => x.testBit p) (s + n) := by
  intro n
  induction n with
  | zero => intro x s; show 0 + _ = _; rw [Nat.zero_add]; rfl
  | succ n ih =>
    intro x s
    show (x / 2 ^ s % 2 ^ 1 + fsN 1 n (x / 2 ^ s / 2 ^ 1)) + _ = _
    have e1 : x / 2 ^ s % 2 ^ 1 = (x.testBit s).toNat := bq_tb x s
    rw [Nat.div_div_eq_div_mul, show 2 ^ s * 2 ^ 1 = 2 ^ (s + 1) from (Nat.pow_succ ..).symm, e1, show s + (n + 1) = (s + 1) + n by omega, ← ih x (s + 1)]
    show _ = _ + (cntF _ s + (x.testBit s).toNat)
    omega
theorem plN_cnt (n x : Nat) : plN n 1 x = cntF (fun p => x.testBit p) (2 ^ n) := by
  rw [plN_eq n 1 x (by decide)]
  have := fs_cnt (2 ^ n) x 0
  rw [Nat.pow_zero, Nat.div_one, Nat.zero_add] at this
  exact this
theorem cntF_mono {F G : Nat → Bool} {n : Nat} (h : ∀ p, p < n → F p = true → G p = true) : cntF F n ≤ cntF G n := by
  induction n with
  | zero => exact Nat.le_refl _
  | succ n ih =>
    show cntF F n + (F n).toNat ≤ cntF G n + (G n).toNat
    have h1 := ih (fun p hp => h p (by omega))
    cases a : F n with
    | false => simp; omega
    | true => rw [h n (Nat.lt_succ_self _) a]; omega
/-- all pictures that have the bit i -/
def ptN : Nat → Nat → Nat
  | 0, _ => 0
  | n + 1, i => if i = n then 2 ^ 2 ^ n * (2 ^ 2 ^ n - 1) + 0 else 2 ^ 2 ^ n * ptN n i + ptN n i
theorem ptN_lt (n i : Nat) : ptN n i < 2 ^ 2 ^ n := by
  induction n with
  | zero => exact Nat.two_pow_pos _
  | succ n ih =>
    have e : 2 ^ 2 ^ (n + 1) = 2 ^ 2 ^ n * 2 ^ 2 ^ n := by rw [← Nat.pow_add]; congr 1; rw [Nat.pow_succ]; omega
    have hp := Nat.two_pow_pos (2 ^ n)
    show (if _ then _ else _) < _
    rw [e]
    split
    · rw [Nat.add_zero]
      exact Nat.mul_lt_mul_of_pos_left (by omega) hp
    · calc 2 ^ 2 ^ n * ptN n i + ptN n i < 2 ^ 2 ^ n * ptN n i + 2 ^ 2 ^ n := by omega
        _ = 2 ^ 2 ^ n * (ptN n i + 1) := by rw [Nat.mul_succ]
        _ ≤ 2 ^ 2 ^ n * 2 ^ 2 ^ n := Nat.mul_le_mul_left _ ih
theorem ptN_tb : ∀ (n i p : Nat), i < n → p < 2 ^ n → (ptN n i).testBit p = p.testBit i := by
  intro n
  induction n with
  | zero => intro i p h; omega
  | succ n ih =>
    intro i p hi hp
    have hp2 : p < 2 ^ n + 2 ^ n := by rw [Nat.pow_succ] at hp; omega
    have tail : ∀ j, j < n → ¬ p < 2 ^ n → p.testBit j = (p - 2 ^ n).testBit j := by
      intro j hj hge
      have e : p = 2 ^ n * 1 + (p - 2 ^ n) := by omega
      have := Nat.testBit_two_pow_mul_add 1 (b := p - 2 ^ n) (i := n) (by omega) j
      rw [← e, if_pos hj] at this
      exact this
    show (if i = n then _ else _ : Nat).testBit p = _
    by_cases a : i = n
    · subst a
      rw [if_pos rfl, Nat.testBit_two_pow_mul_add _ (Nat.two_pow_pos _)]
      by_cases b : p < 2 ^ i
      · rw [if_pos b, Nat.zero_testBit, Nat.testBit_lt_two_pow b]
      · rw [if_neg b, Nat.testBit_two_pow_sub_one]
        have e : p = 2 ^ i * 1 + (p - 2 ^ i) := by omega
        have := Nat.testBit_two_pow_mul_add 1 (b := p - 2 ^ i) (i := i) (by omega) i
        rw [← e, if_neg (Nat.lt_irrefl _), Nat.sub_self] at this
        rw [this]
        simp
        omega
    · rw [if_neg a, Nat.testBit_two_pow_mul_add _ (ptN_lt n i)]
      by_cases b : p < 2 ^ n
      · rw [if_pos b, ih i p (by omega) b]
      · rw [if_neg b, ih i (p - 2 ^ n) (by omega) (by omega), tail i (by omega) b]
/-- the cells of a line of a picture, by the places of its bits -/
def cvN : List Nat → Nat → Nat
  | [], _ => 0
  | q :: qs, p => bq p q + 2 * cvN qs p
def cmN (n : Nat) : List Nat → Nat → Nat
  | [], _ => 2 ^ 2 ^ n - 1
  | q :: qs, c => (if c % 2 = 1 then ptN n q else (2 ^ 2 ^ n - 1) ^^^ ptN n q) &&& cmN n qs (c / 2)
theorem cvN_lt (qs : List Nat) (p : Nat) : cvN qs p < 2 ^ qs.length := by
  induction qs with
  | nil => exact Nat.zero_lt_one
  | cons q qs ih =>
    show bq p q + 2 * cvN qs p < 2 ^ (qs.length + 1)
    have := bq_le p q
    rw [Nat.pow_succ]
    omega
theorem cmN_tb {n : Nat} : ∀ (qs : List Nat) (c p : Nat), (∀ q ∈ qs, q < n) → p < 2 ^ n → c < 2 ^ qs.length → (cmN n qs c).testBit p = decide (cvN qs p = c) := by
  intro qs
  induction qs with
  | nil =>
    intro c p _ hp hc
    have : c = 0 := by simpa using hc
    subst this
    show (2 ^ 2 ^ n - 1).testBit p = decide (0 = 0)
    rw [Nat.testBit_two_pow_sub_one]
    simp [hp]
  | cons q qs ih =>
    intro c p hq hp hc
    have hc2 : c / 2 < 2 ^ qs.length := by
      have : c < 2 ^ (qs.length + 1) := hc
      rw [Nat.pow_succ] at this
      omega
    show ((if _ then _ else _) &&& cmN n qs (c / 2)).testBit p = decide (bq p q + 2 * cvN qs p = c)
    rw [Nat.testBit_and, ih (c / 2) p (fun a ha => hq a (List.mem_cons_of_mem _ ha)) hp hc2]
    have t := ptN_tb n q p (hq q List.mem_cons_self) hp
    have hb := bq_b p q
    have h2 := Nat.mod_two_eq_zero_or_one c
    by_cases a : c % 2 = 1
    · rw [if_pos a, t]
      cases e : p.testBit q with
      | true =>
        rw [e, if_pos rfl] at hb
        rw [hb, Bool.true_and]
        congr 1
        apply propext
        constructor <;> intro h <;> omega
      | false =>
        rw [e, if_neg (by decide)] at hb
        rw [hb, Bool.false_and]
        symm
        rw [decide_eq_false_iff_not]
        omega
    · rw [if_neg a, Nat.testBit_xor, t, Nat.testBit_two_pow_sub_one]
      cases e : p.testBit q with
      | true =>
        rw [e, if_pos rfl] at hb
        rw [hb]
        simp [hp]
        omega
      | false =>
        rw [e, if_neg (by decide)] at hb
        rw [hb]
        simp only [hp, decide_true, Bool.xor_false, Bool.true_and]
        congr 1
        apply propext
        constructor <;> intro h <;> omega
def lmN (n : Nat) (qs : List Nat) (m : Nat) : Nat → Nat
  | 0 => 0
  | c + 1 => lmN n qs m c ||| (if m.testBit c = true then cmN n qs c else 0)
theorem lmN_tb {n : Nat} {qs : List Nat} {m p : Nat} (hq : ∀ q ∈ qs, q < n) (hp : p < 2 ^ n) : ∀ (k : Nat), k ≤ 2 ^ qs.length → (lmN n qs m k).testBit p = (decide (cvN qs p < k) && m.testBit (cvN qs p)) := by
  intro k
  induction k with
  | zero => intro _; simp [lmN]
  | succ k ih =>
    intro hk
    show (lmN n qs m k ||| _).testBit p = _
    rw [Nat.testBit_or, ih (by omega)]
    by_cases a : cvN qs p = k
    · cases e : m.testBit k with
      | true => rw [if_pos rfl, cmN_tb qs k p hq hp (by omega)]; simp [a, e]
      | false => simp [a, e]
    · have h1 : (cvN qs p < k + 1) ↔ (cvN qs p < k) := by omega
      cases e : m.testBit k with
      | true => rw [if_pos rfl, cmN_tb qs k p hq hp (by omega)]; simp [a, h1]
      | false => simp [h1]
theorem lmN_all {n : Nat} {qs : List Nat} {m p : Nat} (hq : ∀ q ∈ qs, q < n) (hp : p < 2 ^ n) : (lmN n qs m (2 ^ qs.length)).testBit p = m.testBit (cvN qs p) := by
  rw [lmN_tb hq hp _ (Nat.le_refl _)]
  simp [cvN_lt]
/-- for each choice of one set a line, no more than lim -/
def chN (n lim : Nat) : List (List Nat) → Nat → Bool
  | [], x => Nat.ble (plN n 1 x) lim
  | ms :: rest, x => Nat.ble (plN n 1 x) lim || ms.all (fun m => chN n lim rest (x &&& m))
theorem chN_sound {n lim : Nat} : ∀ (ls : List (List Nat)) (x : Nat), chN n lim ls x = true → ∀ (sel : List Nat), sel.length = ls.length → (∀ (i m : Nat) (ms : List Nat), sel[i]? = some m → ls[i]? = some ms → m ∈ ms) → cntF (fun p => x.testBit p && sel.all (fun m => m.testBit p)) (2 ^ n) ≤ lim := by
  intro ls
  have small : ∀ (x : Nat) (sel : List Nat), Nat.ble (plN n 1 x) lim = true → cntF (fun p => x.testBit p && sel.all (fun m => m.testBit p)) (2 ^ n) ≤ lim := by
    intro x sel h
    have h1 := Nat.le_of_ble_eq_true h
    rw [plN_cnt] at h1
    refine Nat.le_trans (cntF_mono (fun p _ hp => ?_)) h1
    rw [Bool.and_eq_true] at hp
    exact hp.1
  induction ls with
  | nil =>
    intro x h sel hs _
    exact small x sel h
  | cons ms rest ih =>
    intro x h sel hs hm
    rcases Bool.or_eq_true_iff.mp h with h | h
    · exact small x sel h
    · cases sel with
      | nil => cases hs
      | cons m sel =>
        rw [List.all_eq_true] at h
        have h1 := h m (hm 0 m ms rfl rfl)
        have h2 := ih (x &&& m) h1 sel (by simpa using hs) (fun i a b ha hb => hm (i + 1) a b ha hb)
        refine Nat.le_trans (cntF_mono (fun p _ hp => ?_)) h2
        simp only [List.all_cons, Bool.and_eq_true, Nat.testBit_and] at hp ⊢
        exact ⟨⟨hp.1, hp.2.1⟩, hp.2.2⟩
def mxN (len : Nat) : List Nat := if len = 4 then [0xd1de, 0x736, 0x1668, 0x3848, 0x2e20, 0x6880, 1] else if len = 3 then [0xde, 0x36, 0x68, 1] else [0xe, 1]
def posN (h w l : Nat) : List Nat := if l < h then (List.range w).map (fun c => w * l + c) else (List.range h).map (fun r => w * r + (l - h))
def lnsN (h w : Nat) : List (List Nat) := (List.range (h + w)).map (fun l => (mxN (lenN h w l)).map (fun m => lmN (h * w) (posN h w l) m (2 ^ lenN h w l)))
set_option maxRecDepth 100000 in
theorem ch_34 : chN 12 1690 (lnsN 3 4) (2 ^ 2 ^ 12 - 1) = true := by decide +kernel
