/-! numbers: Int32 as nI of a Nat -/
theorem nI_lit (n : Nat) : (OfNat.ofNat n : Int32) = nI n := rfl
theorem nI_bv (n : Nat) : (nI n).toBitVec = BitVec.ofNat 32 n := rfl
theorem nI_inj' {a b : Nat} (ha : a < 2 ^ 32) (hb : b < 2 ^ 32) (h : nI a = nI b) : a = b := by
  have h1 := congrArg (fun x : Int32 => x.toBitVec.toNat) h
  simp only [pk_tn ha, pk_tn hb] at h1
  exact h1
theorem nI_ext {x y : Int32} (h : x.toBitVec.toNat = y.toBitVec.toNat) : x = y := Int32.toBitVec_inj.mp (BitVec.eq_of_toNat_eq h)
theorem nq_and {a b : Nat} (ha : a < 2 ^ 32) (hb : b < 2 ^ 32) : nI a &&& nI b = nI (a &&& b) := by
  apply nI_ext
  rw [Int32.toBitVec_and, BitVec.toNat_and, pk_tn ha, pk_tn hb, pk_tn (Nat.lt_of_le_of_lt Nat.and_le_left ha)]
theorem nq_or {a b : Nat} (ha : a < 2 ^ 32) (hb : b < 2 ^ 32) : nI a ||| nI b = nI (a ||| b) := by
  apply nI_ext
  rw [Int32.toBitVec_or, BitVec.toNat_or, pk_tn ha, pk_tn hb, pk_tn (Nat.or_lt_two_pow ha hb)]
theorem nq_xor {a b : Nat} (ha : a < 2 ^ 32) (hb : b < 2 ^ 32) : nI a ^^^ nI b = nI (a ^^^ b) := by
  apply nI_ext
  rw [Int32.toBitVec_xor, BitVec.toNat_xor, pk_tn ha, pk_tn hb, pk_tn (Nat.xor_lt_two_pow ha hb)]
theorem nq_s : ∀ n, n < 32 → ((nI n &&& 31).toBitVec.smod 32).toNat = n := by decide +kernel
theorem nq_shr {a k : Nat} (ha : a < 2 ^ 31) (hk : k < 32) : nI a >>> (nI k &&& 31) = nI (a / 2 ^ k) := pk_shrN ha _ k (nq_s k hk)
theorem nq_shl {a k : Nat} (hk : k < 32) (h : a * 2 ^ k < 2 ^ 32) : nI a <<< (nI k &&& 31) = nI (a * 2 ^ k) := pk_shlN _ k (nq_s k hk) h
theorem nq_bit {a k : Nat} (ha : a < 2 ^ 31) (hk : k < 32) : (nI a >>> (nI k &&& 31)) &&& nI 1 = nI (a / 2 ^ k % 2) := by
  rw [nq_shr ha hk]
  have h1 : a / 2 ^ k < 2 ^ 32 := Nat.lt_of_le_of_lt (Nat.div_le_self _ _) (by omega)
  exact pk_andN h1 1 rfl
/-- the bit k of a -/
def bq (a k : Nat) : Nat := a / 2 ^ k % 2
theorem bq_le (a k : Nat) : bq a k < 2 := Nat.mod_lt _ (by decide)
theorem bq_tb (a k : Nat) : bq a k = (a.testBit k).toNat := by
  unfold bq
  rw [Nat.testBit_eq_decide_div_mod_eq]
  rcases Nat.mod_two_eq_zero_or_one (a / 2 ^ k) with h | h <;> simp [h]
theorem okI_n {k n : Nat} (hk : k < 2 ^ 31) : okI (nI k) n = decide (k < n) := by
  unfold okI
  rw [nI_toInt hk]
  congr 1
  apply propext
  constructor <;> intro h <;> omega
theorem okI_t {k n : Nat} (h : k < n) (hn : n < 2 ^ 31) : okI (nI k) n = true := by rw [okI_n (by omega)]; exact decide_eq_true h
theorem vu_s {α : Type} (f : Nat → α) (k : Nat) (v : α) : va_up f k v k = v := if_pos rfl
theorem vu_n {α : Type} (f : Nat → α) {k j : Nat} (v : α) (h : j ≠ k) : va_up f k v j = f j := if_neg h
theorem vu_u {α : Type} (f : Nat → α) (k : Nat) (v w : α) : va_up (va_up f k v) k w = va_up f k w := by
  funext j
  unfold va_up
  by_cases h : j = k <;> simp [h]
theorem vu_id {α : Type} (f : Nat → α) (k : Nat) : va_up f k (f k) = f := by
  funext j
  unfold va_up
  by_cases h : j = k <;> simp [h]
theorem up_s (f : Nat → Int32) (k : Nat) (x : Int32) : upd f k x k = x := if_pos rfl
theorem up_n (f : Nat → Int32) {k j : Nat} (x : Int32) (h : j ≠ k) : upd f k x j = f j := if_neg h
/-! loops -/
theorem wh_i {σ ρ : Type} {body : σ → Option (σ ⊕ ρ)} {n : Nat} {s s' : σ} (h : body s = some (.inl s')) : wh body (n + 1) s = wh body n s' := by
  show (body s).bind _ = _
  rw [h]; rfl
theorem wh_r {σ ρ : Type} {body : σ → Option (σ ⊕ ρ)} {n : Nat} {s : σ} {r : ρ} (h : body s = some (.inr r)) : wh body (n + 1) s = some r := by
  show (body s).bind _ = _
  rw [h]; rfl
/-- a loop whose state is known at each round: K rounds, then it ends -/
theorem wh_for {σ ρ : Type} {body : σ → Option (σ ⊕ ρ)} (I : Nat → σ) (K : Nat) {r : ρ} (hs : ∀ k, k < K → body (I k) = some (.inl (I (k + 1)))) (he : body (I K) = some (.inr r)) : ∀ (d k n : Nat), k + d = K → d < n → wh body n (I k) = some r := by
  intro d
  induction d with
  | zero =>
    intro k n hk hn
    obtain ⟨m, rfl⟩ : ∃ m, n = m + 1 := ⟨n - 1, by omega⟩
    have : k = K := by omega
    subst this
    exact wh_r he
  | succ d ih =>
    intro k n hk hn
    obtain ⟨m, rfl⟩ : ∃ m, n = m + 1 := ⟨n - 1, by omega⟩
    rw [wh_i (hs k (by omega))]
    exact ih (k + 1) m (by omega) (by omega)
theorem wh_for0 {σ ρ : Type} {body : σ → Option (σ ⊕ ρ)} (I : Nat → σ) (K : Nat) {r : ρ} {n : Nat} {s : σ} (h0 : s = I 0) (hn : K < n) (hs : ∀ k, k < K → body (I k) = some (.inl (I (k + 1)))) (he : body (I K) = some (.inr r)) : wh body n s = some r := by
  rw [h0]
  exact wh_for I K hs he K 0 n (by omega) hn
theorem wh_b {σ ρ τ : Type} {body : σ → Option (σ ⊕ ρ)} (I : Nat → σ) (K : Nat) (r : ρ) {n : Nat} {s : σ} {f : ρ → Option τ} {x : Option τ} (h0 : s = I 0) (hn : K < n) (hs : ∀ k, k < K → body (I k) = some (.inl (I (k + 1)))) (he : body (I K) = some (.inr r)) (hk : f r = x) : (wh body n s).bind f = x := by
  rw [wh_for0 I K h0 hn hs he]
  exact hk
