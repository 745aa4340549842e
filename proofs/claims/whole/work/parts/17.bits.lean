/-! bits of ints and longs, as the two programs use them -/
theorem vl_eq {A X : Type} (a : A) (k : A → Option X) : vl a k = k a := rfl
theorem jn_eq {A X : Type} (J : A → Option X) (f : (A → Option X) → Option X) : jn J f = f J := rfl
theorem Lnle {n i : Nat} (h : i < n) (hn : n < 2 ^ 31 := by decide) : ¬ (OfNat.ofNat n : Int32) ≤ nI i := nI_ge h hn
theorem Lle {n i : Nat} (h : n ≤ i) (hi : i < 2 ^ 31) : (OfNat.ofNat n : Int32) ≤ nI i := nI_le h hi
theorem Lnlt {n i : Nat} (h : i ≤ n) (hn : n < 2 ^ 31 := by decide) : ¬ (OfNat.ofNat n : Int32) < nI i := nI_nlt h hn
theorem Llt {n i : Nat} (h : n < i) (hi : i < 2 ^ 31) : (OfNat.ofNat n : Int32) < nI i := nI_lt h hi
theorem Rle {n i : Nat} (h : i ≤ n) (hn : n < 2 ^ 31 := by decide) : nI i ≤ (OfNat.ofNat n : Int32) := nI_le h hn
theorem Rnle {n i : Nat} (h : n < i) (hi : i < 2 ^ 31) : ¬ nI i ≤ (OfNat.ofNat n : Int32) := nI_ge h hi
theorem Rlt {n i : Nat} (h : i < n) (hn : n < 2 ^ 31 := by decide) : nI i < (OfNat.ofNat n : Int32) := nI_lt h hn
theorem Rnlt {n i : Nat} (h : n ≤ i) (hi : i < 2 ^ 31) : ¬ nI i < (OfNat.ofNat n : Int32) := nI_nlt h hi
theorem Req {n i : Nat} (hi : i < 2 ^ 31) (hn : n < 2 ^ 31 := by decide) : nI i = (OfNat.ofNat n : Int32) ↔ i = n := nI_eq hi hn
theorem b2i (p : Bool) : (if p = true then (1 : Int32) else 0) = nI (if p = true then 1 else 0) := by cases p <;> rfl
theorem bt_nI (n : Nat) {i : Nat} (hi : i < 32) : bt (nI n) i = n.testBit i := by
  show (BitVec.ofNat 32 n).getLsbD i = _
  rw [BitVec.getLsbD_ofNat, decide_eq_true hi, Bool.true_and]
theorem bt_one : ∀ i, i < 32 → bt 1 i = decide (i = 0) := by decide +kernel
theorem bt_pow : ∀ k, k < 32 → ∀ i, i < 32 → bt ((1 : Int32) <<< (nI k &&& 31)) i = decide (i = k) := by decide +kernel
theorem shl1 : ∀ k, k < 31 → (1 : Int32) <<< (nI k &&& 31) = nI (2 ^ k) := by decide +kernel
theorem bit_at (x : Int32) {k : Nat} (hk : k < 32) : ((x >>> (nI k &&& 31)) &&& (1 : Int32)) = if bt x k then 1 else 0 := by
  refine b_ext (fun i hi => ?_)
  rw [b_and, b_sshr k hk x hi, bt_one i hi]
  cases i with
  | zero =>
    rw [Nat.add_zero, if_pos hk]
    cases bt x k <;> rfl
  | succ i =>
    rw [decide_eq_false (by omega), Bool.and_false]
    cases bt x k
    · rw [if_neg (by decide), b_0]
    · rw [if_pos rfl, bt_one _ hi, decide_eq_false (by omega)]
theorem bit_nI (n : Nat) {k : Nat} (hk : k < 32) : ((nI n >>> (nI k &&& 31)) &&& (1 : Int32)) = if n.testBit k then 1 else 0 := by
  rw [bit_at _ hk, bt_nI n hk]
theorem bt_not (x : Int32) {i : Nat} (hi : i < 32) : bt (x ^^^ (-1 : Int32)) i = !bt x i := by
  rw [b_xor, b_m1 i hi, Bool.xor_true]
/-- what is left of a number is no greater -/
theorem and_small {a k : Nat} (h : a < 2 ^ k) (y : Int32) : ∃ m, m < 2 ^ k ∧ nI a &&& y = nI m := by
  obtain ⟨n, _, rfl⟩ := wb_of32 y
  exact ⟨a &&& n, Nat.lt_of_le_of_lt Nat.and_le_left h, fa_and a n⟩
theorem or_small {a b k : Nat} (h : a < 2 ^ k) (h2 : b < 2 ^ k) : ∃ m, m < 2 ^ k ∧ nI a ||| nI b = nI m := ⟨a ||| b, Nat.or_lt_two_pow h h2, fa_or a b⟩
theorem nI_inj {a b : Nat} (ha : a < 2 ^ 31) (hb : b < 2 ^ 31) (h : nI a = nI b) : a = b := (nI_eq ha hb).mp h
/-- a sum over an int's bits: how many of the first n are set -/
theorem bits_eq (x : Int32) : FX12_bits x = some (nI (fb_ct (fun i => bt x i) 10)) := by
  unfold FX12_bits
  refine lpb_for (fun i => (nI (fb_ct (fun i => bt x i) i), nI i)) (nI (fb_ct (fun i => bt x i) 10)) 10 (by rfl) (by decide) (fun i hi => ?_) (by rfl) (by rfl)
  dsimp only
  rw [if_neg (Lnle hi), vl_eq, vl_eq, bit_at x (by omega), nI_1, fb_ct_succ, b2i, nI_add]
theorem has_eq (x : Int32) {k : Nat} (hk : k < 32) : FX12_has x (nI k) = some (if bt x k then 1 else 0) := by
  unfold FX12_has
  rw [bit_at x hk]
  cases bt x k
  · rfl
  · rfl
theorem in_eq (v a b : Int32) : FX12_in v a b = some (if a ≤ v ∧ v ≤ b then 1 else 0) := by
  unfold FX12_in
  by_cases h1 : v < a
  · rw [if_pos h1, if_neg (fun q => (fa_of_lt h1).2.1 q.1)]
  · rw [if_neg h1]
    by_cases h2 : b < v
    · rw [if_pos h2, if_neg (fun q => (fa_of_lt h2).2.1 q.2)]
    · rw [if_neg h2, if_pos ⟨fa_of_nlt h1, fa_of_nlt h2⟩]
/-- a number between two small ones is a small one -/
theorem in_nat {v : Int32} {a b : Nat} (hb : b < 2 ^ 31) (h1 : nI a ≤ v) (h2 : v ≤ nI b) (ha : a < 2 ^ 31) : ∃ k, a ≤ k ∧ k ≤ b ∧ v = nI k := by
  obtain ⟨j, hj, rfl⟩ := nI_of2 (x := v) (M := nI b) (n := b) (nI_toInt hb) (fun q => by
    have q1 := (fa_le _ _).mp h1
    have q2 := (fa_lt _ _).mp q
    rw [nI_toInt ha] at q1
    have q3 : (0 : Int32).toInt = 0 := by decide
    omega) h2
  exact ⟨j, (nI_leI ha (by omega)).mp h1, hj, rfl⟩
/-! the class's count of an int's bits: all that is asked of it -/
def pc (n : Nat) : Nat := fb_ct (fun i => n.testBit i) 10
theorem bc_small : ∀ n, n < 1024 → FJ6_bitCount_0f7a4 (nI n) = some (nI (pc n)) := by decide +kernel
theorem bc_all : FJ6_bitCount_0f7a4 (-1) = some 32 := by decide +kernel
theorem bits_nI (n : Nat) : FX12_bits (nI n) = some (nI (pc n)) := by
  rw [bits_eq, fb_ct_cong (q := fun i => n.testBit i) (fun k hk => bt_nI n (by omega))]
  rfl
