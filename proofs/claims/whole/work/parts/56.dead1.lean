/-! call: dead, the class. am: the first least of those that p takes -/
def am (p : Nat → Bool) (g : Nat → Nat) : Nat → Nat × Nat
  | 0 => (0, 1000000000)
  | n + 1 => if p n && decide (g n < (am p g n).2) then (n, g n) else am p g n
theorem am_s (p : Nat → Bool) (g : Nat → Nat) (n : Nat) : am p g (n + 1) = if p n && decide (g n < (am p g n).2) then (n, g n) else am p g n := rfl
theorem am_cong {p : Nat → Bool} {g g' : Nat → Nat} : ∀ {n : Nat}, (∀ j, j < n → p j = true → g j = g' j) → am p g n = am p g' n
  | 0, _ => rfl
  | n + 1, h => by
    rw [am_s, am_s, am_cong (n := n) (fun j hj => h j (by omega))]
    cases q : p n with
    | false => rfl
    | true => rw [h n (by omega) q]
/-- either none is taken, or it is the first least one -/
theorem am_is {p : Nat → Bool} {g : Nat → Nat} : ∀ (n : Nat), (∀ j, j < n → p j = true → g j < 1000000000) → (am p g n = (0, 1000000000) ∧ ∀ j, j < n → p j = false) ∨ (∃ m, m < n ∧ p m = true ∧ am p g n = (m, g m) ∧ (∀ j, j < n → p j = true → g m ≤ g j) ∧ ∀ j, j < m → p j = true → g m < g j)
  | 0, _ => Or.inl ⟨rfl, fun j hj => absurd hj (Nat.not_lt_zero j)⟩
  | n + 1, h => by
    rcases am_is (p := p) (g := g) n (fun j hj => h j (by omega)) with ⟨h1, h2⟩ | ⟨m, h1, h2, h3, h4, h5⟩
    · cases q : p n with
      | false =>
        left
        rw [am_s, q, Bool.false_and, if_neg (show ¬ false = true by decide)]
        refine ⟨h1, fun j hj => ?_⟩
        by_cases e : j = n
        · rw [e]; exact q
        · exact h2 j (by omega)
      | true =>
        right
        refine ⟨n, by omega, q, ?_, fun j hj pj => ?_, fun j hj pj => ?_⟩
        · rw [am_s, q, h1, Bool.true_and, if_pos (decide_eq_true (h n (by omega) q))]
        · by_cases e : j = n
          · rw [e]; exact Nat.le_refl _
          · rw [h2 j (by omega)] at pj; cases pj
        · rw [h2 j hj] at pj; cases pj
    · right
      by_cases q : (p n && decide (g n < g m)) = true
      · have q2 := q
        rw [Bool.and_eq_true, decide_eq_true_iff] at q2
        refine ⟨n, by omega, q2.1, ?_, fun j hj pj => ?_, fun j hj pj => ?_⟩
        · rw [am_s, h3, if_pos q]
        · by_cases e : j = n
          · rw [e]; exact Nat.le_refl _
          · have := h4 j (by omega) pj; omega
        · have := h4 j hj pj; omega
      · refine ⟨m, by omega, h2, ?_, fun j hj pj => ?_, h5⟩
        · rw [am_s, h3, if_neg q]
        · by_cases e : j = n
          · rw [e] at pj ⊢
            rcases Nat.lt_or_ge (g n) (g m) with z | z
            · rw [pj, decide_eq_true z] at q; exact absurd rfl q
            · exact z
          · exact h4 j (by omega) pj
theorem am_le {p : Nat → Bool} {g : Nat → Nat} {n : Nat} (h : ∀ j, j < n → p j = true → g j < 1000000000) : (am p g n).2 ≤ 1000000000 := by
  rcases am_is n h with ⟨h1, _⟩ | ⟨m, h1, h2, h3, _⟩
  · rw [h1]; exact Nat.le_refl _
  · rw [h3]; exact Nat.le_of_lt (h m h1 h2)
/-- what the rest costs at least: m to go, those in S seen, standing at a -/
def rs (c : Nat → Nat → Nat) (s : Nat → Nat) (n : Nat) : Nat → Nat → Nat → Nat
  | 0, _, _ => 0
  | m + 1, S, a => (am (fun j => !S.testBit j) (fun j => c a j + rs c s n m (S ||| 2 ^ j) (s j)) n).2
def lft (n S : Nat) : Nat := fb_ct (fun j => !S.testBit j) n
def rst (c : Nat → Nat → Nat) (s : Nat → Nat) (n S a : Nat) : Nat := rs c s n (lft n S) S a
theorem lft_or {n S j : Nat} (hj : j < n) (h : S.testBit j = false) : lft n (S ||| 2 ^ j) + 1 = lft n S := by
  have e := fb_ct_upd (fun j => !S.testBit j) false hj
  rw [h, Bool.not_false, if_pos rfl, if_neg (show ¬ false = true by decide)] at e
  unfold lft
  rw [← Nat.add_zero (fb_ct (fun j => !S.testBit j) n), ← e]
  refine congrArg (fun z => z + 1) (fb_ct_cong (fun i hi => ?_))
  rw [Nat.testBit_or, Nat.testBit_two_pow]
  by_cases q : i = j
  · rw [if_pos q, decide_eq_true q.symm, Bool.or_true]; rfl
  · rw [if_neg q, decide_eq_false (fun z => q z.symm), Bool.or_false]
theorem rst_is {c : Nat → Nat → Nat} {s : Nat → Nat} {n S a : Nat} (h : 0 < lft n S) : rst c s n S a = (am (fun j => !S.testBit j) (fun j => c a j + rst c s n (S ||| 2 ^ j) (s j)) n).2 := by
  unfold rst
  obtain ⟨m, hm⟩ : ∃ m, lft n S = m + 1 := ⟨lft n S - 1, by omega⟩
  rw [hm]
  show (am _ _ n).2 = _
  refine congrArg (fun z => z.2) (am_cong (fun j hj q => ?_))
  have := lft_or hj (Bool.not_eq_true' _ |>.mp q)
  rw [show lft n (S ||| 2 ^ j) = m by omega]
theorem rst_le {c : Nat → Nat → Nat} {s : Nat → Nat} {n : Nat} (hn : n ≤ 8) (hc : ∀ a j, c a j ≤ 990) : ∀ m S a, lft n S = m → rst c s n S a ≤ 990 * m
  | 0, S, a, h => by
    unfold rst
    rw [h]
    exact Nat.le_refl 0
  | m + 1, S, a, h => by
    have hb : ∀ j, j < n → (!S.testBit j) = true → c a j + rst c s n (S ||| 2 ^ j) (s j) ≤ 990 * (m + 1) := fun j hj q => by
      have := lft_or hj (Bool.not_eq_true' _ |>.mp q)
      have := rst_le (s := s) hn hc m (S ||| 2 ^ j) (s j) (by omega)
      have := hc a j
      omega
    have hm : m + 1 ≤ 8 := by
      have := fb_ct_le (fun j => !S.testBit j) n
      unfold lft at h
      omega
    rw [rst_is (by omega)]
    rcases am_is (p := fun j => !S.testBit j) (g := fun j => c a j + rst c s n (S ||| 2 ^ j) (s j)) n (fun j hj q => by have := hb j hj q; omega) with ⟨h1, h2⟩ | ⟨k, h1, h2, h3, _⟩
    · exfalso
      have z : lft n S = 0 := fb_ct_zero.mpr h2
      omega
    · rw [h3]
      exact hb k h1 h2
section
variable {RL : WD → Prop} {b : Nat} {w : WD}
theorem orS_lt {n S j : Nat} (hS : S < 2 ^ n) (hj : j < n) : S ||| 2 ^ j < 2 ^ n := Nat.or_lt_two_pow hS (Nat.pow_lt_pow_right (by decide) hj)
theorem msk7 {s : Nat} (hs : s < 8) : nI s &&& (7 : Int32) = nI s := by rw [pk_andN (by omega) 3 (by decide), Nat.mod_eq_of_lt hs]
theorem msk2047 {s : Nat} (hs : s < 2048) : nI s &&& (2047 : Int32) = nI s := by rw [pk_andN (by omega) 11 (by decide), Nat.mod_eq_of_lt hs]
theorem thr_mk (hP : R_price w) {n : Nat} (hn : n ≤ 8) {s : Nat → Nat} (hs : ∀ j, j < n → s j < 1024 ∧ w.2.1 65 j = nI (s j)) {S a j R : Nat} (hS : S < 2 ^ n) (ha : a < 1024) (hj : j < n) (hR : w.2.1 67 ((S ||| 2 ^ j) * 8 + j) = nI R) : FX9_throughNext (mk b w) (b + 64) (nI S) (nI a) (nI j) (b + 25) = some (nI (prS (w.2.1 78) (a ^^^ s j) + R)) := by
  have h1 := orS_lt hS hj
  have h2 : 2 ^ n ≤ 256 := Nat.pow_le_pow_right (n := 2) (j := 8) (by decide) hn
  unfold FX9_throughNext
  rw [vl_eq, shl1 j (by omega), fa_or, fa_lit 8, pk_mul, nI_add, msk2047 (show (S ||| 2 ^ j) * 8 + j < 2048 by omega), msk7 (show j < 8 by omega), gR_9_64_0, Option.bind_some, rdN_mk (t := 0) (n := 8) (by decide +kernel) (by decide) b w (show j < 8 by omega), Option.bind_some, (hs j hj).2, fb_xorI, rc_3_25, of_mk hP (Nat.xor_lt_two_pow (n := 10) ha (hs j hj).1), Option.bind_some, gR_9_64_2, Option.bind_some, rdN_mk (t := 0) (n := 2048) (by decide +kernel) (by decide) b w (show (S ||| 2 ^ j) * 8 + j < 2048 by omega), Option.bind_some, hR, nI_add]
theorem next_mk (hP : R_price w) {n : Nat} (hn : n ≤ 8) {s : Nat → Nat} (hs : ∀ j, j < n → s j < 1024 ∧ w.2.1 65 j = nI (s j)) {S a : Nat} (hS : S < 2 ^ n) (ha : a < 1024) {R : Nat → Nat} (hR : ∀ j, j < n → S.testBit j = false → w.2.1 67 ((S ||| 2 ^ j) * 8 + j) = nI (R j) ∧ R j ≤ 10000) : FX9_nextOf (mk b w) (b + 64) (nI S) (nI a) (nI n) (b + 25) = some (nI (am (fun j => !S.testBit j) (fun j => prS (w.2.1 78) (a ^^^ s j) + R j) n).1) := by
  have hg : ∀ i, i ≤ n → ∀ j, j < i → (!S.testBit j) = true → prS (w.2.1 78) (a ^^^ s j) + R j < 1000000000 := fun i hi j hj q => by
    have := (hR j (by omega) (Bool.not_eq_true' _ |>.mp q)).2
    have := prS_le hP.2.1 (a ^^^ s j)
    omega
  unfold FX9_nextOf
  refine lpb_for (fun j => (nI (am (fun j => !S.testBit j) (fun j => prS (w.2.1 78) (a ^^^ s j) + R j) j).1, nI (am (fun j => !S.testBit j) (fun j => prS (w.2.1 78) (a ^^^ s j) + R j) j).2, nI j)) (nI (am (fun j => !S.testBit j) (fun j => prS (w.2.1 78) (a ^^^ s j) + R j) n).1) n rfl (Nat.lt_of_le_of_lt hn (by decide)) (fun j hj => ?_) ?_ rfl
  · try dsimp only
    have hle := am_le (hg j (by omega))
    rw [if_neg (nI_ge hj (by omega)), if_neg (Lnle (show j < 8 by omega)), bit_at _ (by omega), bt_nI _ (by omega), bite, vl_eq, nI_1, am_s]
    cases q : S.testBit j with
    | true => rw [if_pos rfl, Bool.not_true, Bool.false_and, if_neg (show ¬ false = true by decide)]
    | false =>
      have hgj := hg n (Nat.le_refl n) j hj (by rw [q]; rfl)
      rw [if_neg (show ¬ false = true by decide), rc_9_64, thr_mk hP hn hs hS ha hj (hR j hj q).1, Option.bind_some, vl_eq, Bool.not_false, Bool.true_and]
      generalize am (fun j => !S.testBit j) (fun j => prS (w.2.1 78) (a ^^^ s j) + R j) j = A at *
      by_cases z : prS (w.2.1 78) (a ^^^ s j) + R j < A.2
      · rw [if_neg (nI_ge z (by omega)), if_pos (decide_eq_true z)]
      · rw [if_pos (nI_le (by omega) (by omega)), if_neg (by rw [decide_eq_false z]; decide)]
  · try dsimp only
    rw [if_pos (nI_le (Nat.le_refl n) (by omega))]
end
