/-! call: dead, the rows. A best row is the first of the cheapest -/
def isRow (n : Nat) (r : Nat → Nat) : Prop := (∀ i, i < n → r i < n) ∧ ∀ i j, i < n → j < n → r i = r j → i = j
/-- where a row stands and what it has paid -/
def pay (c : Nat → Nat → Nat) (s : Nat → Nat) (r : Nat → Nat) (a0 : Nat) : Nat → Nat × Nat
  | 0 => (a0, 0)
  | i + 1 => (s (r i), (pay c s r a0 i).2 + c (pay c s r a0 i).1 (r i))
def sb (r : Nat → Nat) : Nat → Nat
  | 0 => 0
  | i + 1 => sb r i ||| 2 ^ r i
def lexLt (n : Nat) (r r' : Nat → Nat) : Prop := ∃ i, i < n ∧ r i < r' i ∧ ∀ j, j < i → r j = r' j
def bestRow (c : Nat → Nat → Nat) (s : Nat → Nat) (n a0 : Nat) (r : Nat → Nat) : Prop := isRow n r ∧ ∀ r', isRow n r' → (pay c s r a0 n).2 < (pay c s r' a0 n).2 ∨ ((pay c s r a0 n).2 = (pay c s r' a0 n).2 ∧ (lexLt n r r' ∨ ∀ i, i < n → r i = r' i))
theorem pay_s (c : Nat → Nat → Nat) (s : Nat → Nat) (r : Nat → Nat) (a0 i : Nat) : pay c s r a0 (i + 1) = (s (r i), (pay c s r a0 i).2 + c (pay c s r a0 i).1 (r i)) := rfl
theorem lex_asym {n : Nat} {r r' : Nat → Nat} (h : lexLt n r r') : ¬ lexLt n r' r := by
  obtain ⟨i, hi, h1, h2⟩ := h
  rintro ⟨j, hj, g1, g2⟩
  rcases Nat.lt_trichotomy i j with z | z | z
  · have := g2 i z; omega
  · subst z; omega
  · have := h2 j z; omega
theorem best_one {c : Nat → Nat → Nat} {s : Nat → Nat} {n a0 : Nat} {r r' : Nat → Nat} (h : bestRow c s n a0 r) (h' : bestRow c s n a0 r') : (pay c s r a0 n).2 = (pay c s r' a0 n).2 ∧ ∀ i, i < n → r i = r' i := by
  have k := h.2 r' h'.1
  have k' := h'.2 r h.1
  rcases k with k | ⟨k1, k2⟩
  · rcases k' with k' | ⟨k1', _⟩ <;> omega
  · refine ⟨k1, ?_⟩
    rcases k2 with k2 | k2
    · rcases k' with k' | ⟨_, k2' | k2'⟩
      · omega
      · exact absurd k2' (lex_asym k2)
      · exact fun i hi => (k2' i hi).symm
    · exact k2
theorem sb_bit (r : Nat → Nat) (q : Nat) : ∀ i, (sb r i).testBit q = ex (fun j => decide (r j = q)) i
  | 0 => Nat.zero_testBit q
  | i + 1 => by
    show (sb r i ||| 2 ^ r i).testBit q = (ex _ i || decide (r i = q))
    rw [Nat.testBit_or, sb_bit r q i, Nat.testBit_two_pow]
theorem sb_new {n : Nat} {r : Nat → Nat} (h : isRow n r) {i : Nat} (hi : i < n) : (sb r i).testBit (r i) = false := by
  rw [sb_bit]
  cases z : ex (fun j => decide (r j = r i)) i with
  | false => rfl
  | true =>
    obtain ⟨j, hj, q⟩ := (ex_iff _ _).mp z
    have := h.2 j i (by omega) hi (of_decide_eq_true q)
    omega
theorem sb_lft {n : Nat} {r : Nat → Nat} (h : isRow n r) : ∀ i, i ≤ n → lft n (sb r i) + i = n
  | 0, _ => lft_0 n
  | i + 1, hi => by
    have ih := sb_lft h i (by omega)
    have := lft_or (h.1 i (by omega)) (sb_new h (show i < n by omega))
    show lft n (sb r i ||| 2 ^ r i) + (i + 1) = n
    omega
/-- no row is cheaper than what the table says -/
theorem row_least {c : Nat → Nat → Nat} {s : Nat → Nat} {n a0 : Nat} (hn : n ≤ 8) (hc : ∀ a j, c a j ≤ 990) {r : Nat → Nat} (h : isRow n r) : ∀ d i, i + d = n → (pay c s r a0 i).2 + rst c s n (sb r i) (pay c s r a0 i).1 ≤ (pay c s r a0 n).2
  | 0, i, hi => by
    have e : i = n := by omega
    subst e
    have z := sb_lft h i (Nat.le_refl i)
    have : rst c s i (sb r i) (pay c s r a0 i).1 = 0 := by
      unfold rst
      rw [show lft i (sb r i) = 0 by omega]
      rfl
    omega
  | d + 1, i, hi => by
    have ih := row_least (s := s) (a0 := a0) hn hc h d (i + 1) (by omega)
    have z := sb_lft h i (by omega)
    obtain ⟨_, _, _, k4, _⟩ := nx_is (s := s) (a := (pay c s r a0 i).1) hn hc (show 0 < lft n (sb r i) by omega)
    have := k4 (r i) (h.1 i (by omega)) (sb_new h (by omega))
    rw [pay_s] at ih
    have ih : (pay c s r a0 i).2 + c (pay c s r a0 i).1 (r i) + rst c s n (sb r i ||| 2 ^ r i) (s (r i)) ≤ (pay c s r a0 n).2 := ih
    omega
def rW (c : Nat → Nat → Nat) (s : Nat → Nat) (n a0 i : Nat) : Nat := nx c s n (wk c s n a0 i).1 (wk c s n a0 i).2.1
theorem wk_pay {c : Nat → Nat → Nat} {s : Nat → Nat} {n a0 : Nat} : ∀ i, wk c s n a0 i = (sb (rW c s n a0) i, (pay c s (rW c s n a0) a0 i).1, (pay c s (rW c s n a0) a0 i).2)
  | 0 => rfl
  | i + 1 => by
    have ih := wk_pay (c := c) (s := s) (n := n) (a0 := a0) i
    rw [wk_s, pay_s]
    show (_, _, _) = (sb (rW c s n a0) i ||| 2 ^ rW c s n a0 i, s (rW c s n a0 i), (pay c s (rW c s n a0) a0 i).2 + c (pay c s (rW c s n a0) a0 i).1 (rW c s n a0 i))
    have e : rW c s n a0 i = nx c s n (wk c s n a0 i).1 (wk c s n a0 i).2.1 := rfl
    rw [← e, ih]
theorem rW_row {c : Nat → Nat → Nat} {s : Nat → Nat} {n a0 : Nat} (hn : n ≤ 8) (hc : ∀ a j, c a j ≤ 990) (hs : ∀ j, j < n → s j < 1024) (ha : a0 < 1024) : isRow n (rW c s n a0) := by
  have each : ∀ i, i < n → rW c s n a0 i < n ∧ (sb (rW c s n a0) i).testBit (rW c s n a0 i) = false := fun i hi => by
    obtain ⟨h1, h2, h3, h4⟩ := wk_ok (c := c) hn hc hs ha i (by omega)
    obtain ⟨k1, k2, _⟩ := nx_is (s := s) (a := (wk c s n a0 i).2.1) hn hc (show 0 < lft n (wk c s n a0 i).1 by omega)
    refine ⟨k1, ?_⟩
    have e : (wk c s n a0 i).1 = sb (rW c s n a0) i := by rw [wk_pay i]
    rw [← e]
    exact k2
  refine ⟨fun i hi => (each i hi).1, fun i j hi hj q => ?_⟩
  rcases Nat.lt_trichotomy i j with z | z | z
  · have := (each j hj).2
    rw [sb_bit, (ex_iff _ _).mpr ⟨i, z, decide_eq_true q⟩] at this
    cases this
  · exact z
  · have := (each i hi).2
    rw [sb_bit, (ex_iff _ _).mpr ⟨j, z, decide_eq_true q.symm⟩] at this
    cases this
/-- the walk pays what the table says -/
theorem rW_pay {c : Nat → Nat → Nat} {s : Nat → Nat} {n a0 : Nat} (hn : n ≤ 8) (hc : ∀ a j, c a j ≤ 990) (hs : ∀ j, j < n → s j < 1024) (ha : a0 < 1024) : ∀ i, i ≤ n → (pay c s (rW c s n a0) a0 i).2 + rst c s n (sb (rW c s n a0) i) (pay c s (rW c s n a0) a0 i).1 = rst c s n 0 a0
  | 0, _ => Nat.zero_add _
  | i + 1, hi => by
    have ih := rW_pay hn hc hs ha i (by omega)
    have z := sb_lft (rW_row hn hc hs ha) i (by omega)
    obtain ⟨_, _, k3, _⟩ := nx_is (s := s) (a := (pay c s (rW c s n a0) a0 i).1) hn hc (show 0 < lft n (sb (rW c s n a0) i) by omega)
    have e : rW c s n a0 i = nx c s n (sb (rW c s n a0) i) (pay c s (rW c s n a0) a0 i).1 := by
      show nx c s n (wk c s n a0 i).1 (wk c s n a0 i).2.1 = _
      rw [wk_pay i]
    rw [← e] at k3
    rw [pay_s]
    show (pay c s (rW c s n a0) a0 i).2 + c (pay c s (rW c s n a0) a0 i).1 (rW c s n a0 i) + rst c s n (sb (rW c s n a0) i ||| 2 ^ rW c s n a0 i) (s (rW c s n a0 i)) = _
    omega
theorem same_to {c : Nat → Nat → Nat} {s : Nat → Nat} {r r' : Nat → Nat} {a0 : Nat} : ∀ i, (∀ j, j < i → r j = r' j) → sb r i = sb r' i ∧ pay c s r a0 i = pay c s r' a0 i
  | 0, _ => ⟨rfl, rfl⟩
  | i + 1, h => by
    obtain ⟨h1, h2⟩ := same_to (c := c) (s := s) (a0 := a0) i (fun j hj => h j (by omega))
    rw [pay_s, pay_s, h2, ← h i (by omega)]
    refine ⟨?_, rfl⟩
    show sb r i ||| 2 ^ r i = sb r' i ||| 2 ^ r' i
    rw [h1, h i (by omega)]
theorem first_diff {n : Nat} {r r' : Nat → Nat} : (∀ i, i < n → r i = r' i) ∨ ∃ i, i < n ∧ r i ≠ r' i ∧ ∀ j, j < i → r j = r' j := by
  induction n with
  | zero => exact Or.inl (fun i hi => absurd hi (Nat.not_lt_zero i))
  | succ n ih =>
    rcases ih with ih | ⟨i, h1, h2, h3⟩
    · by_cases q : r n = r' n
      · refine Or.inl (fun i hi => ?_)
        by_cases e : i = n
        · rw [e]; exact q
        · exact ih i (by omega)
      · exact Or.inr ⟨n, by omega, q, ih⟩
    · exact Or.inr ⟨i, by omega, h2, h3⟩
theorem rW_best {c : Nat → Nat → Nat} {s : Nat → Nat} {n a0 : Nat} (hn : n ≤ 8) (hc : ∀ a j, c a j ≤ 990) (hs : ∀ j, j < n → s j < 1024) (ha : a0 < 1024) : bestRow c s n a0 (rW c s n a0) := by
  have hrow := rW_row (c := c) hn hc hs ha
  refine ⟨hrow, fun r' h' => ?_⟩
  have e1 := rW_pay (c := c) hn hc hs ha n (Nat.le_refl n)
  have z : rst c s n (sb (rW c s n a0) n) (pay c s (rW c s n a0) a0 n).1 = 0 := by
    have y := sb_lft hrow n (Nat.le_refl n)
    unfold rst
    rw [show lft n (sb (rW c s n a0) n) = 0 by omega]
    rfl
  have e2 := row_least (c := c) (s := s) (a0 := a0) hn hc h' n 0 (by omega)
  have e2 : 0 + rst c s n 0 a0 ≤ (pay c s r' a0 n).2 := e2
  rcases Nat.lt_or_ge (pay c s (rW c s n a0) a0 n).2 (pay c s r' a0 n).2 with y | y
  · exact Or.inl y
  · right
    refine ⟨by omega, ?_⟩
    rcases first_diff (n := n) (r := rW c s n a0) (r' := r') with q | ⟨i, h1, h2, h3⟩
    · exact Or.inr q
    · left
      refine ⟨i, h1, ?_, h3⟩
      apply Classical.byContradiction
      intro no
      have lt : r' i < rW c s n a0 i := by omega
      obtain ⟨g1, g2⟩ := same_to (c := c) (s := s) (a0 := a0) i h3
      have y1 := sb_lft hrow i (by omega)
      obtain ⟨_, _, _, _, k5⟩ := nx_is (s := s) (a := (pay c s (rW c s n a0) a0 i).1) hn hc (show 0 < lft n (sb (rW c s n a0) i) by omega)
      have e : rW c s n a0 i = nx c s n (sb (rW c s n a0) i) (pay c s (rW c s n a0) a0 i).1 := by
        show nx c s n (wk c s n a0 i).1 (wk c s n a0 i).2.1 = _
        rw [wk_pay i]
      rw [← e] at k5
      have k6 := k5 (r' i) lt (by rw [g1]; exact sb_new h' h1)
      have k7 := rW_pay (c := c) hn hc hs ha i (by omega)
      have k8 := row_least (c := c) (s := s) (a0 := a0) hn hc h' (n - (i + 1)) (i + 1) (by omega)
      rw [pay_s, ← g2] at k8
      have k8 : (pay c s (rW c s n a0) a0 i).2 + c (pay c s (rW c s n a0) a0 i).1 (r' i) + rst c s n (sb r' i ||| 2 ^ r' i) (s (r' i)) ≤ (pay c s r' a0 n).2 := k8
      rw [← g1] at k8
      omega
