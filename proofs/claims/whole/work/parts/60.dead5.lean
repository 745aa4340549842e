/-! call: dead, the next row -/
theorem row_all {n : Nat} {r : Nat → Nat} (h : isRow n r) {x : Nat} (hx : x < n) : ∃ k, k < n ∧ r k = x := by
  have z := sb_lft h n (Nat.le_refl n)
  have y := (fb_ct_zero.mp (show lft n (sb r n) = 0 by omega)) x hx
  rw [sb_bit, Bool.not_eq_false'] at y
  obtain ⟨k, hk, q⟩ := (ex_iff _ _).mp y
  exact ⟨k, hk, of_decide_eq_true q⟩
/-- alike up to m: what stands at m in the one stands at m or behind in the other -/
theorem row_later {n : Nat} {r r' : Nat → Nat} (h : isRow n r) (h' : isRow n r') {m : Nat} (hm : m < n) (e : ∀ j, j < m → r j = r' j) : ∃ k, m ≤ k ∧ k < n ∧ r k = r' m := by
  obtain ⟨k, hk, q⟩ := row_all h (h'.1 m hm)
  refine ⟨k, ?_, hk, q⟩
  rcases Nat.lt_or_ge k m with z | z
  · rw [e k z] at q
    have := h'.2 k m hk hm q
    omega
  · exact z
theorem down_to {n : Nat} {r : Nat → Nat} {i : Nat} (hd : ∀ k, i < k → k + 1 < n → r (k + 1) < r k) {m : Nat} (hm : i < m) : ∀ d, m + d < n → r (m + d) ≤ r m
  | 0, _ => Nat.le_refl _
  | d + 1, h => by
    have := down_to hd hm d (by omega)
    have := hd (m + d) (by omega) (by omega)
    show r (m + d + 1) ≤ r m
    omega
theorem up_to {n : Nat} {r : Nat → Nat} {i : Nat} (hd : ∀ k, i < k → k + 1 < n → r k < r (k + 1)) {m : Nat} (hm : i < m) : ∀ d, m + d < n → r m ≤ r (m + d)
  | 0, _ => Nat.le_refl _
  | d + 1, h => by
    have := up_to hd hm d (by omega)
    have := hd (m + d) (by omega) (by omega)
    show r m ≤ r (m + d + 1)
    omega
/-- a row that only goes down is the last -/
theorem row_last {n : Nat} {r : Nat → Nat} (h : isRow n r) (hd : ∀ k, k + 1 < n → r (k + 1) < r k) {r' : Nat → Nat} (h' : isRow n r') : ¬ lexLt n r r' := by
  rintro ⟨m, hm, h1, h2⟩
  obtain ⟨k, k1, k2, k3⟩ := row_later h h' hm h2
  have go : ∀ d, m + d < n → r (m + d) ≤ r m := fun d => by
    induction d with
    | zero => exact fun _ => Nat.le_refl _
    | succ d ih =>
      intro hh
      have := ih (by omega)
      have := hd (m + d) (by omega)
      show r (m + d + 1) ≤ r m
      omega
  have := go (k - m) (by omega)
  rw [show m + (k - m) = k by omega] at this
  omega
def swp (r : Nat → Nat) (i j k : Nat) : Nat := if k = i then r j else if k = j then r i else r k
def nxr (n : Nat) (r : Nat → Nat) (i j k : Nat) : Nat := if k ≤ i then swp r i j k else swp r i j (i + n - k)
theorem swp_row {n : Nat} {r : Nat → Nat} (h : isRow n r) {i j : Nat} (hi : i < n) (hj : j < n) : isRow n (swp r i j) := by
  have e : ∀ k, k < n → ∃ l, l < n ∧ swp r i j k = r l ∧ (l = if k = i then j else if k = j then i else k) := fun k hk => by
    unfold swp
    by_cases q1 : k = i
    · exact ⟨j, hj, by rw [if_pos q1], by rw [if_pos q1]⟩
    · by_cases q2 : k = j
      · exact ⟨i, hi, by rw [if_neg q1, if_pos q2], by rw [if_neg q1, if_pos q2]⟩
      · exact ⟨k, hk, by rw [if_neg q1, if_neg q2], by rw [if_neg q1, if_neg q2]⟩
  refine ⟨fun k hk => ?_, fun k l hk hl q => ?_⟩
  · obtain ⟨m, hm, q, _⟩ := e k hk
    rw [q]; exact h.1 m hm
  · obtain ⟨m, hm, q1, q2⟩ := e k hk
    obtain ⟨m', hm', q1', q2'⟩ := e l hl
    rw [q1, q1'] at q
    have := h.2 m m' hm hm' q
    rw [q2, q2'] at this
    by_cases a1 : k = i <;> by_cases a2 : l = i <;> by_cases a3 : k = j <;> by_cases a4 : l = j <;> simp only [a1, a2, a3, a4, if_true, if_false] at this <;> first | omega | (split at this <;> first | omega | (split at this <;> omega))
theorem nxr_row {n : Nat} {r : Nat → Nat} (h : isRow n r) {i j : Nat} (hi : i < n) (hj : j < n) : isRow n (nxr n r i j) := by
  have hs := swp_row h hi hj
  refine ⟨fun k hk => ?_, fun k l hk hl q => ?_⟩
  · unfold nxr
    by_cases q : k ≤ i
    · rw [if_pos q]; exact hs.1 k hk
    · rw [if_neg q]; exact hs.1 _ (by omega)
  · unfold nxr at q
    by_cases a1 : k ≤ i
    · by_cases a2 : l ≤ i
      · rw [if_pos a1, if_pos a2] at q
        exact hs.2 k l hk hl q
      · rw [if_pos a1, if_neg a2] at q
        have := hs.2 k _ hk (by omega) q
        omega
    · by_cases a2 : l ≤ i
      · rw [if_neg a1, if_pos a2] at q
        have := hs.2 _ l (by omega) hl q
        omega
      · rw [if_neg a1, if_neg a2] at q
        have := hs.2 _ _ (by omega) (by omega) q
        omega
/-- the next row: greater, and none between -/
theorem nxr_next {n : Nat} {r : Nat → Nat} (h : isRow n r) {i j : Nat} (hd : ∀ k, i < k → k + 1 < n → r (k + 1) < r k) (hij : i < j) (hj : j < n) (hgt : r i < r j) (hlast : ∀ k, j < k → k < n → r k < r i) : lexLt n r (nxr n r i j) ∧ ∀ r', isRow n r' → lexLt n r r' → ¬ lexLt n r' (nxr n r i j) := by
  have at_i : nxr n r i j i = r j := by unfold nxr swp; rw [if_pos (Nat.le_refl i), if_pos rfl]
  have below : ∀ k, k < i → nxr n r i j k = r k := fun k hk => by
    unfold nxr swp
    rw [if_pos (by omega), if_neg (by omega), if_neg (by omega)]
  have up : ∀ k, i < k → k + 1 < n → nxr n r i j k < nxr n r i j (k + 1) := fun k hk hk1 => by
    unfold nxr
    rw [if_neg (by omega), if_neg (by omega)]
    obtain ⟨m, hm⟩ : ∃ m, m = i + n - (k + 1) := ⟨_, rfl⟩
    rw [show i + n - k = m + 1 by omega, ← hm]
    have hdm := hd m (by omega) (by omega)
    unfold swp
    rw [if_neg (show ¬ m + 1 = i by omega), if_neg (show ¬ m = i by omega)]
    by_cases q1 : m = j
    · rw [if_neg (by omega), if_pos q1]
      exact hlast (m + 1) (by omega) (by omega)
    · by_cases q2 : m + 1 = j
      · rw [if_pos q2, if_neg q1]
        rw [q2] at hdm
        omega
      · rw [if_neg q2, if_neg q1]
        exact hdm
  refine ⟨⟨i, by omega, by rw [at_i]; exact hgt, fun k hk => (below k hk).symm⟩, ?_⟩
  rintro r' h' ⟨m, hm, h1, h2⟩
  have h2row := nxr_row h (show i < n by omega) hj
  rcases Nat.lt_trichotomy m i with z | z | z
  · refine fun q => lex_asym q ⟨m, hm, by rw [below m z]; exact h1, fun k hk => ?_⟩
    rw [below k (by omega)]
    exact h2 k hk
  · subst z
    obtain ⟨k, k1, k2, k3⟩ := row_later h h' hm h2
    have hk : m < k := by
      rcases Nat.lt_or_ge m k with y | y
      · exact y
      · have : k = m := by omega
        rw [this] at k3
        omega
    have ge : r j ≤ r' m := by
      rw [← k3]
      rcases Nat.lt_or_ge j k with y | y
      · have := hlast k y k2
        omega
      · have := down_to hd hk (j - k) (by omega)
        rw [show k + (j - k) = j by omega] at this
        exact this
    rcases Nat.lt_or_ge (r j) (r' m) with y | y
    · exact fun q => lex_asym q ⟨m, hm, by rw [at_i]; exact y, fun k hk => by rw [below k hk]; exact h2 k hk⟩
    · rintro ⟨m', hm', g1, g2⟩
      have hm2 : m < m' := by
        rcases Nat.lt_trichotomy m m' with x | x | x
        · exact x
        · subst x
          rw [at_i] at g1
          omega
        · rw [below m' x, h2 m' x] at g1
          omega
      obtain ⟨l, l1, l2, l3⟩ := row_later h2row h' hm' (fun k hk => (g2 k hk).symm)
      have := up_to up hm2 (l - m') (by omega)
      rw [show m' + (l - m') = l by omega] at this
      omega
  · exfalso
    obtain ⟨k, k1, k2, k3⟩ := row_later h h' hm h2
    have := down_to hd z (k - m) (by omega)
    rw [show m + (k - m) = k by omega] at this
    omega
/-! the place of a row among all -/
def lc (r : Nat → Nat) (i : Nat) : Nat := fb_ct (fun x => !(sb r i).testBit x) (r i)
def rk (n : Nat) (r : Nat → Nat) : Nat → Nat
  | 0 => 0
  | i + 1 => rk n r i * (n - i) + lc r i
def fcN (n : Nat) : Nat → Nat
  | 0 => 1
  | i + 1 => fcN n i * (n - i)
theorem rk_s (n : Nat) (r : Nat → Nat) (i : Nat) : rk n r (i + 1) = rk n r i * (n - i) + lc r i := rfl
theorem lc_lt {n : Nat} {r : Nat → Nat} (h : isRow n r) {i : Nat} (hi : i < n) : lc r i < n - i := by
  have z := sb_lft h i (by omega)
  have m := fb_ct_mono (fun x => !(sb r i).testBit x) (show r i + 1 ≤ n from h.1 i hi)
  rw [fb_ct_succ, sb_new h hi, Bool.not_false, if_pos rfl] at m
  unfold lft at z
  unfold lc
  omega
theorem rk_lt {n : Nat} {r : Nat → Nat} (h : isRow n r) : ∀ i, i ≤ n → rk n r i < fcN n i
  | 0, _ => Nat.zero_lt_one
  | i + 1, hi => by
    have ih := rk_lt h i (by omega)
    have l := lc_lt h (show i < n by omega)
    have m : (rk n r i + 1) * (n - i) ≤ fcN n i * (n - i) := Nat.mul_le_mul_right _ ih
    rw [Nat.add_mul, Nat.one_mul] at m
    rw [rk_s]
    show _ < fcN n i * (n - i)
    omega
theorem lc_cong {r r' : Nat → Nat} {i : Nat} (h : ∀ j, j < i + 1 → r j = r' j) : lc r i = lc r' i := by
  unfold lc
  rw [(same_to (c := fun _ _ => 0) (s := fun x => x) (a0 := 0) i (fun j hj => h j (by omega))).1, h i (by omega)]
theorem rk_cong {n : Nat} {r r' : Nat → Nat} : ∀ i, (∀ j, j < i → r j = r' j) → rk n r i = rk n r' i
  | 0, _ => rfl
  | i + 1, h => by rw [rk_s, rk_s, rk_cong i (fun j hj => h j (by omega)), lc_cong h]
theorem rk_lex {n : Nat} {r r' : Nat → Nat} (h : isRow n r) (h' : isRow n r') (hl : lexLt n r r') : rk n r n < rk n r' n := by
  obtain ⟨i, hi, h1, h2⟩ := hl
  have at1 : rk n r (i + 1) < rk n r' (i + 1) := by
    rw [rk_s, rk_s, rk_cong i h2]
    have e : sb r i = sb r' i := (same_to (c := fun _ _ => 0) (s := fun x => x) (a0 := 0) i h2).1
    have m := fb_ct_mono (fun x => !(sb r i).testBit x) (show r i + 1 ≤ r' i from h1)
    rw [fb_ct_succ, sb_new h hi, Bool.not_false, if_pos rfl] at m
    unfold lc
    rw [← e]
    omega
  have go : ∀ d, i + 1 + d ≤ n → rk n r (i + 1 + d) < rk n r' (i + 1 + d) := fun d => by
    induction d with
    | zero => exact fun _ => at1
    | succ d ih =>
      intro hh
      have ih := ih (by omega)
      have l := lc_lt h (show i + 1 + d < n by omega)
      have m : (rk n r (i + 1 + d) + 1) * (n - (i + 1 + d)) ≤ rk n r' (i + 1 + d) * (n - (i + 1 + d)) := Nat.mul_le_mul_right _ ih
      rw [Nat.add_mul, Nat.one_mul] at m
      show rk n r (i + 1 + d + 1) < rk n r' (i + 1 + d + 1)
      rw [rk_s, rk_s]
      omega
  have := go (n - (i + 1)) (by omega)
  rw [show i + 1 + (n - (i + 1)) = n by omega] at this
  exact this
theorem fc_8 : ∀ n, n < 9 → fcN n n ≤ 40320 := by decide
