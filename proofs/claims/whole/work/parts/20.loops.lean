/-! loops that end early; all, some, masks -/
def al (p : Nat → Bool) : Nat → Bool
  | 0 => true
  | n + 1 => al p n && p n
def ex (p : Nat → Bool) : Nat → Bool
  | 0 => false
  | n + 1 => ex p n || p n
theorem al_iff (p : Nat → Bool) : ∀ n, al p n = true ↔ ∀ k, k < n → p k = true
  | 0 => ⟨fun _ k h => absurd h (Nat.not_lt_zero k), fun _ => rfl⟩
  | n + 1 => by
    show (al p n && p n) = true ↔ _
    rw [Bool.and_eq_true, al_iff p n]
    refine ⟨fun h k hk => ?_, fun h => ⟨fun k hk => h k (by omega), h n (by omega)⟩⟩
    rcases Nat.lt_or_ge k n with q | q
    · exact h.1 k q
    · rw [show k = n by omega]; exact h.2
theorem ex_iff (p : Nat → Bool) : ∀ n, ex p n = true ↔ ∃ k, k < n ∧ p k = true
  | 0 => ⟨fun h => (Bool.noConfusion h), fun ⟨k, h, _⟩ => absurd h (Nat.not_lt_zero k)⟩
  | n + 1 => by
    show (ex p n || p n) = true ↔ _
    rw [Bool.or_eq_true, ex_iff p n]
    refine ⟨fun h => ?_, fun ⟨k, hk, h⟩ => ?_⟩
    · rcases h with ⟨k, hk, h⟩ | h
      · exact ⟨k, by omega, h⟩
      · exact ⟨n, by omega, h⟩
    · rcases Nat.lt_or_ge k n with q | q
      · exact Or.inl ⟨k, q, h⟩
      · rw [show k = n by omega] at h; exact Or.inr h
theorem al_cong {p q : Nat → Bool} {n : Nat} (h : ∀ k, k < n → p k = q k) : al p n = al q n := by
  rw [Bool.eq_iff_iff, al_iff, al_iff]
  exact ⟨fun g k hk => by rw [← h k hk]; exact g k hk, fun g k hk => by rw [h k hk]; exact g k hk⟩
theorem ex_cong {p q : Nat → Bool} {n : Nat} (h : ∀ k, k < n → p k = q k) : ex p n = ex q n := by
  rw [Bool.eq_iff_iff, ex_iff, ex_iff]
  exact ⟨fun ⟨k, hk, g⟩ => ⟨k, hk, by rw [← h k hk]; exact g⟩, fun ⟨k, hk, g⟩ => ⟨k, hk, by rw [h k hk]; exact g⟩⟩
theorem ex_first (p : Nat → Bool) (n : Nat) : fa_first p n < n ↔ ex p n = true := by
  rw [ex_iff]
  refine ⟨fun h => ⟨_, h, fa_first_yes p n h⟩, fun ⟨k, hk, h⟩ => ?_⟩
  rcases Nat.lt_or_ge (fa_first p n) n with q | q
  · exact q
  · rw [fa_first_no p n k (by omega)] at h; cases h
theorem ex_ct (p : Nat → Bool) (n : Nat) : ex p n = decide (0 < fb_ct p n) := by
  rw [Bool.eq_iff_iff, ex_iff, decide_eq_true_eq, fb_ct_pos]
theorem al_ct (p : Nat → Bool) (n : Nat) : al p n = decide (fb_ct (fun k => !p k) n = 0) := by
  rw [Bool.eq_iff_iff, al_iff, decide_eq_true_eq, fb_ct_zero]
  exact ⟨fun h k hk => by rw [h k hk]; rfl, fun h k hk => by have := h k hk; cases e : p k with
    | true => rfl
    | false => rw [e] at this; cases this⟩
/-- the first of a row is one -/
theorem first_is {p : Nat → Bool} {n s : Nat} (hs : s < n) (h1 : p s = true) (h2 : ∀ r, r < s → p r = false) : fa_first p n = s := by
  rcases Nat.lt_trichotomy (fa_first p n) s with q | q | q
  · have h3 := fa_first_yes p n (by omega)
    rw [h2 _ q] at h3; cases h3
  · exact q
  · have h3 := fa_first_no p n s q
    rw [h1] at h3; cases h3
theorem lpb_first {P Y X : Type} {body : Int32 → Option ((P ⊕ Y) ⊕ Int32)} {wr : P → X} {kf : Y → Option X} {N : Nat} (p : Nat → Bool) (val : Nat → P) (y : Y) (n : Nat) (hN : n < N) (hb : ∀ i, i < n → body (nI i) = if p i then some (.inl (.inl (val i))) else some (.inr (nI (i + 1)))) (hx : body (nI n) = some (.inl (.inr y))) : (lp body N 0).bind (lk wr kf) = if ex p n then some (wr (val (fa_first p n))) else kf y := by
  by_cases h : ex p n = true
  · have h1 := (ex_first p n).mpr h
    rw [if_pos h]
    refine lpb_for nI (.inl (val (fa_first p n))) (fa_first p n) (by rfl) (by omega) (fun i hi => ?_) ?_ rfl
    · rw [hb i (by omega), fa_first_no p n i hi]
      rfl
    · rw [hb _ h1, fa_first_yes p n h1]
      rfl
  · rw [if_neg h]
    have h1 := mt (ex_first p n).mp h
    refine lpb_for nI (.inr y) n (by rfl) hN (fun i hi => ?_) hx rfl
    rw [hb i hi, fa_first_no p n i (by omega)]
    rfl
/-- masks -/
def mO (p : Nat → Bool) : Nat → Nat
  | 0 => 0
  | n + 1 => if p n then mO p n ||| 2 ^ n else mO p n
theorem mO_bit (p : Nat → Bool) (i : Nat) : ∀ n, (mO p n).testBit i = (decide (i < n) && p i)
  | 0 => by
    show (0 : Nat).testBit i = _
    simp
  | n + 1 => by
    show (if p n then mO p n ||| 2 ^ n else mO p n).testBit i = _
    by_cases h : p n = true
    · rw [if_pos h, fb_bit_set, mO_bit p i n]
      by_cases e : i = n
      · subst e
        rw [h]
        simp
      · rw [decide_eq_false e, Bool.or_false]
        congr 1
        rw [decide_eq_decide]
        omega
    · rw [if_neg h, mO_bit p i n]
      by_cases e : i = n
      · subst e
        have : p i = false := by cases q : p i with
          | true => exact absurd q h
          | false => rfl
        rw [this]
        simp
      · congr 1
        rw [decide_eq_decide]
        omega
theorem mO_lt (p : Nat → Bool) (n : Nat) : mO p n < 2 ^ n := by
  apply Nat.lt_pow_two_of_testBit
  intro i hi
  rw [mO_bit, decide_eq_false (by omega), Bool.false_and]
theorem mO_cong {p q : Nat → Bool} {n : Nat} (h : ∀ k, k < n → p k = q k) : mO p n = mO q n := by
  apply Nat.eq_of_testBit_eq
  intro i
  rw [mO_bit, mO_bit]
  by_cases e : i < n
  · rw [h i e]
  · rw [decide_eq_false e, Bool.false_and, Bool.false_and]
theorem mO_eq {p : Nat → Bool} {n m : Nat} (hm : m < 2 ^ n) (h : ∀ i, i < n → m.testBit i = p i) : m = mO p n := by
  apply Nat.eq_of_testBit_eq
  intro i
  rw [mO_bit]
  by_cases e : i < n
  · rw [h i e, decide_eq_true e, Bool.true_and]
  · rw [decide_eq_false e, Bool.false_and, Nat.testBit_lt_two_pow (Nat.lt_of_lt_of_le hm (Nat.pow_le_pow_right (by decide) (by omega)))]
theorem fld_mO (p : Nat → Bool) {n : Nat} (hn : n < 31) : ∀ k, k ≤ n → fld (fun i (a : Int32) => if p i then a ||| ((1 : Int32) <<< (nI i &&& 31)) else a) k 0 = nI (mO p k)
  | 0, _ => rfl
  | k + 1, h => by
    show (if p k then fld _ k 0 ||| ((1 : Int32) <<< (nI k &&& 31)) else fld _ k 0) = nI (if p k then mO p k ||| 2 ^ k else mO p k)
    rw [fld_mO p hn k (by omega), shl1 k (by omega), fa_or]
    cases p k <;> rfl
/-- a loop that gathers a mask -/
theorem lpb_mO {Z : Type} {body : Int32 × Int32 → Option (Int32 ⊕ (Int32 × Int32))} {kf : Int32 → Option Z} {N : Nat} {r : Option Z} (p : Nat → Bool) (n : Nat) (hn : n < 31) (hN : n < N) (hb : ∀ i, i < n → ∀ a, body (a, nI i) = some (.inr (if p i then a ||| ((1 : Int32) <<< (nI i &&& 31)) else a, nI (i + 1)))) (hx : ∀ a, body (a, nI n) = some (.inl a)) (hk : kf (nI (mO p n)) = r) : (lp body N (0, 0)).bind kf = r :=
  lpb_fld (fun i a => if p i then a ||| ((1 : Int32) <<< (nI i &&& 31)) else a) (fun a => a) n hN hb hx (by rw [fld_mO p hn n (Nat.le_refl n)]; exact hk)
/-- a loop that counts -/
theorem lpb_ct {Z : Type} {body : Int32 × Int32 → Option (Int32 ⊕ (Int32 × Int32))} {kf : Int32 → Option Z} {N : Nat} {r : Option Z} (p : Nat → Bool) (n : Nat) (hN : n < N) (hb : ∀ i, i < n → ∀ a, body (a, nI i) = some (.inr (a + nI (if p i then 1 else 0), nI (i + 1)))) (hx : ∀ a, body (a, nI n) = some (.inl a)) (hk : kf (nI (fb_ct p n)) = r) : (lp body N (0, 0)).bind kf = r := by
  refine lpb_fld (fun i a => a + nI (if p i then 1 else 0)) (fun a => a) n hN hb hx ?_
  rw [fld_sum0]
  have e : ∀ n, fb_sm (fun i => if p i then 1 else 0) n = fb_ct p n := by
    intro n
    induction n with
    | zero => rfl
    | succ n ih => rw [fb_sm_succ, fb_ct_succ, ih]
  rw [e]
  exact hk
/-- what is written twice -/
theorem uL_uL (w : WD) (j : Nat) (f g : Nat → Int64) : uL (uL w j f) j g = uL w j g := by
  unfold uL
  congr 3
  funext j'
  by_cases h : j' = j
  · rw [if_pos h, if_pos h]
  · rw [if_neg h, if_neg h]
    exact if_neg h
theorem uA_uA (w : WD) (j : Nat) (f g : Nat → Int32) : uA (uA w j f) j g = uA w j g := by
  unfold uA
  congr 2
  funext j'
  by_cases h : j' = j
  · rw [if_pos h, if_pos h]
  · rw [if_neg h, if_neg h]
    exact if_neg h
theorem uL_id (w : WD) (j : Nat) : uL w j (w.2.2.1 j) = w := by
  obtain ⟨a, c, d, e⟩ := w
  unfold uL
  congr 3
  funext j'
  by_cases h : j' = j
  · rw [if_pos h, h]
  · rw [if_neg h]
theorem uA_id (w : WD) (j : Nat) : uA w j (w.2.1 j) = w := by
  obtain ⟨a, c, d, e⟩ := w
  unfold uA
  congr 2
  funext j'
  by_cases h : j' = j
  · rw [if_pos h, h]
  · rw [if_neg h]
theorem uL_at (w : WD) (j : Nat) (f : Nat → Int64) : (uL w j f).2.2.1 j = f := if_pos rfl
theorem uL_ne (w : WD) {j k : Nat} (f : Nat → Int64) (h : k ≠ j) : (uL w j f).2.2.1 k = w.2.2.1 k := if_neg h
theorem uA_at (w : WD) (j : Nat) (f : Nat → Int32) : (uA w j f).2.1 j = f := if_pos rfl
theorem uA_ne (w : WD) {j k : Nat} (f : Nat → Int32) (h : k ≠ j) : (uA w j f).2.1 k = w.2.1 k := if_neg h
theorem uI_at (w : WD) (j k : Nat) (v : Int32) : (uI w j k v).1 j k = v := if_pos ⟨rfl, rfl⟩
theorem uI_ne (w : WD) {j k j' k' : Nat} (v : Int32) (h : ¬ (j' = j ∧ k' = k)) : (uI w j k v).1 j' k' = w.1 j' k' := if_neg h
theorem fillL_succ (f g : Nat → Int64) (i : Nat) : vp_updL (fa_fill f g i) i (f i) = fa_fill f g (i + 1) := by
  funext k
  unfold vp_updL
  rcases Nat.lt_trichotomy k i with h | h | h
  · rw [if_neg (by omega), fa_fill_in h, fa_fill_in (by omega)]
  · rw [if_pos h, h, fa_fill_in (by omega)]
  · rw [if_neg (by omega), fa_fill_out (by omega), fa_fill_out (by omega)]
/-- a loop that writes a row of longs -/
theorem lpb_fillL {X Z : Type} {body : Int32 × HP → Option (X ⊕ (Int32 × HP))} {kf : X → Option Z} {N : Nat} {r : Option Z} {b : Nat} {w : WD} (j : Nat) (new : Nat → Int64) (out : HP → X) (n : Nat) (hN : n < N) (hb : ∀ i, i < n → ∀ g, (∀ k, i ≤ k → g k = w.2.2.1 j k) → body (nI i, mk b (uL w j g)) = some (.inr (nI (i + 1), mk b (uL w j (vp_updL g i (new i)))))) (hx : ∀ g, body (nI n, mk b (uL w j g)) = some (.inl (out (mk b (uL w j g))))) (hk : kf (out (mk b (uL w j (fa_fill new (w.2.2.1 j) n)))) = r) : (lp body N (0, mk b w)).bind kf = r := by
  refine lpb_for (fun i => (nI i, mk b (uL w j (fa_fill new (w.2.2.1 j) i)))) (out (mk b (uL w j (fa_fill new (w.2.2.1 j) n)))) n ?_ hN (fun i hi => ?_) (hx _) hk
  · rw [fa_fill_0, uL_id]
    rfl
  · rw [hb i hi _ (fun k hk => fa_fill_out hk), fillL_succ]
theorem lpb_fillA {X Z : Type} {body : Int32 × HP → Option (X ⊕ (Int32 × HP))} {kf : X → Option Z} {N : Nat} {r : Option Z} {b : Nat} {w : WD} (j : Nat) (new : Nat → Int32) (out : HP → X) (n : Nat) (hN : n < N) (hb : ∀ i, i < n → ∀ g, (∀ k, i ≤ k → g k = w.2.1 j k) → body (nI i, mk b (uA w j g)) = some (.inr (nI (i + 1), mk b (uA w j (upd g i (new i)))))) (hx : ∀ g, body (nI n, mk b (uA w j g)) = some (.inl (out (mk b (uA w j g))))) (hk : kf (out (mk b (uA w j (fa_fill new (w.2.1 j) n)))) = r) : (lp body N (0, mk b w)).bind kf = r := by
  refine lpb_for (fun i => (nI i, mk b (uA w j (fa_fill new (w.2.1 j) i)))) (out (mk b (uA w j (fa_fill new (w.2.1 j) n)))) n ?_ hN (fun i hi => ?_) (hx _) hk
  · rw [fa_fill_0, uA_id]
    rfl
  · rw [hb i hi _ (fun k hk => fa_fill_out hk), fa_fill_succ]
