/-! call: dead, the reference: the price of a row, all rows -/
def stN (y : Nat → Nat) (j : Nat) : Nat := y (2 * j) * 256 + y (2 * j + 1)
section
variable {RL : WD → Prop} {b : Nat} {w : WD}
theorem stateAt_mk {y : Nat → Nat} (hy : ∀ i, i < 260 → (w.2.1 83 i &&& (255 : Int32)) = nI (y i)) {j : Nat} (hj : j < 8) : FX12_stateAt (mk b w) (b + 77) (nI j) = some (nI (stN y j)) := by
  unfold FX12_stateAt
  rw [gR_12_77_13, Option.bind_some, fa_lit 2, pk_mul, rdN_mk (t := 1) (n := 260) (by decide +kernel) (by decide) b _ (show 2 * j < 260 by omega), Option.bind_some, Option.bind_some, nI_1, rdN_mk (t := 1) (n := 260) (by decide +kernel) (by decide) b _ (show 2 * j + 1 < 260 by omega), Option.bind_some, hy (2 * j) (by omega), hy (2 * j + 1) (by omega), fa_lit 256, pk_mul, nI_add]
  rfl
theorem rowPrice_mk (hp : ∀ i, i < 10 → sm (w.2.1 78 i) 100) {n : Nat} (hn : n ≤ 8) {y : Nat → Nat} (hy : ∀ i, i < 260 → (w.2.1 83 i &&& (255 : Int32)) = nI (y i)) {r : Nat → Nat} (hr : ∀ i, i < n → r i < n) (ha : ∀ k, k < n → w.2.1 101 k = nI (r k)) {a0 : Nat} (est : w.1 77 7 = nI a0) {c : Nat → Nat → Nat} (ec : c = fun a j => prS (w.2.1 78) (a ^^^ stN y j)) : FX12_priceOfRow (mk b w) (b + 77) (nI n) = some (nI (pay c (stN y) r a0 n).2) := by
  unfold FX12_priceOfRow
  rw [gI_12_77_7, Option.bind_some, est]
  refine lpb_for (fun i => (nI (pay c (stN y) r a0 i).1, nI (pay c (stN y) r a0 i).2, nI i)) (nI (pay c (stN y) r a0 n).2) n rfl (Nat.lt_of_le_of_lt hn (by decide)) (fun i hi => ?_) ?_ rfl
  · try dsimp only
    have hri := hr i hi
    rw [if_neg (nI_ge hi (by omega)), gR_12_77_54, Option.bind_some, rdN_mk (t := 0) (n := 8) (by decide +kernel) (by decide) b _ (show i < 8 by omega), Option.bind_some, ha i hi, rc_12_77, stateAt_mk hy (show r i < 8 by omega), Option.bind_some, fb_xorI, rc_12_77, pricesOf_mk hp, Option.bind_some, vl_eq, Option.bind_some, rdN_mk (t := 0) (n := 8) (by decide +kernel) (by decide) b _ (show i < 8 by omega), Option.bind_some, ha i hi, rc_12_77, stateAt_mk hy (show r i < 8 by omega), Option.bind_some, vl_eq, nI_1, nI_add, pay_s, ec]
  · try dsimp only
    rw [if_pos (nI_le (Nat.le_refl n) (by omega))]
end
/-- of the rows before r, and r itself, q is the best -/
def upTo (c : Nat → Nat → Nat) (s : Nat → Nat) (n a0 : Nat) (X : (Nat → Nat) → Prop) (q : Nat → Nat) : Prop := isRow n q ∧ X q ∧ ∀ r', isRow n r' → X r' → (pay c s q a0 n).2 < (pay c s r' a0 n).2 ∨ ((pay c s q a0 n).2 = (pay c s r' a0 n).2 ∧ (lexLt n q r' ∨ ∀ i, i < n → q i = r' i))
theorem pay_cong {c : Nat → Nat → Nat} {s : Nat → Nat} {r r' : Nat → Nat} {a0 n : Nat} (h : ∀ i, i < n → r i = r' i) : pay c s r a0 n = pay c s r' a0 n := (same_to n h).2
theorem pay_le {c : Nat → Nat → Nat} {s : Nat → Nat} {r : Nat → Nat} {a0 : Nat} (hc : ∀ a j, c a j ≤ 990) : ∀ n, (pay c s r a0 n).2 ≤ 990 * n
  | 0 => Nat.le_refl 0
  | n + 1 => by
    have := pay_le (s := s) (r := r) (a0 := a0) hc n
    have := hc (pay c s r a0 n).1 (r n)
    rw [pay_s]
    show _ + _ ≤ _
    omega
def atMost (n : Nat) (r r' : Nat → Nat) : Prop := lexLt n r' r ∨ ∀ i, i < n → r' i = r i
theorem upTo_first {c : Nat → Nat → Nat} {s : Nat → Nat} {n a0 : Nat} {r : Nat → Nat} (hr : isRow n r) (h : ∀ r', isRow n r' → ¬ lexLt n r' r) : upTo c s n a0 (atMost n r) r := by
  refine ⟨hr, Or.inr (fun _ _ => rfl), fun r' h' q => ?_⟩
  rcases q with q | q
  · exact absurd q (h r' h')
  · exact Or.inr ⟨by rw [pay_cong q], Or.inr (fun i hi => (q i hi).symm)⟩
theorem upTo_keep {c : Nat → Nat → Nat} {s : Nat → Nat} {n a0 : Nat} {r q : Nat → Nat} (h : upTo c s n a0 (fun r' => lexLt n r' r) q) (hle : (pay c s q a0 n).2 ≤ (pay c s r a0 n).2) : upTo c s n a0 (atMost n r) q := by
  refine ⟨h.1, Or.inl h.2.1, fun r' h' z => ?_⟩
  rcases z with z | z
  · exact h.2.2 r' h' z
  · have e : pay c s r' a0 n = pay c s r a0 n := pay_cong z
    rw [e]
    rcases Nat.lt_or_ge (pay c s q a0 n).2 (pay c s r a0 n).2 with y | y
    · exact Or.inl y
    · refine Or.inr ⟨by omega, Or.inl ?_⟩
      obtain ⟨i, hi, h1, h2⟩ := h.2.1
      exact ⟨i, hi, by rw [z i hi]; exact h1, fun j hj => by rw [z j (by omega)]; exact h2 j hj⟩
theorem upTo_new {c : Nat → Nat → Nat} {s : Nat → Nat} {n a0 : Nat} {r q : Nat → Nat} (hr : isRow n r) (h : upTo c s n a0 (fun r' => lexLt n r' r) q) (hlt : (pay c s r a0 n).2 < (pay c s q a0 n).2) : upTo c s n a0 (atMost n r) r := by
  refine ⟨hr, Or.inr (fun _ _ => rfl), fun r' h' z => ?_⟩
  rcases z with z | z
  · left
    rcases h.2.2 r' h' z with y | ⟨y, _⟩ <;> omega
  · exact Or.inr ⟨by rw [pay_cong z], Or.inr (fun i hi => (z i hi).symm)⟩
theorem tri {n : Nat} (r r' : Nat → Nat) : lexLt n r r' ∨ lexLt n r' r ∨ ∀ i, i < n → r' i = r i := by
  rcases first_diff (n := n) (r := r) (r' := r') with q | ⟨i, h1, h2, h3⟩
  · exact Or.inr (Or.inr (fun i hi => (q i hi).symm))
  · rcases Nat.lt_trichotomy (r i) (r' i) with z | z | z
    · exact Or.inl ⟨i, h1, z, h3⟩
    · exact absurd z h2
    · exact Or.inr (Or.inl ⟨i, h1, z, fun j hj => (h3 j hj).symm⟩)
theorem lex_trans {n : Nat} {r r' r'' : Nat → Nat} (h : lexLt n r r') (h2 : lexLt n r' r'') : lexLt n r r'' := by
  obtain ⟨i, hi, a1, a2⟩ := h
  obtain ⟨j, hj, b1, b2⟩ := h2
  rcases Nat.lt_trichotomy i j with z | z | z
  · exact ⟨i, hi, by rw [← b2 i z]; exact a1, fun k hk => (a2 k hk).trans (b2 k (by omega))⟩
  · subst z
    exact ⟨i, hi, by omega, fun k hk => (a2 k hk).trans (b2 k hk)⟩
  · exact ⟨j, hj, by rw [a2 j z]; exact b1, fun k hk => (a2 k (by omega)).trans (b2 k hk)⟩
theorem atMost_next {n : Nat} {r r2 : Nat → Nat} (h1 : lexLt n r r2) (h2 : ∀ r', isRow n r' → lexLt n r r' → ¬ lexLt n r' r2) {r' : Nat → Nat} (h' : isRow n r') : lexLt n r' r2 ↔ atMost n r r' := by
  constructor
  · intro q
    rcases tri (n := n) r r' with z | z | z
    · exact absurd q (h2 r' h' z)
    · exact Or.inl z
    · exact Or.inr z
  · rintro (q | q)
    · exact lex_trans q h1
    · obtain ⟨i, hi, a1, a2⟩ := h1
      exact ⟨i, hi, by rw [q i hi]; exact a1, fun k hk => (q k (by omega)).trans (a2 k hk)⟩
theorem upTo_next {c : Nat → Nat → Nat} {s : Nat → Nat} {n a0 : Nat} {r r2 q : Nat → Nat} (h : upTo c s n a0 (atMost n r) q) (h1 : lexLt n r r2) (h2 : ∀ r', isRow n r' → lexLt n r r' → ¬ lexLt n r' r2) : upTo c s n a0 (fun r' => lexLt n r' r2) q := ⟨h.1, (atMost_next h1 h2 h.1).mpr h.2.1, fun r' h' z => h.2.2 r' h' ((atMost_next h1 h2 h').mp z)⟩
theorem upTo_best {c : Nat → Nat → Nat} {s : Nat → Nat} {n a0 : Nat} {r q : Nat → Nat} (h : upTo c s n a0 (atMost n r) q) (hl : ∀ r', isRow n r' → ¬ lexLt n r r') : bestRow c s n a0 q := ⟨h.1, fun r' h' => h.2.2 r' h' (by
  rcases tri (n := n) r r' with z | z | z
  · exact absurd z (hl r' h')
  · exact Or.inl z
  · exact Or.inr z)⟩
theorem id_row (n : Nat) : isRow n (fun i => i) := ⟨fun _ hi => hi, fun _ _ _ _ q => q⟩
theorem id_least {n : Nat} {r' : Nat → Nat} (h' : isRow n r') : ¬ lexLt n r' (fun i => i) := by
  rintro ⟨m, hm, h1, h2⟩
  obtain ⟨k, k1, k2, k3⟩ := row_later (id_row n) h' hm (fun j hj => (h2 j hj).symm)
  have k3 : k = r' m := k3
  have h1 : r' m < m := h1
  omega
