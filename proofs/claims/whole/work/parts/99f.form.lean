/-! a formula's text, read: what it says in a state, and its signs in the order in which they are reckoned -/
abbrev FV : Type := (Nat → Bool) × List Nat
abbrev FR : Type := (Nat × Nat) ⊕ (Nat × FV)
def cB (x : Nat) : Bool := (decide (97 ≤ x) && decide (x ≤ 106)) || (decide (48 ≤ x) && decide (x ≤ 57)) || x == 33 || x == 40
def fjn (k : Nat) (op : Bool → Bool → Bool) (o : Option FV) (x : FV) : FV := match o with
  | none => x
  | some y => (fun st => op (y.1 st) (x.1 st), y.2 ++ x.2 ++ [k])
def fA (o : Option FV) (x : FV) : FV := fjn 30 (fun p q => p && q) o x
def fO (o o2 : Option FV) (x : FV) : FV := fjn 31 (fun p q => xor p q) o (fA o2 x)
def fS (o o2 o3 : Option FV) (x : FV) : FV := fjn 32 (fun p q => p || q) o (fO o2 o3 x)
def pForL (ch : Nat → Nat) (pie : Nat → FR) : Nat → Nat → Option FV → Option FV → Option FV → FV → FR
  | 0, a, oS, oO, oA, C => .inr (a, fS oS oO oA C)
  | n + 1, a, oS, oO, oA, C => if ch a = 38 then (match pie (a + 1) with
      | .inl z => .inl z
      | .inr (a', x) => pForL ch pie n a' oS oO (some (fA oA C)) x)
    else if ch a = 94 then (match pie (a + 1) with
      | .inl z => .inl z
      | .inr (a', x) => pForL ch pie n a' oS (some (fO oO oA C)) none x)
    else if ch a = 124 then (match pie (a + 1) with
      | .inl z => .inl z
      | .inr (a', x) => pForL ch pie n a' (some (fS oS oO oA C)) none none x)
    else .inr (a, fS oS oO oA C)
def pForB (ch : Nat → Nat) (pie : Nat → FR) (a : Nat) : FR := match pie a with
  | .inl z => .inl z
  | .inr (a', x) => pForL ch pie 300 a' none none none x
def pManL (ch : Nat → Nat) (fo : Nat → FR) (k : Nat) : Nat → Nat → Nat → (Nat → Nat) → List Nat → FR
  | 0, a, _, _, _ => .inl (1, a)
  | n + 1, a, t, c, l => match fo a with
    | .inl z => .inl z
    | .inr (a', x) => if ch a' = 44 then (if t = 9 then (if cB (ch (a' + 1)) then .inl (4, a' + 1) else .inl (1, a' + 1)) else pManL ch fo k n (a' + 1) (t + 1) (fun st => c st + (x.1 st).toNat) (l ++ x.2))
      else if ch a' = 41 then .inr (a' + 1, (fun st => decide (k ≤ c st + (x.1 st).toNat), l ++ x.2 ++ [100 * (t + 1) + 100 + k])) else .inl (1, a')
def pPieB (ch : Nat → Nat) (inner : Option ((Nat → FR) × (Nat → FR))) (a : Nat) : FR := if cB (ch a) then
    (if 97 ≤ ch a then .inr (a + 1, (fun st => st.testBit (ch a - 97), [ch a - 97]))
    else if ch a = 48 then .inr (a + 1, (fun _ => false, [20]))
    else if ch a = 49 then .inr (a + 1, (fun _ => true, [21]))
    else match inner with
      | none => .inl (5, a)
      | some (pie, fo) => if ch a = 33 then (match pie (a + 1) with
          | .inl z => .inl z
          | .inr (a', x) => .inr (a', (fun st => !x.1 st, x.2 ++ [33])))
        else if ch a = 40 then (match fo (a + 1) with
          | .inl z => .inl z
          | .inr (a', x) => if ch a' = 41 then .inr (a' + 1, x) else .inl (1, a'))
        else if ch (a + 1) = 40 then pManL ch fo (ch a - 48) 10 (a + 2) 0 (fun _ => 0) [] else .inl (1, a + 1))
  else .inl (1, a)
def pPies (ch : Nat → Nat) : Nat → Nat → FR
  | 0, a => pPieB ch none a
  | e + 1, a => pPieB ch (some (pPies ch e, pForB ch (pPies ch e))) a
def pFor (ch : Nat → Nat) (e a : Nat) : FR := pForB ch (pPies ch e) a
def pTop (ch : Nat → Nat) : (Nat × Nat) ⊕ FV := match pFor ch 6 0 with
  | .inl z => .inl z
  | .inr (a, x) => if ch a = 256 then .inr x else .inl (1, a)
/-! where its pieces end -/
def ffine (len a : Nat) (r : FR) : Prop := match r with
  | .inl z => 1 ≤ z.1 ∧ z.1 ≤ 5 ∧ z.2 ≤ len
  | .inr z => a < z.1 ∧ z.1 ≤ len ∧ z.2.2.length ≤ z.1 - a
theorem ffineL {len a n p : Nat} (h : p ≤ len) (h1 : 1 ≤ n := by decide) (h2 : n ≤ 5 := by decide) : ffine len a (.inl (n, p)) := ⟨h1, h2, h⟩
section
variable {ch : Nat → Nat} {len : Nat}
def fol (o : Option FV) : Nat := match o with
  | none => 0
  | some y => y.2.length + 1
theorem fjn_len (k : Nat) (op : Bool → Bool → Bool) (o : Option FV) (x : FV) : (fjn k op o x).2.length = fol o + x.2.length := by
  cases o with
  | none => show x.2.length = 0 + _; omega
  | some y =>
    show (y.2 ++ x.2 ++ [k]).length = y.2.length + 1 + _
    rw [List.length_append, List.length_append]
    show y.2.length + x.2.length + 1 = _
    omega
theorem fS_len (oS oO oA : Option FV) (x : FV) : (fS oS oO oA x).2.length = fol oS + (fol oO + (fol oA + x.2.length)) := by
  unfold fS fO fA
  rw [fjn_len, fjn_len, fjn_len]
theorem fO_len (oO oA : Option FV) (x : FV) : (fO oO oA x).2.length = fol oO + (fol oA + x.2.length) := by
  unfold fO fA
  rw [fjn_len, fjn_len]
theorem fA_len (oA : Option FV) (x : FV) : (fA oA x).2.length = fol oA + x.2.length := by
  unfold fA
  rw [fjn_len]
theorem pForL_fine (h : ∀ a, len ≤ a → ch a = 256) {pie : Nat → FR} (hf : ∀ a, a ≤ len → ffine len a (pie a)) (a0 : Nat) : ∀ (n a : Nat) (oS oO oA : Option FV) (C : FV), a0 < a → a ≤ len → fol oS + (fol oO + (fol oA + C.2.length)) ≤ a - a0 → ffine len a0 (pForL ch pie n a oS oO oA C)
  | 0, a, oS, oO, oA, C, h1, h2, h3 => ⟨h1, h2, by rw [fS_len]; exact h3⟩
  | n + 1, a, oS, oO, oA, C, h1, h2, h3 => by
    unfold pForL
    by_cases c1 : ch a = 38
    · rw [if_pos c1]
      have l1 := at_in h c1 (by decide)
      have := hf (a + 1) l1
      revert this
      cases pie (a + 1) with
      | inl z => exact fun z => z
      | inr z =>
        rintro ⟨g1, g2, g3⟩
        refine pForL_fine h hf a0 n z.1 oS oO _ z.2 (by omega) g2 ?_
        show fol oS + (fol oO + ((fA oA C).2.length + 1 + z.2.2.length)) ≤ _
        rw [fA_len]
        omega
    · rw [if_neg c1]
      by_cases c2 : ch a = 94
      · rw [if_pos c2]
        have l1 := at_in h c2 (by decide)
        have := hf (a + 1) l1
        revert this
        cases pie (a + 1) with
        | inl z => exact fun z => z
        | inr z =>
          rintro ⟨g1, g2, g3⟩
          refine pForL_fine h hf a0 n z.1 oS _ none z.2 (by omega) g2 ?_
          show fol oS + ((fO oO oA C).2.length + 1 + (0 + z.2.2.length)) ≤ _
          rw [fO_len]
          omega
      · rw [if_neg c2]
        by_cases c3 : ch a = 124
        · rw [if_pos c3]
          have l1 := at_in h c3 (by decide)
          have := hf (a + 1) l1
          revert this
          cases pie (a + 1) with
          | inl z => exact fun z => z
          | inr z =>
            rintro ⟨g1, g2, g3⟩
            refine pForL_fine h hf a0 n z.1 _ none none z.2 (by omega) g2 ?_
            show (fS oS oO oA C).2.length + 1 + (0 + (0 + z.2.2.length)) ≤ _
            rw [fS_len]
            omega
        · rw [if_neg c3]
          exact ⟨h1, h2, by rw [fS_len]; exact h3⟩
theorem pForB_fine (h : ∀ a, len ≤ a → ch a = 256) {pie : Nat → FR} (hf : ∀ a, a ≤ len → ffine len a (pie a)) {a : Nat} (ha : a ≤ len) : ffine len a (pForB ch pie a) := by
  unfold pForB
  have := hf a ha
  revert this
  cases pie a with
  | inl z => exact fun z => z
  | inr z =>
    rintro ⟨g1, g2, g3⟩
    refine pForL_fine h hf a 300 z.1 none none none z.2 g1 g2 ?_
    show 0 + (0 + (0 + z.2.2.length)) ≤ _
    omega
theorem pManL_fine (h : ∀ a, len ≤ a → ch a = 256) {fo : Nat → FR} (hf : ∀ a, a ≤ len → ffine len a (fo a)) (k a0 : Nat) : ∀ (n a t : Nat) (c : Nat → Nat) (l : List Nat), a0 < a → a ≤ len → l.length ≤ a - a0 → ffine len a0 (pManL ch fo k n a t c l)
  | 0, a, t, c, l, h1, h2, h3 => ffineL h2
  | n + 1, a, t, c, l, h1, h2, h3 => by
    unfold pManL
    have := hf a h2
    revert this
    cases fo a with
    | inl z => exact fun z => z
    | inr z =>
      rintro ⟨g1, g2, g3⟩
      dsimp only
      by_cases c1 : ch z.1 = 44
      · rw [if_pos c1]
        have l1 := at_in h c1 (by decide)
        by_cases c2 : t = 9
        · rw [if_pos c2]
          split
          · exact ffineL l1
          · exact ffineL l1
        · rw [if_neg c2]
          refine pManL_fine h hf k a0 n (z.1 + 1) (t + 1) _ _ (by omega) l1 ?_
          rw [List.length_append]
          omega
      · rw [if_neg c1]
        by_cases c2 : ch z.1 = 41
        · rw [if_pos c2]
          have l1 := at_in h c2 (by decide)
          refine ⟨by show a0 < z.1 + 1; omega, l1, ?_⟩
          show (l ++ z.2.2 ++ [100 * (t + 1) + 100 + k]).length ≤ z.1 + 1 - a0
          rw [List.length_append, List.length_append]
          show l.length + z.2.2.length + 1 ≤ _
          omega
        · rw [if_neg c2]
          exact ffineL g2
theorem cB_in (h : ∀ a, len ≤ a → ch a = 256) {a : Nat} (e : cB (ch a) = true) : a < len := by
  rcases Nat.lt_or_ge a len with q | q
  · exact q
  · rw [h a q] at e
    exact absurd e (by decide)
theorem pPieB_fine (h : ∀ a, len ≤ a → ch a = 256) {inner : Option ((Nat → FR) × (Nat → FR))} (hi : ∀ f, inner = some f → ∀ a, a ≤ len → ffine len a (f.1 a) ∧ ffine len a (f.2 a)) {a : Nat} (ha : a ≤ len) : ffine len a (pPieB ch inner a) := by
  unfold pPieB
  cases cb : cB (ch a) with
  | false => exact ffineL ha
  | true =>
    have l1 := cB_in h cb
    have one : ∀ (v : Nat → Bool) (c : Nat), ffine len a (.inr (a + 1, (v, [c]))) := fun v c => ⟨by show a < a + 1; omega, l1, by show 1 ≤ a + 1 - a; omega⟩
    rw [if_pos rfl]
    by_cases c1 : 97 ≤ ch a
    · rw [if_pos c1]
      exact one _ _
    · rw [if_neg c1]
      by_cases c2 : ch a = 48
      · rw [if_pos c2]
        exact one _ _
      · rw [if_neg c2]
        by_cases c3 : ch a = 49
        · rw [if_pos c3]
          exact one _ _
        · rw [if_neg c3]
          cases inner with
          | none => exact ffineL ha
          | some f =>
            obtain ⟨pie, fo⟩ := f
            have hI := hi _ rfl
            dsimp only
            by_cases c4 : ch a = 33
            · rw [if_pos c4]
              have := (hI (a + 1) l1).1
              revert this
              show ffine len (a + 1) (pie (a + 1)) → _
              cases pie (a + 1) with
              | inl z => exact fun z => z
              | inr z =>
                rintro ⟨g1, g2, g3⟩
                refine ⟨by show a < z.1; omega, g2, ?_⟩
                show (z.2.2 ++ [33]).length ≤ z.1 - a
                rw [List.length_append]
                show _ + 1 ≤ _
                omega
            · rw [if_neg c4]
              by_cases c5 : ch a = 40
              · rw [if_pos c5]
                have := (hI (a + 1) l1).2
                revert this
                show ffine len (a + 1) (fo (a + 1)) → _
                cases fo (a + 1) with
                | inl z => exact fun z => z
                | inr z =>
                  rintro ⟨g1, g2, g3⟩
                  dsimp only
                  by_cases c6 : ch z.1 = 41
                  · rw [if_pos c6]
                    have l2 := at_in h c6 (by decide)
                    exact ⟨by show a < z.1 + 1; omega, l2, by show z.2.2.length ≤ z.1 + 1 - a; omega⟩
                  · rw [if_neg c6]
                    exact ffineL g2
              · rw [if_neg c5]
                by_cases c6 : ch (a + 1) = 40
                · rw [if_pos c6]
                  have l2 := at_in h c6 (by decide)
                  exact pManL_fine h (fun a ha => (hI a ha).2) _ a 10 (a + 2) 0 _ [] (by omega) l2 (Nat.zero_le _)
                · rw [if_neg c6]
                  exact ffineL l1
theorem pPies_fine (h : ∀ a, len ≤ a → ch a = 256) : ∀ (e a : Nat), a ≤ len → ffine len a (pPies ch e a)
  | 0, a, ha => pPieB_fine h (fun f e => by cases e) ha
  | e + 1, a, ha => pPieB_fine h (fun f q a ha => by
      cases q
      exact ⟨pPies_fine h e a ha, pForB_fine h (pPies_fine h e) ha⟩) ha
theorem pFor_fine (h : ∀ a, len ≤ a → ch a = 256) (e : Nat) {a : Nat} (ha : a ≤ len) : ffine len a (pFor ch e a) := pForB_fine h (pPies_fine h e) ha
theorem pTop_fine (h : ∀ a, len ≤ a → ch a = 256) : match pTop ch with
    | .inl z => 1 ≤ z.1 ∧ z.1 ≤ 5 ∧ z.2 ≤ len
    | .inr x => x.2.length ≤ len := by
  unfold pTop
  have := pFor_fine h 6 (Nat.zero_le len)
  revert this
  cases pFor ch 6 0 with
  | inl z => exact fun z => z
  | inr z =>
    rintro ⟨g1, g2, g3⟩
    dsimp only
    by_cases c1 : ch z.1 = 256
    · rw [if_pos c1]
      show z.2.2.length ≤ len
      omega
    · rw [if_neg c1]
      exact ⟨by show 1 ≤ 1; decide, by show 1 ≤ 5; decide, g2⟩
end
