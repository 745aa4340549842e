/-! what a formula's signs come to -/
def cT : List Bool → Nat
  | [] => 0
  | x :: l => x.toNat + cT l
def stepF (st c : Nat) (S S' : List Bool) : Prop := (c < 10 ∧ S' = st.testBit c :: S) ∨ (c = 20 ∧ S' = false :: S) ∨ (c = 21 ∧ S' = true :: S) ∨ (∃ x y S0, S = y :: x :: S0 ∧ ((c = 30 ∧ S' = (x && y) :: S0) ∨ (c = 31 ∧ S' = xor x y :: S0) ∨ (c = 32 ∧ S' = (x || y) :: S0))) ∨ (∃ x S0, S = x :: S0 ∧ c = 33 ∧ S' = (!x) :: S0) ∨ (∃ t k xs S0, t ≤ 10 ∧ k < 10 ∧ c = 100 * t + 100 + k ∧ xs.length = t ∧ S = xs ++ S0 ∧ S' = decide (k ≤ cT xs) :: S0)
def gonF (st : Nat) : List Nat → List Bool → List Bool → Prop
  | [], S, R => S = R
  | c :: l, S, R => ∃ S', stepF st c S S' ∧ gonF st l S' R
def frm (x : FV) : Prop := ∀ st rest S R, gonF st rest (x.1 st :: S) R → gonF st (x.2 ++ rest) S R
def frmO (o : Option FV) : Prop := match o with
  | none => True
  | some x => frm x
theorem frm_jn {k : Nat} {op : Bool → Bool → Bool} (hs : ∀ st x y S0, stepF st k (y :: x :: S0) (op x y :: S0)) {o : Option FV} {x : FV} (ho : frmO o) (hx : frm x) : frm (fjn k op o x) := by
  cases o with
  | none => exact hx
  | some y =>
    intro st rest S R h
    show gonF st (y.2 ++ x.2 ++ [k] ++ rest) S R
    rw [List.append_assoc, List.append_assoc]
    refine ho st _ S R (hx st _ _ R ⟨_, hs st _ _ S, h⟩)
theorem frm_A {o : Option FV} {x : FV} (ho : frmO o) (hx : frm x) : frm (fA o x) := frm_jn (fun st x y S0 => Or.inr (Or.inr (Or.inr (Or.inl ⟨x, y, S0, rfl, Or.inl ⟨rfl, rfl⟩⟩)))) ho hx
theorem frm_O {o o2 : Option FV} {x : FV} (ho : frmO o) (h2 : frmO o2) (hx : frm x) : frm (fO o o2 x) := frm_jn (fun st x y S0 => Or.inr (Or.inr (Or.inr (Or.inl ⟨x, y, S0, rfl, Or.inr (Or.inl ⟨rfl, rfl⟩)⟩)))) ho (frm_A h2 hx)
theorem frm_S {o o2 o3 : Option FV} {x : FV} (ho : frmO o) (h2 : frmO o2) (h3 : frmO o3) (hx : frm x) : frm (fS o o2 o3 x) := frm_jn (fun st x y S0 => Or.inr (Or.inr (Or.inr (Or.inl ⟨x, y, S0, rfl, Or.inr (Or.inr ⟨rfl, rfl⟩)⟩)))) ho (frm_O h2 h3 hx)
def frmR (r : FR) : Prop := match r with
  | .inl _ => True
  | .inr z => frm z.2
section
variable {ch : Nat → Nat}
theorem pForL_E {pie : Nat → FR} (hf : ∀ a, frmR (pie a)) : ∀ (n a : Nat) (oS oO oA : Option FV) (C : FV), frmO oS → frmO oO → frmO oA → frm C → frmR (pForL ch pie n a oS oO oA C)
  | 0, a, oS, oO, oA, C, h1, h2, h3, h4 => frm_S h1 h2 h3 h4
  | n + 1, a, oS, oO, oA, C, h1, h2, h3, h4 => by
    unfold pForL
    have := hf (a + 1)
    revert this
    by_cases c1 : ch a = 38
    · rw [if_pos c1]
      cases pie (a + 1) with
      | inl z => exact fun z => z
      | inr z => exact fun g => pForL_E hf n z.1 oS oO _ z.2 h1 h2 (frm_A h3 h4) g
    · rw [if_neg c1]
      by_cases c2 : ch a = 94
      · rw [if_pos c2]
        cases pie (a + 1) with
        | inl z => exact fun z => z
        | inr z => exact fun g => pForL_E hf n z.1 oS _ none z.2 h1 (frm_O h2 h3 h4) trivial g
      · rw [if_neg c2]
        by_cases c3 : ch a = 124
        · rw [if_pos c3]
          cases pie (a + 1) with
          | inl z => exact fun z => z
          | inr z => exact fun g => pForL_E hf n z.1 _ none none z.2 (frm_S h1 h2 h3 h4) trivial trivial g
        · rw [if_neg c3]
          exact fun _ => frm_S h1 h2 h3 h4
theorem pForB_E {pie : Nat → FR} (hf : ∀ a, frmR (pie a)) (a : Nat) : frmR (pForB ch pie a) := by
  unfold pForB
  have := hf a
  revert this
  cases pie a with
  | inl z => exact fun z => z
  | inr z => exact fun g => pForL_E hf 300 z.1 none none none z.2 trivial trivial trivial g
theorem cT_app (x : Bool) (l : List Bool) : cT (x :: l) = cT l + x.toNat := by
  show x.toNat + cT l = _
  omega
theorem pManL_E {fo : Nat → FR} (hf : ∀ a, frmR (fo a)) {k : Nat} (hk : k < 10) : ∀ (n a t : Nat) (c : Nat → Nat) (l : List Nat), t ≤ 9 → (∀ st, ∃ xs : List Bool, xs.length = t ∧ cT xs = c st ∧ ∀ rest S R, gonF st rest (xs ++ S) R → gonF st (l ++ rest) S R) → frmR (pManL ch fo k n a t c l)
  | 0, a, t, c, l, h1, h2 => trivial
  | n + 1, a, t, c, l, h1, h2 => by
    unfold pManL
    have := hf a
    revert this
    cases fo a with
    | inl z => exact fun z => z
    | inr z =>
      intro g
      have g : frm z.2 := g
      dsimp only
      by_cases c1 : ch z.1 = 44
      · rw [if_pos c1]
        by_cases c2 : t = 9
        · rw [if_pos c2]
          split
          · exact trivial
          · exact trivial
        · rw [if_neg c2]
          refine pManL_E hf hk n (z.1 + 1) (t + 1) _ _ (by omega) (fun st => ?_)
          obtain ⟨xs, x1, x2, x3⟩ := h2 st
          refine ⟨z.2.1 st :: xs, by rw [List.length_cons, x1], by rw [cT_app, x2], fun rest S R hh => ?_⟩
          rw [List.append_assoc]
          exact x3 _ S R (g st rest (xs ++ S) R hh)
      · rw [if_neg c1]
        by_cases c2 : ch z.1 = 41
        · rw [if_pos c2]
          intro st rest S R hh
          have hh : gonF st rest (decide (k ≤ c st + (z.2.1 st).toNat) :: S) R := hh
          show gonF st (l ++ z.2.2 ++ [100 * (t + 1) + 100 + k] ++ rest) S R
          rw [List.append_assoc, List.append_assoc]
          obtain ⟨xs, x1, x2, x3⟩ := h2 st
          refine x3 _ S R (g st _ (xs ++ S) R ⟨_, Or.inr (Or.inr (Or.inr (Or.inr (Or.inr ⟨t + 1, k, z.2.1 st :: xs, S, by omega, hk, rfl, by rw [List.length_cons, x1], rfl, rfl⟩)))), ?_⟩)
          rw [cT_app, x2]
          exact hh
        · rw [if_neg c2]
          exact trivial
theorem frm_one {v : Nat → Bool} {c : Nat} (h : ∀ st S, stepF st c S (v st :: S)) : frm (v, [c]) := fun st rest S R hh => ⟨_, h st S, hh⟩
theorem pPieB_E {inner : Option ((Nat → FR) × (Nat → FR))} (hi : ∀ f, inner = some f → ∀ a, frmR (f.1 a) ∧ frmR (f.2 a)) (a : Nat) : frmR (pPieB ch inner a) := by
  unfold pPieB
  cases cb : cB (ch a) with
  | false => exact trivial
  | true =>
    rw [if_pos rfl]
    have hb : (97 ≤ ch a ∧ ch a ≤ 106) ∨ (48 ≤ ch a ∧ ch a ≤ 57) ∨ ch a = 33 ∨ ch a = 40 := by
      unfold cB at cb
      simp only [Bool.or_eq_true, Bool.and_eq_true, decide_eq_true_eq, beq_iff_eq] at cb
      omega
    by_cases c1 : 97 ≤ ch a
    · rw [if_pos c1]
      exact frm_one (fun st S => Or.inl ⟨by omega, rfl⟩)
    · rw [if_neg c1]
      by_cases c2 : ch a = 48
      · rw [if_pos c2]
        exact frm_one (fun st S => Or.inr (Or.inl ⟨rfl, rfl⟩))
      · rw [if_neg c2]
        by_cases c3 : ch a = 49
        · rw [if_pos c3]
          exact frm_one (fun st S => Or.inr (Or.inr (Or.inl ⟨rfl, rfl⟩)))
        · rw [if_neg c3]
          cases inner with
          | none => exact trivial
          | some f =>
            obtain ⟨pie, fo⟩ := f
            have hI := hi _ rfl
            dsimp only
            by_cases c4 : ch a = 33
            · rw [if_pos c4]
              have := (hI (a + 1)).1
              revert this
              show frmR (pie (a + 1)) → _
              cases pie (a + 1) with
              | inl z => exact fun z => z
              | inr z =>
                intro g st rest S R hh
                have g : frm z.2 := g
                show gonF st (z.2.2 ++ [33] ++ rest) S R
                rw [List.append_assoc]
                exact g st _ S R ⟨_, Or.inr (Or.inr (Or.inr (Or.inr (Or.inl ⟨_, _, rfl, rfl, rfl⟩)))), hh⟩
            · rw [if_neg c4]
              by_cases c5 : ch a = 40
              · rw [if_pos c5]
                have := (hI (a + 1)).2
                revert this
                show frmR (fo (a + 1)) → _
                cases fo (a + 1) with
                | inl z => exact fun z => z
                | inr z =>
                  intro g
                  dsimp only
                  by_cases c6 : ch z.1 = 41
                  · rw [if_pos c6]
                    exact g
                  · rw [if_neg c6]
                    exact trivial
              · rw [if_neg c5]
                by_cases c6 : ch (a + 1) = 40
                · rw [if_pos c6]
                  exact pManL_E (fun a => (hI a).2) (by omega) 10 (a + 2) 0 _ [] (by omega) (fun st => ⟨[], rfl, rfl, fun rest S R hh => hh⟩)
                · rw [if_neg c6]
                  exact trivial
theorem pPies_E : ∀ (e a : Nat), frmR (pPies ch e a)
  | 0, a => pPieB_E (fun f e => by cases e) a
  | e + 1, a => pPieB_E (fun f q a => by
      cases q
      exact ⟨pPies_E e a, pForB_E (pPies_E e) a⟩) a
theorem pTop_E {x : FV} (h : pTop ch = .inr x) (st : Nat) : gonF st x.2 [] [x.1 st] := by
  unfold pTop at h
  have := pForB_E (ch := ch) (pPies_E (ch := ch) 6) 0
  revert this
  show frmR (pFor ch 6 0) → _
  cases hp : pFor ch 6 0 with
  | inl z =>
    rw [hp] at h
    cases h
  | inr z =>
    intro g
    have g : frm z.2 := g
    rw [hp] at h
    have h : (if ch z.1 = 256 then (.inr z.2 : (Nat × Nat) ⊕ FV) else .inl (1, z.1)) = .inr x := h
    by_cases c1 : ch z.1 = 256
    · rw [if_pos c1] at h
      cases h
      have := g st [] [] [z.2.1 st] rfl
      rw [List.append_nil] at this
      exact this
    · rw [if_neg c1] at h
      cases h
end
