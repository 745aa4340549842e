/-! the class reads tests and rules -/
section
variable {b : Nat} {w0 : WD} {o len : Nat} {ch : Nat → Nat}
theorem rel_c {x : Nat} (hx : x ≤ 256) : (txv x = (60 : Int32) ∨ txv x = (62 : Int32) ∨ txv x = (61 : Int32)) ↔ relK x ≠ 0 := by
  have h1 : (txv x = (60 : Int32)) ↔ x = 60 := tq hx (by decide)
  have h2 : (txv x = (62 : Int32)) ↔ x = 62 := tq hx (by decide)
  have h3 : (txv x = (61 : Int32)) ↔ x = 61 := tq hx (by decide)
  rw [h1, h2, h3]
  unfold relK
  constructor
  · rintro (rfl | rfl | rfl) <;> decide
  · intro h
    by_cases q1 : x = 60
    · exact Or.inl q1
    · by_cases q2 : x = 62
      · exact Or.inr (Or.inl q2)
      · by_cases q3 : x = 61
        · exact Or.inr (Or.inr q3)
        · rw [if_neg q1, if_neg q2, if_neg q3] at h
          exact absurd rfl h
theorem relK_sg {x : Nat} (h : relK x ≠ 0) : nI (sg (relK x)) = txv x := by
  unfold relK at *
  by_cases q1 : x = 60
  · subst q1; rfl
  · by_cases q2 : x = 62
    · subst q2; rfl
    · by_cases q3 : x = 61
      · subst q3; rfl
      · rw [if_neg q1, if_neg q2, if_neg q3] at h
        exact absurd rfl h
theorem expect_c (hT : TxC w0 o len ch) {a s : Nat} {g : Nat → Int32} {f : Int32} (ha : a ≤ len) {c : Nat} (hc : c < 256) : ∃ a' f', FX4_expect (mk b (stW w0 o a s g f)) (b + o) (nI c) = some (mk b (stW w0 o a' s g f')) ∧ a' ≤ len ∧ (f ≠ 0 → f' = f) ∧ (f = 0 → ((ch a = c ∧ a' = a + 1 ∧ f' = 0) ∨ (ch a ≠ c ∧ f' = flt (1, a)))) := by
  have e := st_expect (b := b) (s := s) (g := g) (f := f) hT ha hc
  by_cases q : ch a = c
  · rw [if_pos q] at e
    exact ⟨_, _, e, at_in hT.2.2.2.2 q (by omega), fun _ => rfl, fun z => Or.inl ⟨q, rfl, z⟩⟩
  · rw [if_neg q] at e
    refine ⟨_, _, e, ha, fun z => if_neg z, fun z => Or.inr ⟨q, if_pos z⟩⟩
theorem tst_c (hT : TxC w0 o len ch) {e d : Nat} (hd : d + e = 6) {rO rT : HP → Nat → Int32 → Option HP} {inner : Option ((Nat → PR) × (Nat → PR))} (hin : e = 0 → inner = none) (hin2 : e ≠ 0 → ∃ f, inner = some f ∧ SpC b w0 o len rT (d + 1) f.1 ∧ SpC b w0 o len rO (d + 1) f.2 ∧ ∀ a, a ≤ len → fine len a (f.1 a) ∧ fine len a (f.2 a)) : SpC b w0 o len (FBX2_readTest rO rT) d (pTstB ch (pSum ch e) inner) := by
  have ho := hT.1
  have hx := chr_le hT.2.2.2
  have hlen := hT.2.2.1
  have hfi := hT.2.2.2.2
  have hsum : SpC b w0 o len (FX2_readSum 20) d (pSum ch e) := sums_c hT e d 20 hd (by omega)
  intro a s g f ha hs
  have t33 : (txv (ch a) = (33 : Int32)) ↔ ch a = 33 := tq (hx a) (by decide)
  have t40 : (txv (ch a) = (40 : Int32)) ↔ ch a = 40 := tq (hx a) (by decide)
  unfold FBX2_readTest pTstB
  rw [rc_2_o b _ ho, st_here hT ha, Option.bind_some]
  by_cases h33 : ch a = 33
  · have hl := at_in hfi h33 (by decide)
    rw [if_pos (t33.mpr h33), if_pos h33, rc_2_o b _ ho, st_open ho d (by omega), Option.bind_some]
    by_cases h6 : d < 6
    · obtain ⟨fi, hfi2, hsp1, hsp2, hfn⟩ := hin2 (by omega)
      rw [if_pos h6, gI_2_o_3 b _ ho, Option.bind_some, stW_3, rc_2_o b _ ho, nI_1, (t33.mpr h33), hfi2]
      constructor
      · intro hf
        rw [if_neg hf]
        exact ⟨_, _, _, rfl, hl, hs⟩
      · intro hf hsa
        subst hf
        rw [if_pos rfl]
        obtain ⟨a1, s1, g1, f1, e1, p1⟩ := (hsp1 (a + 1) s g 0 hl hs).2 rfl (by omega)
        have hfine := (hfn (a + 1) hl).1
        rw [e1, Option.bind_some, rc_2_o b _ ho]
        dsimp only
        cases hp : fi.1 (a + 1) with
        | inl z =>
          rw [hp] at p1
          obtain ⟨r1, r2, rfl⟩ := p1
          obtain ⟨s2, g2, e2, e3⟩ := st_emit' (b := b) (w0 := w0) (a := a1) (s := s1) (g := g1) (f := flt z) ho r2 (-(33 : Int32))
          rw [e2, Option.bind_some]
          exact ⟨_, _, _, _, rfl, r1, e3, rfl⟩
        | inr z =>
          rw [hp] at p1 hfine
          obtain ⟨r1, r2, r3, r4, r5⟩ := p1
          obtain ⟨v1, v2, v3⟩ := hfine
          subst r3
          obtain ⟨g2, e2, e3, e4⟩ := emit_op (b := b) (w0 := w0) (a := a1) (s := s1) (s0 := s) (g := g1) (g0 := g) ho (l := z.2) r2 (by omega) r4 r5 (k := 10) (by decide) (by decide)
          have e2 : FX2_emit (mk b (stW w0 o a1 s1 g1 0)) (b + o) (-(33 : Int32)) = some (mk b (stW w0 o a1 (s1 + 1) g2 0)) := e2
          rw [e2, Option.bind_some]
          refine ⟨_, _, _, _, rfl, r1, ?_, rfl, e3, e4⟩
          show s1 + 1 = s + (z.2 ++ [(10, 0)]).length
          rw [List.length_append]
          show s1 + 1 = s + (z.2.length + 1)
          omega
    · rw [if_neg h6, gI_2_o_3 b _ ho, Option.bind_some, stW_3, hin (by omega)]
      constructor
      · intro hf
        rw [if_neg hf, if_neg hf]
        exact ⟨_, _, _, rfl, ha, hs⟩
      · intro hf hsa
        rw [if_pos hf, if_neg (flt_n (n := 5) (by decide) (by decide) (by omega))]
        exact ⟨_, _, _, _, rfl, ha, hs, rfl⟩
  · rw [if_neg (fun z => h33 (t33.mp z)), if_neg h33]
    by_cases h40 : ch a = 40
    · have hl := at_in hfi h40 (by decide)
      rw [if_pos (t40.mpr h40), if_pos h40, rc_2_o b _ ho, st_open ho d (by omega), Option.bind_some]
      by_cases h6 : d < 6
      · obtain ⟨fi, hfi2, hsp1, hsp2, hfn⟩ := hin2 (by omega)
        rw [if_pos h6, gI_2_o_3 b _ ho, Option.bind_some, stW_3, rc_2_o b _ ho, nI_1, hfi2]
        constructor
        · intro hf
          rw [if_neg hf]
          exact ⟨_, _, _, rfl, hl, hs⟩
        · intro hf hsa
          subst hf
          rw [if_pos rfl]
          obtain ⟨a1, s1, g1, f1, e1, p1⟩ := (hsp2 (a + 1) s g 0 hl hs).2 rfl (by omega)
          have hfine := (hfn (a + 1) hl).2
          rw [e1, Option.bind_some, rc_2_o b _ ho]
          dsimp only
          cases hp : fi.2 (a + 1) with
          | inl z =>
            rw [hp] at p1
            obtain ⟨r1, r2, rfl⟩ := p1
            obtain ⟨a2, f2, e2, e3, e4, _⟩ := expect_c (b := b) (s := s1) (g := g1) (f := flt z) hT r1 (c := 41) (by decide)
            have e2 : FX4_expect (mk b (stW w0 o a1 s1 g1 (flt z))) (b + o) (41 : Int32) = some (mk b (stW w0 o a2 s1 g1 f2)) := e2
            rw [e2, Option.bind_some]
            exact ⟨_, _, _, _, rfl, e3, r2, e4 (flt_of hfine hlen hp)⟩
          | inr z =>
            rw [hp] at p1 hfine
            obtain ⟨r1, r2, r3, r4, r5⟩ := p1
            obtain ⟨v1, v2, v3⟩ := hfine
            subst r3
            obtain ⟨a2, f2, e2, e3, _, e4⟩ := expect_c (b := b) (s := s1) (g := g1) (f := 0) hT (show a1 ≤ len by omega) (c := 41) (by decide)
            have e2 : FX4_expect (mk b (stW w0 o a1 s1 g1 0)) (b + o) (41 : Int32) = some (mk b (stW w0 o a2 s1 g1 f2)) := e2
            rw [e2, Option.bind_some]
            dsimp only
            rcases e4 rfl with ⟨q1, q2, q3⟩ | ⟨q1, q2⟩
            · rw [if_pos (by rw [← r1]; exact q1)]
              exact ⟨_, _, _, _, rfl, by rw [q2, r1], r2, q3, r4, r5⟩
            · rw [if_neg (by rw [← r1]; exact q1)]
              exact ⟨_, _, _, _, rfl, e3, by omega, by rw [q2, r1]⟩
      · rw [if_neg h6, gI_2_o_3 b _ ho, Option.bind_some, stW_3, hin (by omega)]
        constructor
        · intro hf
          rw [if_neg hf, if_neg hf]
          exact ⟨_, _, _, rfl, ha, hs⟩
        · intro hf hsa
          rw [if_pos hf, if_neg (flt_n (n := 5) (by decide) (by decide) (by omega))]
          exact ⟨_, _, _, _, rfl, ha, hs, rfl⟩
    · rw [if_neg (fun z => h40 (t40.mp z)), if_neg h40, rc_2_o b _ ho]
      -- what follows the first sum
      have cont : ∀ (a1 s1 : Nat) (g1 : Nat → Int32) (f1 : Int32), a1 ≤ len → (rc [2] (mk b (stW w0 o a1 s1 g1 f1)) (b + o) (FX4_here (mk b (stW w0 o a1 s1 g1 f1)) (b + o))).bind (fun v11 => jn (A := Unit) (fun a12 => (gI [2] 2 (mk b (stW w0 o a1 s1 g1 f1)) (b + o)).bind (fun v14 => (sI [2] 2 (mk b (stW w0 o a1 s1 g1 f1)) (b + o) (v14 + (1 : Int32))).bind (fun hp15 => (rc [2] hp15 (b + o) (FX2_readSum 20 hp15 (b + o) (nI d))).bind (fun w16 => (rc [2] w16 (b + o) (FX2_emit w16 (b + o) (-v11))).bind (fun w17 => some w17))))) (fun J13 => if v11 = (60 : Int32) then J13 () else if v11 = (62 : Int32) then J13 () else if v11 = (61 : Int32) then J13 () else (rc [2] (mk b (stW w0 o a1 s1 g1 f1)) (b + o) (FX4_fail (mk b (stW w0 o a1 s1 g1 f1)) (b + o) (1 : Int32))).bind (fun w18 => some w18))) = if relK (ch a1) = 0 then some (mk b (stW w0 o a1 s1 g1 (if f1 = 0 then flt (1, a1) else f1))) else (FX2_readSum 20 (mk b (stW w0 o (a1 + 1) s1 g1 f1)) (b + o) (nI d)).bind (fun w16 => (rc [2] w16 (b + o) (FX2_emit w16 (b + o) (-(nI (sg (relK (ch a1))))))).bind (fun w17 => some w17)) := by
        intro a1 s1 g1 f1 ha1
        rw [rc_2_o b _ ho, st_here hT ha1, Option.bind_some, jn_eq]
        dsimp only
        by_cases hr : relK (ch a1) = 0
        · have n1 : ¬ (txv (ch a1) = (60 : Int32) ∨ txv (ch a1) = (62 : Int32) ∨ txv (ch a1) = (61 : Int32)) := fun z => (rel_c (hx a1)).mp z hr
          rw [if_neg (fun z => n1 (Or.inl z)), if_neg (fun z => n1 (Or.inr (Or.inl z))), if_neg (fun z => n1 (Or.inr (Or.inr z))), if_pos hr, rc_2_o b _ ho]
          exact bS (st_fail ho 1) rfl
        · rw [if_neg hr, relK_sg hr, gI_2_o_2 b _ ho, Option.bind_some, stW_2, nI_1, sI_2_o_2 b _ ho, Option.bind_some, stW_u2, rc_2_o b _ ho]
          rcases (rel_c (hx a1)).mpr hr with e | e | e
          · rw [if_pos e]
          · rw [if_neg (by rw [e]; decide), if_pos e]
          · rw [if_neg (by rw [e]; decide), if_neg (by rw [e]; decide), if_pos e]
      constructor
      · intro hf
        obtain ⟨a1, s1, g1, e1, p1, p2⟩ := (hsum a s g f ha hs).1 hf
        rw [e1, Option.bind_some, cont a1 s1 g1 f p1]
        by_cases hr : relK (ch a1) = 0
        · rw [if_pos hr, if_neg hf]
          exact ⟨_, _, _, rfl, p1, p2⟩
        · have hl1 : a1 < len := by
            rcases Nat.lt_or_ge a1 len with q | q
            · exact q
            · rw [hfi a1 q] at hr
              exact absurd rfl hr
          rw [if_neg hr]
          obtain ⟨a2, s2, g2, e2, q1, q2⟩ := (hsum (a1 + 1) s1 g1 f hl1 p2).1 hf
          rw [e2, Option.bind_some, rc_2_o b _ ho]
          obtain ⟨s3, g3, e3, e4⟩ := st_emit' (b := b) (w0 := w0) (a := a2) (s := s2) (g := g2) (f := f) ho q2 (-(nI (sg (relK (ch a1)))))
          rw [e3, Option.bind_some]
          exact ⟨_, _, _, rfl, q1, e4⟩
      · intro hf hsa
        subst hf
        obtain ⟨a1, s1, g1, f1, e1, p1⟩ := (hsum a s g 0 ha hs).2 rfl hsa
        have hfine := pSum_fine hfi e ha
        rw [e1, Option.bind_some]
        unfold pCmp
        cases hp : pSum ch e a with
        | inl z =>
          rw [hp] at p1
          obtain ⟨r1, r2, rfl⟩ := p1
          have hne := flt_of hfine hlen hp
          rw [cont a1 s1 g1 _ r1]
          dsimp only
          by_cases hr : relK (ch a1) = 0
          · rw [if_pos hr, if_neg hne]
            exact ⟨_, _, _, _, rfl, r1, r2, rfl⟩
          · have hl1 : a1 < len := by
              rcases Nat.lt_or_ge a1 len with q | q
              · exact q
              · rw [hfi a1 q] at hr
                exact absurd rfl hr
            rw [if_neg hr]
            obtain ⟨a2, s2, g2, e2, q1, q2⟩ := (hsum (a1 + 1) s1 g1 (flt z) hl1 r2).1 hne
            rw [e2, Option.bind_some, rc_2_o b _ ho]
            obtain ⟨s3, g3, e3, e4⟩ := st_emit' (b := b) (w0 := w0) (a := a2) (s := s2) (g := g2) (f := flt z) ho q2 (-(nI (sg (relK (ch a1)))))
            rw [e3, Option.bind_some]
            exact ⟨_, _, _, _, rfl, q1, e4, rfl⟩
        | inr z =>
          rw [hp] at p1 hfine
          obtain ⟨r1, r2, r3, r4, r5⟩ := p1
          obtain ⟨v1, v2, v3⟩ := hfine
          subst r3
          rw [cont a1 s1 g1 0 (by omega)]
          dsimp only
          rw [← r1]
          by_cases hr : relK (ch a1) = 0
          · rw [if_pos hr, if_pos hr, if_pos rfl]
            exact ⟨_, _, _, _, rfl, by omega, by omega, rfl⟩
          · have hl1 : a1 < len := by
              rcases Nat.lt_or_ge a1 len with q | q
              · exact q
              · rw [hfi a1 q] at hr
                exact absurd rfl hr
            obtain ⟨m1, m2⟩ := relK_in hr
            rw [if_neg hr, if_neg hr]
            obtain ⟨a2, s2, g2, f2, e2, p2⟩ := (hsum (a1 + 1) s1 g1 0 hl1 (by omega)).2 rfl (by omega)
            have hfine2 := pSum_fine hfi e hl1
            rw [e2, Option.bind_some, rc_2_o b _ ho]
            cases hp2 : pSum ch e (a1 + 1) with
            | inl y =>
              rw [hp2] at p2
              obtain ⟨u1, u2, rfl⟩ := p2
              obtain ⟨s3, g3, e3, e4⟩ := st_emit' (b := b) (w0 := w0) (a := a2) (s := s2) (g := g2) (f := flt y) ho u2 (-(nI (sg (relK (ch a1)))))
              rw [e3, Option.bind_some]
              exact ⟨_, _, _, _, rfl, u1, e4, rfl⟩
            | inr y =>
              rw [hp2] at p2 hfine2
              obtain ⟨u1, u2, u3, u4, u5⟩ := p2
              obtain ⟨y1, y2, y3⟩ := hfine2
              subst u3
              have hl2 : layd cC g2 s (z.2 ++ y.2) := by
                rw [layd_app]
                refine ⟨layd_cong z.2 s (fun i h3 h4 => u4 i (by omega)) r5, ?_⟩
                rw [← r2]
                exact u5
              obtain ⟨g3, e3, e4, e5⟩ := emit_op (b := b) (w0 := w0) (a := a2) (s := s2) (s0 := s) (g := g2) (g0 := g) ho (l := z.2 ++ y.2) (by rw [List.length_append]; omega) (by omega) (fun i hi => by rw [u4 i (by omega)]; exact r4 i hi) hl2 (k := relK (ch a1)) (by omega) (by omega)
              rw [e3, Option.bind_some]
              refine ⟨_, _, _, _, rfl, u1, ?_, rfl, e4, e5⟩
              show s2 + 1 = s + (z.2 ++ y.2 ++ [(relK (ch a1), 0)]).length
              rw [List.length_append, List.length_append]
              show s2 + 1 = s + (z.2.length + y.2.length + 1)
              omega
/-- tests, however deep -/
theorem tests_c (hT : TxC w0 o len ch) : ∀ (e d N : Nat), d + e = 6 → 2 * e + 2 ≤ N → SpC b w0 o len (FX2_readSome N) d (pSom ch e) := by
  have hfi := hT.2.2.2.2
  have key : ∀ (e d N : Nat), d + e = 6 → 2 * e + 1 ≤ N → SpC b w0 o len (FX2_readTest N) d (pTsts ch e) ∧ SpC b w0 o len (FX2_readSome (N + 1)) d (pSom ch e) := by
    intro e
    induction e with
    | zero =>
      intro d N hd hN
      obtain ⟨N, rfl⟩ : ∃ m, N = m + 1 := ⟨N - 1, by omega⟩
      have h1 : SpC b w0 o len (FX2_readTest (N + 1)) d (pTsts ch 0) := tst_c (rO := (FGSO N).1) (rT := (FGSO N).2) hT hd (inner := none) (fun _ => rfl) (fun q => absurd rfl q)
      exact ⟨h1, som_c (rO := (FGSO (N + 1)).1) (rT := (FGSO (N + 1)).2) hT h1 (fun a ha => pTsts_fine hfi 0 a ha)⟩
    | succ e ih =>
      intro d N hd hN
      obtain ⟨N, rfl⟩ : ∃ m, N = m + 2 := ⟨N - 2, by omega⟩
      obtain ⟨i1, i2⟩ := ih (d + 1) N (by omega) (by omega)
      obtain ⟨j1, _⟩ := ih (d + 1) (N + 1) (by omega) (by omega)
      have h1 : SpC b w0 o len (FX2_readTest (N + 1 + 1)) d (pTsts ch (e + 1)) := tst_c (rO := (FGSO (N + 1)).1) (rT := (FGSO (N + 1)).2) hT hd (inner := some (pTsts ch e, pSomB ch (pTsts ch e))) (fun q => by omega) (fun _ => ⟨_, rfl, j1, i2, fun a ha => ⟨pTsts_fine hfi e a ha, pSom_fine hfi e ha⟩⟩)
      exact ⟨h1, som_c (rO := (FGSO (N + 1 + 1)).1) (rT := (FGSO (N + 1 + 1)).2) hT h1 (fun a ha => pTsts_fine hfi (e + 1) a ha)⟩
  intro e d N hd hN
  obtain ⟨N, rfl⟩ : ∃ m, N = m + 1 := ⟨N - 1, by omega⟩
  exact (key e d N hd (by omega)).2
end
