/-! the reference reads a whole formula -/
theorem dep_c {x : Nat × Nat} (h : 33 ≤ x.1) (s : List (Nat × Nat)) : dep (x :: s) = dep s + 1 := by
  show (if isB x.1 then 0 else 1) + dep s = _
  have : isB x.1 = false := by
    unfold isB
    rw [decide_eq_false (show ¬ x.1 ≤ 32 by omega), Bool.and_false]
  rw [this]
  show 1 + dep s = _
  omega
def PieZ (b : Nat) (w0 : WD) (len : Nat) (L : List Nat) (s : List (Nat × Nat)) (W : WD) (r : FR) : Prop := match r with
  | .inl z => FailR b w0 W z
  | .inr z => ∃ W', Reach b W W' ∧ FS w0 W' len z.1 0 (dep (epop (L ++ z.2.2) s).2) (epop (L ++ z.2.2) s).1 (epop (L ++ z.2.2) s).2
theorem PieZ_reach {b : Nat} {w0 : WD} {len : Nat} {L : List Nat} {s : List (Nat × Nat)} {W W' : WD} {r : FR} (h : Reach b W W') (g : PieZ b w0 len L s W' r) : PieZ b w0 len L s W r := by
  revert g
  cases r with
  | inl z => exact fun g => Reach_fail h g
  | inr z =>
    rintro ⟨W2, q1, q2⟩
    exact ⟨W2, Reach_trans h q1, q2⟩
section
variable {b : Nat} {w0 : WD} {len : Nat} {ch : Nat → Nat}
theorem aft_bad (hX : TX (w0.2.1 83) len ch) (hl : len ≤ 100) {W : WD} {a d : Nat} {L X : List Nat} {s s2 : List (Nat × Nat)} {x : Nat × Nat} (h : FS w0 W len a 0 d L s) (ha : a ≤ len) (hLs : L.length + s.length ≤ a) (hs : sgn s) (e : lpop 32 L s = (X, x :: s2)) (h41 : ch a ≠ 41) (h44 : ch a = 44 → x.1 < 100) (h38 : ch a ≠ 38) (h94 : ch a ≠ 94) (h124 : ch a ≠ 124) : FailR b w0 W (1, a) := by
  rcases Nat.lt_or_ge a len with q | q
  · by_cases c : ch a = 44
    · obtain ⟨W', r1, r2, r3⟩ := sgn_comma0 (b := b) hX hl h q hLs hs c (fun y t ey => by
        rw [e] at ey
        cases ey
        exact h44 c)
      exact fail_of h (by omega) (frB_sign h q hl r1) r2 r3
    · have r1 := sgn_bad (b := b) hX hl h q h41 c h38 h94 h124
      exact fail_of h (by omega) (frB_sign h q hl r1) rfl (FS_17 h _).1
  · have : a = len := by omega
    subst this
    exact end_bad h hl (by omega) hs (by rw [e, List.length_cons]; omega)
theorem manL_m (hX : TX (w0.2.1 83) len ch) (hl : len ≤ 100) {e : Nat} (hF : ForM b w0 len ch e) {L : List Nat} {s : List (Nat × Nat)} {k : Nat} (hk : k < 10) (hs : sgn s) (hd : dep s + 1 + e = 6) : ∀ (n a m : Nat) (c : Nat → Nat) (l : List Nat) (W : WD), FS w0 W len a 1 (dep s + 1) (L ++ l) ((100 + k, m + 1) :: s) → a ≤ len → (L ++ l).length + (s.length + 1) ≤ a → m + n = 10 → m ≤ 9 → PieZ b w0 len L s W (pManL ch (pFor ch e) k n a m c l)
  | 0, a, m, c, l, W, h, ha, hLs, hm, hm2 => by omega
  | n + 1, a, m, c, l, W, h, ha, hLs, hm, hm2 => by
    have hdx : ∀ t, dep ((100 + k, t) :: s) = dep s + 1 := fun t => dep_c (x := (100 + k, t)) (by show 33 ≤ 100 + k; omega) s
    have hsx : ∀ t, sgn ((100 + k, t) :: s) := fun t => ⟨by show 100 + k < 200; omega, hs⟩
    have f := hF W a (L ++ l) ((100 + k, m + 1) :: s) (by rw [hdx]; exact h) ha (by rw [List.length_cons]; exact hLs) (hsx _) (Or.inr (by show m + 1 ≤ 10; omega)) (by show m + 1 ≤ 11; omega) (by show 90 ≤ 100 + k; omega) (by rw [hdx]; exact hd)
    have hfi := pFor_fine hX.2 e ha
    unfold pManL
    revert f hfi
    cases pFor ch e a with
    | inl z => exact fun g _ => g
    | inr z =>
      rintro ⟨W1, L', s', r1, r2, r3, r4, r5, r6, r7, r8, r9⟩ ⟨g1, g2, g3⟩
      dsimp only
      have hln := lpop_len 32 s' L'
      rw [r3] at hln
      rw [hdx] at r2
      have hz : ∀ x s2, (lpop 32 L' s').2 = x :: s2 → x = (100 + k, m + 1) ∧ s2 = s := fun x s2 q => by
        rw [r3] at q
        cases q
        exact ⟨rfl, rfl⟩
      have e1 : (lpop 32 L' s').1 = L ++ l ++ z.2.2 := by rw [r3]
      have e2 : (lpop 32 L' s').2 = (100 + k, m + 1) :: s := by rw [r3]
      have hln : (L ++ l ++ z.2.2).length + (s.length + 1) = L'.length + s'.length := hln
      by_cases c1 : ch z.1 = 44
      · rw [if_pos c1]
        have hal : z.1 < len := at_in hX.2 c1 (by decide)
        obtain ⟨W2, q1, q2⟩ := sgn_comma (b := b) hX hl r2 hal r4 r5 c1 e2 (by show 100 ≤ 100 + k; omega)
        have rr := Reach_trans r1 (reach_of r2 q2 (by omega) (by omega) (frB_sign r2 hal hl q1))
        rw [e1] at q2
        have q2 : FS w0 W2 len (z.1 + 1) 1 (dep s + 1) (L ++ l ++ z.2.2) ((100 + k, m + 1 + 1) :: s) := q2
        by_cases c2 : m = 9
        · rw [if_pos c2]
          have bad : ∀ p, p = (if cB (ch (z.1 + 1)) then 4 else 1) → FailR b w0 W2 (p, z.1 + 1) := by
            intro p hp
            rcases Nat.lt_or_ge (z.1 + 1) len with y | y
            · obtain ⟨r, W3, p1, p2⟩ := sf_piece (b := b) (a := z.1 + 1) (s := (100 + k, m + 1 + 1) :: s) hX hl (by rw [hdx]; exact q2) y (by rw [List.length_cons]; omega) (hsx _) (by show m + 1 + 1 ≤ 11; omega) (by rw [hdx]; omega)
              unfold pieR at p2
              cases hcb : cB (ch (z.1 + 1)) with
              | false =>
                rw [hcb, if_neg (by decide)] at p2 hp
                obtain ⟨p3, p4, p5⟩ := p2
                subst p3
                subst hp
                exact fail_of q2 (by omega) (frB_piece q2 y hl p1) p4 p5
              | true =>
                rw [hcb, if_pos rfl] at p2 hp
                rcases p2 with ⟨_, p3, p4, p5⟩ | ⟨p3, _⟩
                · subst p3
                  subst hp
                  exact fail_of q2 (by omega) (frB_piece q2 y hl p1) p4 p5
                · exfalso
                  rcases p3 with p3 | p3
                  · have p3 : 100 + k < 100 := p3
                    omega
                  · have p3 : m + 1 + 1 ≤ 10 := p3
                    omega
            · have y : z.1 + 1 = len := by omega
              have : cB (ch (z.1 + 1)) = false := by rw [hX.2 (z.1 + 1) (by omega)]; rfl
              rw [this, if_neg (by decide)] at hp
              subst hp
              rw [y] at q2 ⊢
              exact end_1 q2 hl
          cases hcb : cB (ch (z.1 + 1)) with
          | false =>
            rw [if_neg (by decide)]
            exact Reach_fail rr (bad 1 (by rw [hcb]; rfl))
          | true =>
            rw [if_pos rfl]
            exact Reach_fail rr (bad 4 (by rw [hcb]; rfl))
        · rw [if_neg c2]
          refine PieZ_reach rr ?_
          refine manL_m hX hl hF hk hs hd n (z.1 + 1) (m + 1) _ (l ++ z.2.2) W2 ?_ hal ?_ (by omega) (by omega)
          · rw [← List.append_assoc]
            exact q2
          · rw [← List.append_assoc]
            omega
      · rw [if_neg c1]
        by_cases c2 : ch z.1 = 41
        · rw [if_pos c2]
          have hal : z.1 < len := at_in hX.2 c2 (by decide)
          have hds : dep s' = dep s + 1 := by rw [← lpop_dep (p := 32) (by decide) s' L', e2, hdx]
          obtain ⟨W2, q1, q2⟩ := sgn_close (b := b) hX hl (by rw [hds]; exact r2) hal r4 r5 c2 e2 (by show 90 ≤ 100 + k; omega) (by show m + 1 ≤ 11; omega)
          rw [if_neg (show ¬ (100 + k, m + 1).1 < 100 by show ¬ 100 + k < 100; omega), e1] at q2
          refine ⟨W2, Reach_trans r1 (reach_of r2 q2 (by omega) (by omega) (frB_sign r2 hal hl q1)), ?_⟩
          have ec : L ++ (l ++ z.2.2 ++ [100 * (m + 1) + 100 + k]) = L ++ l ++ z.2.2 ++ [100 * (100 + k, m + 1).2 + (100 + k, m + 1).1] := by
            show _ = L ++ l ++ z.2.2 ++ [100 * (m + 1) + (100 + k)]
            rw [Nat.add_assoc (100 * (m + 1)), List.append_assoc L, List.append_assoc L]
          show FS w0 W2 len (z.1 + 1) 0 (dep (epop (L ++ (l ++ z.2.2 ++ [100 * (m + 1) + 100 + k])) s).2) (epop (L ++ (l ++ z.2.2 ++ [100 * (m + 1) + 100 + k])) s).1 (epop (L ++ (l ++ z.2.2 ++ [100 * (m + 1) + 100 + k])) s).2
          rw [ec]
          exact q2
        · rw [if_neg c2]
          exact Reach_fail r1 (aft_bad hX hl r2 r6 r4 r5 r3 c2 (fun y => absurd y c1) r7 r8 r9)
theorem pie_m (hX : TX (w0.2.1 83) len ch) (hl : len ≤ 100) : ∀ e, PieM b w0 len ch e := by
  -- one step: the first byte
  have one : ∀ (e : Nat) (inner : Option ((Nat → FR) × (Nat → FR))), (e = 0 → inner = none) → (∀ e', e = e' + 1 → inner = some (pPies ch e', pForB ch (pPies ch e')) ∧ PieM b w0 len ch e') → ∀ (W : WD) (a : Nat) (L : List Nat) (s : List (Nat × Nat)), FS w0 W len a 1 (dep s) L s → a ≤ len → L.length + s.length ≤ a → sgn s → tok s → tok2 s → dep s + e = 6 → PieZ b w0 len L s W (pPieB ch inner a) := by
    intro e inner hi0 hi1 W a L s h ha hLs hs ht ht2 hd
    rcases Nat.lt_or_ge a len with hal | hal
    · obtain ⟨r, W', p1, p2⟩ := sf_piece (b := b) hX hl h hal hLs hs ht2 (by omega)
      have bd := frB_piece (b := b) h hal hl p1
      unfold pieR at p2
      unfold pPieB
      cases hcb : cB (ch a) with
      | false =>
        rw [hcb, if_neg (by decide)] at p2
        rw [if_neg (by decide)]
        obtain ⟨p3, p4, p5⟩ := p2
        subst p3
        exact fail_of h (by omega) bd p4 p5
      | true =>
        rw [hcb, if_pos rfl] at p2
        rw [if_pos rfl]
        rcases p2 with ⟨p3, _⟩ | ⟨_, p2⟩
        · exact absurd ht p3
        · by_cases c1 : 97 ≤ ch a
          · rw [if_pos c1] at p2 ⊢
            obtain ⟨p3, p4⟩ := p2
            subst p3
            exact ⟨W', reach_of h p4 (by omega) (by omega) bd, p4⟩
          · rw [if_neg c1] at p2 ⊢
            by_cases c2 : ch a = 48
            · rw [if_pos c2] at p2 ⊢
              obtain ⟨p3, p4⟩ := p2
              subst p3
              exact ⟨W', reach_of h p4 (by omega) (by omega) bd, p4⟩
            · rw [if_neg c2] at p2 ⊢
              by_cases c3 : ch a = 49
              · rw [if_pos c3] at p2 ⊢
                obtain ⟨p3, p4⟩ := p2
                subst p3
                exact ⟨W', reach_of h p4 (by omega) (by omega) bd, p4⟩
              · rw [if_neg c3] at p2 ⊢
                cases e with
                | zero =>
                  rw [if_pos (by omega)] at p2
                  rw [hi0 rfl]
                  obtain ⟨p3, p4, p5⟩ := p2
                  subst p3
                  exact fail_of h (by omega) bd p4 p5
                | succ e =>
                  rw [if_neg (by omega)] at p2
                  obtain ⟨hin, hP⟩ := hi1 e rfl
                  have hF := for_m hX hl hP
                  rw [hin]
                  dsimp only
                  by_cases c4 : ch a = 33
                  · rw [if_pos c4] at p2 ⊢
                    obtain ⟨p3, p4⟩ := p2
                    subst p3
                    have hdx : dep ((33, 1) :: s) = dep s + 1 := dep_c (x := (33, 1)) (by decide) s
                    have g := hP W' (a + 1) L ((33, 1) :: s) (by rw [hdx]; exact p4) hal (by rw [List.length_cons]; omega) ⟨by decide, hs⟩ (Or.inl (by decide)) (by show 1 ≤ 11; decide) (by rw [hdx]; omega)
                    refine PieZ_reach (reach_of h p4 (by omega) (by omega) bd) ?_
                    revert g
                    cases pPies ch e (a + 1) with
                    | inl z => exact fun g => g
                    | inr z =>
                      rintro ⟨W2, q1, q2⟩
                      refine ⟨W2, q1, ?_⟩
                      have ee : epop (L ++ z.2.2) ((33, 1) :: s) = epop (L ++ (z.2.2 ++ [33])) s := by
                        show (if 33 = 33 then epop (L ++ z.2.2 ++ [33]) s else _) = _
                        rw [if_pos rfl, List.append_assoc]
                      rw [ee] at q2
                      exact q2
                  · rw [if_neg c4] at p2 ⊢
                    by_cases c5 : ch a = 40
                    · rw [if_pos c5] at p2 ⊢
                      obtain ⟨p3, p4⟩ := p2
                      subst p3
                      have hdx : dep ((90, 1) :: s) = dep s + 1 := dep_c (x := (90, 1)) (by decide) s
                      have g := hF W' (a + 1) L ((90, 1) :: s) (by rw [hdx]; exact p4) hal (by rw [List.length_cons]; omega) ⟨by decide, hs⟩ (Or.inl (by decide)) (by show 1 ≤ 11; decide) (by show 90 ≤ 90; decide) (by rw [hdx]; omega)
                      refine PieZ_reach (reach_of h p4 (by omega) (by omega) bd) ?_
                      revert g
                      show ForZ b w0 len ch L ((90, 1) :: s) W' (pForB ch (pPies ch e) (a + 1)) → _
                      cases pForB ch (pPies ch e) (a + 1) with
                      | inl z => exact fun g => g
                      | inr z =>
                        rintro ⟨W1, L', s', r1, r2, r3, r4, r5, r6, r7, r8, r9⟩
                        dsimp only
                        have e1 : (lpop 32 L' s').1 = L ++ z.2.2 := by rw [r3]
                        have e2 : (lpop 32 L' s').2 = (90, 1) :: s := by rw [r3]
                        by_cases c6 : ch z.1 = 41
                        · rw [if_pos c6]
                          have hzl : z.1 < len := at_in hX.2 c6 (by decide)
                          have hds : dep s' = dep ((90, 1) :: s) := by rw [← lpop_dep (p := 32) (by decide) s' L', e2]
                          obtain ⟨W2, q1, q2⟩ := sgn_close (b := b) hX hl (by rw [hds]; exact r2) hzl r4 r5 c6 e2 (by decide) (by decide)
                          rw [if_pos (by decide), e1] at q2
                          exact ⟨W2, Reach_trans r1 (reach_of r2 q2 (by omega) (by omega) (frB_sign r2 hzl hl q1)), q2⟩
                        · rw [if_neg c6]
                          exact Reach_fail r1 (aft_bad hX hl r2 r6 r4 r5 r3 c6 (fun _ => by decide) r7 r8 r9)
                    · rw [if_neg c5] at p2 ⊢
                      by_cases c6 : ch (a + 1) = 40
                      · rw [if_pos c6] at p2 ⊢
                        obtain ⟨p3, p4⟩ := p2
                        subst p3
                        have h2l : a + 1 < len := at_in hX.2 c6 (by decide)
                        have hcc := cB_is hcb
                        refine PieZ_reach (reach_of h p4 (by omega) (by omega) bd) ?_
                        exact manL_m hX hl hF (k := ch a - 48) (by omega) hs (by omega) 10 (a + 2) 0 _ [] W' (by rw [List.append_nil]; exact p4) h2l (by rw [List.append_nil]; omega) rfl (by decide)
                      · rw [if_neg c6] at p2 ⊢
                        obtain ⟨p3, p4, p5⟩ := p2
                        subst p3
                        exact fail_of h (by omega) bd p4 p5
    · have e1 : a = len := by omega
      subst e1
      have : pPieB ch inner a = .inl (1, a) := by
        unfold pPieB
        rw [hX.2 a (Nat.le_refl a)]
        rfl
      rw [this]
      exact end_1 h hl
  intro e
  induction e with
  | zero => exact one 0 none (fun _ => rfl) (fun e' q => by cases q)
  | succ e ih => exact one (e + 1) (some (pPies ch e, pForB ch (pPies ch e))) (fun q => by cases q) (fun e' q => by cases q; exact ⟨rfl, ih⟩)
end
