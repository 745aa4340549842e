/-! isTrue -/
section
variable {b : Nat}
theorem it_lp {st n : Nat} (hst : st < 1024) (hn : n ≤ 100) : ∀ (l : List Nat) (S R : List Bool) (i : Nat) (W : WD), gonF st l S R → layF (W.2.1 97) i l → i + l.length = n → W.1 77 40 = nI n → S.length ≤ i → stkB (W.2.1 100) S → ∀ N, l.length < N → ∃ g, lp (itB (b + 77) (nI st)) N (nI S.length, nI i, mk b W) = some (mk b (uA W 100 g)) ∧ stkB g R
  | [], S, R, i, W, hg, hl, hin, h40, hS, hk, N, hN => by
    obtain ⟨M, rfl⟩ : ∃ M, N = M + 1 := ⟨N - 1, by have : 0 < N := hN; omega⟩
    have hg : S = R := hg
    have hin : i = n := by rw [← hin]; rfl
    subst hg
    subst hin
    refine ⟨W.2.1 100, ?_, hk⟩
    rw [uA_self]
    refine lp_out ?_
    unfold itB
    dsimp only
    rw [gI_12_77_40, Option.bind_some, h40, if_pos (Int32.le_refl _)]
  | c :: l, S, R, i, W, ⟨S', hst', hg⟩, ⟨hc, hl⟩, hin, h40, hS, hk, N, hN => by
    rw [List.length_cons] at hin hN
    obtain ⟨M, rfl⟩ : ∃ M, N = M + 1 := ⟨N - 1, by omega⟩
    have next : ∀ g, itB (b + 77) (nI st) (nI S.length, nI i, mk b W) = some (.inr (nI S'.length, nI (i + 1), mk b (uA W 100 g))) → S'.length ≤ i + 1 → stkB g S' → ∃ g, lp (itB (b + 77) (nI st)) (M + 1) (nI S.length, nI i, mk b W) = some (mk b (uA W 100 g)) ∧ stkB g R := by
      intro g e1 e2 e3
      rw [lp_one e1]
      obtain ⟨g', q1, q2⟩ := it_lp hst hn l S' R (i + 1) (uA W 100 g) hg hl (by omega) h40 e2 e3 M (by omega)
      rw [uA_uA] at q1
      exact ⟨g', q1, q2⟩
    have push : ∀ x, ((c < 10 ∧ x = st.testBit c) ∨ (c = 20 ∧ x = false) ∨ (c = 21 ∧ x = true)) → S' = x :: S → ∃ g, lp (itB (b + 77) (nI st)) (M + 1) (nI S.length, nI i, mk b W) = some (mk b (uA W 100 g)) ∧ stkB g R := by
      intro x hx e
      refine next (upd (W.2.1 100) S.length (if x then 1 else 0)) ?_ ?_ ?_
      · rw [e]
        exact it_push hst (by omega) hn h40 hc (by omega) hx
      · rw [e, List.length_cons]
        omega
      · rw [e]
        exact stkB_push hk x
    rcases hst' with ⟨h1, h2⟩ | ⟨h1, h2⟩ | ⟨h1, h2⟩ | ⟨x, y, S0, h1, h2⟩ | ⟨x, S0, h1, h2, h3⟩ | ⟨t, k, xs, S0, h1, h2, h3, h4, h5, h6⟩
    · exact push _ (Or.inl ⟨h1, rfl⟩) h2
    · exact push _ (Or.inr (Or.inl ⟨h1, rfl⟩)) h2
    · exact push _ (Or.inr (Or.inr ⟨h1, rfl⟩)) h2
    · subst h1
      rw [List.length_cons, List.length_cons] at hS
      have hb : (c = 30 ∨ c = 31 ∨ c = 32) ∧ S' = bop c x y :: S0 := by
        rcases h2 with ⟨rfl, e⟩ | ⟨rfl, e⟩ | ⟨rfl, e⟩
        · exact ⟨Or.inl rfl, e⟩
        · exact ⟨Or.inr (Or.inl rfl), e⟩
        · exact ⟨Or.inr (Or.inr rfl), e⟩
      have e1 := it_bin (b := b) (st := st) hb.1 (show i < n by omega) hn h40 hc (by omega) hk
      refine next (upd (W.2.1 100) S0.length (if bop c x y then 1 else 0)) ?_ ?_ ?_
      · rw [hb.2]
        exact e1
      · rw [hb.2, List.length_cons]
        omega
      · rw [hb.2]
        exact stkB_push hk.2.2 _
    · subst h1
      subst h2
      rw [List.length_cons] at hS
      have e1 := it_not (b := b) (st := st) (show i < n by omega) hn h40 hc (by omega) hk
      refine next (upd (W.2.1 100) S0.length (if !x then 1 else 0)) ?_ ?_ ?_
      · rw [h3]
        exact e1
      · rw [h3, List.length_cons]
        omega
      · rw [h3]
        exact stkB_push hk.2 _
    · subst h5
      have hla : (xs ++ S0).length = xs.length + S0.length := List.length_append
      rw [h3] at hc
      have e1 := it_many (b := b) (st := st) (show i < n by omega) hn h40 h1 h2 hc h4 (by omega) (by omega) hk
      refine next (upd (W.2.1 100) S0.length (if decide (k ≤ cT xs) then 1 else 0)) ?_ ?_ ?_
      · rw [h6]
        exact e1
      · rw [h6, List.length_cons]
        omega
      · rw [h6]
        exact stkB_push (stkB_drop xs S0 hk) _
theorem isTrue_mk {st : Nat} (hst : st < 1024) {W : WD} {x : FV} (hn : x.2.length ≤ 100) (h40 : W.1 77 40 = nI x.2.length) (hl : layF (W.2.1 97) 0 x.2) (hg : gonF st x.2 [] [x.1 st]) : ∃ g, FX12_isTrue (mk b W) (b + 77) (nI st) = some ((if x.1 st then 1 else 0), mk b (uA W 100 g)) := by
  obtain ⟨g, q1, q2⟩ := it_lp (b := b) hst hn x.2 [] _ 0 W hg hl (Nat.zero_add _) h40 (Nat.le_refl 0) trivial FU (Nat.lt_of_le_of_lt hn (by decide))
  refine ⟨g, ?_⟩
  unfold FX12_isTrue
  refine bS q1 ?_
  have q3 : (uA W 100 g).2.1 100 0 = (if x.1 st then 1 else 0) := by rw [uA_at]; exact q2.1
  rw [gR_12_77_44, Option.bind_some]
  refine bS (rdN_mk (t := 2) (j := 100) (n := 100) (i := 0) (by decide +kernel) (by decide) b _ (by decide)) ?_
  rw [q3]
  cases x.1 st
  · exact bz_0 _
  · exact bz_1 _
end
