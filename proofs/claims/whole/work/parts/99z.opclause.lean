/-! clause is answered alike -/
section
variable {b : Nat} {w : WD}
theorem fwI_68 : ∀ k, k < 6 → (k = 4 ∨ fwI 68 k = true) ∧ (k = 4 ∨ fwI 77 (7 + k) = true) := by decide
theorem op_clause (h : Rel RLaw w) (x y : Int32) : OP RLaw b w (fun hp => FX11_clause hp (b + 0) x y) (fun hp => FX12_clause hp (b + 77) x y) := by
  by_cases e : (∃ k, k < 8 ∧ x = nI k) ∧ ∃ n T, 1 ≤ n ∧ n ≤ 100 ∧ n ≤ T ∧ T < 261 ∧ y = nI n ∧ w.1 77 14 = nI T
  · obtain ⟨⟨k, hk, rfl⟩, n, T, h1, hn, z, hT, rfl, eT⟩ := e
    obtain ⟨ch, hX, hX2⟩ := txt_of h hT z
    have hle : nI n ≤ nI T := nI_le z (by omega)
    obtain ⟨a, W, c1, c2, c3⟩ := tell_c (b := b) (w := w) (o := 15) (Or.inr rfl) hk h1 hn hX2 (by rw [h.tape.1, eT]; exact hle)
    obtain ⟨g, q1, q2⟩ := gather_mk (b := b) W
    have startC : ∀ r, (if a < 0 then some (a, mk b W) else some (a, mk b (uL W 30 g))) = r → FX11_clause (mk b w) (b + 0) (nI k) (nI n) = r := by
      intro r hr
      unfold FX11_clause
      rw [gR_11_0_3, Option.bind_some, rc_11_0, c1, Option.bind_some]
      dsimp only
      rw [rc_11_0, q1, Option.bind_some]
      exact hr
    cases hp : pTop ch with
    | inl q =>
      rw [hp] at c3
      obtain ⟨ea, eo, ed⟩ : a = flt q ∧ W.1 15 1 = w.1 15 1 ∧ W.2.2.1 (15 + 1 + 1 + k) = w.2.2.1 (15 + 1 + 1 + k) := c3
      obtain ⟨a', V, m1, m2, m4, m3⟩ := ref_m (b := b) (W := W) (n := n) (ch := ch) hn (by rw [c2.2.2.1]; exact hX)
      rw [hp] at m3
      obtain ⟨ea', lt⟩ : a' = flt q ∧ flt q < 0 := m3
      refine OPi (r := flt q) (w1 := W) (w2 := V) (startC _ (by rw [ea, if_pos lt])) ?_ (Rel_fault h (sP_trans (sP_frTl c2 (fun k => rfl) rfl (Or.inr eo) rfl (Or.inr ed)) (sP_trans (sP_trans (sP_uI W _ rfl) (sP_uI _ _ rfl)) (sP_frY m2 (by decide) (by decide)))) ?_ m4)
      · unfold FX12_clause
        have e14 : W.1 77 14 = nI T := (c2.1 77 14 (by decide) (by decide) (by decide)).trans eT
        rw [in_y (n := 7) hk, Option.bind_some, if_neg n10, in_yes (a := 1) (c := 100) h1 hn, Option.bind_some, if_neg n10, gI_12_77_14, Option.bind_some, e14, if_pos hle, rc_12_77, m1, Option.bind_some]
        dsimp only
        rw [ea', if_neg (ne_of_neg lt)]
      · rw [m2.1 1 1 rfl]
        exact c2.2.1
    | inr q =>
      rw [hp] at c3
      obtain ⟨ea, eo, ed⟩ : a = nI (fb_ct q.1 1024) ∧ W.1 15 1 = (w.1 15 1 ||| nI (2 ^ k)) ∧ ∀ s, s < 1024 → tb (W.2.2.1 (15 + 1 + 1 + k)) s = q.1 s := c3
      obtain ⟨W1, hW1⟩ : ∃ W1, W1 = uL W 30 g := ⟨_, rfl⟩
      have i1 : ∀ j i, W1.1 j i = W.1 j i := fun j i => by rw [hW1]; rfl
      have i2 : W1.2.1 = W.2.1 := by rw [hW1]; rfl
      have i3 : W1.2.2.1 30 = g := by rw [hW1]; exact uL_at _ _ _
      have i4 : ∀ j, j ≠ 30 → W1.2.2.1 j = W.2.2.1 j := fun j hj => by rw [hW1]; exact uL_ne _ _ hj
      have s1 : simP fwI fwA fwL w W1 := by
        rw [hW1]
        exact sP_trans (sP_frTl c2 (fun k => rfl) rfl (Or.inl rfl) rfl (Or.inl ((by decide : ∀ k, k < 8 → fwL (15 + 1 + 1 + k) = false) k hk))) (sP_uL _ _ rfl)
      obtain ⟨a', V, m1, m2, m4, m3⟩ := ref_m (b := b) (W := W1) (n := n) (ch := ch) hn (by rw [i2, c2.2.2.1]; exact hX)
      rw [hp] at m3
      obtain ⟨ea', m40, ml, mn, mg⟩ : a' = 0 ∧ V.1 77 40 = nI q.2.length ∧ layF (V.2.1 97) 0 q.2 ∧ q.2.length ≤ 100 ∧ ∀ st, gonF st q.2 [] [q.1 st] := m3
      have v6 : V.1 77 6 = w.1 77 6 := (m2.1 77 6 rfl).trans ((i1 77 6).trans (c2.1 77 6 (by decide) (by decide) (by decide)))
      obtain ⟨V1, hV1⟩ : ∃ V1, V1 = uI V 77 6 (w.1 77 6 ||| nI (2 ^ k)) := ⟨_, rfl⟩
      have s2 : simP fwI fwA fwL w V1 := by
        rw [hV1]
        exact sP_trans s1 (sP_trans (sP_trans (sP_trans (sP_uI W1 _ rfl) (sP_uI _ _ rfl)) (sP_frY m2 (by decide) (by decide))) (sP_uI _ _ rfl))
      obtain ⟨U0, l1, l2, l3, l4, l5, l6⟩ := laysRow_mk (b := b) (o := 80) (Or.inr rfl) hk (W := V1) (x := q) mn (by rw [hV1]; exact m40) (by rw [hV1]; exact ml) mg
      have s3 : simP fwI fwA fwL w U0 := sP_trans s2 ⟨fun j i _ => by rw [l2], fun j ej => l4 j (fun z => by rw [z] at ej; cases ej) (fun z => by rw [z] at ej; cases ej), fun j _ => by rw [l3], by rw [l3]⟩
      have uL0 : ∀ j, U0.2.2.1 j = W1.2.2.1 j := fun j => by
        rw [l3, hV1]
        show V.2.2.1 j = _
        rw [m2.2.2]
        rfl
      have v80 : ∀ j, yPA j = true → V1.2.1 j = w.2.1 j := fun j ej => by
        rw [hV1]
        show V.2.1 j = _
        rw [m2.2.1 j ej]
        show W1.2.1 j = _
        rw [i2, c2.2.2.1]
      have uA0 : ∀ j, yPA j = true → j ≠ 80 → U0.2.1 j = w.2.1 j := fun j ej hj => by
        rw [l4 j (fun z => by rw [z] at ej; cases ej) hj]
        exact v80 j ej
      have uI0 : ∀ j i, yPI j i = true → ¬ (j = 77 ∧ (i = 6 ∨ i = 14 ∨ i = 16)) → U0.1 j i = W1.1 j i := fun j i ey hj => by
        rw [l2, hV1, uI_ne _ _ (by omega), m2.1 j i ey, uI_ne _ _ (by omega), uI_ne _ _ (by omega)]
      obtain ⟨b1, b2, b3, b4, b5, b6, b7, b8, b9⟩ := h.tab
      have u80 : V1.2.1 80 = w.2.1 80 := v80 80 rfl
      have hb80 : bo (U0.2.1 80) 8192 := bo_row (by rw [u80]; exact b2) l5 l6
      have n6 : U0.1 77 6 = (w.1 77 6 ||| nI (2 ^ k)) := by rw [l2, hV1]; rfl
      have g15 : w.1 15 1 = w.1 77 6 := h.int.2.2.1
      have eo' : W.1 15 1 = U0.1 77 6 := by rw [eo, n6, g15]
      have hC : ∀ k', k' < 8 → ∀ s, s < 1024 → tb (W.2.2.1 (17 + k')) s = WC U0 k' s := fun k' hk' s hs => by
        by_cases c : k' = k
        · subst c
          have e1 : 17 + k' = 15 + 1 + 1 + k' := rfl
          rw [e1, ed s hs]
          unfold WC
          rw [l5 s hs, dec_b]
        · rw [c2.2.2.2.1 _ (by omega) (by omega), b6 k' hk' s hs]
          unfold WC
          rw [l6 _ (div_row hs c), u80]
      have fits := laysFits_mk (b := b) (w := U0) hb80
      obtain ⟨U, hU⟩ : ∃ U, U = uA U0 81 (fa_fill (fun s => if al (fun k => !bt (U0.1 77 6) k || WC U0 k s) 8 then 1 else 0) (U0.2.1 81) 1024) := ⟨_, rfl⟩
      rw [← hU] at fits
      have s4 : simP fwI fwA fwL w U := by
        rw [hU]
        exact sP_trans s3 (sP_uA _ _ rfl)
      have uI1 : U.1 = U0.1 := by rw [hU]; rfl
      have uL1 : U.2.2 = U0.2.2 := by rw [hU]; rfl
      have uA1 : ∀ j, j ≠ 81 → U.2.1 j = U0.2.1 j := fun j hj => by rw [hU]; exact uA_ne _ _ hj
      have hF : ∀ s, s < 1024 → WF U s = al (fun k => !bt (U0.1 77 6) k || WC U0 k s) 8 := fun s hs => by
        unfold WF
        rw [hU, uA_at, fill_b hs, dec_b]
      refine OPi (r := nI (fb_ct q.1 1024)) (w1 := W1) (w2 := U) (startC _ ?_) ?_ (Rel_form h s4 ?_ ?_ ?_ ?_ ?_)
      · rw [ea, if_neg (ct_pos _), ← hW1]
      · unfold FX12_clause
        have e14 : W1.1 77 14 = nI T := (i1 77 14).trans ((c2.1 77 14 (by decide) (by decide) (by decide)).trans eT)
        rw [in_y (n := 7) hk, Option.bind_some, if_neg n10, in_yes (a := 1) (c := 100) h1 hn, Option.bind_some, if_neg n10, gI_12_77_14, Option.bind_some, e14, if_pos hle, rc_12_77, m1, Option.bind_some]
        dsimp only
        rw [if_pos ea', gI_12_77_6, Option.bind_some, sI_12_77_6, Option.bind_some, v6, bit8 hk, ← hV1, gR_12_77_2, Option.bind_some, rc_12_77, l1, Option.bind_some]
        dsimp only
        rw [rc_12_77, fits, Option.bind_some]
      · have e79 : U.2.1 79 = w.2.1 79 := (uA1 79 (by decide)).trans (uA0 79 rfl (by decide))
        have e80 : U.2.1 80 = U0.2.1 80 := uA1 80 (by decide)
        have e82 : U.2.1 82 = w.2.1 82 := (uA1 82 (by decide)).trans (uA0 82 rfl (by decide))
        have eT' : ∀ k s, WT U k s = WT w k s := fun k s => by unfold WT; rw [e79]
        have eC : ∀ k s, WC U k s = WC U0 k s := fun k s => by unfold WC; rw [e80]
        have eO : ∀ s, WO U s = WO w s := fun s => by unfold WO; rw [e82]
        refine ⟨by rw [e79]; exact b1, by rw [e80]; exact hb80, ?_, by rw [e82]; exact b4, fun k' hk' s hs => ?_, fun k' hk' s hs => ?_, fun s hs => ?_, fun s hs => ?_, fun s hs => ?_⟩
        · rw [hU, uA_at]
          exact bo_fill
        · rw [uL1, uL0, i4 _ (by omega), c2.2.2.2.1 _ (by omega) (by omega), b5 k' hk' s hs, eT']
        · rw [uL1, uL0, i4 _ (by omega), eC]
          exact hC k' hk' s hs
        · rw [uL1, uL0, i3, hF s hs, q2 s hs]
          exact al_cong (fun k' hk' => by rw [eo', hC k' hk' s hs])
        · rw [uL1, uL0, i4 _ (by decide), c2.2.2.2.1 _ (by omega) (by omega), b8 s hs, eO]
        · rw [hF s hs, uI1]
          exact al_cong (fun k' hk' => by rw [eC])
      · refine R_st_of h.now (fun i hi => ?_) (fun i hi => ?_)
        · rcases (fwI_68 i hi).1 with c | c
          · rw [c, uI1, uI0 68 4 rfl (by decide), i1]
            exact c2.1 68 4 (by decide) (by decide) (by decide)
          · exact s4.1 68 i c
        · rcases (fwI_68 i hi).2 with c | c
          · rw [c, uI1, uI0 77 (7 + 4) rfl (by decide), i1]
            exact c2.1 77 (7 + 4) (by decide) (by decide) (by decide)
          · exact s4.1 77 _ c
      · obtain ⟨g1, g2, g3, g4, g5, g6⟩ := h.int
        have e5 : U.1 5 1 = w.1 5 1 := by
          rw [uI1, uI0 5 1 rfl (by decide), i1]
          exact c2.1 5 1 (by decide) (by decide) (by decide)
        have e75 : U.1 77 5 = w.1 77 5 := by
          rw [uI1, uI0 77 5 rfl (by decide), i1]
          exact c2.1 77 5 (by decide) (by decide) (by decide)
        have e15 : U.1 15 1 = U.1 77 6 := by
          rw [uI1, uI0 15 1 rfl (by decide), i1]
          exact eo'
        refine ⟨by rw [e5, e75]; exact g1, by rw [e75]; exact g2, e15, by rw [uI1, n6]; exact or8 g4 hk, by rw [s4.1 0 14 rfl, s4.1 77 65 rfl]; exact g5, by rw [s4.1 77 65 rfl]; exact g6⟩
      · rw [uI1, uI0 1 1 rfl (by decide), i1]
        exact c2.2.1
      · rw [uI1, l2, hV1]
        exact m4
  · obtain ⟨n1, n2⟩ := tell_no (b := b) h (b + 15) x y e
    refine OPi (r := -1) (w1 := w) (w2 := w) ?_ (n2 _) h
    unfold FX11_clause
    rw [gR_11_0_3, Option.bind_some, rc_11_0, n1, Option.bind_some]
    dsimp only
    rw [if_pos (show (-1 : Int32) < 0 by decide)]
end
