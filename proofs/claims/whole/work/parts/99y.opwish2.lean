/-! wish and clause: the two calls -/
section
variable {b : Nat} {w : WD}
theorem div_row {k k' s : Nat} (hs : s < 1024) (h : k' ≠ k) : 1024 * k' + s < 1024 * k ∨ 1024 * k + 1024 ≤ 1024 * k' + s := by omega
theorem bo_row {f g : Nat → Int32} {k : Nat} {p : Nat → Bool} (h : bo f 8192) (h1 : ∀ s, s < 1024 → g (1024 * k + s) = if p s = true then 1 else 0) (h2 : ∀ i, (i < 1024 * k ∨ 1024 * k + 1024 ≤ i) → g i = f i) : bo g 8192 := fun i hi => by
  by_cases c : i < 1024 * k ∨ 1024 * k + 1024 ≤ i
  · rw [h2 i c]
    exact h i hi
  · have e : i = 1024 * k + (i - 1024 * k) := by omega
    rw [e, h1 _ (by omega)]
    exact row01 _
theorem or8 {x : Int32} {k : Nat} (h : sm x 256) (hk : k < 8) : sm (x ||| nI (2 ^ k)) 256 := by
  obtain ⟨n, hn, rfl⟩ := h
  exact or_small (k := 8) hn ((by decide : ∀ k, k < 8 → 2 ^ k < 2 ^ 8) k hk)
theorem fwI_st : ∀ k, k < 6 → k ≠ 4 → fwI 68 k = true ∧ fwI 77 (7 + k) = true := by decide
/-- what the reference does with a formula, up to its first branch -/
theorem ref_m {W : WD} {n : Nat} {ch : Nat → Nat} (hn : n ≤ 100) (hX : TX (W.2.1 83) n ch) : ∃ ans V, FX12_readsFormula (mk b W) (b + 77) (nI n) = some (ans, mk b V) ∧ frY (uI (uI W 77 16 (nI n)) 77 14 0) V ∧ V.1 77 14 = 0 ∧ (match pTop ch with
    | .inl z => ans = flt z ∧ flt z < 0
    | .inr x => ans = 0 ∧ V.1 77 40 = nI x.2.length ∧ layF (V.2.1 97) 0 x.2 ∧ x.2.length ≤ 100 ∧ ∀ st, gonF st x.2 [] [x.1 st]) := by
  obtain ⟨ans, V, m1, m2, m3⟩ := readF_m (b := b) (w := W) hX hn
  refine ⟨ans, V, m1, m2, m2.1 77 14 rfl, ?_⟩
  have fin := pTop_fine hX.2
  cases hp : pTop ch with
  | inl z =>
    rw [hp] at m3 fin
    have fin : 1 ≤ z.1 ∧ z.1 ≤ 5 ∧ z.2 ≤ n := fin
    exact ⟨m3, flt_lt fin.1 fin.2.1 (by omega)⟩
  | inr x =>
    rw [hp] at m3 fin
    have fin : x.2.length ≤ n := fin
    exact ⟨m3.1, m3.2.1, m3.2.2, by omega, fun st => pTop_E hp st⟩
theorem ne_of_neg {x : Int32} (h : x < 0) : ¬ x = 0 := fun q => by
  rw [q] at h
  exact absurd h (by decide)
theorem ct_pos (p : Nat → Bool) : ¬ nI (fb_ct p 1024) < 0 := nI_pos (by have := fb_ct_le p 1024; omega)
theorem op_wish (h : Rel RLaw w) (x y : Int32) : OP RLaw b w (fun hp => FX11_wish hp (b + 0) x y) (fun hp => FX12_wish hp (b + 77) x y) := by
  by_cases e : (∃ k, k < 8 ∧ x = nI k) ∧ ∃ n T, 1 ≤ n ∧ n ≤ 100 ∧ n ≤ T ∧ T < 261 ∧ y = nI n ∧ w.1 77 14 = nI T
  · obtain ⟨⟨k, hk, rfl⟩, n, T, h1, hn, z, hT, rfl, eT⟩ := e
    obtain ⟨ch, hX, hX2⟩ := txt_of h hT z
    have hle : nI n ≤ nI T := nI_le z (by omega)
    obtain ⟨a, W, c1, c2, c3⟩ := tell_c (b := b) (w := w) (o := 5) (Or.inl rfl) hk h1 hn hX2 (by rw [h.tape.1, eT]; exact hle)
    have startC : ∀ r, (if a < 0 then some (a, mk b W) else some (a, mk b (uI W 68 4 (W.1 68 4 &&& (((1 : Int32) <<< (nI k &&& 31)) ^^^ (-1 : Int32)))))) = r → FX11_wish (mk b w) (b + 0) (nI k) (nI n) = r := by
      intro r hr
      unfold FX11_wish
      rw [gR_11_0_2, Option.bind_some, rc_11_0, c1, Option.bind_some]
      dsimp only
      rw [gR_11_0_12, Option.bind_some, gI_6_68_4, Option.bind_some, sI_6_68_4, Option.bind_some]
      exact hr
    cases hp : pTop ch with
    | inl q =>
      rw [hp] at c3
      obtain ⟨ea, eo, ed⟩ : a = flt q ∧ W.1 5 1 = w.1 5 1 ∧ W.2.2.1 (5 + 1 + 1 + k) = w.2.2.1 (5 + 1 + 1 + k) := c3
      obtain ⟨a', V, m1, m2, m4, m3⟩ := ref_m (b := b) (W := W) (n := n) (ch := ch) hn (by rw [c2.2.2.1]; exact hX)
      rw [hp] at m3
      obtain ⟨ea', lt⟩ : a' = flt q ∧ flt q < 0 := m3
      refine OPi (r := flt q) (w1 := W) (w2 := V) (startC _ (by rw [ea, if_pos lt])) ?_ (Rel_fault h (sP_trans (sP_frTl c2 (fun k => rfl) rfl (Or.inr eo) rfl (Or.inr ed)) (sP_trans (sP_trans (sP_uI W _ rfl) (sP_uI _ _ rfl)) (sP_frY m2 (by decide) (by decide)))) ?_ m4)
      · unfold FX12_wish
        have e14 : W.1 77 14 = nI T := (c2.1 77 14 (by decide) (by decide) (by decide)).trans eT
        rw [in_y (n := 7) hk, Option.bind_some, if_neg n10, in_yes (a := 1) (c := 100) h1 hn, Option.bind_some, if_neg n10, gI_12_77_14, Option.bind_some, e14, if_pos hle, rc_12_77, m1, Option.bind_some]
        dsimp only
        rw [ea', if_neg (ne_of_neg lt)]
      · rw [m2.1 1 1 rfl]
        exact c2.2.1
    | inr q =>
      rw [hp] at c3
      obtain ⟨ea, eo, ed⟩ : a = nI (fb_ct q.1 1024) ∧ W.1 5 1 = (w.1 5 1 ||| nI (2 ^ k)) ∧ ∀ s, s < 1024 → tb (W.2.2.1 (5 + 1 + 1 + k)) s = q.1 s := c3
      obtain ⟨v, hv⟩ : ∃ v, v = w.1 77 11 &&& (((1 : Int32) <<< (nI k &&& 31)) ^^^ (-1 : Int32)) := ⟨_, rfl⟩
      have e68 : W.1 68 4 = w.1 77 11 := (c2.1 68 4 (by decide) (by decide) (by decide)).trans (h.now.1 4 (by decide))
      obtain ⟨W1, hW1⟩ : ∃ W1, W1 = uI W 68 4 v := ⟨_, rfl⟩
      have i1 : ∀ j i, ¬ (j = 68 ∧ i = 4) → W1.1 j i = W.1 j i := fun j i c => by rw [hW1]; exact uI_ne _ _ c
      have i2 : W1.2 = W.2 := by rw [hW1]; rfl
      have i3 : W1.1 68 4 = v := by rw [hW1]; rfl
      have s1 : simP fwI fwA fwL w W1 := by
        rw [hW1]
        exact sP_trans (sP_frTl c2 (fun k => rfl) rfl (Or.inl rfl) rfl (Or.inl ((by decide : ∀ k, k < 8 → fwL (5 + 1 + 1 + k) = false) k hk))) (sP_uI _ _ rfl)
      obtain ⟨a', V, m1, m2, m4, m3⟩ := ref_m (b := b) (W := W1) (n := n) (ch := ch) hn (by rw [i2, c2.2.2.1]; exact hX)
      rw [hp] at m3
      obtain ⟨ea', m40, ml, mn, mg⟩ : a' = 0 ∧ V.1 77 40 = nI q.2.length ∧ layF (V.2.1 97) 0 q.2 ∧ q.2.length ≤ 100 ∧ ∀ st, gonF st q.2 [] [q.1 st] := m3
      have v5 : V.1 77 5 = w.1 77 5 := (m2.1 77 5 rfl).trans ((i1 77 5 (by decide)).trans (c2.1 77 5 (by decide) (by decide) (by decide)))
      have v11 : V.1 77 11 = w.1 77 11 := (m2.1 77 11 rfl).trans ((i1 77 11 (by decide)).trans (c2.1 77 11 (by decide) (by decide) (by decide)))
      have v6 : V.1 77 6 = w.1 77 6 := (m2.1 77 6 rfl).trans ((i1 77 6 (by decide)).trans (c2.1 77 6 (by decide) (by decide) (by decide)))
      obtain ⟨V1, hV1⟩ : ∃ V1, V1 = uI (uI V 77 5 (w.1 77 5 ||| nI (2 ^ k))) 77 11 v := ⟨_, rfl⟩
      have s2 : simP fwI fwA fwL w V1 := by
        rw [hV1]
        exact sP_trans s1 (sP_trans (sP_trans (sP_trans (sP_uI W1 _ rfl) (sP_uI _ _ rfl)) (sP_frY m2 (by decide) (by decide))) (sP_trans (sP_uI _ _ rfl) (sP_uI _ _ rfl)))
      obtain ⟨U, l1, l2, l3, l4, l5, l6⟩ := laysRow_mk (b := b) (o := 79) (Or.inl rfl) hk (W := V1) (x := q) mn (by rw [hV1]; exact m40) (by rw [hV1]; exact ml) mg
      have s3 : simP fwI fwA fwL w U := sP_trans s2 ⟨fun j i _ => by rw [l2], fun j ej => l4 j (fun z => by rw [z] at ej; cases ej) (fun z => by rw [z] at ej; cases ej), fun j _ => by rw [l3], by rw [l3]⟩
      have uL0 : ∀ j, U.2.2.1 j = W.2.2.1 j := fun j => by
        rw [l3, hV1, ← i2]
        show V.2.2.1 j = _
        rw [m2.2.2]
        rfl
      have uA0 : ∀ j, yPA j = true → j ≠ 79 → U.2.1 j = w.2.1 j := fun j ej hj => by
        rw [l4 j (fun z => by rw [z] at ej; cases ej) hj, hV1]
        show V.2.1 j = _
        rw [m2.2.1 j ej]
        show W1.2.1 j = _
        rw [i2, c2.2.2.1]
      have u79 : V1.2.1 79 = w.2.1 79 := by
        rw [hV1]
        show V.2.1 79 = _
        rw [m2.2.1 79 rfl]
        show W1.2.1 79 = _
        rw [i2, c2.2.2.1]
      have uI0 : ∀ j i, yPI j i = true → ¬ (j = 77 ∧ (i = 5 ∨ i = 11 ∨ i = 14 ∨ i = 16)) → U.1 j i = W1.1 j i := fun j i ey hj => by
        rw [l2, hV1, uI_ne _ _ (by omega), uI_ne _ _ (by omega), m2.1 j i ey, uI_ne _ _ (by omega), uI_ne _ _ (by omega)]
      refine OPi (r := nI (fb_ct q.1 1024)) (w1 := W1) (w2 := U) (startC _ ?_) ?_ (Rel_form h s3 ?_ ?_ ?_ ?_ ?_)
      · rw [ea, if_neg (ct_pos _), e68, ← hv, ← hW1]
      · unfold FX12_wish
        have e14 : W1.1 77 14 = nI T := (i1 77 14 (by decide)).trans ((c2.1 77 14 (by decide) (by decide) (by decide)).trans eT)
        rw [in_y (n := 7) hk, Option.bind_some, if_neg n10, in_yes (a := 1) (c := 100) h1 hn, Option.bind_some, if_neg n10, gI_12_77_14, Option.bind_some, e14, if_pos hle, rc_12_77, m1, Option.bind_some]
        dsimp only
        have e11 : (uI V 77 5 (w.1 77 5 ||| nI (2 ^ k))).1 77 11 = w.1 77 11 := v11
        rw [if_pos ea', gI_12_77_5, Option.bind_some, sI_12_77_5, Option.bind_some, v5, bit8 hk, gI_12_77_11, Option.bind_some, e11, ← bit8 hk, ← hv, bit8 hk, sI_12_77_11, Option.bind_some, ← hV1, gR_12_77_1, Option.bind_some, rc_12_77, l1, Option.bind_some]
      · obtain ⟨b1, b2, b3, b4, b5, b6, b7, b8, b9⟩ := h.tab
        have e80 : U.2.1 80 = w.2.1 80 := uA0 80 rfl (by decide)
        have e81 : U.2.1 81 = w.2.1 81 := uA0 81 rfl (by decide)
        have e82 : U.2.1 82 = w.2.1 82 := uA0 82 rfl (by decide)
        have eC : ∀ k s, WC U k s = WC w k s := fun k s => by unfold WC; rw [e80]
        have eF : ∀ s, WF U s = WF w s := fun s => by unfold WF; rw [e81]
        have eO : ∀ s, WO U s = WO w s := fun s => by unfold WO; rw [e82]
        have e6 : U.1 77 6 = w.1 77 6 := by
          rw [uI0 77 6 rfl (by decide), i1 77 6 (by decide)]
          exact c2.1 77 6 (by decide) (by decide) (by decide)
        refine ⟨bo_row (by rw [u79]; exact b1) l5 l6, by rw [e80]; exact b2, by rw [e81]; exact b3, by rw [e82]; exact b4, fun k' hk' s hs => ?_, fun k' hk' s hs => ?_, fun s hs => ?_, fun s hs => ?_, fun s hs => ?_⟩
        · by_cases c : k' = k
          · subst c
            have e1 : 7 + k' = 5 + 1 + 1 + k' := rfl
            rw [uL0, e1, ed s hs]
            unfold WT
            rw [l5 s hs, dec_b]
          · rw [uL0, c2.2.2.2.1 _ (by omega) (by omega), b5 k' hk' s hs]
            unfold WT
            rw [l6 _ (div_row hs c), u79]
        · rw [uL0, c2.2.2.2.1 _ (by omega) (by omega), b6 k' hk' s hs, eC]
        · rw [uL0, c2.2.2.2.1 _ (by omega) (by omega), b7 s hs, eF]
        · rw [uL0, c2.2.2.2.1 _ (by omega) (by omega), b8 s hs, eO]
        · rw [eF, b9 s hs, e6]
          exact al_cong (fun k' hk' => by rw [eC])
      · have n68 : U.1 68 4 = v := by rw [uI0 68 4 rfl (by decide)]; exact i3
        have n77 : U.1 77 (7 + 4) = v := by rw [l2, hV1]; rfl
        obtain ⟨g1, g2, g3, g4, g5, g6⟩ := h.now
        have r68 : ∀ i, i < 6 → i ≠ 4 → U.1 68 i = w.1 68 i := fun i hi h4 => s3.1 68 i (fwI_st i hi h4).1
        have r77 : ∀ i, i < 6 → i ≠ 4 → U.1 77 (7 + i) = w.1 77 (7 + i) := fun i hi h4 => s3.1 77 _ (fwI_st i hi h4).2
        have r7 : U.1 77 7 = w.1 77 7 := r77 0 (by decide) (by decide)
        refine ⟨fun i hi => ?_, by rw [r7]; exact g2, by rw [r77 1 (by decide) (by decide)]; exact g3, by rw [r77 2 (by decide) (by decide)]; exact g4, ?_, by rw [r77 5 (by decide) (by decide)]; exact g6⟩
        · by_cases c : i = 4
          · rw [c, n68, n77]
          · rw [r68 i hi c, r77 i hi c]
            exact g1 i hi
        · rw [n77, hv]
          obtain ⟨m, hm, em⟩ := g5
          have em : w.1 77 11 = nI m := em
          rw [em]
          exact and_small (k := 8) hm _
      · obtain ⟨g1, g2, g3, g4, g5, g6⟩ := h.int
        have n5 : U.1 77 5 = (w.1 77 5 ||| nI (2 ^ k)) := by rw [l2, hV1]; rfl
        have p5 : U.1 5 1 = (w.1 5 1 ||| nI (2 ^ k)) := by rw [uI0 5 1 rfl (by decide), i1 5 1 (by decide)]; exact eo
        have e15 : U.1 15 1 = w.1 15 1 := by
          rw [uI0 15 1 rfl (by decide), i1 15 1 (by decide)]
          exact c2.1 15 1 (by decide) (by decide) (by decide)
        have e6 : U.1 77 6 = w.1 77 6 := by
          rw [uI0 77 6 rfl (by decide), i1 77 6 (by decide)]
          exact c2.1 77 6 (by decide) (by decide) (by decide)
        refine ⟨by rw [p5, n5, g1], by rw [n5]; exact or8 g2 hk, by rw [e15, e6]; exact g3, by rw [e6]; exact g4, by rw [s3.1 0 14 rfl, s3.1 77 65 rfl]; exact g5, by rw [s3.1 77 65 rfl]; exact g6⟩
      · rw [uI0 1 1 rfl (by decide), i1 1 1 (by decide)]
        exact c2.2.1
      · rw [l2, hV1]
        exact m4
  · obtain ⟨n1, n2⟩ := tell_no (b := b) h (b + 5) x y e
    refine OPi (r := -1) (w1 := w) (w2 := w) ?_ (n2 _) h
    unfold FX11_wish
    rw [gR_11_0_2, Option.bind_some, rc_11_0, n1, Option.bind_some]
    dsimp only
    rw [if_pos (show (-1 : Int32) < 0 by decide)]
end
