/-! call: dead -/
section
variable {RL : WD → Prop} {b : Nat} {w : WD}
theorem dead_m (hp : ∀ i, i < 10 → sm (w.2.1 78 i) 100) {n : Nat} (h1 : 1 ≤ n) (hn : n ≤ 8) {T : Nat} (hT : T < 261) (eT : w.1 77 14 = nI T) (h2n : 2 * n ≤ T) {y : Nat → Nat} (hy : ∀ i, i < 260 → (w.2.1 83 i &&& (255 : Int32)) = nI (y i) ∧ y i < 256) {a0 : Nat} (est : w.1 77 7 = nI a0) (x : Int32) : ∃ r wc, FX12_dead (mk b w) (b + 77) (nI n) x = some (r, mk b wc) ∧ sim (uI w 77 14 0) wc ∧ deadR y n (fun a j => prS (w.2.1 78) (a ^^^ stN y j)) a0 x r := by
  unfold FX12_dead
  rw [in_yes (a := 1) (c := 8) h1 hn, Option.bind_some, if_neg n10, gI_12_77_14, Option.bind_some, eT, two_nI, if_pos (nI_le h2n (by omega)), sI_12_77_14, Option.bind_some]
  rw [lpb_first (P := Int32 × HP) (fun j => !decide (stN y j < 1024)) (fun _ => (-2, mk b (uI w 77 14 0))) () n (Nat.lt_of_le_of_lt hn (by decide)) (fun j hj => ?_) (by rw [if_pos (nI_le (Nat.le_refl n) (by omega))])]
  · cases hE : ex (fun j => !decide (stN y j < 1024)) n with
    | true =>
      obtain ⟨j, hj, q⟩ := (ex_iff _ _).mp hE
      rw [if_pos rfl]
      refine ⟨_, _, rfl, sP_refl _, Or.inl ⟨⟨j, hj, fun z => ?_⟩, rfl⟩⟩
      rw [decide_eq_true z] at q
      cases q
    | false =>
      have good : ∀ j, j < n → stN y j < 1024 := fun j hj => by
        apply Classical.byContradiction
        intro z
        rw [(ex_iff _ _).mpr ⟨j, hj, by rw [decide_eq_false z]; rfl⟩] at hE
        cases hE
      rw [if_neg (show ¬ false = true by decide)]
      obtain ⟨q, w2, d1, d2, d3, d4⟩ := deadM_mk (b := b) (w := uI w 77 14 0) hp h1 hn (y := y) (fun i hi => (hy i hi).1) (a0 := a0) est (c := fun a j => prS (w.2.1 78) (a ^^^ stN y j)) rfl
      by_cases e10 : x = 10
      · rw [if_pos e10]
        refine ⟨nI (pay (fun a j => prS (w.2.1 78) (a ^^^ stN y j)) (stN y) q a0 n).2, w2, ?_, d1, Or.inr ⟨good, Or.inl ⟨e10, q, d2, rfl⟩⟩⟩
        refine (d4 _).trans ?_
        try dsimp only
        rw [if_pos e10]
      · rw [if_neg e10, (less2 n (by omega) h1).2]
        have inn : (∃ i, i < n ∧ x = nI i ∧ FX12_in x 0 (nI (n - 1)) = some 1) ∨ ((¬ ∃ i, i < n ∧ x = nI i) ∧ FX12_in x 0 (nI (n - 1)) = some 0) := by
          by_cases ei : ∃ i, i < n ∧ x = nI i
          · obtain ⟨i, hi, rfl⟩ := ei
            exact Or.inl ⟨i, hi, rfl, in_y (n := n - 1) (by omega) (by omega)⟩
          · exact Or.inr ⟨ei, in_n (n := n - 1) (fun ⟨k, hk, z⟩ => ei ⟨k, by omega, z⟩) (by omega)⟩
        rcases inn with ⟨i, hi, rfl, e⟩ | ⟨ei, e⟩
        · rw [e, Option.bind_some, if_neg n10]
          refine ⟨nI (q i), w2, ?_, d1, Or.inr ⟨good, Or.inr (Or.inl ⟨i, hi, rfl, q, d2, rfl⟩)⟩⟩
          refine (d4 _).trans ?_
          try dsimp only
          rw [if_neg e10, gR_12_77_55, Option.bind_some, rdN_mk (t := 0) (n := 8) (by decide +kernel) (by decide) b _ (show i < 8 by omega), Option.bind_some, d3 i hi]
        · rw [e, Option.bind_some, if_pos rfl]
          exact ⟨_, _, rfl, sP_refl _, Or.inr ⟨good, Or.inr (Or.inr ⟨e10, ei, rfl⟩)⟩⟩
  · have b1 := (hy (2 * j) (by omega)).2
    have b2 := (hy (2 * j + 1) (by omega)).2
    have b3 : stN y j < 65536 := by unfold stN; omega
    rw [if_neg (nI_ge hj (by omega)), rc_12_77, stateAt_mk (w := uI w 77 14 0) (y := y) (fun i hi => (hy i hi).1) (show j < 8 by omega), Option.bind_some, vl_eq, nI_1]
    by_cases q : stN y j < 1024
    · rw [if_pos (Rlt (n := 1024) q), decide_eq_true q]
      rfl
    · rw [if_neg (Rnlt (n := 1024) (by omega) (by omega)), decide_eq_false q]
      rfl
theorem op_dead (hRL : LOK RL) (h : Rel RL w) (x y : Int32) : OP RL b w (fun hp => FX11_dead hp (b + 0) x y) (fun hp => FX12_dead hp (b + 77) x y) := by
  obtain ⟨t1, ⟨T, hT, eT⟩, t3, t4⟩ := h.tape
  have eT1 : w.1 1 1 = nI T := t1.trans eT
  by_cases e : ∃ k, 1 ≤ k ∧ k ≤ 8 ∧ x = nI k
  · obtain ⟨n, h1, hn, rfl⟩ := e
    rcases Nat.lt_or_ge T (2 * n) with z | z
    · apply OPi (r := -1) (w1 := w) (w2 := w) ?_ ?_ h
      · unfold FX11_dead
        rw [if_neg (Rnlt (n := 1) h1 (by omega)), if_neg (Lnlt (n := 8) hn), gR_11_0_0, Option.bind_some, gI_8_1_1, Option.bind_some, eT1, two_nI, if_neg (nI_ge z (by omega))]
      · unfold FX12_dead
        rw [in_yes (a := 1) (c := 8) h1 hn, Option.bind_some, if_neg n10, gI_12_77_14, Option.bind_some, eT, two_nI, if_neg (nI_ge z (by omega))]
    · obtain ⟨a0, ha, est, est2⟩ := h.state
      have bytes : ∀ i, ∃ c, (w.2.1 83 i &&& (255 : Int32)) = nI c ∧ c < 256 := fun i => by
        obtain ⟨c, hc, q⟩ := byte_any (w.2.1 83 i)
        exact ⟨c, q, hc⟩
      obtain ⟨v, hv⟩ := Classical.axiomOfChoice bytes
      obtain ⟨r, wc, e1, s1, p1⟩ := dead_c (b := b) h h1 hn hT eT1 z (y := v) (fun i _ => hv i) ha est2 y
      have m83 : wc.2.1 83 = w.2.1 83 := s1.2.1 83 rfl
      have m78 : wc.2.1 78 = w.2.1 78 := s1.2.1 78 rfl
      obtain ⟨r', w2, e2, s2, p2⟩ := dead_m (b := b) (w := wc) (by rw [m78]; exact h.price.2.1) h1 hn hT ((s1.1 77 14 rfl).trans eT) z (y := v) (fun i _ => by rw [m83]; exact hv i) (a0 := a0) ((s1.1 77 7 rfl).trans est) y
      rw [m78] at p2
      have er := deadR_one hn p1 p2
      subst er
      refine OPi e1 e2 (Rel_tape hRL h (sP_trans (sP_uI w _ rfl) (sP_trans (sim_eT s1) (sP_trans (sP_uI wc _ rfl) (sim_eT s2)))) ⟨?_, ⟨0, by decide, ?_⟩, fun i hi => ?_, fun i hi => ?_⟩)
      · rw [s2.1 1 1 rfl, s2.1 77 14 rfl, uI_at, uI_ne _ _ (by decide), s1.1 1 1 rfl, uI_at]
      · rw [s2.1 77 14 rfl, uI_at]
        rfl
      · rw [s2.2.1 2 rfl, s2.2.1 83 rfl]
        show wc.2.1 2 i = wc.2.1 83 i
        rw [s1.2.1 2 rfl, m83]
        exact t3 i hi
      · rw [s2.2.1 83 rfl]
        show (wc.2.1 83 i).toInt8.toInt32 = wc.2.1 83 i
        rw [m83]
        exact t4 i hi
  · apply OPi (r := -1) (w1 := w) (w2 := w) ?_ ?_ h
    · unfold FX11_dead
      by_cases c1 : x < 1
      · rw [if_pos c1]
      · by_cases c2 : 8 < x
        · rw [if_neg c1, if_pos c2]
        · exfalso
          apply e
          have z1 : (1 : Int32).toInt = 1 := by decide
          have z2 : (8 : Int32).toInt = 8 := by decide
          rw [fa_lt] at c1 c2
          have k := in_nat (v := x) (a := 1) (b := 8) (by decide) (by rw [fa_le]; show (1 : Int32).toInt ≤ _; omega) (by rw [fa_le]; show _ ≤ (8 : Int32).toInt; omega) (by decide)
          exact k
    · unfold FX12_dead
      rw [in_no (a := 1) (c := 8) e, Option.bind_some, if_pos rfl]
end
