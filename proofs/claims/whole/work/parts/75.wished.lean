/-! a wish granted -/
theorem eI_f (j k : Nat) (h : eI j k = true) : fPI j k = true := by
  by_cases e : j = 34
  · subst e
    cases h
  · by_cases e2 : k = 12 ∧ (j = 35 ∨ j = 70)
    · obtain ⟨rfl, rfl | rfl⟩ := e2
      · cases h
      · cases h
    · unfold fPI
      rw [beq_eq_false_iff_ne.mpr e]
      by_cases e3 : k = 12
      · have e4 : ¬ j = 35 := fun q => e2 ⟨e3, Or.inl q⟩
        have e5 : ¬ j = 70 := fun q => e2 ⟨e3, Or.inr q⟩
        rw [beq_eq_false_iff_ne.mpr e4, beq_eq_false_iff_ne.mpr e5]
        cases (k == 12) <;> rfl
      · rw [beq_eq_false_iff_ne.mpr e3]
        rfl
theorem eI_t (j k : Nat) (h : eI j k = true) : tPI j k = true := by
  by_cases e : j = 77
  · subst e
    by_cases e1 : k = 45
    · subst e1; cases h
    · by_cases e2 : k = 46
      · subst e2; cases h
      · by_cases e3 : k = 47
        · subst e3; cases h
        · unfold tPI
          have : (decide (45 ≤ k) && decide (k ≤ 47)) = false := by
            rw [Bool.and_eq_false_iff, decide_eq_false_iff_not, decide_eq_false_iff_not]
            omega
          rw [this]
          rfl
  · unfold tPI
    rw [beq_eq_false_iff_ne.mpr e]
    rfl
def grS (sv : Nat → Int32) (a tg sn : Int32) (k : Nat) (i : Nat) : Int32 := if i = 0 then tg else if i = 1 then mnI 8640 (sv 1 + a) else if i = 2 then mnI 9999 (sv 2 + sn) else if i = 3 then sv 3 + 1 else if i = 4 then sv 4 ||| ((1 : Int32) <<< (nI k &&& 31)) else sv 5
theorem or_sm {x : Int32} {k : Nat} (hx : sm x 256) (hk : k < 8) : sm (x ||| ((1 : Int32) <<< (nI k &&& 31))) 256 := by
  obtain ⟨m, hm, rfl⟩ := hx
  have e : (1 : Int32) <<< (nI k &&& 31) = nI (2 ^ k) := (by decide +kernel : ∀ k, k < 8 → (1 : Int32) <<< (nI k &&& 31) = nI (2 ^ k)) k hk
  rw [e, fa_or]
  exact ⟨_, Nat.or_lt_two_pow (n := 8) hm ((by decide : ∀ k, k < 8 → 2 ^ k < 256) k hk), rfl⟩
theorem grS_ok {sv : Nat → Int32} {a tg sn : Int32} {k : Nat} (hv : okSv sv) (hk : k < 8) (ht : sm tg 1024) {d s : Nat} (ha : a = nI d) (hd : d ≤ 999) (hs : sn = nI s) (hs2 : s ≤ 99) : okSv (grS sv a tg sn k) := by
  obtain ⟨h0, ⟨d0, hd0, ed0⟩, h4, h5, ⟨s0, hs0, es0⟩⟩ := hv
  refine ⟨ht, ?_, or_sm h4 hk, h5, ?_⟩
  · show sm (mnI 8640 (sv 1 + a)) 8641
    rw [ed0, ha, nI_add, fa_lit 8640, mn_nI (by decide) (by omega)]
    exact ⟨_, by omega, rfl⟩
  · show sm (mnI 9999 (sv 2 + sn)) 10000
    rw [es0, hs, nI_add, fa_lit 9999, mn_nI (by decide) (by omega)]
    exact ⟨_, by omega, rfl⟩
def grW (w : WD) (j : Nat) (v0 v1 v2 v4 v3 : Int32) : WD := uI (uI (uI (uI (uI w j 0 v0) j 1 v1) j 2 v2) j 4 v4) j 3 v3
theorem grW_ne (w : WD) {j : Nat} (v0 v1 v2 v4 v3 : Int32) {j' : Nat} (h : j' ≠ j) (i : Nat) : (grW w j v0 v1 v2 v4 v3).1 j' i = w.1 j' i := by
  unfold grW
  rw [uI_ne _ _ (fun q => h q.1), uI_ne _ _ (fun q => h q.1), uI_ne _ _ (fun q => h q.1), uI_ne _ _ (fun q => h q.1), uI_ne _ _ (fun q => h q.1)]
theorem grW_at (w : WD) {j : Nat} {sv : Nat → Int32} (hsv : ∀ i, i < 6 → w.1 j i = sv i) (a tg sn : Int32) (k : Nat) : ∀ i, i < 6 → (grW w j tg (mnI 8640 (sv 1 + a)) (mnI 9999 (sv 2 + sn)) (sv 4 ||| ((1 : Int32) <<< (nI k &&& 31))) (sv 3 + 1)).1 j i = grS sv a tg sn k i := by
  intro i hi
  have hk : i = 0 ∨ i = 1 ∨ i = 2 ∨ i = 3 ∨ i = 4 ∨ i = 5 := by omega
  unfold grW
  simp only [uI_rd, true_and]
  rcases hk with rfl | rfl | rfl | rfl | rfl | rfl
  · rfl
  · rfl
  · rfl
  · rfl
  · rfl
  · exact hsv 5 (by decide)
theorem grW_sim (w : WD) {j : Nat} (v0 v1 v2 v4 v3 : Int32) {pI : Nat → Nat → Bool} {pA pL : Nat → Bool} (h : ∀ i, i < 6 → pI j i = false) : simP pI pA pL w (grW w j v0 v1 v2 v4 v3) := sP_trans (sP_trans (sP_trans (sP_trans (sP_uI w _ (h 0 (by decide))) (sP_uI _ _ (h 1 (by decide)))) (sP_uI _ _ (h 2 (by decide)))) (sP_uI _ _ (h 4 (by decide)))) (sP_uI _ _ (h 3 (by decide)))
section
variable {b : Nat} {w : WD}
theorem grant_mk {j k : Nat} (hj : SJ j) {sv : Nat → Int32} (hsv : ∀ i, i < 6 → w.1 j i = sv i) {a tg sn : Int32} (h1 : w.1 34 1 = a) (h2 : w.1 34 2 = tg) (h5 : w.1 34 5 = sn) : FX5_grant (mk b w) (b + 34) (b + j) (nI k) = some (mk b (grW w j tg (mnI 8640 (sv 1 + a)) (mnI 9999 (sv 2 + sn)) (sv 4 ||| ((1 : Int32) <<< (nI k &&& 31))) (sv 3 + 1))) := by
  have hn : j ≠ 34 := by
    rcases hj with h | h
    · omega
    · omega
  unfold FX5_grant FX6_passDays FX6_addSins
  refine bS (gI_5_34_2 b _) ?_
  rw [h2]
  refine bS (sI_mk (okSt hj (by decide)) b _ _) ?_
  refine bS (gI_5_34_1 b _) ?_
  rw [uI_ne _ _ (fun q => hn q.1.symm), h1, rc_mk (okStO hj)]
  have e1 : (uI w j 0 tg).1 j 1 = sv 1 := by rw [uI_ne _ _ (fun q => by omega)]; exact hsv 1 (by decide)
  rw [gI_mk (okSt hj (by decide)) b (uI w j 0 tg), Option.bind_some, e1, sI_mk (okSt hj (by decide)) b, Option.bind_some, Option.bind_some]
  refine bS (gI_5_34_5 b _) ?_
  rw [uI_ne _ _ (fun q => hn q.1.symm), uI_ne _ _ (fun q => hn q.1.symm), h5, rc_mk (okStO hj)]
  have e2 : (uI (uI w j 0 tg) j 1 (mnI 8640 (sv 1 + a))).1 j 2 = sv 2 := by rw [uI_ne _ _ (fun q => by omega), uI_ne _ _ (fun q => by omega)]; exact hsv 2 (by decide)
  rw [gI_mk (okSt hj (by decide)) b (uI (uI w j 0 tg) j 1 _), Option.bind_some, e2, sI_mk (okSt hj (by decide)) b, Option.bind_some, Option.bind_some]
  refine bS (gI_mk (okSt hj (by decide)) b _) ?_
  rw [uI_ne _ _ (fun q => by omega), uI_ne _ _ (fun q => by omega), uI_ne _ _ (fun q => by omega), hsv 4 (by decide)]
  refine bS (sI_mk (okSt hj (by decide)) b _ _) ?_
  refine bS (gI_mk (okSt hj (by decide)) b _) ?_
  rw [uI_ne _ _ (fun q => by omega), uI_ne _ _ (fun q => by omega), uI_ne _ _ (fun q => by omega), uI_ne _ _ (fun q => by omega), hsv 3 (by decide)]
  exact bS (sI_mk (okSt hj (by decide)) b _ _) rfl
def grM (w : WD) (v0 v1 v2 v4 v3 : Int32) : WD := uI (uI (uI (uI (uI w 77 7 v0) 77 8 v1) 77 9 v2) 77 11 v4) 77 10 v3
theorem grM_at (w : WD) {sv : Nat → Int32} (hsv : ∀ i, i < 6 → w.1 77 (7 + i) = sv i) (a tg sn : Int32) (k : Nat) : ∀ i, i < 6 → (grM w tg (mnI 8640 (sv 1 + a)) (mnI 9999 (sv 2 + sn)) (sv 4 ||| ((1 : Int32) <<< (nI k &&& 31))) (sv 3 + 1)).1 77 (7 + i) = grS sv a tg sn k i := by
  intro i hi
  have hk : i = 0 ∨ i = 1 ∨ i = 2 ∨ i = 3 ∨ i = 4 ∨ i = 5 := by omega
  rcases hk with rfl | rfl | rfl | rfl | rfl | rfl
  · rfl
  · rfl
  · rfl
  · rfl
  · rfl
  · exact hsv 5 (by decide)
theorem grM_sim (w : WD) (v0 v1 v2 v4 v3 : Int32) {pI : Nat → Nat → Bool} {pA pL : Nat → Bool} (h : ∀ i, 7 ≤ i → i ≤ 12 → pI 77 i = false) : simP pI pA pL w (grM w v0 v1 v2 v4 v3) := sP_trans (sP_trans (sP_trans (sP_trans (sP_uI w _ (h 7 (by decide) (by decide))) (sP_uI _ _ (h 8 (by decide) (by decide)))) (sP_uI _ _ (h 9 (by decide) (by decide)))) (sP_uI _ _ (h 11 (by decide) (by decide)))) (sP_uI _ _ (h 10 (by decide) (by decide)))
/-- the standing behind a wish that is told: granted, made free, or left -/
def nxS (sv : Nat → Int32) (a tg sn : Int32) (k : Nat) : Nat → Int32 := if 0 ≤ a then grS sv a tg sn k else if a = -2 then (fun i => if i = 5 then 1 else sv i) else sv
theorem nxS_ok {sv : Nat → Int32} {a tg sn : Int32} {k : Nat} (hv : okSv sv) (hk : k < 8) (ht : sm tg 1024) (hb : ((a = -5 ∨ a = -4 ∨ a = -3 ∨ a = -2) ∧ sn = 0) ∨ ∃ d s, d ≤ 999 ∧ a = nI d ∧ s ≤ 99 ∧ sn = nI s) : okSv (nxS sv a tg sn k) := by
  unfold nxS
  split
  · rename_i q
    rcases hb with ⟨h1, _⟩ | ⟨d, s, h1, h2, h3, h4⟩
    · rcases h1 with rfl | rfl | rfl | rfl <;> exact absurd q (by decide)
    · exact grS_ok hv hk ht h2 h1 h4 h3
  · split
    · exact ⟨hv.1, hv.2.1, hv.2.2.1, Or.inr rfl, hv.2.2.2.2⟩
    · exact hv
/-- the reference's grant, from any standing -/
theorem grants_mk {w2 : WD} {k : Nat} {sv : Nat → Int32} {a tg sn : Int32} (hT : Tells b w k sv a tg sn) (s2 : env w w2) (hsv : ∀ i, i < 6 → w2.1 77 (7 + i) = sv i) : ∃ w3, FX12_grants (mk b w2) (b + 77) (nI k) = some (a, mk b w3) ∧ (∀ i, i < 6 → w3.1 77 (7 + i) = nxS sv a tg sn k i) ∧ simP (fun j i => tPI j i && !(j == 77 && (decide (7 ≤ i) && decide (i ≤ 12)))) tPA aL w2 w3 := by
  obtain ⟨_, hM, hb⟩ := hT
  obtain ⟨w', p1, p2, p3, p4, p5⟩ := hM w2 s2 hsv
  have f' : simP (fun j i => tPI j i && !(j == 77 && (decide (7 ≤ i) && decide (i ≤ 12)))) tPA aL w2 w' := sP_mono p2 (fun j i q => (Bool.and_eq_true_iff.mp q).1) (fun _ q => q) (fun _ q => q)
  have hsv' : ∀ i, i < 6 → w'.1 77 (7 + i) = sv i := fun i hi => (p2.1 77 (7 + i) ((by decide : ∀ i, i < 6 → tPI 77 (7 + i) = true) i hi)).trans (hsv i hi)
  unfold FX12_grants
  rw [rc_12_77, p1, Option.bind_some, jn_eq]
  dsimp only
  rcases hb with ⟨h1, h2⟩ | ⟨d, s, h1, h2, h3, h4⟩
  · by_cases ha : a = -2
    · refine ⟨uI w' 77 12 1, ?_, ?_, sP_trans f' (sP_uI _ _ rfl)⟩
      · rw [if_pos ha, ha, sI_12_77_12, Option.bind_some, if_neg (by decide)]
      · intro i hi
        unfold nxS
        rw [ha, if_neg (by decide), if_pos rfl]
        have hk : i = 0 ∨ i = 1 ∨ i = 2 ∨ i = 3 ∨ i = 4 ∨ i = 5 := by omega
        rcases hk with rfl | rfl | rfl | rfl | rfl | rfl
        · exact hsv' 0 (by decide)
        · exact hsv' 1 (by decide)
        · exact hsv' 2 (by decide)
        · exact hsv' 3 (by decide)
        · exact hsv' 4 (by decide)
        · rfl
    · have hn : ¬ (0 : Int32) ≤ a := by rcases h1 with rfl | rfl | rfl | rfl <;> decide
      refine ⟨w', ?_, ?_, f'⟩
      · rw [if_neg ha, if_neg hn]
      · intro i hi
        unfold nxS
        rw [if_neg hn, if_neg ha]
        exact hsv' i hi
  · have hp : (0 : Int32) ≤ a := by rw [h2]; exact nI_pos' (by omega)
    have ha : ¬ a = -2 := by intro q; rw [q] at hp; exact absurd hp (by decide)
    have e46 := p5 hp
    refine ⟨grM w' tg (mnI 8640 (sv 1 + a)) (mnI 9999 (sv 2 + sn)) (sv 4 ||| ((1 : Int32) <<< (nI k &&& 31))) (sv 3 + 1), ?_, ?_, sP_trans f' (grM_sim _ _ _ _ _ _ (fun i h1 h2 => (by decide : ∀ i, i < 13 → 7 ≤ i → (tPI 77 i && !(77 == 77 && (decide (7 ≤ i) && decide (i ≤ 12)))) = false) i (by omega) h1))⟩
    · rw [if_neg ha, if_pos hp]
      have q1 : w'.1 77 8 = sv 1 := hsv' 1 (by decide)
      have q2 : w'.1 77 9 = sv 2 := hsv' 2 (by decide)
      have q3 : w'.1 77 10 = sv 3 := hsv' 3 (by decide)
      have q4 : w'.1 77 11 = sv 4 := hsv' 4 (by decide)
      refine bS (gI_12_77_45 b _) ?_
      refine bS (sI_12_77_7 b _ _) ?_
      refine bS (gI_12_77_8 b _) ?_
      refine bS (gI_12_77_46 b _) ?_
      refine bS (mn_min _ _) ?_
      refine bS (sI_12_77_8 b _ _) ?_
      refine bS (gI_12_77_9 b _) ?_
      refine bS (gI_12_77_47 b _) ?_
      refine bS (mn_min _ _) ?_
      refine bS (sI_12_77_9 b _ _) ?_
      refine bS (gI_12_77_11 b _) ?_
      refine bS (sI_12_77_11 b _ _) ?_
      refine bS (gI_12_77_10 b _) ?_
      refine bS (sI_12_77_10 b _ _) ?_
      show some (a, mk b (grM w' (w'.1 77 45) (mnI 8640 (w'.1 77 8 + w'.1 77 46)) (mnI 9999 (w'.1 77 9 + w'.1 77 47)) (w'.1 77 11 ||| ((1 : Int32) <<< (nI k &&& 31))) (w'.1 77 10 + 1))) = _
      rw [p3, p4, e46, q1, q2, q3, q4]
    · intro i hi
      unfold nxS
      rw [if_pos hp]
      exact grM_at w' hsv' a tg sn k i hi
theorem now_ok {RL : WD → Prop} (h : Rel RL w) : okSv (w.1 68) ∧ ∀ i, i < 6 → w.1 77 (7 + i) = w.1 68 i := by
  obtain ⟨s0, s1, s2, s3, s4, s5⟩ := h.now
  refine ⟨⟨?_, ?_, ?_, ?_, ?_⟩, fun i hi => (s0 i hi).symm⟩
  · rw [s0 0 (by decide)]; exact s1
  · rw [s0 1 (by decide)]; exact s2
  · rw [s0 4 (by decide)]; exact s4
  · rw [s0 5 (by decide)]; exact s5
  · rw [s0 2 (by decide)]; exact s3
theorem st_sv {S : Nat → Int32} (h1 : ∀ i, i < 6 → w.1 68 i = S i) (h2 : ∀ i, i < 6 → w.1 77 (7 + i) = S i) (hv : okSv S) : R_st w 68 7 := by
  refine ⟨fun k hk => (h1 k hk).trans (h2 k hk).symm, ?_, ?_, ?_, ?_, ?_⟩
  · rw [show w.1 77 7 = S 0 from h2 0 (by decide)]; exact hv.1
  · rw [h2 1 (by decide)]; exact hv.2.1
  · rw [h2 2 (by decide)]; exact hv.2.2.2.2
  · rw [h2 4 (by decide)]; exact hv.2.2.1
  · rw [h2 5 (by decide)]; exact hv.2.2.2.1
theorem op_wished (h : Rel RLaw w) (x : Int32) : OP RLaw b w (fun hp => FX11_wished hp (b + 0) x) (fun hp => FX12_wished hp (b + 77) x) := by
  have wis : w.1 5 1 = w.1 77 5 := h.int.1
  rcases case_ix x 8 with ⟨k, hk, rfl⟩ | e
  · cases hb : bt (w.1 77 5) k with
    | false =>
      refine ⟨-1, w, w, ?_, ?_, h⟩
      · try dsimp only
        unfold FX11_wished
        simp only [Option.bind_some, vl_eq, jn_eq, rc_11_0, gR_11_0_0, gR_11_0_1, gR_11_0_2, gR_11_0_3, gR_11_0_4, gR_11_0_5, gR_11_0_6, gR_11_0_7, gR_11_0_8, gR_11_0_9, gR_11_0_10, gR_11_0_11, gR_11_0_12, gR_11_0_13, gI_11_0_14, sI_11_0_14, rc_8_1, gR_8_1_0, gI_8_1_1, sI_8_1_1, rc_1_3, gR_1_3_0, gI_1_3_1, sI_1_3_1, gI_1_3_2, sI_1_3_2, gI_1_3_3, sI_1_3_3, gR_1_3_4, gI_1_3_5, sI_1_3_5, rc_1_2_3, gR_1_2_3_0, gI_1_2_3_1, sI_1_2_3_1, gI_1_2_3_2, sI_1_2_3_2, gI_1_2_3_3, sI_1_2_3_3, gR_1_2_3_4, gI_1_2_3_5, sI_1_2_3_5, rc_0_5, gR_0_5_0, gI_0_5_1, sI_0_5_1, rc_0_15, gR_0_15_0, gI_0_15_1, sI_0_15_1, rc_3_25, gR_3_25_0, gR_3_25_1, gR_3_25_2, gR_3_25_3, rc_5_34, gI_5_34_1, sI_5_34_1, gI_5_34_2, sI_5_34_2, gI_5_34_3, sI_5_34_3, gI_5_34_4, sI_5_34_4, gI_5_34_5, sI_5_34_5, gI_5_34_6, sI_5_34_6, gR_5_34_7, gR_5_34_8, gR_5_34_9, gR_5_34_10, gR_5_34_11, gR_5_34_12, rc_10_51, gI_10_51_0, sI_10_51_0, gI_10_51_1, sI_10_51_1, gI_10_51_2, sI_10_51_2, gR_10_51_3, rc_9_64, gR_9_64_0, gR_9_64_1, gR_9_64_2, rc_6_68, gI_6_68_0, sI_6_68_0, gI_6_68_1, sI_6_68_1, gI_6_68_2, sI_6_68_2, gI_6_68_3, sI_6_68_3, gI_6_68_4, sI_6_68_4, gI_6_68_5, sI_6_68_5, rc_6_69, gI_6_69_0, sI_6_69_0, gI_6_69_1, sI_6_69_1, gI_6_69_2, sI_6_69_2, gI_6_69_3, sI_6_69_3, gI_6_69_4, sI_6_69_4, gI_6_69_5, sI_6_69_5, wish_f h hk hb]
        rfl
      · try dsimp only
        unfold FX12_wished
        simp only [Option.bind_some, vl_eq, jn_eq, rc_12_77, gR_12_77_0, gR_12_77_1, gR_12_77_2, gR_12_77_3, gR_12_77_4, gI_12_77_5, sI_12_77_5, gI_12_77_6, sI_12_77_6, gI_12_77_7, sI_12_77_7, gI_12_77_8, sI_12_77_8, gI_12_77_9, sI_12_77_9, gI_12_77_10, sI_12_77_10, gI_12_77_11, sI_12_77_11, gI_12_77_12, sI_12_77_12, gR_12_77_13, gI_12_77_14, sI_12_77_14, gI_12_77_15, sI_12_77_15, gI_12_77_16, sI_12_77_16, gI_12_77_17, sI_12_77_17, gI_12_77_18, sI_12_77_18, gI_12_77_19, sI_12_77_19, gI_12_77_20, sI_12_77_20, gI_12_77_21, sI_12_77_21, gI_12_77_22, sI_12_77_22, gI_12_77_23, sI_12_77_23, gR_12_77_24, gR_12_77_25, gR_12_77_26, gR_12_77_27, gR_12_77_28, gR_12_77_29, gR_12_77_30, gR_12_77_31, gR_12_77_32, gR_12_77_33, gR_12_77_34, gR_12_77_35, gR_12_77_36, gR_12_77_37, gR_12_77_38, gR_12_77_39, gI_12_77_40, sI_12_77_40, gI_12_77_41, sI_12_77_41, gI_12_77_42, sI_12_77_42, gI_12_77_43, sI_12_77_43, gR_12_77_44, gI_12_77_45, sI_12_77_45, gI_12_77_46, sI_12_77_46, gI_12_77_47, sI_12_77_47, gI_12_77_48, sI_12_77_48, gI_12_77_49, sI_12_77_49, gI_12_77_50, sI_12_77_50, gI_12_77_51, sI_12_77_51, gI_12_77_52, sI_12_77_52, gI_12_77_53, sI_12_77_53, gR_12_77_54, gR_12_77_55, gR_12_77_56, gR_12_77_57, gR_12_77_58, gI_12_77_59, sI_12_77_59, gI_12_77_60, sI_12_77_60, gI_12_77_61, sI_12_77_61, gI_12_77_62, sI_12_77_62, gI_12_77_63, sI_12_77_63, gI_12_77_64, sI_12_77_64, gI_12_77_65, sI_12_77_65, isWish_f hk hb]
        rfl
    | true =>
      obtain ⟨hv, h77⟩ := now_ok h
      obtain ⟨a, tg, sn, hT⟩ := tells_ex (b := b) h hk hv
      obtain ⟨⟨t, s0, ht, es0, hs0, etg, hC⟩, hM, hbd⟩ := id hT
      obtain ⟨w1, p1, p2, p3, p4, _, _, p7⟩ := hC w (sP_refl w) 68 (Or.inl rfl) (fun i _ => rfl)
      have h68 : ∀ i, i < 6 → w1.1 68 i = w.1 68 i := fun i hi => p2.1 68 i ((by decide : ∀ i, i < 6 → fPI 68 i = true) i hi)
      have h771 : ∀ i, i < 6 → w1.1 77 (7 + i) = w.1 68 i := fun i hi => (p2.1 77 (7 + i) ((by decide : ∀ i, i < 6 → fPI 77 (7 + i) = true) i hi)).trans (h77 i hi)
      have cl : ∃ w2, FX11_wished (mk b w) (b + 0) (nI k) = some (a, mk b w2) ∧ (∀ i, i < 6 → w2.1 68 i = nxS (w.1 68) a tg sn k i) ∧ (∀ i, i < 6 → w2.1 77 (7 + i) = w.1 68 i) ∧ env w w2 ∧ w2.1 77 5 = w.1 77 5 := by
        unfold FX11_wished
        have s1 : env w w1 := frP_env p2
        have e5 : w1.1 77 5 = w.1 77 5 := p2.1 77 5 rfl
        rw [gR_11_0_2, Option.bind_some, rc_0_5, wish_t h hk hb, Option.bind_some, if_neg (by decide), gR_11_0_9, Option.bind_some, gR_11_0_12, Option.bind_some, rc_5_34, p1, Option.bind_some, gR_11_0_9, Option.bind_some, gI_5_34_1, Option.bind_some, p3, jn_eq]
        rcases hbd with ⟨h1, h2⟩ | ⟨d, s, h1, h2, h3, h4⟩
        · by_cases ha : a = -2
          · refine ⟨uI w1 68 5 1, ?_, ?_, ?_, sP_trans s1 (sP_uI _ _ rfl), e5⟩
            · rw [if_pos ha, gR_11_0_12, Option.bind_some, sZ_mk (by decide +kernel) b _ (Or.inr rfl), Option.bind_some]
              dsimp only
              rw [gR_11_0_9, Option.bind_some, gI_5_34_1, Option.bind_some]
              exact congrArg (fun z => some (z, mk b (uI w1 68 5 1))) p3
            · intro i hi
              unfold nxS
              rw [ha, if_neg (by decide), if_pos rfl]
              have hk : i = 0 ∨ i = 1 ∨ i = 2 ∨ i = 3 ∨ i = 4 ∨ i = 5 := by omega
              rcases hk with rfl | rfl | rfl | rfl | rfl | rfl
              · exact h68 0 (by decide)
              · exact h68 1 (by decide)
              · exact h68 2 (by decide)
              · exact h68 3 (by decide)
              · exact h68 4 (by decide)
              · rfl
            · exact h771
          · have hn : ¬ (0 : Int32) ≤ a := by rcases h1 with rfl | rfl | rfl | rfl <;> decide
            refine ⟨w1, ?_, ?_, h771, s1, e5⟩
            · rw [if_neg ha, Option.bind_some, gI_5_34_1, Option.bind_some, p3, if_pos (fa_of_nle hn)]
              dsimp only
              rw [gR_11_0_9, Option.bind_some, gI_5_34_1, Option.bind_some, p3]
            · intro i hi
              unfold nxS
              rw [if_neg hn, if_neg ha]
              exact h68 i hi
        · have hp : (0 : Int32) ≤ a := by rw [h2]; exact nI_pos' (by omega)
          have ha : ¬ a = -2 := by intro q; rw [q] at hp; exact absurd hp (by decide)
          have hn : ¬ a < 0 := by rw [h2]; exact nI_pos (by omega)
          refine ⟨grW w1 68 tg (mnI 8640 (w.1 68 1 + a)) (mnI 9999 (w.1 68 2 + sn)) (w.1 68 4 ||| ((1 : Int32) <<< (nI k &&& 31))) (w.1 68 3 + 1), ?_, ?_, ?_, sP_trans s1 (grW_sim _ _ _ _ _ _ (by decide)), ?_⟩
          · rw [if_neg ha, Option.bind_some, gI_5_34_1, Option.bind_some, p3, if_neg hn, Option.bind_some, gR_11_0_12, Option.bind_some, rc_5_34, grant_mk (j := 68) (Or.inl rfl) (sv := w.1 68) h68 p3 p4 p7, Option.bind_some]
            dsimp only
            rw [gR_11_0_9, Option.bind_some, gI_5_34_1, Option.bind_some, grW_ne _ _ _ _ _ _ (by decide), p3]
          · intro i hi
            unfold nxS
            rw [if_pos hp]
            exact grW_at w1 h68 a tg sn k i hi
          · intro i hi
            rw [grW_ne _ _ _ _ _ _ (by decide)]
            exact h771 i hi
          · rw [grW_ne _ _ _ _ _ _ (by decide)]
            exact e5
      obtain ⟨w2, c1, c2, c3, c4, c5⟩ := cl
      obtain ⟨w3, g1, g2, g3⟩ := grants_mk (b := b) hT c4 c3
      refine ⟨a, w2, w3, c1, ?_, ?_⟩
      · try dsimp only
        unfold FX12_wished
        rw [rc_12_77, isWish_t hk (by rw [c5]; exact hb), Option.bind_some, if_neg (by decide), rc_12_77, g1, Option.bind_some]
      · have hq : ∀ i, i < 6 → w3.1 68 i = w2.1 68 i := fun i hi => g3.1 68 i ((by decide : ∀ i, i < 6 → (tPI 68 i && !(68 == 77 && (decide (7 ≤ i) && decide (i ≤ 12)))) = true) i hi)
        refine Rel_now RLaw_LOK h (sP_trans c4 (sP_mono g3 (fun j i q => ?_) eA_t (fun _ _ => rfl))) (st_sv (S := nxS (w.1 68) a tg sn k) (fun i hi => (hq i hi).trans (c2 i hi)) g2 (nxS_ok hv hk ⟨t, ht, etg⟩ hbd))
        rw [eN_t j i q, Bool.true_and]
        unfold eN at q
        rw [Bool.and_eq_true] at q
        exact q.2
  · refine ⟨-1, w, w, ?_, ?_, h⟩
    · try dsimp only
      unfold FX11_wished
      simp only [Option.bind_some, vl_eq, jn_eq, rc_11_0, gR_11_0_0, gR_11_0_1, gR_11_0_2, gR_11_0_3, gR_11_0_4, gR_11_0_5, gR_11_0_6, gR_11_0_7, gR_11_0_8, gR_11_0_9, gR_11_0_10, gR_11_0_11, gR_11_0_12, gR_11_0_13, gI_11_0_14, sI_11_0_14, rc_8_1, gR_8_1_0, gI_8_1_1, sI_8_1_1, rc_1_3, gR_1_3_0, gI_1_3_1, sI_1_3_1, gI_1_3_2, sI_1_3_2, gI_1_3_3, sI_1_3_3, gR_1_3_4, gI_1_3_5, sI_1_3_5, rc_1_2_3, gR_1_2_3_0, gI_1_2_3_1, sI_1_2_3_1, gI_1_2_3_2, sI_1_2_3_2, gI_1_2_3_3, sI_1_2_3_3, gR_1_2_3_4, gI_1_2_3_5, sI_1_2_3_5, rc_0_5, gR_0_5_0, gI_0_5_1, sI_0_5_1, rc_0_15, gR_0_15_0, gI_0_15_1, sI_0_15_1, rc_3_25, gR_3_25_0, gR_3_25_1, gR_3_25_2, gR_3_25_3, rc_5_34, gI_5_34_1, sI_5_34_1, gI_5_34_2, sI_5_34_2, gI_5_34_3, sI_5_34_3, gI_5_34_4, sI_5_34_4, gI_5_34_5, sI_5_34_5, gI_5_34_6, sI_5_34_6, gR_5_34_7, gR_5_34_8, gR_5_34_9, gR_5_34_10, gR_5_34_11, gR_5_34_12, rc_10_51, gI_10_51_0, sI_10_51_0, gI_10_51_1, sI_10_51_1, gI_10_51_2, sI_10_51_2, gR_10_51_3, rc_9_64, gR_9_64_0, gR_9_64_1, gR_9_64_2, rc_6_68, gI_6_68_0, sI_6_68_0, gI_6_68_1, sI_6_68_1, gI_6_68_2, sI_6_68_2, gI_6_68_3, sI_6_68_3, gI_6_68_4, sI_6_68_4, gI_6_68_5, sI_6_68_5, rc_6_69, gI_6_69_0, sI_6_69_0, gI_6_69_1, sI_6_69_1, gI_6_69_2, sI_6_69_2, gI_6_69_3, sI_6_69_3, gI_6_69_4, sI_6_69_4, gI_6_69_5, sI_6_69_5, book_no e]
      rfl
    · try dsimp only
      unfold FX12_wished
      simp only [Option.bind_some, vl_eq, jn_eq, rc_12_77, gR_12_77_0, gR_12_77_1, gR_12_77_2, gR_12_77_3, gR_12_77_4, gI_12_77_5, sI_12_77_5, gI_12_77_6, sI_12_77_6, gI_12_77_7, sI_12_77_7, gI_12_77_8, sI_12_77_8, gI_12_77_9, sI_12_77_9, gI_12_77_10, sI_12_77_10, gI_12_77_11, sI_12_77_11, gI_12_77_12, sI_12_77_12, gR_12_77_13, gI_12_77_14, sI_12_77_14, gI_12_77_15, sI_12_77_15, gI_12_77_16, sI_12_77_16, gI_12_77_17, sI_12_77_17, gI_12_77_18, sI_12_77_18, gI_12_77_19, sI_12_77_19, gI_12_77_20, sI_12_77_20, gI_12_77_21, sI_12_77_21, gI_12_77_22, sI_12_77_22, gI_12_77_23, sI_12_77_23, gR_12_77_24, gR_12_77_25, gR_12_77_26, gR_12_77_27, gR_12_77_28, gR_12_77_29, gR_12_77_30, gR_12_77_31, gR_12_77_32, gR_12_77_33, gR_12_77_34, gR_12_77_35, gR_12_77_36, gR_12_77_37, gR_12_77_38, gR_12_77_39, gI_12_77_40, sI_12_77_40, gI_12_77_41, sI_12_77_41, gI_12_77_42, sI_12_77_42, gI_12_77_43, sI_12_77_43, gR_12_77_44, gI_12_77_45, sI_12_77_45, gI_12_77_46, sI_12_77_46, gI_12_77_47, sI_12_77_47, gI_12_77_48, sI_12_77_48, gI_12_77_49, sI_12_77_49, gI_12_77_50, sI_12_77_50, gI_12_77_51, sI_12_77_51, gI_12_77_52, sI_12_77_52, gI_12_77_53, sI_12_77_53, gR_12_77_54, gR_12_77_55, gR_12_77_56, gR_12_77_57, gR_12_77_58, gI_12_77_59, sI_12_77_59, gI_12_77_60, sI_12_77_60, gI_12_77_61, sI_12_77_61, gI_12_77_62, sI_12_77_62, gI_12_77_63, sI_12_77_63, gI_12_77_64, sI_12_77_64, gI_12_77_65, sI_12_77_65, isWish_no e]
      rfl
theorem op_tried (h : Rel RLaw w) (x y : Int32) : OP RLaw b w (fun hp => FX11_tried hp (b + 0) x y) (fun hp => FX12_tried hp (b + 77) x y) := by
  rcases case_ix x 8 with ⟨k, hk, rfl⟩ | e
  · cases hb : bt (w.1 77 5) k with
    | false =>
      refine ⟨-1, w, w, ?_, ?_, h⟩
      · try dsimp only
        unfold FX11_tried
        simp only [Option.bind_some, vl_eq, jn_eq, rc_11_0, gR_11_0_0, gR_11_0_1, gR_11_0_2, gR_11_0_3, gR_11_0_4, gR_11_0_5, gR_11_0_6, gR_11_0_7, gR_11_0_8, gR_11_0_9, gR_11_0_10, gR_11_0_11, gR_11_0_12, gR_11_0_13, gI_11_0_14, sI_11_0_14, rc_8_1, gR_8_1_0, gI_8_1_1, sI_8_1_1, rc_1_3, gR_1_3_0, gI_1_3_1, sI_1_3_1, gI_1_3_2, sI_1_3_2, gI_1_3_3, sI_1_3_3, gR_1_3_4, gI_1_3_5, sI_1_3_5, rc_1_2_3, gR_1_2_3_0, gI_1_2_3_1, sI_1_2_3_1, gI_1_2_3_2, sI_1_2_3_2, gI_1_2_3_3, sI_1_2_3_3, gR_1_2_3_4, gI_1_2_3_5, sI_1_2_3_5, rc_0_5, gR_0_5_0, gI_0_5_1, sI_0_5_1, rc_0_15, gR_0_15_0, gI_0_15_1, sI_0_15_1, rc_3_25, gR_3_25_0, gR_3_25_1, gR_3_25_2, gR_3_25_3, rc_5_34, gI_5_34_1, sI_5_34_1, gI_5_34_2, sI_5_34_2, gI_5_34_3, sI_5_34_3, gI_5_34_4, sI_5_34_4, gI_5_34_5, sI_5_34_5, gI_5_34_6, sI_5_34_6, gR_5_34_7, gR_5_34_8, gR_5_34_9, gR_5_34_10, gR_5_34_11, gR_5_34_12, rc_10_51, gI_10_51_0, sI_10_51_0, gI_10_51_1, sI_10_51_1, gI_10_51_2, sI_10_51_2, gR_10_51_3, rc_9_64, gR_9_64_0, gR_9_64_1, gR_9_64_2, rc_6_68, gI_6_68_0, sI_6_68_0, gI_6_68_1, sI_6_68_1, gI_6_68_2, sI_6_68_2, gI_6_68_3, sI_6_68_3, gI_6_68_4, sI_6_68_4, gI_6_68_5, sI_6_68_5, rc_6_69, gI_6_69_0, sI_6_69_0, gI_6_69_1, sI_6_69_1, gI_6_69_2, sI_6_69_2, gI_6_69_3, sI_6_69_3, gI_6_69_4, sI_6_69_4, gI_6_69_5, sI_6_69_5, wish_f h hk hb]
        rfl
      · try dsimp only
        unfold FX12_tried
        simp only [Option.bind_some, vl_eq, jn_eq, rc_12_77, gR_12_77_0, gR_12_77_1, gR_12_77_2, gR_12_77_3, gR_12_77_4, gI_12_77_5, sI_12_77_5, gI_12_77_6, sI_12_77_6, gI_12_77_7, sI_12_77_7, gI_12_77_8, sI_12_77_8, gI_12_77_9, sI_12_77_9, gI_12_77_10, sI_12_77_10, gI_12_77_11, sI_12_77_11, gI_12_77_12, sI_12_77_12, gR_12_77_13, gI_12_77_14, sI_12_77_14, gI_12_77_15, sI_12_77_15, gI_12_77_16, sI_12_77_16, gI_12_77_17, sI_12_77_17, gI_12_77_18, sI_12_77_18, gI_12_77_19, sI_12_77_19, gI_12_77_20, sI_12_77_20, gI_12_77_21, sI_12_77_21, gI_12_77_22, sI_12_77_22, gI_12_77_23, sI_12_77_23, gR_12_77_24, gR_12_77_25, gR_12_77_26, gR_12_77_27, gR_12_77_28, gR_12_77_29, gR_12_77_30, gR_12_77_31, gR_12_77_32, gR_12_77_33, gR_12_77_34, gR_12_77_35, gR_12_77_36, gR_12_77_37, gR_12_77_38, gR_12_77_39, gI_12_77_40, sI_12_77_40, gI_12_77_41, sI_12_77_41, gI_12_77_42, sI_12_77_42, gI_12_77_43, sI_12_77_43, gR_12_77_44, gI_12_77_45, sI_12_77_45, gI_12_77_46, sI_12_77_46, gI_12_77_47, sI_12_77_47, gI_12_77_48, sI_12_77_48, gI_12_77_49, sI_12_77_49, gI_12_77_50, sI_12_77_50, gI_12_77_51, sI_12_77_51, gI_12_77_52, sI_12_77_52, gI_12_77_53, sI_12_77_53, gR_12_77_54, gR_12_77_55, gR_12_77_56, gR_12_77_57, gR_12_77_58, gI_12_77_59, sI_12_77_59, gI_12_77_60, sI_12_77_60, gI_12_77_61, sI_12_77_61, gI_12_77_62, sI_12_77_62, gI_12_77_63, sI_12_77_63, gI_12_77_64, sI_12_77_64, gI_12_77_65, sI_12_77_65, isWish_f hk hb]
        rfl
    | true =>
      rcases case_ix y 5 with ⟨q, hq, rfl⟩ | e
      · obtain ⟨hv, h77⟩ := now_ok h
        obtain ⟨a, tg, sn, hT⟩ := tells_ex (b := b) h hk hv
        obtain ⟨⟨t, s0, ht, es0, hs0, etg, hC⟩, hM, hbd⟩ := id hT
        obtain ⟨w1, p1, p2, p3, p4, p5, p6, p7⟩ := hC w (sP_refl w) 68 (Or.inl rfl) (fun i _ => rfl)
        have s1 : env w w1 := frP_env p2
        have h771 : ∀ i, i < 6 → w1.1 77 (7 + i) = w.1 68 i := fun i hi => (p2.1 77 (7 + i) ((by decide : ∀ i, i < 6 → fPI 77 (7 + i) = true) i hi)).trans (h77 i hi)
        have e5 : w1.1 77 5 = w.1 77 5 := p2.1 77 5 rfl
        obtain ⟨w2, r1, r2, r3, r4, _⟩ := hM w1 s1 h771
        have e7 : w2.1 77 7 = nI s0 := ((r2.1 77 7 rfl).trans (h771 0 (by decide))).trans es0
        have e78 : w2.2.1 78 = w.2.1 78 := (r2.2.1 78 rfl).trans (s1.2.1 78 rfl)
        have hR : Rel RLaw w2 := by
          refine Rel_sim RLaw_LOK h (sP_trans (sP_mono p2 ?_ eA_f (fun _ _ => rfl)) (sP_mono r2 ?_ eA_t (fun _ _ => rfl)))
          · intro j i q
            exact eI_f j i q
          · intro j i q
            exact eI_t j i q
        have cls : ∀ z, (if nI q = (0 : Int32) then some (w1.1 34 1) else if nI q = (1 : Int32) then some (w1.1 34 2) else if nI q = (2 : Int32) then some (w1.1 34 3) else if nI q = (3 : Int32) then some (w1.1 34 4) else some (w1.1 34 5)) = some z → FX11_tried (mk b w) (b + 0) (nI k) (nI q) = some (z, mk b w1) := by
          intro z hz
          unfold FX11_tried
          rw [gR_11_0_2, Option.bind_some, rc_0_5, wish_t h hk hb, Option.bind_some, if_neg (by decide), if_neg (nI_pos (by omega)), if_pos (show nI q ≤ (4 : Int32) from nI_le (a := q) (b := 4) (by omega) (by decide)), gR_11_0_9, Option.bind_some, gR_11_0_12, Option.bind_some, rc_5_34, p1, Option.bind_some]
          have hk : q = 0 ∨ q = 1 ∨ q = 2 ∨ q = 3 ∨ q = 4 := by omega
          rcases hk with rfl | rfl | rfl | rfl | rfl
          · rw [if_pos (by decide), gR_11_0_9, Option.bind_some, gI_5_34_1, Option.bind_some, Option.some.inj hz]
          · rw [if_neg (by decide), if_pos (by decide), gR_11_0_9, Option.bind_some, gI_5_34_2, Option.bind_some, Option.some.inj hz]
          · rw [if_neg (by decide), if_neg (by decide), if_pos (by decide), gR_11_0_9, Option.bind_some, gI_5_34_3, Option.bind_some, Option.some.inj hz]
          · rw [if_neg (by decide), if_neg (by decide), if_neg (by decide), if_pos (by decide), gR_11_0_9, Option.bind_some, gI_5_34_4, Option.bind_some, Option.some.inj hz]
          · rw [if_neg (by decide), if_neg (by decide), if_neg (by decide), if_neg (by decide), gR_11_0_9, Option.bind_some, gI_5_34_5, Option.bind_some, Option.some.inj hz]
        have pre : FX12_tried (mk b w1) (b + 77) (nI k) (nI q) = (if nI q = (0 : Int32) then some (a, mk b w2) else if nI q = (1 : Int32) then some (tg, mk b w2) else if nI q = (2 : Int32) then some (nI (pc (t ^^^ s0)), mk b w2) else if nI q = (3 : Int32) then some (nI (prS (w.2.1 78) (t ^^^ s0)), mk b w2) else some (sn, mk b w2)) := by
          unfold FX12_tried
          rw [rc_12_77, isWish_t hk (by rw [e5]; exact hb), Option.bind_some, if_neg (by decide), in_yes (Nat.zero_le q) (show q ≤ 4 by omega), Option.bind_some, if_neg (by decide), rc_12_77, r1, Option.bind_some]
          dsimp only
          simp only [gI_12_77_45, gI_12_77_7, gI_12_77_47, Option.bind_some, rc_12_77, r3, r4, e7, etg, fb_xorI, bits_nI]
          rw [pricesOf_mk (w := w2) (by rw [e78]; exact h.price.2.1), Option.bind_some, e78]
        have hk5 : q = 0 ∨ q = 1 ∨ q = 2 ∨ q = 3 ∨ q = 4 := by omega
        rcases hk5 with rfl | rfl | rfl | rfl | rfl
        · exact ⟨a, w1, w2, cls a (by rw [if_pos (by decide), p3]), pre.trans (by rw [if_pos (by decide)]), hR⟩
        · exact ⟨tg, w1, w2, cls tg (by rw [if_neg (by decide), if_pos (by decide), p4]), pre.trans (by rw [if_neg (by decide), if_pos (by decide)]), hR⟩
        · exact ⟨_, w1, w2, cls _ (by rw [if_neg (by decide), if_neg (by decide), if_pos (by decide), p5]), pre.trans (by rw [if_neg (by decide), if_neg (by decide), if_pos (by decide)]), hR⟩
        · exact ⟨_, w1, w2, cls _ (by rw [if_neg (by decide), if_neg (by decide), if_neg (by decide), if_pos (by decide), p6]), pre.trans (by rw [if_neg (by decide), if_neg (by decide), if_neg (by decide), if_pos (by decide)]), hR⟩
        · exact ⟨sn, w1, w2, cls sn (by rw [if_neg (by decide), if_neg (by decide), if_neg (by decide), if_neg (by decide), p7]), pre.trans (by rw [if_neg (by decide), if_neg (by decide), if_neg (by decide), if_neg (by decide)]), hR⟩
      · refine ⟨-1, w, w, ?_, ?_, h⟩
        · try dsimp only
          unfold FX11_tried
          simp only [Option.bind_some, vl_eq, jn_eq, rc_11_0, gR_11_0_0, gR_11_0_1, gR_11_0_2, gR_11_0_3, gR_11_0_4, gR_11_0_5, gR_11_0_6, gR_11_0_7, gR_11_0_8, gR_11_0_9, gR_11_0_10, gR_11_0_11, gR_11_0_12, gR_11_0_13, gI_11_0_14, sI_11_0_14, rc_8_1, gR_8_1_0, gI_8_1_1, sI_8_1_1, rc_1_3, gR_1_3_0, gI_1_3_1, sI_1_3_1, gI_1_3_2, sI_1_3_2, gI_1_3_3, sI_1_3_3, gR_1_3_4, gI_1_3_5, sI_1_3_5, rc_1_2_3, gR_1_2_3_0, gI_1_2_3_1, sI_1_2_3_1, gI_1_2_3_2, sI_1_2_3_2, gI_1_2_3_3, sI_1_2_3_3, gR_1_2_3_4, gI_1_2_3_5, sI_1_2_3_5, rc_0_5, gR_0_5_0, gI_0_5_1, sI_0_5_1, rc_0_15, gR_0_15_0, gI_0_15_1, sI_0_15_1, rc_3_25, gR_3_25_0, gR_3_25_1, gR_3_25_2, gR_3_25_3, rc_5_34, gI_5_34_1, sI_5_34_1, gI_5_34_2, sI_5_34_2, gI_5_34_3, sI_5_34_3, gI_5_34_4, sI_5_34_4, gI_5_34_5, sI_5_34_5, gI_5_34_6, sI_5_34_6, gR_5_34_7, gR_5_34_8, gR_5_34_9, gR_5_34_10, gR_5_34_11, gR_5_34_12, rc_10_51, gI_10_51_0, sI_10_51_0, gI_10_51_1, sI_10_51_1, gI_10_51_2, sI_10_51_2, gR_10_51_3, rc_9_64, gR_9_64_0, gR_9_64_1, gR_9_64_2, rc_6_68, gI_6_68_0, sI_6_68_0, gI_6_68_1, sI_6_68_1, gI_6_68_2, sI_6_68_2, gI_6_68_3, sI_6_68_3, gI_6_68_4, sI_6_68_4, gI_6_68_5, sI_6_68_5, rc_6_69, gI_6_69_0, sI_6_69_0, gI_6_69_1, sI_6_69_1, gI_6_69_2, sI_6_69_2, gI_6_69_3, sI_6_69_3, gI_6_69_4, sI_6_69_4, gI_6_69_5, sI_6_69_5, wish_t h hk hb]
          rw [if_neg (by decide)]
          rcases ix_out (n := 5) (by decide) e with e1 | ⟨e1, e2⟩
          · rw [if_pos e1]
          · rw [if_neg e1, if_neg]
            intro q
            rw [fa_le] at q e2
            have a1 : ((OfNat.ofNat 5 : Int32)).toInt = 5 := by decide
            have a2 : ((4 : Int32)).toInt = 4 := by decide
            omega
        · try dsimp only
          unfold FX12_tried
          simp only [Option.bind_some, vl_eq, jn_eq, rc_12_77, gR_12_77_0, gR_12_77_1, gR_12_77_2, gR_12_77_3, gR_12_77_4, gI_12_77_5, sI_12_77_5, gI_12_77_6, sI_12_77_6, gI_12_77_7, sI_12_77_7, gI_12_77_8, sI_12_77_8, gI_12_77_9, sI_12_77_9, gI_12_77_10, sI_12_77_10, gI_12_77_11, sI_12_77_11, gI_12_77_12, sI_12_77_12, gR_12_77_13, gI_12_77_14, sI_12_77_14, gI_12_77_15, sI_12_77_15, gI_12_77_16, sI_12_77_16, gI_12_77_17, sI_12_77_17, gI_12_77_18, sI_12_77_18, gI_12_77_19, sI_12_77_19, gI_12_77_20, sI_12_77_20, gI_12_77_21, sI_12_77_21, gI_12_77_22, sI_12_77_22, gI_12_77_23, sI_12_77_23, gR_12_77_24, gR_12_77_25, gR_12_77_26, gR_12_77_27, gR_12_77_28, gR_12_77_29, gR_12_77_30, gR_12_77_31, gR_12_77_32, gR_12_77_33, gR_12_77_34, gR_12_77_35, gR_12_77_36, gR_12_77_37, gR_12_77_38, gR_12_77_39, gI_12_77_40, sI_12_77_40, gI_12_77_41, sI_12_77_41, gI_12_77_42, sI_12_77_42, gI_12_77_43, sI_12_77_43, gR_12_77_44, gI_12_77_45, sI_12_77_45, gI_12_77_46, sI_12_77_46, gI_12_77_47, sI_12_77_47, gI_12_77_48, sI_12_77_48, gI_12_77_49, sI_12_77_49, gI_12_77_50, sI_12_77_50, gI_12_77_51, sI_12_77_51, gI_12_77_52, sI_12_77_52, gI_12_77_53, sI_12_77_53, gR_12_77_54, gR_12_77_55, gR_12_77_56, gR_12_77_57, gR_12_77_58, gI_12_77_59, sI_12_77_59, gI_12_77_60, sI_12_77_60, gI_12_77_61, sI_12_77_61, gI_12_77_62, sI_12_77_62, gI_12_77_63, sI_12_77_63, gI_12_77_64, sI_12_77_64, gI_12_77_65, sI_12_77_65, isWish_t hk hb]
          rw [if_neg (by decide), in_n e]
          rfl
  · refine ⟨-1, w, w, ?_, ?_, h⟩
    · try dsimp only
      unfold FX11_tried
      simp only [Option.bind_some, vl_eq, jn_eq, rc_11_0, gR_11_0_0, gR_11_0_1, gR_11_0_2, gR_11_0_3, gR_11_0_4, gR_11_0_5, gR_11_0_6, gR_11_0_7, gR_11_0_8, gR_11_0_9, gR_11_0_10, gR_11_0_11, gR_11_0_12, gR_11_0_13, gI_11_0_14, sI_11_0_14, rc_8_1, gR_8_1_0, gI_8_1_1, sI_8_1_1, rc_1_3, gR_1_3_0, gI_1_3_1, sI_1_3_1, gI_1_3_2, sI_1_3_2, gI_1_3_3, sI_1_3_3, gR_1_3_4, gI_1_3_5, sI_1_3_5, rc_1_2_3, gR_1_2_3_0, gI_1_2_3_1, sI_1_2_3_1, gI_1_2_3_2, sI_1_2_3_2, gI_1_2_3_3, sI_1_2_3_3, gR_1_2_3_4, gI_1_2_3_5, sI_1_2_3_5, rc_0_5, gR_0_5_0, gI_0_5_1, sI_0_5_1, rc_0_15, gR_0_15_0, gI_0_15_1, sI_0_15_1, rc_3_25, gR_3_25_0, gR_3_25_1, gR_3_25_2, gR_3_25_3, rc_5_34, gI_5_34_1, sI_5_34_1, gI_5_34_2, sI_5_34_2, gI_5_34_3, sI_5_34_3, gI_5_34_4, sI_5_34_4, gI_5_34_5, sI_5_34_5, gI_5_34_6, sI_5_34_6, gR_5_34_7, gR_5_34_8, gR_5_34_9, gR_5_34_10, gR_5_34_11, gR_5_34_12, rc_10_51, gI_10_51_0, sI_10_51_0, gI_10_51_1, sI_10_51_1, gI_10_51_2, sI_10_51_2, gR_10_51_3, rc_9_64, gR_9_64_0, gR_9_64_1, gR_9_64_2, rc_6_68, gI_6_68_0, sI_6_68_0, gI_6_68_1, sI_6_68_1, gI_6_68_2, sI_6_68_2, gI_6_68_3, sI_6_68_3, gI_6_68_4, sI_6_68_4, gI_6_68_5, sI_6_68_5, rc_6_69, gI_6_69_0, sI_6_69_0, gI_6_69_1, sI_6_69_1, gI_6_69_2, sI_6_69_2, gI_6_69_3, sI_6_69_3, gI_6_69_4, sI_6_69_4, gI_6_69_5, sI_6_69_5, book_no e]
      rfl
    · try dsimp only
      unfold FX12_tried
      simp only [Option.bind_some, vl_eq, jn_eq, rc_12_77, gR_12_77_0, gR_12_77_1, gR_12_77_2, gR_12_77_3, gR_12_77_4, gI_12_77_5, sI_12_77_5, gI_12_77_6, sI_12_77_6, gI_12_77_7, sI_12_77_7, gI_12_77_8, sI_12_77_8, gI_12_77_9, sI_12_77_9, gI_12_77_10, sI_12_77_10, gI_12_77_11, sI_12_77_11, gI_12_77_12, sI_12_77_12, gR_12_77_13, gI_12_77_14, sI_12_77_14, gI_12_77_15, sI_12_77_15, gI_12_77_16, sI_12_77_16, gI_12_77_17, sI_12_77_17, gI_12_77_18, sI_12_77_18, gI_12_77_19, sI_12_77_19, gI_12_77_20, sI_12_77_20, gI_12_77_21, sI_12_77_21, gI_12_77_22, sI_12_77_22, gI_12_77_23, sI_12_77_23, gR_12_77_24, gR_12_77_25, gR_12_77_26, gR_12_77_27, gR_12_77_28, gR_12_77_29, gR_12_77_30, gR_12_77_31, gR_12_77_32, gR_12_77_33, gR_12_77_34, gR_12_77_35, gR_12_77_36, gR_12_77_37, gR_12_77_38, gR_12_77_39, gI_12_77_40, sI_12_77_40, gI_12_77_41, sI_12_77_41, gI_12_77_42, sI_12_77_42, gI_12_77_43, sI_12_77_43, gR_12_77_44, gI_12_77_45, sI_12_77_45, gI_12_77_46, sI_12_77_46, gI_12_77_47, sI_12_77_47, gI_12_77_48, sI_12_77_48, gI_12_77_49, sI_12_77_49, gI_12_77_50, sI_12_77_50, gI_12_77_51, sI_12_77_51, gI_12_77_52, sI_12_77_52, gI_12_77_53, sI_12_77_53, gR_12_77_54, gR_12_77_55, gR_12_77_56, gR_12_77_57, gR_12_77_58, gI_12_77_59, sI_12_77_59, gI_12_77_60, sI_12_77_60, gI_12_77_61, sI_12_77_61, gI_12_77_62, sI_12_77_62, gI_12_77_63, sI_12_77_63, gI_12_77_64, sI_12_77_64, gI_12_77_65, sI_12_77_65, isWish_no e]
      rfl
end
