/-! the spirit's plan, on both sides -/
def fPI (j k : Nat) : Bool := !(j == 34 && (decide (1 ≤ k) && decide (k ≤ 5))) && !(k == 12 && (j == 35 || j == 70))
def fPA (j : Nat) : Bool := !([40, 41, 75, 76].contains j)
def tPI (j k : Nat) : Bool := !(j == 77 && (decide (45 ≤ k) && decide (k ≤ 47)))
def tPA (j : Nat) : Bool := !([95, 96].contains j)
def aL (_ : Nat) : Bool := true
theorem lawC_of {w w' : WD} {o : Nat} (ho : LW o) (s : simL w w') {n : Nat} {kd : Nat → Nat} {Wd Td : Nat → Cds} (h : lawC (w.1 o 4) (w.1 o 9) (w.2.1 (o + 1)) (w.2.1 (o + 2)) (w.2.1 (o + 3)) (w.2.1 (o + 4)) n kd Wd Td) : lawC (w'.1 o 4) (w'.1 o 9) (w'.2.1 (o + 1)) (w'.2.1 (o + 2)) (w'.2.1 (o + 3)) (w'.2.1 (o + 4)) n kd Wd Td := by
  rcases ho with rfl | rfl
  · rw [s.1 35 4 rfl, s.1 35 9 rfl, s.2.1 (35 + 1) rfl, s.2.1 (35 + 2) rfl, s.2.1 (35 + 3) rfl, s.2.1 (35 + 4) rfl]
    exact h
  · rw [s.1 70 4 rfl, s.1 70 9 rfl, s.2.1 (70 + 1) rfl, s.2.1 (70 + 2) rfl, s.2.1 (70 + 3) rfl, s.2.1 (70 + 4) rfl]
    exact h
theorem lawM_of {w w' : WD} (s : simL w w') {n : Nat} {kd : Nat → Nat} {Wd Td : Nat → Cds} (h : lawM (w.1 77 23) (w.2.1 91) (w.2.1 92) (w.2.1 93) (w.2.1 94) (w.2.1 90) n kd Wd Td) : lawM (w'.1 77 23) (w'.2.1 91) (w'.2.1 92) (w'.2.1 93) (w'.2.1 94) (w'.2.1 90) n kd Wd Td := by
  rw [s.1 77 23 rfl, s.2.1 90 rfl, s.2.1 91 rfl, s.2.1 92 rfl, s.2.1 93 rfl, s.2.1 94 rfl]
  exact h
theorem env_L {w w' : WD} (s : env w w') : simL w w' := sP_mono s l_eN l_eA (fun _ e => by cases e)
theorem LwS_sim {pI : Nat → Nat → Bool} {pA pL : Nat → Bool} {w w' : WD} {o : Nat} (h : LwS w o w') (h1 : pI o 12 = false) (h2 : pA (o + 6) = false) : simP pI pA pL w w' := by
  obtain ⟨g, z, rfl⟩ := h
  unfold lawS
  exact sP_trans (sP_uI w z h1) (sP_uA _ g h2)
theorem eN_f (j k : Nat) (h : eN j k = true) : fPI j k = true := by
  by_cases e : j = 34
  · subst e
    cases h
  · by_cases e2 : k = 12 ∧ (j = 35 ∨ j = 70)
    · obtain ⟨rfl, rfl | rfl⟩ := e2
      · cases h
      · cases h
    · unfold fPI
      rw [beq_eq_false_iff_ne.mpr e]
      by_cases e3 : k = 12
      · have e4 : ¬ j = 35 := fun q => e2 ⟨e3, Or.inl q⟩
        have e5 : ¬ j = 70 := fun q => e2 ⟨e3, Or.inr q⟩
        rw [beq_eq_false_iff_ne.mpr e4, beq_eq_false_iff_ne.mpr e5]
        cases (k == 12) <;> rfl
      · rw [beq_eq_false_iff_ne.mpr e3]
        rfl
theorem eA_f (j : Nat) (h : eA j = true) : fPA j = true := by
  unfold eA at h
  rw [List.contains_iff_mem] at h
  simp only [List.mem_cons, List.not_mem_nil, or_false] at h
  rcases h with h | h | h | h | h | h | h | h | h | h | h | h | h | h | h | h | h | h | h | h | h | h | h | h <;> subst h <;> rfl
theorem eA_t (j : Nat) (h : eA j = true) : tPA j = true := by
  unfold eA at h
  rw [List.contains_iff_mem] at h
  simp only [List.mem_cons, List.not_mem_nil, or_false] at h
  rcases h with h | h | h | h | h | h | h | h | h | h | h | h | h | h | h | h | h | h | h | h | h | h | h | h <;> subst h <;> rfl
theorem eN_t (j k : Nat) (h : eN j k = true) : tPI j k = true := by
  by_cases e : j = 77
  · subst e
    by_cases e1 : k = 45
    · subst e1; cases h
    · by_cases e2 : k = 46
      · subst e2; cases h
      · by_cases e3 : k = 47
        · subst e3; cases h
        · unfold tPI
          have : (decide (45 ≤ k) && decide (k ≤ 47)) = false := by
            rw [Bool.and_eq_false_iff, decide_eq_false_iff_not, decide_eq_false_iff_not]
            omega
          rw [this]
          rfl
  · unfold tPI
    rw [beq_eq_false_iff_ne.mpr e]
    rfl
theorem prS_0 (f : Nat → Int32) : prS f 0 = 0 := by
  unfold prS
  have e : (fun i => if (0 : Nat).testBit i then pN f i else 0) = fun _ => 0 := by
    funext i
    rw [Nat.zero_testBit]
    rfl
  rw [e]
  rfl
abbrev frP : WD → WD → Prop := simP fPI fPA aL
abbrev frT : WD → WD → Prop := simP tPI tPA aL
theorem frP_env {w w' : WD} (s : frP w w') : env w w' := sP_mono s eN_f eA_f (fun _ _ => rfl)
theorem frT_env {w w' : WD} (s : frT w w') : env w w' := sP_mono s eN_t eA_t (fun _ _ => rfl)
theorem worV_x (kd : Nat → Nat) (tT : Nat → Bool) (vW : Nat → Int32) (n : Nat) : worV kd tT (fun j => if kd j = 120 then 1 else vW j) n 120 1 = if ex (sp kd tT 120) n then 1 else 0 := by
  unfold worV
  by_cases e : ex (sp kd tT 120) n = true
  · have h := fa_first_yes _ n ((ex_first _ n).mpr e)
    unfold sp at h
    rw [Bool.and_eq_true, decide_eq_true_eq] at h
    rw [if_pos e, if_pos e]
    dsimp only
    have h1 : kd (fa_first (sp kd tT 120) n) = 120 := h.1
    rw [if_pos h1]
    decide
  · rw [if_neg e, if_neg e]
theorem worV_sm (kd : Nat → Nat) (tT : Nat → Bool) (V : Nat → Int32) (n K : Nat) {most : Nat} (hm : most < 2 ^ 31) : ∃ d, d ≤ most ∧ worV kd tT V n K most = nI d := by
  unfold worV
  split
  · generalize V (fa_first (sp kd tT K) n) = v
    have hle : ¬ nI most < mnI (nI most) v := by
      unfold mnI
      split
      · rename_i q
        exact (fa_of_lt q).2.2.1
      · exact nI_nlt (Nat.le_refl _) hm
    unfold mxI
    split
    · rename_i q
      obtain ⟨j, hj, e⟩ := nI_of2 (n := most) (M := nI most) (nI_toInt hm) (fa_of_lt q).2.2.1 (fa_of_nlt hle)
      exact ⟨j, hj, e⟩
    · exact ⟨0, Nat.zero_le _, rfl⟩
  · exact ⟨0, Nat.zero_le _, rfl⟩
section
variable {b : Nat} {w : WD}
theorem over_mk {j d : Nat} (hj : SJ j) (hd : w.1 j 1 = nI d) (hd2 : d ≤ 8640) (h5 : w.1 j 5 = 0 ∨ w.1 j 5 = 1) : FX6_isOver (mk b w) (b + j) = some (if w.1 j 5 = 1 ∨ d = 8640 then 1 else 0) := by
  unfold FX6_isOver FX6_isFetched
  refine bS (gI_mk (okSt hj (by decide)) b w) ?_
  rcases h5 with e | e
  · rw [e, if_pos rfl, rc_mk (okStO hj)]
    rw [gI_mk (okSt hj (by decide)) b w, Option.bind_some, hd]
    by_cases q : d = 8640
    · rw [if_neg (show ¬ nI d < (8640 : Int32) from nI_nlt (a := d) (b := 8640) (by omega) (by omega)), Option.bind_some, if_neg (by decide), if_pos (Or.inr q)]
    · rw [if_pos (show nI d < (8640 : Int32) from nI_lt (a := d) (b := 8640) (by omega) (by decide)), Option.bind_some, if_pos rfl, if_neg (by rintro (q1 | q1); exact absurd q1 (by decide); exact q q1)]
  · rw [e, if_neg (by decide), if_pos (Or.inl rfl)]
end
def okSv (sv : Nat → Int32) : Prop := sm (sv 0) 1024 ∧ sm (sv 1) 8641 ∧ sm (sv 4) 256 ∧ (sv 5 = 0 ∨ sv 5 = 1) ∧ sm (sv 2) 10000
/-- what both programs make of a wish from a standing -/
def Tells (b : Nat) (w : WD) (k : Nat) (sv : Nat → Int32) (a tg sn : Int32) : Prop :=
  (∃ t s0, t < 1024 ∧ sv 0 = nI s0 ∧ s0 < 1024 ∧ tg = nI t ∧ ∀ w1, env w w1 → ∀ j, SJ j → (∀ i, i < 6 → w1.1 j i = sv i) → ∃ w1', FX5_plan (mk b w1) (b + 34) (b + j) (nI k) = some (mk b w1') ∧ frP w1 w1' ∧ w1'.1 34 1 = a ∧ w1'.1 34 2 = tg ∧ w1'.1 34 3 = nI (pc (t ^^^ s0)) ∧ w1'.1 34 4 = nI (prS (w.2.1 78) (t ^^^ s0)) ∧ w1'.1 34 5 = sn) ∧
  (∀ w2, env w w2 → (∀ i, i < 6 → w2.1 77 (7 + i) = sv i) → ∃ w2', FX12_tells (mk b w2) (b + 77) (nI k) = some (a, mk b w2') ∧ frT w2 w2' ∧ w2'.1 77 45 = tg ∧ w2'.1 77 47 = sn ∧ (0 ≤ a → w2'.1 77 46 = a)) ∧
  (((a = -5 ∨ a = -4 ∨ a = -3 ∨ a = -2) ∧ sn = 0) ∨ ∃ d s, d ≤ 999 ∧ a = nI d ∧ s ≤ 99 ∧ sn = nI s)
section
variable {b : Nat} {w : WD}
theorem env_RL (h : RLaw w) {w' : WD} (s : env w w') : RLaw w' := RLaw_LOK _ _ (env_L s) h
/-- the first lines of a plan -/
def pl5 (w1 : WD) (x : Int32) : WD := uI (uI (uI (uI w1 34 2 x) 34 3 0) 34 4 0) 34 5 0
theorem pl5_f (w1 : WD) (x : Int32) : frP w1 (pl5 w1 x) := sP_trans (sP_trans (sP_trans (sP_uI w1 x rfl) (sP_uI _ _ rfl)) (sP_uI _ _ rfl)) (sP_uI _ _ rfl)
theorem pl5_j (w1 : WD) (x : Int32) {j : Nat} (hj : SJ j) (i : Nat) : (pl5 w1 x).1 j i = w1.1 j i := by
  have hn : j ≠ 34 := by
    rcases hj with h | h
    · omega
    · omega
  unfold pl5
  rw [uI_ne _ _ (fun q => hn q.1), uI_ne _ _ (fun q => hn q.1), uI_ne _ _ (fun q => hn q.1), uI_ne _ _ (fun q => hn q.1)]
def pl3 (w2 : WD) (x : Int32) : WD := uI (uI w2 77 45 x) 77 47 0
theorem pl3_f (w2 : WD) (x : Int32) : frT w2 (pl3 w2 x) := sP_trans (sP_uI w2 x rfl) (sP_uI _ _ rfl)
theorem pl3_i (w2 : WD) (x : Int32) : ∀ i, i < 6 → (pl3 w2 x).1 77 (7 + i) = w2.1 77 (7 + i) := by
  intro i hi
  unfold pl3
  rw [uI_ne _ _ (fun q => by omega), uI_ne _ _ (fun q => by omega)]
theorem tells_over (h : Rel RLaw w) {k : Nat} (hk : k < 8) {sv : Nat → Int32} (hv : okSv sv) (ho : sv 5 = 1 ∨ sv 1 = 8640) : Tells b w k sv (-5) (sv 0) 0 := by
  obtain ⟨⟨s0, hs0, e0⟩, ⟨d, hd, ed⟩, _, hf, _⟩ := hv
  have hov : sv 5 = 1 ∨ d = 8640 := by
    rcases ho with q | q
    · exact Or.inl q
    · right
      rw [ed] at q
      exact nI_inj (by omega) (by decide) q
  refine ⟨⟨s0, s0, hs0, e0, hs0, e0, fun w1 s1 j hj hsv => ⟨uI (pl5 w1 (sv 0)) 34 1 (-5), ?_, sP_trans (pl5_f w1 _) (sP_uI _ _ rfl), rfl, rfl, ?_, ?_, rfl⟩⟩, fun w2 s2 hsv => ⟨pl3 w2 (sv 0), ?_, pl3_f w2 _, rfl, rfl, fun q => absurd q (by decide)⟩, Or.inl ⟨Or.inl rfl, rfl⟩⟩
  · unfold FX5_plan
    refine bS (gI_mk (okSt hj (by decide)) b w1) ?_
    rw [hsv 0 (by decide)]
    refine bS (sI_5_34_2 b _ _) ?_
    refine bS (sI_5_34_3 b _ _) ?_
    refine bS (sI_5_34_4 b _ _) ?_
    refine bS (sI_5_34_5 b _ _) ?_
    show (rc [6] (mk b (pl5 w1 (sv 0))) (b + j) (FX6_isOver (mk b (pl5 w1 (sv 0))) (b + j))).bind _ = _
    rw [rc_mk (okStO hj), over_mk (d := d) hj (by rw [pl5_j _ _ hj, hsv 1 (by decide)]; exact ed) (by omega) (by rw [pl5_j _ _ hj, hsv 5 (by decide)]; exact hf), pl5_j _ _ hj, hsv 5 (by decide), if_pos hov, Option.bind_some, if_neg (by decide)]
    exact bS (sI_5_34_1 b _ _) rfl
  · rw [Nat.xor_self]; rfl
  · rw [Nat.xor_self, prS_0]; rfl
  · unfold FX12_tells
    refine bS (gI_12_77_7 b _) ?_
    have q0 : w2.1 77 7 = sv 0 := hsv 0 (by decide)
    have q5 : (pl3 w2 (sv 0)).1 77 12 = sv 5 := hsv 5 (by decide)
    have q1 : (pl3 w2 (sv 0)).1 77 8 = sv 1 := hsv 1 (by decide)
    rw [q0]
    refine bS (sI_12_77_45 b _ _) ?_
    refine bS (sI_12_77_47 b _ _) ?_
    show (gI [12] 12 (mk b (pl3 w2 (sv 0))) (b + 77)).bind _ = _
    refine bS (gI_12_77_12 b _) ?_
    rw [q5]
    by_cases q : sv 5 = 1
    · rw [if_pos q]
      rfl
    · rw [if_neg q]
      show (gI [12] 8 (mk b (pl3 w2 (sv 0))) (b + 77)).bind _ = _
      refine bS (gI_12_77_8 b _) ?_
      have q8 : sv 1 = 8640 := by
        rcases ho with z | z
        · exact absurd z q
        · exact z
      rw [q1, if_pos q8]
      rfl
end
