/-! the class tries rows -/
def hPI (d j k : Nat) : Bool := fPI j k && !(decide (45 + d < j) && decide (j ≤ 50))
def gPI (d j k : Nat) : Bool := hPI d j k && !(j == 34 && k == 6)
def gPA (j : Nat) : Bool := fPA j && !(j == 42 || j == 43)
theorem eN_h (d j k : Nat) (h : eN j k = true) : hPI d j k = true := by
  unfold hPI
  rw [eN_f j k h, Bool.true_and]
  by_cases e : 45 ≤ j ∧ j ≤ 50
  · have hj : j = 45 ∨ j = 46 ∨ j = 47 ∨ j = 48 ∨ j = 49 ∨ j = 50 := by omega
    rcases hj with rfl | rfl | rfl | rfl | rfl | rfl <;> cases h
  · have : (decide (45 + d < j) && decide (j ≤ 50)) = false := by
      rw [Bool.and_eq_false_iff, decide_eq_false_iff_not, decide_eq_false_iff_not]
      omega
    rw [this]
    rfl
theorem eN_g (d j k : Nat) (h : eN j k = true) : gPI d j k = true := by
  unfold gPI
  rw [eN_h d j k h, Bool.true_and]
  by_cases e : j = 34
  · subst e; cases h
  · rw [beq_eq_false_iff_ne.mpr e]
    rfl
theorem eA_g (j : Nat) (h : eA j = true) : gPA j = true := by
  unfold eA at h
  rw [List.contains_iff_mem] at h
  simp only [List.mem_cons, List.not_mem_nil, or_false] at h
  rcases h with h | h | h | h | h | h | h | h | h | h | h | h | h | h | h | h | h | h | h | h | h | h | h | h <;> subst h <;> rfl
theorem gPI_s (d j k : Nat) (h : gPI d j k = true) : gPI (d + 1) j k = true := by
  unfold gPI hPI at *
  simp only [Bool.and_eq_true, Bool.not_eq_true', Bool.and_eq_false_iff, decide_eq_false_iff_not] at *
  refine ⟨⟨h.1.1, ?_⟩, h.2⟩
  rcases h.1.2 with q | q
  · left; omega
  · right; exact q
theorem gPI_h (d j k : Nat) (h : gPI d j k = true) : hPI d j k = true := (Bool.and_eq_true_iff.mp h).1
theorem hPI_f (d j k : Nat) (h : hPI d j k = true) : fPI j k = true := (Bool.and_eq_true_iff.mp h).1
theorem gPA_f (j : Nat) (h : gPA j = true) : fPA j = true := (Bool.and_eq_true_iff.mp h).1
abbrev frO (d : Nat) : WD → WD → Prop := simP (gPI d) gPA aL
theorem frO_env {d : Nat} {w w' : WD} (s : frO d w w') : env w w' := sP_mono s (eN_g d) eA_g (fun _ _ => rfl)
section
variable {b : Nat} {w : WD}
theorem take_mk {i j : Nat} (hi : SJ i) (hj : SJ j) (hne : i ≠ j) (h5 : w.1 j 5 = 0 ∨ w.1 j 5 = 1) : ∃ w', FX6_take (mk b w) (b + i) (b + j) = some (mk b w') ∧ (∀ k, k < 6 → w'.1 i k = w.1 j k) ∧ (∀ j', j' ≠ i → ∀ k, w'.1 j' k = w.1 j' k) ∧ w'.2 = w.2 := by
  refine ⟨uI (uI (uI (uI (uI (uI w i 0 (w.1 j 0)) i 1 (w.1 j 1)) i 2 (w.1 j 2)) i 3 (w.1 j 3)) i 4 (w.1 j 4)) i 5 (w.1 j 5), ?_, ?_, ?_, rfl⟩
  · have n : ∀ {k k' : Nat}, ¬ (j = i ∧ k = k') := fun q => hne q.1.symm
    unfold FX6_take
    refine bS (gI_mk (okSt hj (by decide)) b w) ?_
    refine bS (sI_mk (okSt hi (by decide)) b _ _) ?_
    refine bS (gI_mk (okSt hj (by decide)) b _) ?_
    rw [uI_ne _ _ n]
    refine bS (sI_mk (okSt hi (by decide)) b _ _) ?_
    refine bS (gI_mk (okSt hj (by decide)) b _) ?_
    rw [uI_ne _ _ n, uI_ne _ _ n]
    refine bS (sI_mk (okSt hi (by decide)) b _ _) ?_
    refine bS (gI_mk (okSt hj (by decide)) b _) ?_
    rw [uI_ne _ _ n, uI_ne _ _ n, uI_ne _ _ n]
    refine bS (sI_mk (okSt hi (by decide)) b _ _) ?_
    refine bS (gI_mk (okSt hj (by decide)) b _) ?_
    rw [uI_ne _ _ n, uI_ne _ _ n, uI_ne _ _ n, uI_ne _ _ n]
    refine bS (sI_mk (okSt hi (by decide)) b _ _) ?_
    refine bS (gI_mk (okSt hj (by decide)) b _) ?_
    rw [uI_ne _ _ n, uI_ne _ _ n, uI_ne _ _ n, uI_ne _ _ n, uI_ne _ _ n]
    exact bS (sZ_mk (okSt hi (by decide)) b _ h5) rfl
  · intro k hk
    have hk : k = 0 ∨ k = 1 ∨ k = 2 ∨ k = 3 ∨ k = 4 ∨ k = 5 := by omega
    simp only [uI_rd, true_and]
    rcases hk with rfl | rfl | rfl | rfl | rfl | rfl <;> rfl
  · intro j' hj' k
    rw [uI_ne _ _ (fun q => hj' q.1), uI_ne _ _ (fun q => hj' q.1), uI_ne _ _ (fun q => hj' q.1), uI_ne _ _ (fun q => hj' q.1), uI_ne _ _ (fun q => hj' q.1), uI_ne _ _ (fun q => hj' q.1)]
theorem isGr_mk {G : TG} (hG : Gok b w G) {w1 : WD} (s1 : env w w1) {sv : SV} (hv : okSv sv) {d : Nat} (hd : d < 5) {k : Nat} (hk : k < 8) (ht : ∀ i, i < 6 → w1.1 (45 + d) i = sv i) :
    (stG G sv k = none ∧ ∃ w2, FX5_isGranted (mk b w1) (b + 34) (nI d) (nI k) = some (0, mk b w2) ∧ frP w1 w2) ∨ ∃ z w2, stG G sv k = some z ∧ FX5_isGranted (mk b w1) (b + 34) (nI d) (nI k) = some (1, mk b w2) ∧ simP (hPI d) fPA aL w1 w2 ∧ w2.1 34 1 = nI z.1 ∧ ∀ i, i < 6 → w2.1 (45 + (d + 1)) i = z.2 i := by
  have hj : SJ (45 + d) := Or.inr ⟨by omega, by omega⟩
  have hj1 : SJ (45 + (d + 1)) := Or.inr ⟨by omega, by omega⟩
  have ra : ∀ (w' : WD) (i : Nat), i < 6 → rdA 5 (mk b w') (b + 44) (nI i) = some (b + (45 + i)) := fun w' i hi => by
    rw [rdA_mk (t := 5) (j := 44) (n := 6) (by decide +kernel) (by decide) b w' hi]
  obtain ⟨⟨⟨t, s0, ht0, es0, hs0, etg, hC⟩, _, hb⟩, _⟩ := hG sv k hv hk
  obtain ⟨w2, p1, p2, p3, p4, p5, p6, p7⟩ := hC w1 s1 (45 + d) hj ht
  have pre : FX5_isGranted (mk b w1) (b + 34) (nI d) (nI k) = if 0 ≤ (G sv k).1 then (gR [5] 12 (mk b w2) (b + 34)).bind (fun v5 => (rdA 5 (mk b w2) v5 (nI d + (1 : Int32))).bind (fun v6 => (gR [5] 12 (mk b w2) (b + 34)).bind (fun v7 => (rdA 5 (mk b w2) v7 (nI d)).bind (fun v8 => (rc [6] (mk b w2) v6 (FX6_take (mk b w2) v6 v8)).bind (fun w9 => (gR [5] 12 w9 (b + 34)).bind (fun v10 => (rdA 5 w9 v10 (nI d + (1 : Int32))).bind (fun v11 => (rc [5] w9 (b + 34) (FX5_grant w9 (b + 34) v11 (nI k))).bind (fun w12 => some ((1 : Int32), w12))))))))) else some ((0 : Int32), mk b w2) := by
    unfold FX5_isGranted
    rw [if_neg (nI_pos (by omega)), if_pos (show nI d < (5 : Int32) from nI_lt (a := d) (b := 5) hd (by decide)), gR_5_34_12, Option.bind_some, ra w1 d (by omega), Option.bind_some, rc_5_34, p1, Option.bind_some, gI_5_34_1, Option.bind_some, p3]
  by_cases hp : 0 ≤ (G sv k).1
  · right
    rw [if_pos hp] at pre
    have hz : stG G sv k = some (dyN (G sv k).1, grS sv (G sv k).1 (G sv k).2.1 (G sv k).2.2 k) := if_pos hp
    have hsv2 : ∀ i, i < 6 → w2.1 (45 + d) i = sv i := fun i hi => (p2.1 (45 + d) i ((by decide : ∀ d, d < 5 → ∀ i, i < 6 → fPI (45 + d) i = true) d hd i hi)).trans (ht i hi)
    obtain ⟨w3, t1, t2, t3, t4⟩ := take_mk (b := b) (w := w2) hj1 hj (by omega) (by rw [hsv2 5 (by decide)]; exact hv.2.2.2.1)
    have hsv3 : ∀ i, i < 6 → w3.1 (45 + (d + 1)) i = sv i := fun i hi => (t2 i hi).trans (hsv2 i hi)
    have h34 : ∀ i, w3.1 34 i = w2.1 34 i := t3 34 (by omega)
    have hs3 : simP (hPI d) fPA aL w2 w3 := by
      refine ⟨fun j i q => t3 j ?_ i, fun j _ => by rw [t4], fun j _ => by rw [t4], by rw [t4]⟩
      intro e
      subst e
      unfold hPI at q
      rw [decide_eq_true (show 45 + d < 45 + (d + 1) by omega), decide_eq_true (show 45 + (d + 1) ≤ 50 by omega)] at q
      simp at q
    have hg := grant_mk (b := b) (k := k) hj1 hsv3 ((h34 1).trans p3) ((h34 2).trans p4) ((h34 5).trans p7)
    refine ⟨_, _, hz, ?_, sP_trans (sP_trans (sP_mono p2 (fun j i q => hPI_f d j i q) (fun _ q => q) (fun _ q => q)) hs3) (grW_sim _ _ _ _ _ _ (fun i hi => ?_)), ?_, grW_at w3 hsv3 _ _ _ k⟩
    · rw [pre, gR_5_34_12, Option.bind_some, nI_1, ra w2 (d + 1) (by omega), Option.bind_some, Option.bind_some, ra w2 d (by omega), Option.bind_some, rc_mk (okStO hj1), t1, Option.bind_some, gR_5_34_12, Option.bind_some, ra w3 (d + 1) (by omega), Option.bind_some, rc_5_34, hg, Option.bind_some]
    · unfold hPI
      rw [decide_eq_true (show 45 + d < 45 + (d + 1) by omega), decide_eq_true (show 45 + (d + 1) ≤ 50 by omega)]
      simp
    · rw [grW_ne _ _ _ _ _ _ (by omega), h34, p3]
      exact (stG_ok hG hv hk hz).2.2.1
  · left
    rw [if_neg hp] at pre
    exact ⟨if_neg hp, w2, pre, p2⟩
end
