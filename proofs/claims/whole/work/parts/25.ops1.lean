/-! calls: fact, days, keep, undo, drop, copy -/
theorem isFact_y {k : Nat} (hk : k < 10) : FX11_isFact (nI k) = some 1 := by
  unfold FX11_isFact
  rw [if_neg (nI_pos (by omega)), if_neg (Lnle hk)]
theorem isFact_n {x : Int32} (h : ¬ ∃ k, k < 10 ∧ x = nI k) : FX11_isFact x = some 0 := by
  unfold FX11_isFact
  rcases ix_out (n := 10) (by decide) h with e | ⟨e1, e2⟩
  · rw [if_pos e]
  · rw [if_neg e1, if_pos e2]
theorem in_n {x : Int32} {n : Nat} (h : ¬ ∃ k, k < n + 1 ∧ x = nI k) (hn : n < 2 ^ 31 := by decide) : FX12_in x 0 (OfNat.ofNat n) = some 0 := in_no (a := 0) (fun ⟨k, _, h2, h3⟩ => h ⟨k, by omega, h3⟩) (by decide) hn
theorem in_y {n k : Nat} (h : k < n + 1) (hn : n < 2 ^ 31 := by decide) : FX12_in (nI k) 0 (OfNat.ofNat n) = some 1 := in_yes (Nat.zero_le k) (by omega) hn
theorem st_of {w : WD} {j m : Nat} (h0 : w.1 j 0 = w.1 77 m) (h1 : w.1 j 1 = w.1 77 (m + 1)) (h2 : w.1 j 2 = w.1 77 (m + 2)) (h3 : w.1 j 3 = w.1 77 (m + 3)) (h4 : w.1 j 4 = w.1 77 (m + 4)) (h5 : w.1 j 5 = w.1 77 (m + 5)) (g0 : sm (w.1 77 m) 1024) (g1 : sm (w.1 77 (m + 1)) 8641) (g2 : sm (w.1 77 (m + 2)) 10000) (g4 : sm (w.1 77 (m + 4)) 256) (g5 : w.1 77 (m + 5) = 0 ∨ w.1 77 (m + 5) = 1) : R_st w j m := by
  refine ⟨fun k hk => ?_, g0, g1, g2, g4, g5⟩
  rcases (show k = 0 ∨ k = 1 ∨ k = 2 ∨ k = 3 ∨ k = 4 ∨ k = 5 by omega) with rfl | rfl | rfl | rfl | rfl | rfl
  · exact h0
  · exact h1
  · exact h2
  · exact h3
  · exact h4
  · exact h5
theorem mn_min (x y : Int32) : FX12_min x y = some (mnI x y) := by
  unfold FX12_min mnI
  by_cases h : y < x
  · rw [if_pos h, if_pos ((fa_of_lt h).1)]
  · rw [if_neg h]
    by_cases e : y ≤ x
    · rw [if_pos e]
      have h1 := fa_of_nlt h
      rw [fa_le] at h1 e
      rw [(fa_eq x y).mpr (by omega)]
    · rw [if_neg e]
theorem mx_max (x y : Int32) : FX12_max x y = some (mxI x y) := by
  unfold FX12_max mxI
  by_cases h : x < y
  · rw [if_pos h, if_pos ((fa_of_lt h).1)]
  · rw [if_neg h]
    by_cases e : x ≤ y
    · rw [if_pos e]
      have h1 := fa_of_nlt h
      rw [fa_le] at h1 e
      rw [(fa_eq x y).mpr (by omega)]
    · rw [if_neg e]
theorem mn_nI {a c : Nat} (ha : a < 2 ^ 31) (hc : c < 2 ^ 31) : mnI (nI a) (nI c) = nI (min a c) := by
  unfold mnI
  by_cases h : c < a
  · rw [if_pos (nI_lt h ha), Nat.min_eq_right (by omega)]
  · rw [if_neg (nI_nlt (by omega) hc), Nat.min_eq_left (by omega)]
theorem mx_nI {a c : Nat} (ha : a < 2 ^ 31) (hc : c < 2 ^ 31) : mxI (nI a) (nI c) = nI (max a c) := by
  unfold mxI
  by_cases h : a < c
  · rw [if_pos (nI_lt h hc), Nat.max_eq_right (by omega)]
  · rw [if_neg (nI_nlt (by omega) ha), Nat.max_eq_left (by omega)]
section
variable {RL : WD → Prop} {b : Nat} {w : WD}
theorem OPi {X : Type} {f g : HP → Option (X × HP)} {r : X} {w1 w2 : WD} (hf : f (mk b w) = some (r, mk b w1)) (hg : g (mk b w1) = some (r, mk b w2)) (hR : Rel RL w2) : OP RL b w f g := ⟨r, w1, w2, hf, hg, hR⟩
theorem Rel.tab (h : Rel RL w) : R_tab w := h.2.1
theorem Rel.now (h : Rel RL w) : R_st w 68 7 := h.2.2.1
theorem Rel.kept (h : Rel RL w) : R_st w 69 59 := h.2.2.2.1
theorem Rel.int (h : Rel RL w) : R_int w := h.2.2.2.2.1
theorem Rel.tape (h : Rel RL w) : R_tape w := h.2.2.2.2.2.1
theorem Rel.price (h : Rel RL w) : R_price w := h.2.2.2.2.2.2.1
theorem op_fact (hRL : LOK RL) (h : Rel RL w) (x y : Int32) : OP RL b w (fun hp => FX11_fact hp (b + 0) x y) (fun hp => FX12_fact hp (b + 77) x y) := by
  by_cases e : ∃ k, k < 10 ∧ x = nI k
  · obtain ⟨k, hk, rfl⟩ := e
    obtain ⟨s0, s1, s2, s3, s4, s5⟩ := h.now
    have e0 : w.1 68 0 = w.1 77 7 := s0 0 (by decide)
    obtain ⟨n, hn, en⟩ := s1
    have key : ∀ v, sm v 1024 → Rel RL (uI (uI w 68 0 v) 77 7 v) := fun v hv => by
      refine Rel_now hRL h (sP_trans (sP_uI w v rfl) (sP_uI _ v rfl)) ?_
      exact st_of rfl (s0 1 (by decide)) (s0 2 (by decide)) (s0 3 (by decide)) (s0 4 (by decide)) (s0 5 (by decide)) hv s2 s3 s4 s5
    by_cases e2 : y = 0
    · refine OPi (r := 1) (w1 := uI w 68 0 (w.1 77 7 &&& (((1 : Int32) <<< (nI k &&& 31)) ^^^ (-1)))) ?_ ?_ (key (w.1 77 7 &&& (((1 : Int32) <<< (nI k &&& 31)) ^^^ (-1))) ?_)
      · try dsimp only
        unfold FX11_fact
        simp only [isFact_y hk, Option.bind_some, vl_eq, jn_eq, rc_11_0, gR_11_0_0, gR_11_0_1, gR_11_0_2, gR_11_0_3, gR_11_0_4, gR_11_0_5, gR_11_0_6, gR_11_0_7, gR_11_0_8, gR_11_0_9, gR_11_0_10, gR_11_0_11, gR_11_0_12, gR_11_0_13, gI_11_0_14, sI_11_0_14, rc_8_1, gR_8_1_0, gI_8_1_1, sI_8_1_1, rc_1_3, gR_1_3_0, gI_1_3_1, sI_1_3_1, gI_1_3_2, sI_1_3_2, gI_1_3_3, sI_1_3_3, gR_1_3_4, gI_1_3_5, sI_1_3_5, rc_1_2_3, gR_1_2_3_0, gI_1_2_3_1, sI_1_2_3_1, gI_1_2_3_2, sI_1_2_3_2, gI_1_2_3_3, sI_1_2_3_3, gR_1_2_3_4, gI_1_2_3_5, sI_1_2_3_5, rc_0_5, gR_0_5_0, gI_0_5_1, sI_0_5_1, rc_0_15, gR_0_15_0, gI_0_15_1, sI_0_15_1, rc_3_25, gR_3_25_0, gR_3_25_1, gR_3_25_2, gR_3_25_3, rc_5_34, gI_5_34_1, sI_5_34_1, gI_5_34_2, sI_5_34_2, gI_5_34_3, sI_5_34_3, gI_5_34_4, sI_5_34_4, gI_5_34_5, sI_5_34_5, gI_5_34_6, sI_5_34_6, gR_5_34_7, gR_5_34_8, gR_5_34_9, gR_5_34_10, gR_5_34_11, gR_5_34_12, rc_10_51, gI_10_51_0, sI_10_51_0, gI_10_51_1, sI_10_51_1, gI_10_51_2, sI_10_51_2, gR_10_51_3, rc_9_64, gR_9_64_0, gR_9_64_1, gR_9_64_2, rc_6_68, gI_6_68_0, sI_6_68_0, gI_6_68_1, sI_6_68_1, gI_6_68_2, sI_6_68_2, gI_6_68_3, sI_6_68_3, gI_6_68_4, sI_6_68_4, gI_6_68_5, sI_6_68_5, rc_6_69, gI_6_69_0, sI_6_69_0, gI_6_69_1, sI_6_69_1, gI_6_69_2, sI_6_69_2, gI_6_69_3, sI_6_69_3, gI_6_69_4, sI_6_69_4, gI_6_69_5, sI_6_69_5, if_pos e2, e0]
        rfl
      · try dsimp only
        unfold FX12_fact
        simp only [in_y hk, Option.bind_some, vl_eq, jn_eq, rc_12_77, gR_12_77_0, gR_12_77_1, gR_12_77_2, gR_12_77_3, gR_12_77_4, gI_12_77_5, sI_12_77_5, gI_12_77_6, sI_12_77_6, gI_12_77_7, sI_12_77_7, gI_12_77_8, sI_12_77_8, gI_12_77_9, sI_12_77_9, gI_12_77_10, sI_12_77_10, gI_12_77_11, sI_12_77_11, gI_12_77_12, sI_12_77_12, gR_12_77_13, gI_12_77_14, sI_12_77_14, gI_12_77_15, sI_12_77_15, gI_12_77_16, sI_12_77_16, gI_12_77_17, sI_12_77_17, gI_12_77_18, sI_12_77_18, gI_12_77_19, sI_12_77_19, gI_12_77_20, sI_12_77_20, gI_12_77_21, sI_12_77_21, gI_12_77_22, sI_12_77_22, gI_12_77_23, sI_12_77_23, gR_12_77_24, gR_12_77_25, gR_12_77_26, gR_12_77_27, gR_12_77_28, gR_12_77_29, gR_12_77_30, gR_12_77_31, gR_12_77_32, gR_12_77_33, gR_12_77_34, gR_12_77_35, gR_12_77_36, gR_12_77_37, gR_12_77_38, gR_12_77_39, gI_12_77_40, sI_12_77_40, gI_12_77_41, sI_12_77_41, gI_12_77_42, sI_12_77_42, gI_12_77_43, sI_12_77_43, gR_12_77_44, gI_12_77_45, sI_12_77_45, gI_12_77_46, sI_12_77_46, gI_12_77_47, sI_12_77_47, gI_12_77_48, sI_12_77_48, gI_12_77_49, sI_12_77_49, gI_12_77_50, sI_12_77_50, gI_12_77_51, sI_12_77_51, gI_12_77_52, sI_12_77_52, gI_12_77_53, sI_12_77_53, gR_12_77_54, gR_12_77_55, gR_12_77_56, gR_12_77_57, gR_12_77_58, gI_12_77_59, sI_12_77_59, gI_12_77_60, sI_12_77_60, gI_12_77_61, sI_12_77_61, gI_12_77_62, sI_12_77_62, gI_12_77_63, sI_12_77_63, gI_12_77_64, sI_12_77_64, gI_12_77_65, sI_12_77_65, if_pos e2]
        rfl
      · rw [en]
        exact and_small (k := 10) hn _
    · refine OPi (r := 1) (w1 := uI w 68 0 (w.1 77 7 ||| ((1 : Int32) <<< (nI k &&& 31)))) ?_ ?_ (key (w.1 77 7 ||| ((1 : Int32) <<< (nI k &&& 31))) ?_)
      · try dsimp only
        unfold FX11_fact
        simp only [isFact_y hk, Option.bind_some, vl_eq, jn_eq, rc_11_0, gR_11_0_0, gR_11_0_1, gR_11_0_2, gR_11_0_3, gR_11_0_4, gR_11_0_5, gR_11_0_6, gR_11_0_7, gR_11_0_8, gR_11_0_9, gR_11_0_10, gR_11_0_11, gR_11_0_12, gR_11_0_13, gI_11_0_14, sI_11_0_14, rc_8_1, gR_8_1_0, gI_8_1_1, sI_8_1_1, rc_1_3, gR_1_3_0, gI_1_3_1, sI_1_3_1, gI_1_3_2, sI_1_3_2, gI_1_3_3, sI_1_3_3, gR_1_3_4, gI_1_3_5, sI_1_3_5, rc_1_2_3, gR_1_2_3_0, gI_1_2_3_1, sI_1_2_3_1, gI_1_2_3_2, sI_1_2_3_2, gI_1_2_3_3, sI_1_2_3_3, gR_1_2_3_4, gI_1_2_3_5, sI_1_2_3_5, rc_0_5, gR_0_5_0, gI_0_5_1, sI_0_5_1, rc_0_15, gR_0_15_0, gI_0_15_1, sI_0_15_1, rc_3_25, gR_3_25_0, gR_3_25_1, gR_3_25_2, gR_3_25_3, rc_5_34, gI_5_34_1, sI_5_34_1, gI_5_34_2, sI_5_34_2, gI_5_34_3, sI_5_34_3, gI_5_34_4, sI_5_34_4, gI_5_34_5, sI_5_34_5, gI_5_34_6, sI_5_34_6, gR_5_34_7, gR_5_34_8, gR_5_34_9, gR_5_34_10, gR_5_34_11, gR_5_34_12, rc_10_51, gI_10_51_0, sI_10_51_0, gI_10_51_1, sI_10_51_1, gI_10_51_2, sI_10_51_2, gR_10_51_3, rc_9_64, gR_9_64_0, gR_9_64_1, gR_9_64_2, rc_6_68, gI_6_68_0, sI_6_68_0, gI_6_68_1, sI_6_68_1, gI_6_68_2, sI_6_68_2, gI_6_68_3, sI_6_68_3, gI_6_68_4, sI_6_68_4, gI_6_68_5, sI_6_68_5, rc_6_69, gI_6_69_0, sI_6_69_0, gI_6_69_1, sI_6_69_1, gI_6_69_2, sI_6_69_2, gI_6_69_3, sI_6_69_3, gI_6_69_4, sI_6_69_4, gI_6_69_5, sI_6_69_5, if_neg e2, e0]
        rfl
      · try dsimp only
        unfold FX12_fact
        simp only [in_y hk, Option.bind_some, vl_eq, jn_eq, rc_12_77, gR_12_77_0, gR_12_77_1, gR_12_77_2, gR_12_77_3, gR_12_77_4, gI_12_77_5, sI_12_77_5, gI_12_77_6, sI_12_77_6, gI_12_77_7, sI_12_77_7, gI_12_77_8, sI_12_77_8, gI_12_77_9, sI_12_77_9, gI_12_77_10, sI_12_77_10, gI_12_77_11, sI_12_77_11, gI_12_77_12, sI_12_77_12, gR_12_77_13, gI_12_77_14, sI_12_77_14, gI_12_77_15, sI_12_77_15, gI_12_77_16, sI_12_77_16, gI_12_77_17, sI_12_77_17, gI_12_77_18, sI_12_77_18, gI_12_77_19, sI_12_77_19, gI_12_77_20, sI_12_77_20, gI_12_77_21, sI_12_77_21, gI_12_77_22, sI_12_77_22, gI_12_77_23, sI_12_77_23, gR_12_77_24, gR_12_77_25, gR_12_77_26, gR_12_77_27, gR_12_77_28, gR_12_77_29, gR_12_77_30, gR_12_77_31, gR_12_77_32, gR_12_77_33, gR_12_77_34, gR_12_77_35, gR_12_77_36, gR_12_77_37, gR_12_77_38, gR_12_77_39, gI_12_77_40, sI_12_77_40, gI_12_77_41, sI_12_77_41, gI_12_77_42, sI_12_77_42, gI_12_77_43, sI_12_77_43, gR_12_77_44, gI_12_77_45, sI_12_77_45, gI_12_77_46, sI_12_77_46, gI_12_77_47, sI_12_77_47, gI_12_77_48, sI_12_77_48, gI_12_77_49, sI_12_77_49, gI_12_77_50, sI_12_77_50, gI_12_77_51, sI_12_77_51, gI_12_77_52, sI_12_77_52, gI_12_77_53, sI_12_77_53, gR_12_77_54, gR_12_77_55, gR_12_77_56, gR_12_77_57, gR_12_77_58, gI_12_77_59, sI_12_77_59, gI_12_77_60, sI_12_77_60, gI_12_77_61, sI_12_77_61, gI_12_77_62, sI_12_77_62, gI_12_77_63, sI_12_77_63, gI_12_77_64, sI_12_77_64, gI_12_77_65, sI_12_77_65, if_neg e2]
        rfl
      · rw [en, shl1 k (by omega)]
        exact or_small (k := 10) hn (p2_lt hk)
  · refine ⟨0, w, w, ?_, ?_, h⟩
    · try dsimp only
      unfold FX11_fact
      rw [isFact_n e]
      rfl
    · try dsimp only
      unfold FX12_fact
      rw [in_n e]
      rfl
theorem op_days (hRL : LOK RL) (h : Rel RL w) (x : Int32) : OP RL b w (fun hp => FX11_days hp (b + 0) x) (fun hp => FX12_days hp (b + 77) x) := by
  by_cases e : ∃ k, 1 ≤ k ∧ k ≤ 8640 ∧ x = nI k
  · obtain ⟨k, hk1, hk, rfl⟩ := e
    obtain ⟨s0, s1, s2, s3, s4, s5⟩ := h.now
    have e1 : w.1 68 1 = w.1 77 8 := s0 1 (by decide)
    obtain ⟨d, hd, ed⟩ := s2
    have ed : w.1 77 8 = nI d := ed
    refine ⟨nI (min 8640 (d + k)), uI w 68 1 (nI (min 8640 (d + k))), uI (uI w 68 1 (nI (min 8640 (d + k)))) 77 8 (nI (min 8640 (d + k))), ?_, ?_, ?_⟩
    · try dsimp only
      unfold FX11_days FX6_passDays
      rw [if_neg (Rnlt hk1 (by omega)), if_pos (Rle hk)]
      simp only [Option.bind_some, vl_eq, jn_eq, rc_11_0, gR_11_0_0, gR_11_0_1, gR_11_0_2, gR_11_0_3, gR_11_0_4, gR_11_0_5, gR_11_0_6, gR_11_0_7, gR_11_0_8, gR_11_0_9, gR_11_0_10, gR_11_0_11, gR_11_0_12, gR_11_0_13, gI_11_0_14, sI_11_0_14, rc_8_1, gR_8_1_0, gI_8_1_1, sI_8_1_1, rc_1_3, gR_1_3_0, gI_1_3_1, sI_1_3_1, gI_1_3_2, sI_1_3_2, gI_1_3_3, sI_1_3_3, gR_1_3_4, gI_1_3_5, sI_1_3_5, rc_1_2_3, gR_1_2_3_0, gI_1_2_3_1, sI_1_2_3_1, gI_1_2_3_2, sI_1_2_3_2, gI_1_2_3_3, sI_1_2_3_3, gR_1_2_3_4, gI_1_2_3_5, sI_1_2_3_5, rc_0_5, gR_0_5_0, gI_0_5_1, sI_0_5_1, rc_0_15, gR_0_15_0, gI_0_15_1, sI_0_15_1, rc_3_25, gR_3_25_0, gR_3_25_1, gR_3_25_2, gR_3_25_3, rc_5_34, gI_5_34_1, sI_5_34_1, gI_5_34_2, sI_5_34_2, gI_5_34_3, sI_5_34_3, gI_5_34_4, sI_5_34_4, gI_5_34_5, sI_5_34_5, gI_5_34_6, sI_5_34_6, gR_5_34_7, gR_5_34_8, gR_5_34_9, gR_5_34_10, gR_5_34_11, gR_5_34_12, rc_10_51, gI_10_51_0, sI_10_51_0, gI_10_51_1, sI_10_51_1, gI_10_51_2, sI_10_51_2, gR_10_51_3, rc_9_64, gR_9_64_0, gR_9_64_1, gR_9_64_2, rc_6_68, gI_6_68_0, sI_6_68_0, gI_6_68_1, sI_6_68_1, gI_6_68_2, sI_6_68_2, gI_6_68_3, sI_6_68_3, gI_6_68_4, sI_6_68_4, gI_6_68_5, sI_6_68_5, rc_6_69, gI_6_69_0, sI_6_69_0, gI_6_69_1, sI_6_69_1, gI_6_69_2, sI_6_69_2, gI_6_69_3, sI_6_69_3, gI_6_69_4, sI_6_69_4, gI_6_69_5, sI_6_69_5, e1, ed, nI_add]
      rw [fa_lit 8640, mn_nI (by decide) (by omega)]
      rfl
    · try dsimp only
      unfold FX12_days
      rw [in_yes hk1 hk]
      simp only [Option.bind_some, vl_eq, jn_eq, rc_12_77, gR_12_77_0, gR_12_77_1, gR_12_77_2, gR_12_77_3, gR_12_77_4, gI_12_77_5, sI_12_77_5, gI_12_77_6, sI_12_77_6, gI_12_77_7, sI_12_77_7, gI_12_77_8, sI_12_77_8, gI_12_77_9, sI_12_77_9, gI_12_77_10, sI_12_77_10, gI_12_77_11, sI_12_77_11, gI_12_77_12, sI_12_77_12, gR_12_77_13, gI_12_77_14, sI_12_77_14, gI_12_77_15, sI_12_77_15, gI_12_77_16, sI_12_77_16, gI_12_77_17, sI_12_77_17, gI_12_77_18, sI_12_77_18, gI_12_77_19, sI_12_77_19, gI_12_77_20, sI_12_77_20, gI_12_77_21, sI_12_77_21, gI_12_77_22, sI_12_77_22, gI_12_77_23, sI_12_77_23, gR_12_77_24, gR_12_77_25, gR_12_77_26, gR_12_77_27, gR_12_77_28, gR_12_77_29, gR_12_77_30, gR_12_77_31, gR_12_77_32, gR_12_77_33, gR_12_77_34, gR_12_77_35, gR_12_77_36, gR_12_77_37, gR_12_77_38, gR_12_77_39, gI_12_77_40, sI_12_77_40, gI_12_77_41, sI_12_77_41, gI_12_77_42, sI_12_77_42, gI_12_77_43, sI_12_77_43, gR_12_77_44, gI_12_77_45, sI_12_77_45, gI_12_77_46, sI_12_77_46, gI_12_77_47, sI_12_77_47, gI_12_77_48, sI_12_77_48, gI_12_77_49, sI_12_77_49, gI_12_77_50, sI_12_77_50, gI_12_77_51, sI_12_77_51, gI_12_77_52, sI_12_77_52, gI_12_77_53, sI_12_77_53, gR_12_77_54, gR_12_77_55, gR_12_77_56, gR_12_77_57, gR_12_77_58, gI_12_77_59, sI_12_77_59, gI_12_77_60, sI_12_77_60, gI_12_77_61, sI_12_77_61, gI_12_77_62, sI_12_77_62, gI_12_77_63, sI_12_77_63, gI_12_77_64, sI_12_77_64, gI_12_77_65, sI_12_77_65, mn_min]
      have e8 : (uI w 68 1 (nI (min 8640 (d + k)))).1 77 8 = nI d := ed
      rw [if_neg (by decide), e8, nI_add, fa_lit 8640, mn_nI (by decide) (by omega)]
      rfl
    · refine Rel_now hRL h (sP_trans (sP_uI w _ rfl) (sP_uI _ _ rfl)) ?_
      exact st_of (s0 0 (by decide)) rfl (s0 2 (by decide)) (s0 3 (by decide)) (s0 4 (by decide)) (s0 5 (by decide)) s1 ⟨min 8640 (d + k), by omega, rfl⟩ s3 s4 s5
  · refine ⟨-1, w, w, ?_, ?_, h⟩
    · try dsimp only
      unfold FX11_days
      by_cases q : x < 1
      · rw [if_pos q]
      · rw [if_neg q, if_neg (show ¬ x ≤ (8640 : Int32) from fun q2 => e (in_nat (a := 1) (b := 8640) (by decide) (fa_of_nlt q) q2 (by decide)))]
    · try dsimp only
      unfold FX12_days
      rw [in_no (a := 1) (c := 8640) e]
      rfl
theorem op_keep (hRL : LOK RL) (h : Rel RL w) : OP RL b w (fun hp => FX11_keep hp (b + 0)) (fun hp => FX12_keep hp (b + 77)) := by
  obtain ⟨s0, s1, s2, s3, s4, s5⟩ := h.now
  have e5 : w.1 68 5 = w.1 77 12 := s0 5 (by decide)
  apply OPi (r := w.1 77 8)
  · try dsimp only
    unfold FX11_keep FX6_take
    simp only [Option.bind_some, vl_eq, jn_eq, rc_11_0, gR_11_0_0, gR_11_0_1, gR_11_0_2, gR_11_0_3, gR_11_0_4, gR_11_0_5, gR_11_0_6, gR_11_0_7, gR_11_0_8, gR_11_0_9, gR_11_0_10, gR_11_0_11, gR_11_0_12, gR_11_0_13, gI_11_0_14, sI_11_0_14, rc_8_1, gR_8_1_0, gI_8_1_1, sI_8_1_1, rc_1_3, gR_1_3_0, gI_1_3_1, sI_1_3_1, gI_1_3_2, sI_1_3_2, gI_1_3_3, sI_1_3_3, gR_1_3_4, gI_1_3_5, sI_1_3_5, rc_1_2_3, gR_1_2_3_0, gI_1_2_3_1, sI_1_2_3_1, gI_1_2_3_2, sI_1_2_3_2, gI_1_2_3_3, sI_1_2_3_3, gR_1_2_3_4, gI_1_2_3_5, sI_1_2_3_5, rc_0_5, gR_0_5_0, gI_0_5_1, sI_0_5_1, rc_0_15, gR_0_15_0, gI_0_15_1, sI_0_15_1, rc_3_25, gR_3_25_0, gR_3_25_1, gR_3_25_2, gR_3_25_3, rc_5_34, gI_5_34_1, sI_5_34_1, gI_5_34_2, sI_5_34_2, gI_5_34_3, sI_5_34_3, gI_5_34_4, sI_5_34_4, gI_5_34_5, sI_5_34_5, gI_5_34_6, sI_5_34_6, gR_5_34_7, gR_5_34_8, gR_5_34_9, gR_5_34_10, gR_5_34_11, gR_5_34_12, rc_10_51, gI_10_51_0, sI_10_51_0, gI_10_51_1, sI_10_51_1, gI_10_51_2, sI_10_51_2, gR_10_51_3, rc_9_64, gR_9_64_0, gR_9_64_1, gR_9_64_2, rc_6_68, gI_6_68_0, sI_6_68_0, gI_6_68_1, sI_6_68_1, gI_6_68_2, sI_6_68_2, gI_6_68_3, sI_6_68_3, gI_6_68_4, sI_6_68_4, gI_6_68_5, sI_6_68_5, rc_6_69, gI_6_69_0, sI_6_69_0, gI_6_69_1, sI_6_69_1, gI_6_69_2, sI_6_69_2, gI_6_69_3, sI_6_69_3, gI_6_69_4, sI_6_69_4, gI_6_69_5, sI_6_69_5]
    rw [sZ_mk (j := 69) (by decide +kernel) b _ (by show w.1 68 5 = 0 ∨ w.1 68 5 = 1; rw [e5]; exact s5)]
    simp only [Option.bind_some, vl_eq, jn_eq, rc_11_0, gR_11_0_0, gR_11_0_1, gR_11_0_2, gR_11_0_3, gR_11_0_4, gR_11_0_5, gR_11_0_6, gR_11_0_7, gR_11_0_8, gR_11_0_9, gR_11_0_10, gR_11_0_11, gR_11_0_12, gR_11_0_13, gI_11_0_14, sI_11_0_14, rc_8_1, gR_8_1_0, gI_8_1_1, sI_8_1_1, rc_1_3, gR_1_3_0, gI_1_3_1, sI_1_3_1, gI_1_3_2, sI_1_3_2, gI_1_3_3, sI_1_3_3, gR_1_3_4, gI_1_3_5, sI_1_3_5, rc_1_2_3, gR_1_2_3_0, gI_1_2_3_1, sI_1_2_3_1, gI_1_2_3_2, sI_1_2_3_2, gI_1_2_3_3, sI_1_2_3_3, gR_1_2_3_4, gI_1_2_3_5, sI_1_2_3_5, rc_0_5, gR_0_5_0, gI_0_5_1, sI_0_5_1, rc_0_15, gR_0_15_0, gI_0_15_1, sI_0_15_1, rc_3_25, gR_3_25_0, gR_3_25_1, gR_3_25_2, gR_3_25_3, rc_5_34, gI_5_34_1, sI_5_34_1, gI_5_34_2, sI_5_34_2, gI_5_34_3, sI_5_34_3, gI_5_34_4, sI_5_34_4, gI_5_34_5, sI_5_34_5, gI_5_34_6, sI_5_34_6, gR_5_34_7, gR_5_34_8, gR_5_34_9, gR_5_34_10, gR_5_34_11, gR_5_34_12, rc_10_51, gI_10_51_0, sI_10_51_0, gI_10_51_1, sI_10_51_1, gI_10_51_2, sI_10_51_2, gR_10_51_3, rc_9_64, gR_9_64_0, gR_9_64_1, gR_9_64_2, rc_6_68, gI_6_68_0, sI_6_68_0, gI_6_68_1, sI_6_68_1, gI_6_68_2, sI_6_68_2, gI_6_68_3, sI_6_68_3, gI_6_68_4, sI_6_68_4, gI_6_68_5, sI_6_68_5, rc_6_69, gI_6_69_0, sI_6_69_0, gI_6_69_1, sI_6_69_1, gI_6_69_2, sI_6_69_2, gI_6_69_3, sI_6_69_3, gI_6_69_4, sI_6_69_4, gI_6_69_5, sI_6_69_5]
    rw [sZ_mk (j := 0) (by decide +kernel) b _ (by decide)]
    simp only [Option.bind_some, vl_eq, jn_eq, rc_11_0, gR_11_0_0, gR_11_0_1, gR_11_0_2, gR_11_0_3, gR_11_0_4, gR_11_0_5, gR_11_0_6, gR_11_0_7, gR_11_0_8, gR_11_0_9, gR_11_0_10, gR_11_0_11, gR_11_0_12, gR_11_0_13, gI_11_0_14, sI_11_0_14, rc_8_1, gR_8_1_0, gI_8_1_1, sI_8_1_1, rc_1_3, gR_1_3_0, gI_1_3_1, sI_1_3_1, gI_1_3_2, sI_1_3_2, gI_1_3_3, sI_1_3_3, gR_1_3_4, gI_1_3_5, sI_1_3_5, rc_1_2_3, gR_1_2_3_0, gI_1_2_3_1, sI_1_2_3_1, gI_1_2_3_2, sI_1_2_3_2, gI_1_2_3_3, sI_1_2_3_3, gR_1_2_3_4, gI_1_2_3_5, sI_1_2_3_5, rc_0_5, gR_0_5_0, gI_0_5_1, sI_0_5_1, rc_0_15, gR_0_15_0, gI_0_15_1, sI_0_15_1, rc_3_25, gR_3_25_0, gR_3_25_1, gR_3_25_2, gR_3_25_3, rc_5_34, gI_5_34_1, sI_5_34_1, gI_5_34_2, sI_5_34_2, gI_5_34_3, sI_5_34_3, gI_5_34_4, sI_5_34_4, gI_5_34_5, sI_5_34_5, gI_5_34_6, sI_5_34_6, gR_5_34_7, gR_5_34_8, gR_5_34_9, gR_5_34_10, gR_5_34_11, gR_5_34_12, rc_10_51, gI_10_51_0, sI_10_51_0, gI_10_51_1, sI_10_51_1, gI_10_51_2, sI_10_51_2, gR_10_51_3, rc_9_64, gR_9_64_0, gR_9_64_1, gR_9_64_2, rc_6_68, gI_6_68_0, sI_6_68_0, gI_6_68_1, sI_6_68_1, gI_6_68_2, sI_6_68_2, gI_6_68_3, sI_6_68_3, gI_6_68_4, sI_6_68_4, gI_6_68_5, sI_6_68_5, rc_6_69, gI_6_69_0, sI_6_69_0, gI_6_69_1, sI_6_69_1, gI_6_69_2, sI_6_69_2, gI_6_69_3, sI_6_69_3, gI_6_69_4, sI_6_69_4, gI_6_69_5, sI_6_69_5]
    show some (w.1 68 1, _) = some (w.1 77 8, _)
    rw [s0 1 (by decide)]
  · try dsimp only
    unfold FX12_keep
    rw [sZ_mk (j := 77) (by decide +kernel) b _ (by decide)]
    simp only [Option.bind_some, vl_eq, jn_eq, rc_12_77, gR_12_77_0, gR_12_77_1, gR_12_77_2, gR_12_77_3, gR_12_77_4, gI_12_77_5, sI_12_77_5, gI_12_77_6, sI_12_77_6, gI_12_77_7, sI_12_77_7, gI_12_77_8, sI_12_77_8, gI_12_77_9, sI_12_77_9, gI_12_77_10, sI_12_77_10, gI_12_77_11, sI_12_77_11, gI_12_77_12, sI_12_77_12, gR_12_77_13, gI_12_77_14, sI_12_77_14, gI_12_77_15, sI_12_77_15, gI_12_77_16, sI_12_77_16, gI_12_77_17, sI_12_77_17, gI_12_77_18, sI_12_77_18, gI_12_77_19, sI_12_77_19, gI_12_77_20, sI_12_77_20, gI_12_77_21, sI_12_77_21, gI_12_77_22, sI_12_77_22, gI_12_77_23, sI_12_77_23, gR_12_77_24, gR_12_77_25, gR_12_77_26, gR_12_77_27, gR_12_77_28, gR_12_77_29, gR_12_77_30, gR_12_77_31, gR_12_77_32, gR_12_77_33, gR_12_77_34, gR_12_77_35, gR_12_77_36, gR_12_77_37, gR_12_77_38, gR_12_77_39, gI_12_77_40, sI_12_77_40, gI_12_77_41, sI_12_77_41, gI_12_77_42, sI_12_77_42, gI_12_77_43, sI_12_77_43, gR_12_77_44, gI_12_77_45, sI_12_77_45, gI_12_77_46, sI_12_77_46, gI_12_77_47, sI_12_77_47, gI_12_77_48, sI_12_77_48, gI_12_77_49, sI_12_77_49, gI_12_77_50, sI_12_77_50, gI_12_77_51, sI_12_77_51, gI_12_77_52, sI_12_77_52, gI_12_77_53, sI_12_77_53, gR_12_77_54, gR_12_77_55, gR_12_77_56, gR_12_77_57, gR_12_77_58, gI_12_77_59, sI_12_77_59, gI_12_77_60, sI_12_77_60, gI_12_77_61, sI_12_77_61, gI_12_77_62, sI_12_77_62, gI_12_77_63, sI_12_77_63, gI_12_77_64, sI_12_77_64, gI_12_77_65, sI_12_77_65]
    rfl
  · obtain ⟨a1, a2, a3, a4, a5, a6, a7, a8⟩ := h
    refine ⟨a1, R_tab_of a2 rfl rfl rfl rfl (fun _ _ => rfl) (fun _ _ => rfl) rfl rfl rfl, ?_, ?_, ?_, R_tape_of a6 rfl rfl rfl rfl, R_price_of a7 rfl rfl rfl rfl rfl, ?_⟩
    · exact st_of (s0 0 (by decide)) (s0 1 (by decide)) (s0 2 (by decide)) (s0 3 (by decide)) (s0 4 (by decide)) (s0 5 (by decide)) s1 s2 s3 s4 s5
    · exact st_of (s0 0 (by decide)) (s0 1 (by decide)) (s0 2 (by decide)) (s0 3 (by decide)) (s0 4 (by decide)) (s0 5 (by decide)) s1 s2 s3 s4 s5
    · exact ⟨a5.1, a5.2.1, a5.2.2.1, a5.2.2.2.1, rfl, Or.inr rfl⟩
    · refine hRL w _ ?_ a8
      exact sP_trans (sP_uI w _ rfl) (sP_trans (sP_uI _ _ rfl) (sP_trans (sP_uI _ _ rfl) (sP_trans (sP_uI _ _ rfl) (sP_trans (sP_uI _ _ rfl) (sP_trans (sP_uI _ _ rfl) (sP_trans (sP_uI _ _ rfl) (sP_trans (sP_uI _ _ rfl) (sP_trans (sP_uI _ _ rfl) (sP_trans (sP_uI _ _ rfl) (sP_trans (sP_uI _ _ rfl) (sP_trans (sP_uI _ _ rfl) (sP_trans (sP_uI _ _ rfl) (sP_uI _ _ rfl)))))))))))))
theorem op_undo (hRL : LOK RL) (h : Rel RL w) : OP RL b w (fun hp => FX11_undo hp (b + 0)) (fun hp => FX12_undo hp (b + 77)) := by
  obtain ⟨s0, s1, s2, s3, s4, s5⟩ := h.kept
  have e5 : w.1 69 5 = w.1 77 64 := s0 5 (by decide)
  have k1 : w.1 0 14 = w.1 77 65 := h.int.2.2.2.2.1
  rcases h.int.2.2.2.2.2 with k | k
  · refine ⟨0, w, w, ?_, ?_, h⟩
    · try dsimp only
      unfold FX11_undo
      simp only [Option.bind_some, vl_eq, jn_eq, rc_11_0, gR_11_0_0, gR_11_0_1, gR_11_0_2, gR_11_0_3, gR_11_0_4, gR_11_0_5, gR_11_0_6, gR_11_0_7, gR_11_0_8, gR_11_0_9, gR_11_0_10, gR_11_0_11, gR_11_0_12, gR_11_0_13, gI_11_0_14, sI_11_0_14, rc_8_1, gR_8_1_0, gI_8_1_1, sI_8_1_1, rc_1_3, gR_1_3_0, gI_1_3_1, sI_1_3_1, gI_1_3_2, sI_1_3_2, gI_1_3_3, sI_1_3_3, gR_1_3_4, gI_1_3_5, sI_1_3_5, rc_1_2_3, gR_1_2_3_0, gI_1_2_3_1, sI_1_2_3_1, gI_1_2_3_2, sI_1_2_3_2, gI_1_2_3_3, sI_1_2_3_3, gR_1_2_3_4, gI_1_2_3_5, sI_1_2_3_5, rc_0_5, gR_0_5_0, gI_0_5_1, sI_0_5_1, rc_0_15, gR_0_15_0, gI_0_15_1, sI_0_15_1, rc_3_25, gR_3_25_0, gR_3_25_1, gR_3_25_2, gR_3_25_3, rc_5_34, gI_5_34_1, sI_5_34_1, gI_5_34_2, sI_5_34_2, gI_5_34_3, sI_5_34_3, gI_5_34_4, sI_5_34_4, gI_5_34_5, sI_5_34_5, gI_5_34_6, sI_5_34_6, gR_5_34_7, gR_5_34_8, gR_5_34_9, gR_5_34_10, gR_5_34_11, gR_5_34_12, rc_10_51, gI_10_51_0, sI_10_51_0, gI_10_51_1, sI_10_51_1, gI_10_51_2, sI_10_51_2, gR_10_51_3, rc_9_64, gR_9_64_0, gR_9_64_1, gR_9_64_2, rc_6_68, gI_6_68_0, sI_6_68_0, gI_6_68_1, sI_6_68_1, gI_6_68_2, sI_6_68_2, gI_6_68_3, sI_6_68_3, gI_6_68_4, sI_6_68_4, gI_6_68_5, sI_6_68_5, rc_6_69, gI_6_69_0, sI_6_69_0, gI_6_69_1, sI_6_69_1, gI_6_69_2, sI_6_69_2, gI_6_69_3, sI_6_69_3, gI_6_69_4, sI_6_69_4, gI_6_69_5, sI_6_69_5, k1, k]
      rfl
    · try dsimp only
      unfold FX12_undo
      simp only [Option.bind_some, vl_eq, jn_eq, rc_12_77, gR_12_77_0, gR_12_77_1, gR_12_77_2, gR_12_77_3, gR_12_77_4, gI_12_77_5, sI_12_77_5, gI_12_77_6, sI_12_77_6, gI_12_77_7, sI_12_77_7, gI_12_77_8, sI_12_77_8, gI_12_77_9, sI_12_77_9, gI_12_77_10, sI_12_77_10, gI_12_77_11, sI_12_77_11, gI_12_77_12, sI_12_77_12, gR_12_77_13, gI_12_77_14, sI_12_77_14, gI_12_77_15, sI_12_77_15, gI_12_77_16, sI_12_77_16, gI_12_77_17, sI_12_77_17, gI_12_77_18, sI_12_77_18, gI_12_77_19, sI_12_77_19, gI_12_77_20, sI_12_77_20, gI_12_77_21, sI_12_77_21, gI_12_77_22, sI_12_77_22, gI_12_77_23, sI_12_77_23, gR_12_77_24, gR_12_77_25, gR_12_77_26, gR_12_77_27, gR_12_77_28, gR_12_77_29, gR_12_77_30, gR_12_77_31, gR_12_77_32, gR_12_77_33, gR_12_77_34, gR_12_77_35, gR_12_77_36, gR_12_77_37, gR_12_77_38, gR_12_77_39, gI_12_77_40, sI_12_77_40, gI_12_77_41, sI_12_77_41, gI_12_77_42, sI_12_77_42, gI_12_77_43, sI_12_77_43, gR_12_77_44, gI_12_77_45, sI_12_77_45, gI_12_77_46, sI_12_77_46, gI_12_77_47, sI_12_77_47, gI_12_77_48, sI_12_77_48, gI_12_77_49, sI_12_77_49, gI_12_77_50, sI_12_77_50, gI_12_77_51, sI_12_77_51, gI_12_77_52, sI_12_77_52, gI_12_77_53, sI_12_77_53, gR_12_77_54, gR_12_77_55, gR_12_77_56, gR_12_77_57, gR_12_77_58, gI_12_77_59, sI_12_77_59, gI_12_77_60, sI_12_77_60, gI_12_77_61, sI_12_77_61, gI_12_77_62, sI_12_77_62, gI_12_77_63, sI_12_77_63, gI_12_77_64, sI_12_77_64, gI_12_77_65, sI_12_77_65, k]
      rfl
  · apply OPi (r := 1)
    · try dsimp only
      unfold FX11_undo FX6_take
      simp only [Option.bind_some, vl_eq, jn_eq, rc_11_0, gR_11_0_0, gR_11_0_1, gR_11_0_2, gR_11_0_3, gR_11_0_4, gR_11_0_5, gR_11_0_6, gR_11_0_7, gR_11_0_8, gR_11_0_9, gR_11_0_10, gR_11_0_11, gR_11_0_12, gR_11_0_13, gI_11_0_14, sI_11_0_14, rc_8_1, gR_8_1_0, gI_8_1_1, sI_8_1_1, rc_1_3, gR_1_3_0, gI_1_3_1, sI_1_3_1, gI_1_3_2, sI_1_3_2, gI_1_3_3, sI_1_3_3, gR_1_3_4, gI_1_3_5, sI_1_3_5, rc_1_2_3, gR_1_2_3_0, gI_1_2_3_1, sI_1_2_3_1, gI_1_2_3_2, sI_1_2_3_2, gI_1_2_3_3, sI_1_2_3_3, gR_1_2_3_4, gI_1_2_3_5, sI_1_2_3_5, rc_0_5, gR_0_5_0, gI_0_5_1, sI_0_5_1, rc_0_15, gR_0_15_0, gI_0_15_1, sI_0_15_1, rc_3_25, gR_3_25_0, gR_3_25_1, gR_3_25_2, gR_3_25_3, rc_5_34, gI_5_34_1, sI_5_34_1, gI_5_34_2, sI_5_34_2, gI_5_34_3, sI_5_34_3, gI_5_34_4, sI_5_34_4, gI_5_34_5, sI_5_34_5, gI_5_34_6, sI_5_34_6, gR_5_34_7, gR_5_34_8, gR_5_34_9, gR_5_34_10, gR_5_34_11, gR_5_34_12, rc_10_51, gI_10_51_0, sI_10_51_0, gI_10_51_1, sI_10_51_1, gI_10_51_2, sI_10_51_2, gR_10_51_3, rc_9_64, gR_9_64_0, gR_9_64_1, gR_9_64_2, rc_6_68, gI_6_68_0, sI_6_68_0, gI_6_68_1, sI_6_68_1, gI_6_68_2, sI_6_68_2, gI_6_68_3, sI_6_68_3, gI_6_68_4, sI_6_68_4, gI_6_68_5, sI_6_68_5, rc_6_69, gI_6_69_0, sI_6_69_0, gI_6_69_1, sI_6_69_1, gI_6_69_2, sI_6_69_2, gI_6_69_3, sI_6_69_3, gI_6_69_4, sI_6_69_4, gI_6_69_5, sI_6_69_5]
      rw [if_neg (by rw [k1, k]; decide), sZ_mk (j := 68) (by decide +kernel) b _ (by show w.1 69 5 = 0 ∨ w.1 69 5 = 1; rw [e5]; exact s5)]
      simp only [Option.bind_some, vl_eq, jn_eq, rc_11_0, gR_11_0_0, gR_11_0_1, gR_11_0_2, gR_11_0_3, gR_11_0_4, gR_11_0_5, gR_11_0_6, gR_11_0_7, gR_11_0_8, gR_11_0_9, gR_11_0_10, gR_11_0_11, gR_11_0_12, gR_11_0_13, gI_11_0_14, sI_11_0_14, rc_8_1, gR_8_1_0, gI_8_1_1, sI_8_1_1, rc_1_3, gR_1_3_0, gI_1_3_1, sI_1_3_1, gI_1_3_2, sI_1_3_2, gI_1_3_3, sI_1_3_3, gR_1_3_4, gI_1_3_5, sI_1_3_5, rc_1_2_3, gR_1_2_3_0, gI_1_2_3_1, sI_1_2_3_1, gI_1_2_3_2, sI_1_2_3_2, gI_1_2_3_3, sI_1_2_3_3, gR_1_2_3_4, gI_1_2_3_5, sI_1_2_3_5, rc_0_5, gR_0_5_0, gI_0_5_1, sI_0_5_1, rc_0_15, gR_0_15_0, gI_0_15_1, sI_0_15_1, rc_3_25, gR_3_25_0, gR_3_25_1, gR_3_25_2, gR_3_25_3, rc_5_34, gI_5_34_1, sI_5_34_1, gI_5_34_2, sI_5_34_2, gI_5_34_3, sI_5_34_3, gI_5_34_4, sI_5_34_4, gI_5_34_5, sI_5_34_5, gI_5_34_6, sI_5_34_6, gR_5_34_7, gR_5_34_8, gR_5_34_9, gR_5_34_10, gR_5_34_11, gR_5_34_12, rc_10_51, gI_10_51_0, sI_10_51_0, gI_10_51_1, sI_10_51_1, gI_10_51_2, sI_10_51_2, gR_10_51_3, rc_9_64, gR_9_64_0, gR_9_64_1, gR_9_64_2, rc_6_68, gI_6_68_0, sI_6_68_0, gI_6_68_1, sI_6_68_1, gI_6_68_2, sI_6_68_2, gI_6_68_3, sI_6_68_3, gI_6_68_4, sI_6_68_4, gI_6_68_5, sI_6_68_5, rc_6_69, gI_6_69_0, sI_6_69_0, gI_6_69_1, sI_6_69_1, gI_6_69_2, sI_6_69_2, gI_6_69_3, sI_6_69_3, gI_6_69_4, sI_6_69_4, gI_6_69_5, sI_6_69_5]
      show bz (w.1 0 14) (some (w.1 0 14, _)) = _
      rw [k1, k]
      rfl
    · try dsimp only
      unfold FX12_undo
      simp only [Option.bind_some, vl_eq, jn_eq, rc_12_77, gR_12_77_0, gR_12_77_1, gR_12_77_2, gR_12_77_3, gR_12_77_4, gI_12_77_5, sI_12_77_5, gI_12_77_6, sI_12_77_6, gI_12_77_7, sI_12_77_7, gI_12_77_8, sI_12_77_8, gI_12_77_9, sI_12_77_9, gI_12_77_10, sI_12_77_10, gI_12_77_11, sI_12_77_11, gI_12_77_12, sI_12_77_12, gR_12_77_13, gI_12_77_14, sI_12_77_14, gI_12_77_15, sI_12_77_15, gI_12_77_16, sI_12_77_16, gI_12_77_17, sI_12_77_17, gI_12_77_18, sI_12_77_18, gI_12_77_19, sI_12_77_19, gI_12_77_20, sI_12_77_20, gI_12_77_21, sI_12_77_21, gI_12_77_22, sI_12_77_22, gI_12_77_23, sI_12_77_23, gR_12_77_24, gR_12_77_25, gR_12_77_26, gR_12_77_27, gR_12_77_28, gR_12_77_29, gR_12_77_30, gR_12_77_31, gR_12_77_32, gR_12_77_33, gR_12_77_34, gR_12_77_35, gR_12_77_36, gR_12_77_37, gR_12_77_38, gR_12_77_39, gI_12_77_40, sI_12_77_40, gI_12_77_41, sI_12_77_41, gI_12_77_42, sI_12_77_42, gI_12_77_43, sI_12_77_43, gR_12_77_44, gI_12_77_45, sI_12_77_45, gI_12_77_46, sI_12_77_46, gI_12_77_47, sI_12_77_47, gI_12_77_48, sI_12_77_48, gI_12_77_49, sI_12_77_49, gI_12_77_50, sI_12_77_50, gI_12_77_51, sI_12_77_51, gI_12_77_52, sI_12_77_52, gI_12_77_53, sI_12_77_53, gR_12_77_54, gR_12_77_55, gR_12_77_56, gR_12_77_57, gR_12_77_58, gI_12_77_59, sI_12_77_59, gI_12_77_60, sI_12_77_60, gI_12_77_61, sI_12_77_61, gI_12_77_62, sI_12_77_62, gI_12_77_63, sI_12_77_63, gI_12_77_64, sI_12_77_64, gI_12_77_65, sI_12_77_65]
      rw [if_neg (by show ¬ w.1 77 65 = 0; rw [k]; decide)]
    · refine Rel_now hRL h ?_ ?_
      · exact sP_trans (sP_uI w _ rfl) (sP_trans (sP_uI _ _ rfl) (sP_trans (sP_uI _ _ rfl) (sP_trans (sP_uI _ _ rfl) (sP_trans (sP_uI _ _ rfl) (sP_trans (sP_uI _ _ rfl) (sP_trans (sP_uI _ _ rfl) (sP_trans (sP_uI _ _ rfl) (sP_trans (sP_uI _ _ rfl) (sP_trans (sP_uI _ _ rfl) (sP_trans (sP_uI _ _ rfl) (sP_uI _ _ rfl)))))))))))
      · exact st_of (s0 0 (by decide)) (s0 1 (by decide)) (s0 2 (by decide)) (s0 3 (by decide)) (s0 4 (by decide)) (s0 5 (by decide)) s1 s2 s3 s4 s5
end
