/-! calls: wishIs, fits, drop, joke -/
theorem n10 : ¬ (1 : Int32) = 0 := by decide
theorem lastN_s (p : Nat → Bool) (n : Nat) : lastN p (n + 1) = if p n then n else lastN p n := rfl
section
variable {RL : WD → Prop} {b : Nat} {w : WD}
theorem wguard {X : Type} (h : Rel RL w) (x : Int32) (f g f' g' : Option X) (h0 : ∃ r, f = some r ∧ f' = some r) (h1 : ∀ k, k < 8 → bt (w.1 77 5) k = true → x = nI k → ∃ r, g = some r ∧ g' = some r) : ∃ r, ((gR [11] 2 (mk b w) (b + 0)).bind (fun v1 => (rc [0] (mk b w) v1 (FX0_has (mk b w) v1 x)).bind (fun v2 => if v2 = 0 then f else g))) = some r ∧ ((rc [12] (mk b w) (b + 77) (FX12_isWish (mk b w) (b + 77) x)).bind (fun v1 => if v1 = 0 then f' else g')) = some r := by
  simp only [Option.bind_some, vl_eq, jn_eq, rc_11_0, gR_11_0_0, gR_11_0_1, gR_11_0_2, gR_11_0_3, gR_11_0_4, gR_11_0_5, gR_11_0_6, gR_11_0_7, gR_11_0_8, gR_11_0_9, gR_11_0_10, gR_11_0_11, gR_11_0_12, gR_11_0_13, gI_11_0_14, sI_11_0_14, rc_8_1, gR_8_1_0, gI_8_1_1, sI_8_1_1, rc_1_3, gR_1_3_0, gI_1_3_1, sI_1_3_1, gI_1_3_2, sI_1_3_2, gI_1_3_3, sI_1_3_3, gR_1_3_4, gI_1_3_5, sI_1_3_5, rc_1_2_3, gR_1_2_3_0, gI_1_2_3_1, sI_1_2_3_1, gI_1_2_3_2, sI_1_2_3_2, gI_1_2_3_3, sI_1_2_3_3, gR_1_2_3_4, gI_1_2_3_5, sI_1_2_3_5, rc_0_5, gR_0_5_0, gI_0_5_1, sI_0_5_1, rc_0_15, gR_0_15_0, gI_0_15_1, sI_0_15_1, rc_3_25, gR_3_25_0, gR_3_25_1, gR_3_25_2, gR_3_25_3, rc_5_34, gI_5_34_1, sI_5_34_1, gI_5_34_2, sI_5_34_2, gI_5_34_3, sI_5_34_3, gI_5_34_4, sI_5_34_4, gI_5_34_5, sI_5_34_5, gI_5_34_6, sI_5_34_6, gR_5_34_7, gR_5_34_8, gR_5_34_9, gR_5_34_10, gR_5_34_11, gR_5_34_12, rc_10_51, gI_10_51_0, sI_10_51_0, gI_10_51_1, sI_10_51_1, gI_10_51_2, sI_10_51_2, gR_10_51_3, rc_9_64, gR_9_64_0, gR_9_64_1, gR_9_64_2, rc_6_68, gI_6_68_0, sI_6_68_0, gI_6_68_1, sI_6_68_1, gI_6_68_2, sI_6_68_2, gI_6_68_3, sI_6_68_3, gI_6_68_4, sI_6_68_4, gI_6_68_5, sI_6_68_5, rc_6_69, gI_6_69_0, sI_6_69_0, gI_6_69_1, sI_6_69_1, gI_6_69_2, sI_6_69_2, gI_6_69_3, sI_6_69_3, gI_6_69_4, sI_6_69_4, gI_6_69_5, sI_6_69_5, rc_12_77, gR_12_77_0, gR_12_77_1, gR_12_77_2, gR_12_77_3, gR_12_77_4, gI_12_77_5, sI_12_77_5, gI_12_77_6, sI_12_77_6, gI_12_77_7, sI_12_77_7, gI_12_77_8, sI_12_77_8, gI_12_77_9, sI_12_77_9, gI_12_77_10, sI_12_77_10, gI_12_77_11, sI_12_77_11, gI_12_77_12, sI_12_77_12, gR_12_77_13, gI_12_77_14, sI_12_77_14, gI_12_77_15, sI_12_77_15, gI_12_77_16, sI_12_77_16, gI_12_77_17, sI_12_77_17, gI_12_77_18, sI_12_77_18, gI_12_77_19, sI_12_77_19, gI_12_77_20, sI_12_77_20, gI_12_77_21, sI_12_77_21, gI_12_77_22, sI_12_77_22, gI_12_77_23, sI_12_77_23, gR_12_77_24, gR_12_77_25, gR_12_77_26, gR_12_77_27, gR_12_77_28, gR_12_77_29, gR_12_77_30, gR_12_77_31, gR_12_77_32, gR_12_77_33, gR_12_77_34, gR_12_77_35, gR_12_77_36, gR_12_77_37, gR_12_77_38, gR_12_77_39, gI_12_77_40, sI_12_77_40, gI_12_77_41, sI_12_77_41, gI_12_77_42, sI_12_77_42, gI_12_77_43, sI_12_77_43, gR_12_77_44, gI_12_77_45, sI_12_77_45, gI_12_77_46, sI_12_77_46, gI_12_77_47, sI_12_77_47, gI_12_77_48, sI_12_77_48, gI_12_77_49, sI_12_77_49, gI_12_77_50, sI_12_77_50, gI_12_77_51, sI_12_77_51, gI_12_77_52, sI_12_77_52, gI_12_77_53, sI_12_77_53, gR_12_77_54, gR_12_77_55, gR_12_77_56, gR_12_77_57, gR_12_77_58, gI_12_77_59, sI_12_77_59, gI_12_77_60, sI_12_77_60, gI_12_77_61, sI_12_77_61, gI_12_77_62, sI_12_77_62, gI_12_77_63, sI_12_77_63, gI_12_77_64, sI_12_77_64, gI_12_77_65, sI_12_77_65]
  rcases case_ix x 8 with ⟨k, hk, rfl⟩ | e
  · cases hb : bt (w.1 77 5) k with
    | false =>
      rw [wish_f h hk hb, isWish_f hk hb, Option.bind_some, Option.bind_some, if_pos rfl, if_pos rfl]
      exact h0
    | true =>
      rw [wish_t h hk hb, isWish_t hk hb, Option.bind_some, Option.bind_some, if_neg (by decide), if_neg (by decide)]
      exact h1 k hk hb rfl
  · rw [book_no e, isWish_no e, Option.bind_some, Option.bind_some, if_pos rfl, if_pos rfl]
    exact h0
theorem Rel.state (h : Rel RL w) : ∃ n, n < 1024 ∧ w.1 77 7 = nI n ∧ w.1 68 0 = nI n := by
  obtain ⟨s0, ⟨n, hn, en⟩, _⟩ := h.now
  exact ⟨n, hn, en, (s0 0 (by decide)).trans en⟩
theorem b10 (p : Bool) : (if (if p = true then (1 : Int32) else 0) = 0 then some (0 : Int32) else some 1) = some (if p then 1 else 0) := by cases p <;> rfl
theorem op_wishIs (h : Rel RL w) (x y : Int32) : OPr b w (fun hp => FX11_wishIs hp (b + 0) x y) (fun hp => FX12_wishIs hp (b + 77) x y) := by
  unfold FX11_wishIs FX12_wishIs
  refine wguard h x _ _ _ _ ⟨-1, rfl, rfl⟩ (fun k hk hb hx => ?_)
  subst hx
  obtain ⟨n, hn, en, en2⟩ := h.state
  simp only [Option.bind_some, vl_eq, jn_eq, rc_11_0, gR_11_0_0, gR_11_0_1, gR_11_0_2, gR_11_0_3, gR_11_0_4, gR_11_0_5, gR_11_0_6, gR_11_0_7, gR_11_0_8, gR_11_0_9, gR_11_0_10, gR_11_0_11, gR_11_0_12, gR_11_0_13, gI_11_0_14, sI_11_0_14, rc_8_1, gR_8_1_0, gI_8_1_1, sI_8_1_1, rc_1_3, gR_1_3_0, gI_1_3_1, sI_1_3_1, gI_1_3_2, sI_1_3_2, gI_1_3_3, sI_1_3_3, gR_1_3_4, gI_1_3_5, sI_1_3_5, rc_1_2_3, gR_1_2_3_0, gI_1_2_3_1, sI_1_2_3_1, gI_1_2_3_2, sI_1_2_3_2, gI_1_2_3_3, sI_1_2_3_3, gR_1_2_3_4, gI_1_2_3_5, sI_1_2_3_5, rc_0_5, gR_0_5_0, gI_0_5_1, sI_0_5_1, rc_0_15, gR_0_15_0, gI_0_15_1, sI_0_15_1, rc_3_25, gR_3_25_0, gR_3_25_1, gR_3_25_2, gR_3_25_3, rc_5_34, gI_5_34_1, sI_5_34_1, gI_5_34_2, sI_5_34_2, gI_5_34_3, sI_5_34_3, gI_5_34_4, sI_5_34_4, gI_5_34_5, sI_5_34_5, gI_5_34_6, sI_5_34_6, gR_5_34_7, gR_5_34_8, gR_5_34_9, gR_5_34_10, gR_5_34_11, gR_5_34_12, rc_10_51, gI_10_51_0, sI_10_51_0, gI_10_51_1, sI_10_51_1, gI_10_51_2, sI_10_51_2, gR_10_51_3, rc_9_64, gR_9_64_0, gR_9_64_1, gR_9_64_2, rc_6_68, gI_6_68_0, sI_6_68_0, gI_6_68_1, sI_6_68_1, gI_6_68_2, sI_6_68_2, gI_6_68_3, sI_6_68_3, gI_6_68_4, sI_6_68_4, gI_6_68_5, sI_6_68_5, rc_6_69, gI_6_69_0, sI_6_69_0, gI_6_69_1, sI_6_69_1, gI_6_69_2, sI_6_69_2, gI_6_69_3, sI_6_69_3, gI_6_69_4, sI_6_69_4, gI_6_69_5, sI_6_69_5, rc_12_77, gR_12_77_0, gR_12_77_1, gR_12_77_2, gR_12_77_3, gR_12_77_4, gI_12_77_5, sI_12_77_5, gI_12_77_6, sI_12_77_6, gI_12_77_7, sI_12_77_7, gI_12_77_8, sI_12_77_8, gI_12_77_9, sI_12_77_9, gI_12_77_10, sI_12_77_10, gI_12_77_11, sI_12_77_11, gI_12_77_12, sI_12_77_12, gR_12_77_13, gI_12_77_14, sI_12_77_14, gI_12_77_15, sI_12_77_15, gI_12_77_16, sI_12_77_16, gI_12_77_17, sI_12_77_17, gI_12_77_18, sI_12_77_18, gI_12_77_19, sI_12_77_19, gI_12_77_20, sI_12_77_20, gI_12_77_21, sI_12_77_21, gI_12_77_22, sI_12_77_22, gI_12_77_23, sI_12_77_23, gR_12_77_24, gR_12_77_25, gR_12_77_26, gR_12_77_27, gR_12_77_28, gR_12_77_29, gR_12_77_30, gR_12_77_31, gR_12_77_32, gR_12_77_33, gR_12_77_34, gR_12_77_35, gR_12_77_36, gR_12_77_37, gR_12_77_38, gR_12_77_39, gI_12_77_40, sI_12_77_40, gI_12_77_41, sI_12_77_41, gI_12_77_42, sI_12_77_42, gI_12_77_43, sI_12_77_43, gR_12_77_44, gI_12_77_45, sI_12_77_45, gI_12_77_46, sI_12_77_46, gI_12_77_47, sI_12_77_47, gI_12_77_48, sI_12_77_48, gI_12_77_49, sI_12_77_49, gI_12_77_50, sI_12_77_50, gI_12_77_51, sI_12_77_51, gI_12_77_52, sI_12_77_52, gI_12_77_53, sI_12_77_53, gR_12_77_54, gR_12_77_55, gR_12_77_56, gR_12_77_57, gR_12_77_58, gI_12_77_59, sI_12_77_59, gI_12_77_60, sI_12_77_60, gI_12_77_61, sI_12_77_61, gI_12_77_62, sI_12_77_62, gI_12_77_63, sI_12_77_63, gI_12_77_64, sI_12_77_64, gI_12_77_65, sI_12_77_65]
  rcases case_ix y 5 with ⟨i, hi, rfl⟩ | e
  · rw [wh_y hi, rdT hk, Option.bind_some]
    rcases (show i = 0 ∨ i = 1 ∨ i = 2 ∨ i = 3 ∨ i = 4 by omega) with rfl | rfl | rfl | rfl | rfl
    · rw [if_pos (show nI 0 = 0 from rfl), if_pos (show nI 0 = 0 from rfl), ssize_mk okF (okT k hk), fitsWith_mk h.b81 h.b79 hk]
      refine ⟨_, ?_, rfl⟩
      exact congrArg (fun n => some (nI n)) (fb_ct_cong (fun s hs => by rw [h.tF hs, h.tT hk hs]))
    · rw [if_neg (show ¬ nI 1 = 0 by decide), if_pos (show nI 1 = 1 from rfl), if_neg (show ¬ nI 1 = 0 by decide), if_pos (show nI 1 = 1 from rfl), en, en2, thas_mk (okT k hk) hn, holds_mk h.b79 hk hn, Option.bind_some, Option.bind_some, h.tT hk hn, b10]
      exact ⟨_, rfl, rfl⟩
    · rw [if_neg (show ¬ nI 2 = 0 by decide), if_neg (show ¬ nI 2 = 1 by decide), if_pos (show nI 2 = 2 from rfl), if_neg (show ¬ nI 2 = 0 by decide), if_neg (show ¬ nI 2 = 1 by decide), if_pos (show nI 2 = 2 from rfl), has_eq _ (by omega), Option.bind_some, b10, show w.1 68 4 = w.1 77 11 from h.now.1 4 (by decide), bit_at _ (by omega)]
      exact ⟨_, rfl, rfl⟩
    · rw [if_neg (show ¬ nI 3 = 0 by decide), if_neg (show ¬ nI 3 = 1 by decide), if_neg (show ¬ nI 3 = 2 by decide), if_pos (show nI 3 = 3 from rfl), if_neg (show ¬ nI 3 = 0 by decide), if_neg (show ¬ nI 3 = 1 by decide), if_neg (show ¬ nI 3 = 2 by decide), if_pos (show nI 3 = 3 from rfl), dep_mk (okT k hk), onOf_mk h.b79 hk]
      refine ⟨_, ?_, rfl⟩
      exact congrArg (fun n => some (nI n)) (mO_cong (fun i hi => ex_cong (fun s hs => by rw [h.tT hk hs, h.tT hk (xr_lt hs hi)])))
    · rw [if_neg (show ¬ nI 4 = 0 by decide), if_neg (show ¬ nI 4 = 1 by decide), if_neg (show ¬ nI 4 = 2 by decide), if_neg (show ¬ nI 4 = 3 by decide), if_neg (show ¬ nI 4 = 0 by decide), if_neg (show ¬ nI 4 = 1 by decide), if_neg (show ¬ nI 4 = 2 by decide), if_neg (show ¬ nI 4 = 3 by decide), if_pos (show nI 4 = 4 from rfl), rising_mk (okT k hk), risingOf_mk h.b79 hk]
      refine ⟨_, ?_, rfl⟩
      refine congrArg (fun n => some (nI n)) (mO_cong (fun i hi => ?_))
      rw [ex_cong (p := fun s => tb (w.2.2.1 (7 + k)) s ^^ tb (w.2.2.1 (7 + k)) (s ^^^ 2 ^ i)) (q := fun s => WT w k s ^^ WT w k (s ^^^ 2 ^ i)) (fun s hs => by rw [h.tT hk hs, h.tT hk (xr_lt hs hi)]), ex_cong (p := fun s => tb (w.2.2.1 (7 + k)) s && !tb (w.2.2.1 (7 + k)) (s ^^^ 2 ^ i) && !s.testBit i) (q := fun s => WT w k s && !WT w k (s ^^^ 2 ^ i) && !s.testBit i) (fun s hs => by rw [h.tT hk hs, h.tT hk (xr_lt hs hi)])]
  · rw [wh_n e, if_neg (show ¬ y = 0 from fun q => e ⟨0, by decide, q⟩), if_neg (show ¬ y = 1 from fun q => e ⟨1, by decide, q⟩), if_neg (show ¬ y = 2 from fun q => e ⟨2, by decide, q⟩), if_neg (show ¬ y = 3 from fun q => e ⟨3, by decide, q⟩), if_neg (show ¬ y = 4 from fun q => e ⟨4, by decide, q⟩)]
    exact ⟨-1, rfl, rfl⟩
theorem op_fits (h : Rel RL w) (x : Int32) : OPr b w (fun hp => FX11_fits hp (b + 0) x) (fun hp => FX12_fits hp (b + 77) x) := by
  unfold OPr FX11_fits FX12_fits
  try dsimp only
  simp only [Option.bind_some, vl_eq, jn_eq, rc_11_0, gR_11_0_0, gR_11_0_1, gR_11_0_2, gR_11_0_3, gR_11_0_4, gR_11_0_5, gR_11_0_6, gR_11_0_7, gR_11_0_8, gR_11_0_9, gR_11_0_10, gR_11_0_11, gR_11_0_12, gR_11_0_13, gI_11_0_14, sI_11_0_14, rc_8_1, gR_8_1_0, gI_8_1_1, sI_8_1_1, rc_1_3, gR_1_3_0, gI_1_3_1, sI_1_3_1, gI_1_3_2, sI_1_3_2, gI_1_3_3, sI_1_3_3, gR_1_3_4, gI_1_3_5, sI_1_3_5, rc_1_2_3, gR_1_2_3_0, gI_1_2_3_1, sI_1_2_3_1, gI_1_2_3_2, sI_1_2_3_2, gI_1_2_3_3, sI_1_2_3_3, gR_1_2_3_4, gI_1_2_3_5, sI_1_2_3_5, rc_0_5, gR_0_5_0, gI_0_5_1, sI_0_5_1, rc_0_15, gR_0_15_0, gI_0_15_1, sI_0_15_1, rc_3_25, gR_3_25_0, gR_3_25_1, gR_3_25_2, gR_3_25_3, rc_5_34, gI_5_34_1, sI_5_34_1, gI_5_34_2, sI_5_34_2, gI_5_34_3, sI_5_34_3, gI_5_34_4, sI_5_34_4, gI_5_34_5, sI_5_34_5, gI_5_34_6, sI_5_34_6, gR_5_34_7, gR_5_34_8, gR_5_34_9, gR_5_34_10, gR_5_34_11, gR_5_34_12, rc_10_51, gI_10_51_0, sI_10_51_0, gI_10_51_1, sI_10_51_1, gI_10_51_2, sI_10_51_2, gR_10_51_3, rc_9_64, gR_9_64_0, gR_9_64_1, gR_9_64_2, rc_6_68, gI_6_68_0, sI_6_68_0, gI_6_68_1, sI_6_68_1, gI_6_68_2, sI_6_68_2, gI_6_68_3, sI_6_68_3, gI_6_68_4, sI_6_68_4, gI_6_68_5, sI_6_68_5, rc_6_69, gI_6_69_0, sI_6_69_0, gI_6_69_1, sI_6_69_1, gI_6_69_2, sI_6_69_2, gI_6_69_3, sI_6_69_3, gI_6_69_4, sI_6_69_4, gI_6_69_5, sI_6_69_5, rc_12_77, gR_12_77_0, gR_12_77_1, gR_12_77_2, gR_12_77_3, gR_12_77_4, gI_12_77_5, sI_12_77_5, gI_12_77_6, sI_12_77_6, gI_12_77_7, sI_12_77_7, gI_12_77_8, sI_12_77_8, gI_12_77_9, sI_12_77_9, gI_12_77_10, sI_12_77_10, gI_12_77_11, sI_12_77_11, gI_12_77_12, sI_12_77_12, gR_12_77_13, gI_12_77_14, sI_12_77_14, gI_12_77_15, sI_12_77_15, gI_12_77_16, sI_12_77_16, gI_12_77_17, sI_12_77_17, gI_12_77_18, sI_12_77_18, gI_12_77_19, sI_12_77_19, gI_12_77_20, sI_12_77_20, gI_12_77_21, sI_12_77_21, gI_12_77_22, sI_12_77_22, gI_12_77_23, sI_12_77_23, gR_12_77_24, gR_12_77_25, gR_12_77_26, gR_12_77_27, gR_12_77_28, gR_12_77_29, gR_12_77_30, gR_12_77_31, gR_12_77_32, gR_12_77_33, gR_12_77_34, gR_12_77_35, gR_12_77_36, gR_12_77_37, gR_12_77_38, gR_12_77_39, gI_12_77_40, sI_12_77_40, gI_12_77_41, sI_12_77_41, gI_12_77_42, sI_12_77_42, gI_12_77_43, sI_12_77_43, gR_12_77_44, gI_12_77_45, sI_12_77_45, gI_12_77_46, sI_12_77_46, gI_12_77_47, sI_12_77_47, gI_12_77_48, sI_12_77_48, gI_12_77_49, sI_12_77_49, gI_12_77_50, sI_12_77_50, gI_12_77_51, sI_12_77_51, gI_12_77_52, sI_12_77_52, gI_12_77_53, sI_12_77_53, gR_12_77_54, gR_12_77_55, gR_12_77_56, gR_12_77_57, gR_12_77_58, gI_12_77_59, sI_12_77_59, gI_12_77_60, sI_12_77_60, gI_12_77_61, sI_12_77_61, gI_12_77_62, sI_12_77_62, gI_12_77_63, sI_12_77_63, gI_12_77_64, sI_12_77_64, gI_12_77_65, sI_12_77_65]
  obtain ⟨n, hn, en, en2⟩ := h.state
  rcases case_ix x 6 with ⟨i, hi, rfl⟩ | e
  · rw [wh_y hi, in_y hi, Option.bind_some, if_neg n10]
    by_cases h5 : i = 5
    · subst h5
      rw [if_neg (show ¬ nI 5 = 0 by decide), if_pos (show nI 5 = 5 from rfl), if_pos (show nI 5 = 5 from rfl), en, en2, thas_mk okF hn, rdF h.b81 hn, Option.bind_some, Option.bind_some, h.tF hn, b10]
      exact ⟨_, rfl, rfl⟩
    · have hne : ¬ nI i = 5 := fun q => h5 (nI_inj (by omega) (by decide) q)
      have hM : ∀ (kf : Int32 × Int32 × Int32 × Int32 → Option Int32), (lp (fun (s5 : Int32 × Int32 × Int32 × Int32 × Int32) => if (1024 : Int32) ≤ s5.2.2.2.2 then some (Sum.inl (s5.1, s5.2.1, s5.2.2.1, s5.2.2.2.1)) else (rdN 2 (mk b w) (b + 81) s5.2.2.2.2).bind (fun v9 => if v9 = 0 then some (Sum.inr (s5.1, s5.2.1, s5.2.2.1, s5.2.2.2.1, s5.2.2.2.2 + (1 : Int32))) else if s5.1 = (-2 : Int32) then some (Sum.inr (s5.2.2.2.2, s5.2.2.2.2, s5.2.2.1 &&& s5.2.2.2.2, s5.2.2.2.1 &&& (s5.2.2.2.2 ^^^ (-1 : Int32)), s5.2.2.2.2 + (1 : Int32))) else some (Sum.inr (s5.1, s5.2.2.2.2, s5.2.2.1 &&& s5.2.2.2.2, s5.2.2.2.1 &&& (s5.2.2.2.2 ^^^ (-1 : Int32)), s5.2.2.2.2 + (1 : Int32))))) FU ((-2 : Int32), (-2 : Int32), (1023 : Int32), (1023 : Int32), (0 : Int32))).bind kf = kf (if ex (WF w) 1024 then nI (fa_first (WF w) 1024) else -2, if ex (WF w) 1024 then nI (lastN (WF w) 1024) else -2, nI (mO (fun k => al (fun s => !WF w s || s.testBit k) 1024) 10), nI (mO (fun k => al (fun s => !WF w s || !s.testBit k) 1024) 10)) := by
        intro kf
        refine lpb_for (s4 (WF w)) _ 1024 ?_ (by decide) (fun s hs => ?_) (by unfold s4; try dsimp only; rw [if_pos (by decide)]) rfl
        · unfold s4
          rw [all10]
          rfl
        · unfold s4
          try dsimp only
          rw [if_neg (Lnle hs), rdF h.b81 hs, Option.bind_some, nI_1]
          cases hp : WF w s with
          | false =>
            rw [if_pos (by rfl), ex_succ, hp, Bool.or_false]
            refine congrArg (fun z => some (Sum.inr z)) ?_
            refine Prod.ext ?_ (Prod.ext ?_ (Prod.ext ?_ (Prod.ext ?_ rfl)))
            · by_cases q : ex (WF w) s = true
              · show (if ex (WF w) s = true then _ else _) = (if ex (WF w) s = true then _ else _)
                rw [if_pos q, if_pos q, (first_succ (WF w) s).1 q]
              · show (if ex (WF w) s = true then _ else _) = (if ex (WF w) s = true then _ else _)
                rw [if_neg q, if_neg q]
            · show (if ex (WF w) s = true then nI (lastN (WF w) s) else _) = (if ex (WF w) s = true then nI (lastN (WF w) (s + 1)) else _)
              rw [show lastN (WF w) (s + 1) = lastN (WF w) s from by rw [lastN_s, hp]; rfl]
            · exact congrArg nI (mO_cong (fun k _ => by rw [al_succ, hp]; simp))
            · exact congrArg nI (mO_cong (fun k _ => by rw [al_succ, hp]; simp))
          | true =>
            rw [if_neg (by decide), ex_succ, hp, Bool.or_true, and_m, andn_m]
            have e3 : mO (fun k => al (fun s => !WF w s || s.testBit k) s && s.testBit k) 10 = mO (fun k => al (fun s => !WF w s || s.testBit k) (s + 1)) 10 := mO_cong (fun k _ => by rw [al_succ, hp]; simp)
            have e4 : mO (fun k => al (fun s => !WF w s || !s.testBit k) s && !s.testBit k) 10 = mO (fun k => al (fun s => !WF w s || !s.testBit k) (s + 1)) 10 := mO_cong (fun k _ => by rw [al_succ, hp]; simp)
            rw [e3, e4, if_pos (show true = true from rfl), if_pos (show true = true from rfl), show lastN (WF w) (s + 1) = s from by rw [lastN_s, hp]; rfl]
            by_cases q : ex (WF w) s = true
            · rw [if_pos q, if_neg (nI_nm2 (by have := (ex_first (WF w) s).mpr q; omega)), (first_succ (WF w) s).1 q]
            · have q' : ex (WF w) s = false := by cases g : ex (WF w) s with
                | true => exact absurd g q
                | false => rfl
              rw [if_neg q, if_pos rfl, (first_succ (WF w) s).2 q' hp]
      have hq : ex (WF w) 1024 = true → lastN (WF w) 1024 < 1024 ∧ FX7_first (mk b w) (b + 30) = some (nI (fa_first (WF w) 1024)) ∧ FX7_last (mk b w) (b + 30) = some (nI (lastN (WF w) 1024)) := fun q => by
        obtain ⟨l1, l2, l3⟩ := last_is q
        have f1 := (ex_first (WF w) 1024).mpr q
        have f2 := fa_first_yes (WF w) 1024 f1
        exact ⟨l1, first_mk okF f1 (by rw [h.tF f1]; exact f2) (fun r hr => by rw [h.tF (by omega)]; exact fa_first_no (WF w) 1024 r hr), last_mk okF l1 (by rw [h.tF l1]; exact l2) (fun r g1 g2 => by rw [h.tF g2]; exact l3 r g1 g2)⟩
      have sT' : FX7_sure (mk b w) (b + 30) 1 = some (nI (mO (fun k => al (fun s => !WF w s || s.testBit k) 1024) 10)) := by
        refine Eq.trans (sure_mk (b := b) (w := w) okF true) (congrArg (fun n => some (nI n)) (mO_cong (fun k _ => ?_)))
        rw [if_pos rfl, fb_ct_cong (p := fun s => tb (w.2.2.1 30) s && s.testBit k) (q := fun s => WF w s && s.testBit k) (fun s hs => by rw [h.tF hs]), cF h, Bool.eq_iff_iff, decide_eq_true_eq, ct_all_iff]
      have sF' : FX7_sure (mk b w) (b + 30) 0 = some (nI (mO (fun k => al (fun s => !WF w s || !s.testBit k) 1024) 10)) := by
        refine Eq.trans (sure_mk (b := b) (w := w) okF false) (congrArg (fun n => some (nI n)) (mO_cong (fun k _ => ?_)))
        rw [if_neg (by decide), fb_ct_cong (p := fun s => tb (w.2.2.1 30) s && s.testBit k) (q := fun s => WF w s && s.testBit k) (fun s hs => by rw [h.tF hs]), Bool.eq_iff_iff, decide_eq_true_eq, ct_none_iff]
      rw [if_neg hne, if_neg hne, hM, fitMany_mk h.b81, Option.bind_some, size_mk okF, cF h, empty_mk okF, Option.bind_some, ex_cong (p := tb (w.2.2.1 30)) (q := WF w) (fun s hs => h.tF hs), Option.bind_some, sT', sF']
      clear hM sT' sF'
      generalize ex (WF w) 1024 = E at *
      generalize fa_first (WF w) 1024 = fi at *
      generalize lastN (WF w) 1024 = la at *
      generalize mO (fun k => al (fun s => !WF w s || s.testBit k) 1024) 10 = mA at *
      generalize mO (fun k => al (fun s => !WF w s || !s.testBit k) 1024) 10 = mB at *
      generalize fb_ct (WF w) 1024 = cN at *
      try dsimp only
      by_cases h0 : i = 0
      · subst h0
        exact ⟨nI cN, rfl, rfl⟩
      · have hn0 : ¬ nI i = 0 := nI_ne0 (by omega) (by omega)
        rw [if_neg hn0, if_neg hn0]
        cases E with
        | true =>
          obtain ⟨l1, l2, l3⟩ := hq rfl
          rw [l2, l3]
          have hl : ¬ nI la = (-2 : Int32) := nI_nm2 (by omega)
          rcases (show i = 1 ∨ i = 2 ∨ i = 3 ∨ i = 4 by omega) with rfl | rfl | rfl | rfl
          · exact ⟨nI fi, rfl, if_neg hl⟩
          · exact ⟨nI la, rfl, if_neg hl⟩
          · exact ⟨nI mA, rfl, if_neg hl⟩
          · exact ⟨nI mB, rfl, if_neg hl⟩
        | false =>
          exact ⟨-2, rfl, rfl⟩
  · rw [wh_n e, in_n e]
    exact ⟨-1, rfl, rfl⟩
end
