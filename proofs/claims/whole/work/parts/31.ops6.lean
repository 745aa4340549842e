/-! call: drop -/
section
variable {RL : WD → Prop} {b : Nat} {w : WD}
/-- the class gathers what fits anew, and so does the reference -/
theorem gather_mk (w : WD) : ∃ g, FX11_gatherFit (mk b w) (b + 0) = some (mk b (uL w 30 g)) ∧ ∀ s, s < 1024 → tb g s = al (fun k => !bt (w.1 15 1) k || tb (w.2.2.1 (17 + k)) s) 8 := by
  obtain ⟨g, e1, e2⟩ := meet_mk (b := b) (w := w) (o := 15) (d := 30) (Or.inr rfl) (w.1 15 1) okF (fun k hk => by omega)
  refine ⟨g, ?_, e2⟩
  unfold FX11_gatherFit
  simp only [Option.bind_some, vl_eq, jn_eq, rc_11_0, gR_11_0_0, gR_11_0_1, gR_11_0_2, gR_11_0_3, gR_11_0_4, gR_11_0_5, gR_11_0_6, gR_11_0_7, gR_11_0_8, gR_11_0_9, gR_11_0_10, gR_11_0_11, gR_11_0_12, gR_11_0_13, gI_11_0_14, sI_11_0_14, rc_8_1, gR_8_1_0, gI_8_1_1, sI_8_1_1, rc_1_3, gR_1_3_0, gI_1_3_1, sI_1_3_1, gI_1_3_2, sI_1_3_2, gI_1_3_3, sI_1_3_3, gR_1_3_4, gI_1_3_5, sI_1_3_5, rc_1_2_3, gR_1_2_3_0, gI_1_2_3_1, sI_1_2_3_1, gI_1_2_3_2, sI_1_2_3_2, gI_1_2_3_3, sI_1_2_3_3, gR_1_2_3_4, gI_1_2_3_5, sI_1_2_3_5, rc_0_5, gR_0_5_0, gI_0_5_1, sI_0_5_1, rc_0_15, gR_0_15_0, gI_0_15_1, sI_0_15_1, rc_3_25, gR_3_25_0, gR_3_25_1, gR_3_25_2, gR_3_25_3, rc_5_34, gI_5_34_1, sI_5_34_1, gI_5_34_2, sI_5_34_2, gI_5_34_3, sI_5_34_3, gI_5_34_4, sI_5_34_4, gI_5_34_5, sI_5_34_5, gI_5_34_6, sI_5_34_6, gR_5_34_7, gR_5_34_8, gR_5_34_9, gR_5_34_10, gR_5_34_11, gR_5_34_12, rc_10_51, gI_10_51_0, sI_10_51_0, gI_10_51_1, sI_10_51_1, gI_10_51_2, sI_10_51_2, gR_10_51_3, rc_9_64, gR_9_64_0, gR_9_64_1, gR_9_64_2, rc_6_68, gI_6_68_0, sI_6_68_0, gI_6_68_1, sI_6_68_1, gI_6_68_2, sI_6_68_2, gI_6_68_3, sI_6_68_3, gI_6_68_4, sI_6_68_4, gI_6_68_5, sI_6_68_5, rc_6_69, gI_6_69_0, sI_6_69_0, gI_6_69_1, sI_6_69_1, gI_6_69_2, sI_6_69_2, gI_6_69_3, sI_6_69_3, gI_6_69_4, sI_6_69_4, gI_6_69_5, sI_6_69_5]
  rw [e1]
  rfl
theorem fill_b {p : Nat → Bool} {f : Nat → Int32} {n i : Nat} (hi : i < n) : fa_fill (fun s => if p s then (1 : Int32) else 0) f n i = if p i then 1 else 0 := fa_fill_in hi
theorem bo_fill {p : Nat → Bool} {f : Nat → Int32} {n : Nat} : bo (fa_fill (fun s => if p s then (1 : Int32) else 0) f n) n := fun i hi => by
  rw [fill_b hi]
  cases p i
  · exact Or.inl rfl
  · exact Or.inr rfl
theorem dec_b (p : Bool) : decide ((if p = true then (1 : Int32) else 0) = 1) = p := by cases p <;> rfl
theorem op_drop (hRL : LOK RL) (h : Rel RL w) (x : Int32) : OP RL b w (fun hp => FX11_drop hp (b + 0) x) (fun hp => FX12_drop hp (b + 77) x) := by
  rcases case_ix x 8 with ⟨k, hk, rfl⟩ | e
  · cases hb : bt (w.1 77 6) k with
    | false =>
      refine OPi (r := 0) (w1 := w) (w2 := w) ?_ ?_ h
      · unfold FX11_drop
        simp only [Option.bind_some, vl_eq, jn_eq, rc_11_0, gR_11_0_0, gR_11_0_1, gR_11_0_2, gR_11_0_3, gR_11_0_4, gR_11_0_5, gR_11_0_6, gR_11_0_7, gR_11_0_8, gR_11_0_9, gR_11_0_10, gR_11_0_11, gR_11_0_12, gR_11_0_13, gI_11_0_14, sI_11_0_14, rc_8_1, gR_8_1_0, gI_8_1_1, sI_8_1_1, rc_1_3, gR_1_3_0, gI_1_3_1, sI_1_3_1, gI_1_3_2, sI_1_3_2, gI_1_3_3, sI_1_3_3, gR_1_3_4, gI_1_3_5, sI_1_3_5, rc_1_2_3, gR_1_2_3_0, gI_1_2_3_1, sI_1_2_3_1, gI_1_2_3_2, sI_1_2_3_2, gI_1_2_3_3, sI_1_2_3_3, gR_1_2_3_4, gI_1_2_3_5, sI_1_2_3_5, rc_0_5, gR_0_5_0, gI_0_5_1, sI_0_5_1, rc_0_15, gR_0_15_0, gI_0_15_1, sI_0_15_1, rc_3_25, gR_3_25_0, gR_3_25_1, gR_3_25_2, gR_3_25_3, rc_5_34, gI_5_34_1, sI_5_34_1, gI_5_34_2, sI_5_34_2, gI_5_34_3, sI_5_34_3, gI_5_34_4, sI_5_34_4, gI_5_34_5, sI_5_34_5, gI_5_34_6, sI_5_34_6, gR_5_34_7, gR_5_34_8, gR_5_34_9, gR_5_34_10, gR_5_34_11, gR_5_34_12, rc_10_51, gI_10_51_0, sI_10_51_0, gI_10_51_1, sI_10_51_1, gI_10_51_2, sI_10_51_2, gR_10_51_3, rc_9_64, gR_9_64_0, gR_9_64_1, gR_9_64_2, rc_6_68, gI_6_68_0, sI_6_68_0, gI_6_68_1, sI_6_68_1, gI_6_68_2, sI_6_68_2, gI_6_68_3, sI_6_68_3, gI_6_68_4, sI_6_68_4, gI_6_68_5, sI_6_68_5, rc_6_69, gI_6_69_0, sI_6_69_0, gI_6_69_1, sI_6_69_1, gI_6_69_2, sI_6_69_2, gI_6_69_3, sI_6_69_3, gI_6_69_4, sI_6_69_4, gI_6_69_5, sI_6_69_5]
        rw [clause_y h hk, hb]
        rfl
      · unfold FX12_drop
        simp only [Option.bind_some, vl_eq, jn_eq, rc_12_77, gR_12_77_0, gR_12_77_1, gR_12_77_2, gR_12_77_3, gR_12_77_4, gI_12_77_5, sI_12_77_5, gI_12_77_6, sI_12_77_6, gI_12_77_7, sI_12_77_7, gI_12_77_8, sI_12_77_8, gI_12_77_9, sI_12_77_9, gI_12_77_10, sI_12_77_10, gI_12_77_11, sI_12_77_11, gI_12_77_12, sI_12_77_12, gR_12_77_13, gI_12_77_14, sI_12_77_14, gI_12_77_15, sI_12_77_15, gI_12_77_16, sI_12_77_16, gI_12_77_17, sI_12_77_17, gI_12_77_18, sI_12_77_18, gI_12_77_19, sI_12_77_19, gI_12_77_20, sI_12_77_20, gI_12_77_21, sI_12_77_21, gI_12_77_22, sI_12_77_22, gI_12_77_23, sI_12_77_23, gR_12_77_24, gR_12_77_25, gR_12_77_26, gR_12_77_27, gR_12_77_28, gR_12_77_29, gR_12_77_30, gR_12_77_31, gR_12_77_32, gR_12_77_33, gR_12_77_34, gR_12_77_35, gR_12_77_36, gR_12_77_37, gR_12_77_38, gR_12_77_39, gI_12_77_40, sI_12_77_40, gI_12_77_41, sI_12_77_41, gI_12_77_42, sI_12_77_42, gI_12_77_43, sI_12_77_43, gR_12_77_44, gI_12_77_45, sI_12_77_45, gI_12_77_46, sI_12_77_46, gI_12_77_47, sI_12_77_47, gI_12_77_48, sI_12_77_48, gI_12_77_49, sI_12_77_49, gI_12_77_50, sI_12_77_50, gI_12_77_51, sI_12_77_51, gI_12_77_52, sI_12_77_52, gI_12_77_53, sI_12_77_53, gR_12_77_54, gR_12_77_55, gR_12_77_56, gR_12_77_57, gR_12_77_58, gI_12_77_59, sI_12_77_59, gI_12_77_60, sI_12_77_60, gI_12_77_61, sI_12_77_61, gI_12_77_62, sI_12_77_62, gI_12_77_63, sI_12_77_63, gI_12_77_64, sI_12_77_64, gI_12_77_65, sI_12_77_65]
        rw [in_y hk, Option.bind_some, if_neg n10, has_eq _ (by omega), hb]
        rfl
    | true =>
      obtain ⟨n, hn, en⟩ := h.int.2.2.2.1
      obtain ⟨m, hm, em⟩ := and_small (a := n) (k := 8) hn (((1 : Int32) <<< (nI k &&& 31)) ^^^ (-1))
      have em' : w.1 77 6 &&& (((1 : Int32) <<< (nI k &&& 31)) ^^^ (-1)) = nI m := by rw [en]; exact em
      have e15 : w.1 15 1 = w.1 77 6 := h.int.2.2.1
      obtain ⟨g, g1, g2⟩ := gather_mk (b := b) (uI w 15 1 (nI m))
      refine OPi (r := 1) (w1 := uL (uI w 15 1 (nI m)) 30 g) (w2 := uA (uI (uL (uI w 15 1 (nI m)) 30 g) 77 6 (nI m)) 81 (fa_fill (fun s => if al (fun k => !bt (nI m) k || WC w k s) 8 then 1 else 0) (w.2.1 81) 1024)) ?_ ?_ ?_
      · unfold FX11_drop FX0_erase
        simp only [Option.bind_some, vl_eq, jn_eq, rc_11_0, gR_11_0_0, gR_11_0_1, gR_11_0_2, gR_11_0_3, gR_11_0_4, gR_11_0_5, gR_11_0_6, gR_11_0_7, gR_11_0_8, gR_11_0_9, gR_11_0_10, gR_11_0_11, gR_11_0_12, gR_11_0_13, gI_11_0_14, sI_11_0_14, rc_8_1, gR_8_1_0, gI_8_1_1, sI_8_1_1, rc_1_3, gR_1_3_0, gI_1_3_1, sI_1_3_1, gI_1_3_2, sI_1_3_2, gI_1_3_3, sI_1_3_3, gR_1_3_4, gI_1_3_5, sI_1_3_5, rc_1_2_3, gR_1_2_3_0, gI_1_2_3_1, sI_1_2_3_1, gI_1_2_3_2, sI_1_2_3_2, gI_1_2_3_3, sI_1_2_3_3, gR_1_2_3_4, gI_1_2_3_5, sI_1_2_3_5, rc_0_5, gR_0_5_0, gI_0_5_1, sI_0_5_1, rc_0_15, gR_0_15_0, gI_0_15_1, sI_0_15_1, rc_3_25, gR_3_25_0, gR_3_25_1, gR_3_25_2, gR_3_25_3, rc_5_34, gI_5_34_1, sI_5_34_1, gI_5_34_2, sI_5_34_2, gI_5_34_3, sI_5_34_3, gI_5_34_4, sI_5_34_4, gI_5_34_5, sI_5_34_5, gI_5_34_6, sI_5_34_6, gR_5_34_7, gR_5_34_8, gR_5_34_9, gR_5_34_10, gR_5_34_11, gR_5_34_12, rc_10_51, gI_10_51_0, sI_10_51_0, gI_10_51_1, sI_10_51_1, gI_10_51_2, sI_10_51_2, gR_10_51_3, rc_9_64, gR_9_64_0, gR_9_64_1, gR_9_64_2, rc_6_68, gI_6_68_0, sI_6_68_0, gI_6_68_1, sI_6_68_1, gI_6_68_2, sI_6_68_2, gI_6_68_3, sI_6_68_3, gI_6_68_4, sI_6_68_4, gI_6_68_5, sI_6_68_5, rc_6_69, gI_6_69_0, sI_6_69_0, gI_6_69_1, sI_6_69_1, gI_6_69_2, sI_6_69_2, gI_6_69_3, sI_6_69_3, gI_6_69_4, sI_6_69_4, gI_6_69_5, sI_6_69_5]
        rw [clause_y h hk, hb, Option.bind_some, if_neg (by decide), e15, em', g1]
        rfl
      · unfold FX12_drop
        simp only [Option.bind_some, vl_eq, jn_eq, rc_12_77, gR_12_77_0, gR_12_77_1, gR_12_77_2, gR_12_77_3, gR_12_77_4, gI_12_77_5, sI_12_77_5, gI_12_77_6, sI_12_77_6, gI_12_77_7, sI_12_77_7, gI_12_77_8, sI_12_77_8, gI_12_77_9, sI_12_77_9, gI_12_77_10, sI_12_77_10, gI_12_77_11, sI_12_77_11, gI_12_77_12, sI_12_77_12, gR_12_77_13, gI_12_77_14, sI_12_77_14, gI_12_77_15, sI_12_77_15, gI_12_77_16, sI_12_77_16, gI_12_77_17, sI_12_77_17, gI_12_77_18, sI_12_77_18, gI_12_77_19, sI_12_77_19, gI_12_77_20, sI_12_77_20, gI_12_77_21, sI_12_77_21, gI_12_77_22, sI_12_77_22, gI_12_77_23, sI_12_77_23, gR_12_77_24, gR_12_77_25, gR_12_77_26, gR_12_77_27, gR_12_77_28, gR_12_77_29, gR_12_77_30, gR_12_77_31, gR_12_77_32, gR_12_77_33, gR_12_77_34, gR_12_77_35, gR_12_77_36, gR_12_77_37, gR_12_77_38, gR_12_77_39, gI_12_77_40, sI_12_77_40, gI_12_77_41, sI_12_77_41, gI_12_77_42, sI_12_77_42, gI_12_77_43, sI_12_77_43, gR_12_77_44, gI_12_77_45, sI_12_77_45, gI_12_77_46, sI_12_77_46, gI_12_77_47, sI_12_77_47, gI_12_77_48, sI_12_77_48, gI_12_77_49, sI_12_77_49, gI_12_77_50, sI_12_77_50, gI_12_77_51, sI_12_77_51, gI_12_77_52, sI_12_77_52, gI_12_77_53, sI_12_77_53, gR_12_77_54, gR_12_77_55, gR_12_77_56, gR_12_77_57, gR_12_77_58, gI_12_77_59, sI_12_77_59, gI_12_77_60, sI_12_77_60, gI_12_77_61, sI_12_77_61, gI_12_77_62, sI_12_77_62, gI_12_77_63, sI_12_77_63, gI_12_77_64, sI_12_77_64, gI_12_77_65, sI_12_77_65]
        have e6 : (uL (uI w 15 1 (nI m)) 30 g).1 77 6 = w.1 77 6 := rfl
        rw [in_y hk, Option.bind_some, if_neg n10, has_eq _ (by omega), e6, hb, Option.bind_some, if_neg (by decide), em', laysFits_mk (w := uI (uL (uI w 15 1 (nI m)) 30 g) 77 6 (nI m)) h.b80]
        rfl
      · have hC : ∀ k s, WC (uA (uI (uL (uI w 15 1 (nI m)) 30 g) 77 6 (nI m)) 81 (fa_fill (fun s => if al (fun k => !bt (nI m) k || WC w k s) 8 then 1 else 0) (w.2.1 81) 1024)) k s = WC w k s := fun _ _ => rfl
        have hF : ∀ s, s < 1024 → WF (uA (uI (uL (uI w 15 1 (nI m)) 30 g) 77 6 (nI m)) 81 (fa_fill (fun s => if al (fun k => !bt (nI m) k || WC w k s) 8 then 1 else 0) (w.2.1 81) 1024)) s = al (fun k => !bt (nI m) k || WC w k s) 8 := fun s hs => by
          unfold WF
          rw [uA_at, fill_b hs, dec_b]
        obtain ⟨a1, a2, a3, a4, a5, a6, a7, a8⟩ := h
        obtain ⟨b1, b2, b3, b4, b5, b6, b7, b8, b9⟩ := a2
        refine ⟨a1, ⟨b1, b2, ?_, b4, fun k hk s hs => ?_, fun k hk s hs => ?_, fun s hs => ?_, b8, fun s hs => ?_⟩, ?_, ?_, ⟨a5.1, a5.2.1, rfl, ⟨m, hm, rfl⟩, a5.2.2.2.2⟩, R_tape_of a6 rfl rfl rfl rfl, R_price_of a7 rfl rfl rfl rfl rfl, ?_⟩
        · rw [uA_at]
          exact bo_fill
        · rw [uA_L, uI_A, uL_ne _ _ (by omega)]
          exact b5 k hk s hs
        · rw [uA_L, uI_A, uL_ne _ _ (by omega)]
          exact b6 k hk s hs
        · rw [hF s hs, uA_L, uI_A, uL_at, g2 s hs]
          exact al_cong (fun k hk => by rw [show (uI w 15 1 (nI m)).1 15 1 = nI m from rfl, show (uI w 15 1 (nI m)).2.2.1 (17 + k) = w.2.2.1 (17 + k) from rfl, b6 k hk s hs])
        · rw [hF s hs]
          exact al_cong (fun k hk => by rw [hC]; rfl)
        · exact R_st_of a3 (fun _ _ => rfl) (fun k hk => uI_ne _ _ (by omega))
        · exact R_st_of a4 (fun _ _ => rfl) (fun k hk => uI_ne _ _ (by omega))
        · exact hRL w _ (sP_trans (sP_uI w _ rfl) (sP_trans (sP_uL _ _ rfl) (sP_trans (sP_uI _ _ rfl) (sP_uA _ _ rfl)))) a8
  · refine OPi (r := 0) (w1 := w) (w2 := w) ?_ ?_ h
    · unfold FX11_drop
      simp only [Option.bind_some, vl_eq, jn_eq, rc_11_0, gR_11_0_0, gR_11_0_1, gR_11_0_2, gR_11_0_3, gR_11_0_4, gR_11_0_5, gR_11_0_6, gR_11_0_7, gR_11_0_8, gR_11_0_9, gR_11_0_10, gR_11_0_11, gR_11_0_12, gR_11_0_13, gI_11_0_14, sI_11_0_14, rc_8_1, gR_8_1_0, gI_8_1_1, sI_8_1_1, rc_1_3, gR_1_3_0, gI_1_3_1, sI_1_3_1, gI_1_3_2, sI_1_3_2, gI_1_3_3, sI_1_3_3, gR_1_3_4, gI_1_3_5, sI_1_3_5, rc_1_2_3, gR_1_2_3_0, gI_1_2_3_1, sI_1_2_3_1, gI_1_2_3_2, sI_1_2_3_2, gI_1_2_3_3, sI_1_2_3_3, gR_1_2_3_4, gI_1_2_3_5, sI_1_2_3_5, rc_0_5, gR_0_5_0, gI_0_5_1, sI_0_5_1, rc_0_15, gR_0_15_0, gI_0_15_1, sI_0_15_1, rc_3_25, gR_3_25_0, gR_3_25_1, gR_3_25_2, gR_3_25_3, rc_5_34, gI_5_34_1, sI_5_34_1, gI_5_34_2, sI_5_34_2, gI_5_34_3, sI_5_34_3, gI_5_34_4, sI_5_34_4, gI_5_34_5, sI_5_34_5, gI_5_34_6, sI_5_34_6, gR_5_34_7, gR_5_34_8, gR_5_34_9, gR_5_34_10, gR_5_34_11, gR_5_34_12, rc_10_51, gI_10_51_0, sI_10_51_0, gI_10_51_1, sI_10_51_1, gI_10_51_2, sI_10_51_2, gR_10_51_3, rc_9_64, gR_9_64_0, gR_9_64_1, gR_9_64_2, rc_6_68, gI_6_68_0, sI_6_68_0, gI_6_68_1, sI_6_68_1, gI_6_68_2, sI_6_68_2, gI_6_68_3, sI_6_68_3, gI_6_68_4, sI_6_68_4, gI_6_68_5, sI_6_68_5, rc_6_69, gI_6_69_0, sI_6_69_0, gI_6_69_1, sI_6_69_1, gI_6_69_2, sI_6_69_2, gI_6_69_3, sI_6_69_3, gI_6_69_4, sI_6_69_4, gI_6_69_5, sI_6_69_5]
      rw [book_no e]
      rfl
    · unfold FX12_drop
      rw [in_n e]
      rfl
end
