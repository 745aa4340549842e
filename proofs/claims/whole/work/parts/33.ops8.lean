/-! calls: summer, check, feed -/
theorem mx0 {d n : Nat} (hd : d < 2 ^ 30) (hn : n < 2 ^ 30) : mxI 0 (nI d - nI n) = nI (d - n) := by
  by_cases h : n ≤ d
  · rw [pk_sub h, show (0 : Int32) = nI 0 from rfl, mx_nI (by decide) (by omega), Nat.max_eq_right (Nat.zero_le _)]
  · unfold mxI
    have q := pk_sneg (a := d) (b := n) hn (by omega)
    rw [if_neg (fun g => by rw [fa_lt] at g q; omega), show d - n = 0 by omega]
    rfl
section
variable {RL : WD → Prop} {b : Nat} {w : WD}
theorem isOver_mk {j : Nat} (o1 : okE [6] j 5 0 = true) (o2 : okE [6] j 1 0 = true) (o3 : okO [6] j = true) {d : Nat} (hd : d < 8641) (ed : w.1 j 1 = nI d) (hf : w.1 j 5 = 0 ∨ w.1 j 5 = 1) : FX6_isOver (mk b w) (b + j) = some (if w.1 j 5 = 1 ∨ 8640 ≤ d then 1 else 0) := by
  unfold FX6_isOver FX6_isFetched
  rw [gI_mk o1, Option.bind_some, gI_mk o2, Option.bind_some, rc_mk o3, ed]
  rcases hf with e | e
  · rw [e, if_pos rfl]
    by_cases q : 8640 ≤ d
    · rw [if_neg (Rnlt (n := 8640) q (by omega)), if_pos (Or.inr q)]
      rfl
    · rw [if_pos (Rlt (n := 8640) (by omega)), if_neg (by rintro (g | g); exact absurd g (by decide); exact q g)]
      rfl
  · rw [e, if_neg (by decide), if_pos (Or.inl rfl)]
theorem summer_m {n d z c : Nat} (hn1 : 1 ≤ n) (hn : n ≤ 360) (hd : d < 8641) (hz : z < 10000) (q1 : ¬ w.1 77 12 = 1) (q2 : ¬ 8640 ≤ d) (ed : w.1 77 8 = nI d) (ez : w.1 77 9 = nI z) (hc : (if nI (d % 360 / 30) < (5 : Int32) then 10 * ((n + 29) / 30) else if (7 : Int32) < nI (d % 360 / 30) then 10 * ((n + 29) / 30) else 20 * ((n + 29) / 30)) = c) (hm : c ≤ 260) : FX12_summer (mk b w) (b + 77) (nI n) = some (nI c, mk b (uI (uI w 77 9 (nI (min 9999 (z + c)))) 77 8 (nI (d - n)))) := by
  unfold FX12_summer
  rw [in_yes hn1 hn, Option.bind_some, if_neg n10, gI_12_77_12, Option.bind_some, if_neg q1, gI_12_77_8, Option.bind_some, ed, fa_lit 8640, if_neg (fun g => q2 (Nat.le_of_eq (nI_inj (by omega) (by decide) g).symm)), Option.bind_some, rm_nI (d := 360) (by omega) (by decide) (by decide), Option.bind_some, dv_nI (d := 30) (by omega) (by decide) (by decide), Option.bind_some, fa_lit 29, nI_add, dv_nI (d := 30) (by omega) (by decide) (by decide), Option.bind_some, in_eq, Option.bind_some, jn_eq]
  have key : ∀ y : Nat, y = c → vl (nI y) (fun x11 => (gI [12] 9 (mk b w) (b + 77)).bind (fun v12 => (FX12_min (9999 : Int32) (v12 + x11)).bind (fun v13 => (sI [12] 9 (mk b w) (b + 77) v13).bind (fun hp14 => (gI [12] 8 hp14 (b + 77)).bind (fun v15 => (FX12_max (0 : Int32) (v15 - nI n)).bind (fun v16 => (sI [12] 8 hp14 (b + 77) v16).bind (fun hp17 => some (x11, hp17)))))))) = some (nI c, mk b (uI (uI w 77 9 (nI (min 9999 (z + c)))) 77 8 (nI (d - n)))) := fun y hy => by
    rw [vl_eq, gI_12_77_9, Option.bind_some, ez, nI_add, fa_lit 9999, mn_min, Option.bind_some, hy, mn_nI (by decide) (by omega), sI_12_77_9, Option.bind_some, gI_12_77_8, Option.bind_some, show (uI w 77 9 (nI (min 9999 (z + c)))).1 77 8 = nI d from ed, mx_max, Option.bind_some, mx0 (by omega) (by omega), sI_12_77_8, Option.bind_some]
  by_cases g1 : nI (d % 360 / 30) < (5 : Int32)
  · rw [if_pos g1] at hc
    rw [if_pos (if_neg (fun g => (fa_of_lt g1).2.1 g.1)), fa_lit 10]
    show vl (nI ((n + 29) / 30) * nI 10) _ = _
    rw [pk_mul]
    exact key _ (by rw [Nat.mul_comm]; exact hc)
  · rw [if_neg g1] at hc
    by_cases g2 : (7 : Int32) < nI (d % 360 / 30)
    · rw [if_pos g2] at hc
      rw [if_pos (if_neg (fun g => (fa_of_lt g2).2.1 g.2)), fa_lit 10]
      show vl (nI ((n + 29) / 30) * nI 10) _ = _
      rw [pk_mul]
      exact key _ (by rw [Nat.mul_comm]; exact hc)
    · rw [if_neg g2] at hc
      rw [if_neg (by rw [if_pos ⟨fa_of_nlt g1, fa_of_nlt g2⟩]; decide), fa_lit 20]
      show vl (nI ((n + 29) / 30) * nI 20) _ = _
      rw [pk_mul]
      exact key _ (by rw [Nat.mul_comm]; exact hc)
theorem op_summer (hRL : LOK RL) (h : Rel RL w) (x : Int32) : OP RL b w (fun hp => FX11_summer hp (b + 0) x) (fun hp => FX12_summer hp (b + 77) x) := by
  obtain ⟨s0, s1, ⟨d, hd, ed⟩, ⟨z, hz, ez⟩, s4, s5⟩ := h.now
  have ed : w.1 77 8 = nI d := ed
  have ez : w.1 77 9 = nI z := ez
  have s5 : w.1 77 12 = 0 ∨ w.1 77 12 = 1 := s5
  have e1 : w.1 68 1 = nI d := (s0 1 (by decide)).trans ed
  have e2 : w.1 68 2 = nI z := (s0 2 (by decide)).trans ez
  have e5 : w.1 68 5 = w.1 77 12 := s0 5 (by decide)
  by_cases e : ∃ k, 1 ≤ k ∧ k ≤ 360 ∧ x = nI k
  · obtain ⟨n, hn1, hn, rfl⟩ := e
    have hO : FX6_isOver (mk b w) (b + 68) = some (if w.1 77 12 = 1 ∨ 8640 ≤ d then 1 else 0) := by
      rw [isOver_mk (by decide +kernel) (by decide +kernel) (by decide +kernel) hd e1 (by rw [e5]; exact s5), e5]
    by_cases q : w.1 77 12 = 1 ∨ 8640 ≤ d
    · refine OPi (r := -1) (w1 := w) (w2 := w) ?_ ?_ h
      · unfold FX11_summer
        simp only [Option.bind_some, vl_eq, jn_eq, rc_11_0, gR_11_0_0, gR_11_0_1, gR_11_0_2, gR_11_0_3, gR_11_0_4, gR_11_0_5, gR_11_0_6, gR_11_0_7, gR_11_0_8, gR_11_0_9, gR_11_0_10, gR_11_0_11, gR_11_0_12, gR_11_0_13, gI_11_0_14, sI_11_0_14, rc_8_1, gR_8_1_0, gI_8_1_1, sI_8_1_1, rc_1_3, gR_1_3_0, gI_1_3_1, sI_1_3_1, gI_1_3_2, sI_1_3_2, gI_1_3_3, sI_1_3_3, gR_1_3_4, gI_1_3_5, sI_1_3_5, rc_1_2_3, gR_1_2_3_0, gI_1_2_3_1, sI_1_2_3_1, gI_1_2_3_2, sI_1_2_3_2, gI_1_2_3_3, sI_1_2_3_3, gR_1_2_3_4, gI_1_2_3_5, sI_1_2_3_5, rc_0_5, gR_0_5_0, gI_0_5_1, sI_0_5_1, rc_0_15, gR_0_15_0, gI_0_15_1, sI_0_15_1, rc_3_25, gR_3_25_0, gR_3_25_1, gR_3_25_2, gR_3_25_3, rc_5_34, gI_5_34_1, sI_5_34_1, gI_5_34_2, sI_5_34_2, gI_5_34_3, sI_5_34_3, gI_5_34_4, sI_5_34_4, gI_5_34_5, sI_5_34_5, gI_5_34_6, sI_5_34_6, gR_5_34_7, gR_5_34_8, gR_5_34_9, gR_5_34_10, gR_5_34_11, gR_5_34_12, rc_10_51, gI_10_51_0, sI_10_51_0, gI_10_51_1, sI_10_51_1, gI_10_51_2, sI_10_51_2, gR_10_51_3, rc_9_64, gR_9_64_0, gR_9_64_1, gR_9_64_2, rc_6_68, gI_6_68_0, sI_6_68_0, gI_6_68_1, sI_6_68_1, gI_6_68_2, sI_6_68_2, gI_6_68_3, sI_6_68_3, gI_6_68_4, sI_6_68_4, gI_6_68_5, sI_6_68_5, rc_6_69, gI_6_69_0, sI_6_69_0, gI_6_69_1, sI_6_69_1, gI_6_69_2, sI_6_69_2, gI_6_69_3, sI_6_69_3, gI_6_69_4, sI_6_69_4, gI_6_69_5, sI_6_69_5]
        rw [if_neg (Rnlt hn1 (by omega)), if_neg (Lnlt hn), hO, Option.bind_some, if_pos q, if_neg n10]
      · unfold FX12_summer
        rw [in_yes hn1 hn, Option.bind_some, if_neg n10, gI_12_77_12, Option.bind_some, gI_12_77_8, Option.bind_some, ed]
        by_cases q1 : w.1 77 12 = 1
        · rw [if_pos q1]
        · have hd2 : d = 8640 := by
            rcases q with q | q
            · exact absurd q q1
            · omega
          rw [if_neg q1, fa_lit 8640, if_pos (by rw [hd2])]
    · have hm : (if nI (d % 360 / 30) < (5 : Int32) then 10 * ((n + 29) / 30) else if (7 : Int32) < nI (d % 360 / 30) then 10 * ((n + 29) / 30) else 20 * ((n + 29) / 30)) ≤ 260 := by
        split
        · omega
        · split <;> omega
      generalize hc : (if nI (d % 360 / 30) < (5 : Int32) then 10 * ((n + 29) / 30) else if (7 : Int32) < nI (d % 360 / 30) then 10 * ((n + 29) / 30) else 20 * ((n + 29) / 30)) = c at hm
      refine OPi (r := nI c) (w1 := uI (uI w 68 2 (nI (min 9999 (z + c)))) 68 1 (nI (d - n))) (w2 := uI (uI (uI (uI w 68 2 (nI (min 9999 (z + c)))) 68 1 (nI (d - n))) 77 9 (nI (min 9999 (z + c)))) 77 8 (nI (d - n))) ?_ ?_ ?_
      · unfold FX11_summer FX6_month FX6_addSins
        simp only [Option.bind_some, vl_eq, jn_eq, rc_11_0, gR_11_0_0, gR_11_0_1, gR_11_0_2, gR_11_0_3, gR_11_0_4, gR_11_0_5, gR_11_0_6, gR_11_0_7, gR_11_0_8, gR_11_0_9, gR_11_0_10, gR_11_0_11, gR_11_0_12, gR_11_0_13, gI_11_0_14, sI_11_0_14, rc_8_1, gR_8_1_0, gI_8_1_1, sI_8_1_1, rc_1_3, gR_1_3_0, gI_1_3_1, sI_1_3_1, gI_1_3_2, sI_1_3_2, gI_1_3_3, sI_1_3_3, gR_1_3_4, gI_1_3_5, sI_1_3_5, rc_1_2_3, gR_1_2_3_0, gI_1_2_3_1, sI_1_2_3_1, gI_1_2_3_2, sI_1_2_3_2, gI_1_2_3_3, sI_1_2_3_3, gR_1_2_3_4, gI_1_2_3_5, sI_1_2_3_5, rc_0_5, gR_0_5_0, gI_0_5_1, sI_0_5_1, rc_0_15, gR_0_15_0, gI_0_15_1, sI_0_15_1, rc_3_25, gR_3_25_0, gR_3_25_1, gR_3_25_2, gR_3_25_3, rc_5_34, gI_5_34_1, sI_5_34_1, gI_5_34_2, sI_5_34_2, gI_5_34_3, sI_5_34_3, gI_5_34_4, sI_5_34_4, gI_5_34_5, sI_5_34_5, gI_5_34_6, sI_5_34_6, gR_5_34_7, gR_5_34_8, gR_5_34_9, gR_5_34_10, gR_5_34_11, gR_5_34_12, rc_10_51, gI_10_51_0, sI_10_51_0, gI_10_51_1, sI_10_51_1, gI_10_51_2, sI_10_51_2, gR_10_51_3, rc_9_64, gR_9_64_0, gR_9_64_1, gR_9_64_2, rc_6_68, gI_6_68_0, sI_6_68_0, gI_6_68_1, sI_6_68_1, gI_6_68_2, sI_6_68_2, gI_6_68_3, sI_6_68_3, gI_6_68_4, sI_6_68_4, gI_6_68_5, sI_6_68_5, rc_6_69, gI_6_69_0, sI_6_69_0, gI_6_69_1, sI_6_69_1, gI_6_69_2, sI_6_69_2, gI_6_69_3, sI_6_69_3, gI_6_69_4, sI_6_69_4, gI_6_69_5, sI_6_69_5]
        rw [if_neg (Rnlt hn1 (by omega)), if_neg (Lnlt hn), hO, Option.bind_some, if_neg q, if_pos rfl, e1, rm_nI (d := 360) (by omega) (by decide) (by decide), Option.bind_some, dv_nI (d := 30) (by omega) (by decide) (by decide), Option.bind_some]
        have en : nI n + (30 : Int32) - (1 : Int32) = nI (n + 29) := by rw [fa_lit 30, nI_add, show n + 30 = n + 29 + 1 by omega, nI_pred]
        rw [en, dv_nI (d := 30) (by omega) (by decide) (by decide), Option.bind_some]
        have ec : ∀ (K : Int32 → Option (Int32 × HP)), (if nI (d % 360 / 30) < (5 : Int32) then K ((10 : Int32) * nI ((n + 29) / 30)) else if (7 : Int32) < nI (d % 360 / 30) then K ((10 : Int32) * nI ((n + 29) / 30)) else K ((10 : Int32) * nI ((n + 29) / 30) * (2 : Int32))) = K (nI c) := fun K => by
          rw [← hc, fa_lit 10, fa_lit 2, pk_mul, pk_mul]
          by_cases g1 : nI (d % 360 / 30) < (5 : Int32)
          · rw [if_pos g1, if_pos g1]
          · rw [if_neg g1, if_neg g1]
            by_cases g2 : (7 : Int32) < nI (d % 360 / 30)
            · rw [if_pos g2, if_pos g2]
            · rw [if_neg g2, if_neg g2, show 10 * ((n + 29) / 30) * 2 = 20 * ((n + 29) / 30) by omega]
        simp only [Option.bind_some]
        rw [ec (fun a7 => some (a7, mk b (uI (uI w 68 2 (mnI (9999 : Int32) (w.1 68 2 + a7))) 68 1 (mxI (0 : Int32) ((uI w 68 2 (mnI (9999 : Int32) (w.1 68 2 + a7))).1 68 1 - nI n)))))]
        rw [e2, nI_add, fa_lit 9999, mn_nI (by decide) (by omega), show (uI w 68 2 (nI (min 9999 (z + c)))).1 68 1 = nI d from e1, mx0 (by omega) (by omega)]
      · exact summer_m (w := uI (uI w 68 2 (nI (min 9999 (z + c)))) 68 1 (nI (d - n))) hn1 hn hd hz (fun g => q (Or.inl g)) (fun g => q (Or.inr g)) ed ez hc hm
      · refine Rel_now hRL h (sP_trans (sP_uI w _ rfl) (sP_trans (sP_uI _ _ rfl) (sP_trans (sP_uI _ _ rfl) (sP_uI _ _ rfl)))) ?_
        exact st_of (s0 0 (by decide)) rfl rfl (s0 3 (by decide)) (s0 4 (by decide)) (s0 5 (by decide)) s1 ⟨d - n, by omega, rfl⟩ ⟨min 9999 (z + c), by omega, rfl⟩ s4 s5
  · refine OPi (r := -1) (w1 := w) (w2 := w) ?_ ?_ h
    · unfold FX11_summer
      by_cases q : x < 1
      · rw [if_pos q]
      · rw [if_neg q, if_pos]
        by_cases q2 : (360 : Int32) < x
        · exact q2
        · exact absurd (in_nat (a := 1) (b := 360) (by decide) (fa_of_nlt q) (fa_of_nlt q2) (by decide)) e
    · unfold FX12_summer
      rw [in_no (a := 1) (c := 360) e]
      rfl
end
