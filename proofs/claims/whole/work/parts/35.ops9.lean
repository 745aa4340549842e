/-! calls: check, feed -/
section
variable {RL : WD → Prop} {b : Nat} {w : WD}
/-- a byte of the tape, as the class reads it -/
theorem at_mk {i : Nat} (hi : i < 260) : FX8_at (mk b w) (b + 1) (nI i) = some (w.2.1 2 i &&& (255 : Int32)) := by
  unfold FX8_at
  rw [if_neg (nI_pos (by omega)), if_neg (Lnle hi), gR_8_1_0, Option.bind_some, rdN_mk (t := 1) (n := 260) (by decide +kernel) (by decide) b w hi, Option.bind_some]
theorem byte_bit {x : Int32} (hx : x.toInt8.toInt32 = x) (p : Bool) : (x &&& (255 : Int32)) = (if p = true then 1 else 0) ↔ x = if p = true then 1 else 0 := by
  have h0 := sc_eq hx (n := 0) (by decide)
  have h1 := sc_eq hx (n := 1) (by decide)
  have z0 : (nI 0).toInt8.toInt32 = 0 := by decide
  have z1 : (nI 1).toInt8.toInt32 = 1 := by decide
  rw [z0] at h0
  rw [z1] at h1
  cases p
  · exact h0.symm
  · exact h1.symm
theorem op_check (hRL : LOK RL) (h : Rel RL w) (x : Int32) : OP RL b w (fun hp => FX11_check hp (b + 0) x) (fun hp => FX12_check hp (b + 77) x) := by
  obtain ⟨t1, ⟨n, hn, en⟩, t3, t4⟩ := h.tape
  have e1 : w.1 1 1 = nI n := t1.trans en
  have hz : Rel RL (uI (uI w 1 1 0) 77 14 0) := Rel_tape hRL h (sP_trans (sP_uI w _ rfl) (sP_uI _ _ rfl)) ⟨rfl, ⟨0, by decide, rfl⟩, t3, t4⟩
  obtain ⟨m, hm, em, em2⟩ := h.state
  by_cases e : ∃ k, k < 11 ∧ x = nI k
  · obtain ⟨k, hk, rfl⟩ := e
    by_cases q : k ≤ n
    · have hC : FX11_check (mk b w) (b + 0) (nI k) = if ex (fun i => !decide (w.2.1 83 i = if m.testBit i then 1 else 0)) k then some (nI (fa_first (fun i => !decide (w.2.1 83 i = if m.testBit i then 1 else 0)) k), mk b (uI w 1 1 0)) else some (-1, mk b (uI w 1 1 0)) := by
        unfold FX11_check
        rw [if_neg (nI_pos (by omega)), if_neg (Lnlt (show k ≤ 10 by omega))]
        simp only [Option.bind_some, vl_eq, jn_eq, rc_11_0, gR_11_0_0, gR_11_0_1, gR_11_0_2, gR_11_0_3, gR_11_0_4, gR_11_0_5, gR_11_0_6, gR_11_0_7, gR_11_0_8, gR_11_0_9, gR_11_0_10, gR_11_0_11, gR_11_0_12, gR_11_0_13, gI_11_0_14, sI_11_0_14, rc_8_1, gR_8_1_0, gI_8_1_1, sI_8_1_1, rc_1_3, gR_1_3_0, gI_1_3_1, sI_1_3_1, gI_1_3_2, sI_1_3_2, gI_1_3_3, sI_1_3_3, gR_1_3_4, gI_1_3_5, sI_1_3_5, rc_1_2_3, gR_1_2_3_0, gI_1_2_3_1, sI_1_2_3_1, gI_1_2_3_2, sI_1_2_3_2, gI_1_2_3_3, sI_1_2_3_3, gR_1_2_3_4, gI_1_2_3_5, sI_1_2_3_5, rc_0_5, gR_0_5_0, gI_0_5_1, sI_0_5_1, rc_0_15, gR_0_15_0, gI_0_15_1, sI_0_15_1, rc_3_25, gR_3_25_0, gR_3_25_1, gR_3_25_2, gR_3_25_3, rc_5_34, gI_5_34_1, sI_5_34_1, gI_5_34_2, sI_5_34_2, gI_5_34_3, sI_5_34_3, gI_5_34_4, sI_5_34_4, gI_5_34_5, sI_5_34_5, gI_5_34_6, sI_5_34_6, gR_5_34_7, gR_5_34_8, gR_5_34_9, gR_5_34_10, gR_5_34_11, gR_5_34_12, rc_10_51, gI_10_51_0, sI_10_51_0, gI_10_51_1, sI_10_51_1, gI_10_51_2, sI_10_51_2, gR_10_51_3, rc_9_64, gR_9_64_0, gR_9_64_1, gR_9_64_2, rc_6_68, gI_6_68_0, sI_6_68_0, gI_6_68_1, sI_6_68_1, gI_6_68_2, sI_6_68_2, gI_6_68_3, sI_6_68_3, gI_6_68_4, sI_6_68_4, gI_6_68_5, sI_6_68_5, rc_6_69, gI_6_69_0, sI_6_69_0, gI_6_69_1, sI_6_69_1, gI_6_69_2, sI_6_69_2, gI_6_69_3, sI_6_69_3, gI_6_69_4, sI_6_69_4, gI_6_69_5, sI_6_69_5, e1]
        rw [if_pos (nI_le q (by omega))]
        exact lpb_first (P := Int32 × HP) (fun i => !decide (w.2.1 83 i = if m.testBit i then 1 else 0)) (fun i => (nI i, mk b (uI w 1 1 0))) () k (Nat.lt_trans hk (by decide)) (fun i hi => by
          rw [if_neg (nI_ge hi (by omega)), at_mk (show i < 260 by omega), Option.bind_some, show (uI w 1 1 0).1 68 0 = nI m from em2, show (uI w 1 1 0).2.1 2 i = w.2.1 2 i from rfl, t3 i (by omega), bit_nI _ (by omega), nI_1]
          by_cases g : w.2.1 83 i = if m.testBit i = true then 1 else 0
          · rw [if_pos ((byte_bit (t4 i (by omega)) _).mpr g), decide_eq_true g]
            rfl
          · rw [if_neg (fun g2 => g ((byte_bit (t4 i (by omega)) _).mp g2)), decide_eq_false g]
            rfl) (by rw [if_pos (nI_le (Nat.le_refl k) (by omega))])
      have hM : FX12_check (mk b (uI w 1 1 0)) (b + 77) (nI k) = if ex (fun i => !decide (w.2.1 83 i = if m.testBit i then 1 else 0)) k then some (nI (fa_first (fun i => !decide (w.2.1 83 i = if m.testBit i then 1 else 0)) k), mk b (uI (uI w 1 1 0) 77 14 0)) else some (-1, mk b (uI (uI w 1 1 0) 77 14 0)) := by
        unfold FX12_check
        rw [in_y hk, Option.bind_some, if_neg n10]
        simp only [Option.bind_some, vl_eq, jn_eq, rc_12_77, gR_12_77_0, gR_12_77_1, gR_12_77_2, gR_12_77_3, gR_12_77_4, gI_12_77_5, sI_12_77_5, gI_12_77_6, sI_12_77_6, gI_12_77_7, sI_12_77_7, gI_12_77_8, sI_12_77_8, gI_12_77_9, sI_12_77_9, gI_12_77_10, sI_12_77_10, gI_12_77_11, sI_12_77_11, gI_12_77_12, sI_12_77_12, gR_12_77_13, gI_12_77_14, sI_12_77_14, gI_12_77_15, sI_12_77_15, gI_12_77_16, sI_12_77_16, gI_12_77_17, sI_12_77_17, gI_12_77_18, sI_12_77_18, gI_12_77_19, sI_12_77_19, gI_12_77_20, sI_12_77_20, gI_12_77_21, sI_12_77_21, gI_12_77_22, sI_12_77_22, gI_12_77_23, sI_12_77_23, gR_12_77_24, gR_12_77_25, gR_12_77_26, gR_12_77_27, gR_12_77_28, gR_12_77_29, gR_12_77_30, gR_12_77_31, gR_12_77_32, gR_12_77_33, gR_12_77_34, gR_12_77_35, gR_12_77_36, gR_12_77_37, gR_12_77_38, gR_12_77_39, gI_12_77_40, sI_12_77_40, gI_12_77_41, sI_12_77_41, gI_12_77_42, sI_12_77_42, gI_12_77_43, sI_12_77_43, gR_12_77_44, gI_12_77_45, sI_12_77_45, gI_12_77_46, sI_12_77_46, gI_12_77_47, sI_12_77_47, gI_12_77_48, sI_12_77_48, gI_12_77_49, sI_12_77_49, gI_12_77_50, sI_12_77_50, gI_12_77_51, sI_12_77_51, gI_12_77_52, sI_12_77_52, gI_12_77_53, sI_12_77_53, gR_12_77_54, gR_12_77_55, gR_12_77_56, gR_12_77_57, gR_12_77_58, gI_12_77_59, sI_12_77_59, gI_12_77_60, sI_12_77_60, gI_12_77_61, sI_12_77_61, gI_12_77_62, sI_12_77_62, gI_12_77_63, sI_12_77_63, gI_12_77_64, sI_12_77_64, gI_12_77_65, sI_12_77_65]
        rw [show (uI w 1 1 0).1 77 14 = nI n from en, if_pos (nI_le q (by omega))]
        exact lpb_first (P := Int32 × HP) (fun i => !decide (w.2.1 83 i = if m.testBit i then 1 else 0)) (fun i => (nI i, mk b (uI (uI w 1 1 0) 77 14 0))) () k (Nat.lt_trans hk (by decide)) (fun i hi => by
          rw [if_neg (nI_ge hi (by omega)), rdN_mk (t := 1) (n := 260) (by decide +kernel) (by decide) b _ (show i < 260 by omega), Option.bind_some, show (uI (uI w 1 1 0) 77 14 0).1 77 7 = nI m from em, show (uI (uI w 1 1 0) 77 14 0).2.1 83 i = w.2.1 83 i from rfl, has_eq _ (by omega), bt_nI _ (by omega), Option.bind_some, bite, nI_1]
          by_cases g : w.2.1 83 i = if m.testBit i = true then 1 else 0
          · rw [decide_eq_true g]
            cases g2 : m.testBit i
            · rw [g2] at g
              rw [if_neg (by decide), if_pos (show w.2.1 83 i = 0 from g)]
              rfl
            · rw [g2] at g
              rw [if_pos rfl, if_pos (show w.2.1 83 i = 1 from g)]
              rfl
          · rw [decide_eq_false g]
            cases g2 : m.testBit i
            · rw [g2] at g
              rw [if_neg (by decide), if_neg (show ¬ w.2.1 83 i = 0 from g)]
              rfl
            · rw [g2] at g
              rw [if_pos rfl, if_neg (show ¬ w.2.1 83 i = 1 from g)]
              rfl) (by rw [if_pos (nI_le (Nat.le_refl k) (by omega))])
      cases g : ex (fun i => !decide (w.2.1 83 i = if m.testBit i then 1 else 0)) k with
      | true =>
        rw [g] at hC hM
        exact OPi hC hM hz
      | false =>
        rw [g] at hC hM
        exact OPi hC hM hz
    · refine OPi (r := -2) (w1 := w) (w2 := w) ?_ ?_ h
      · unfold FX11_check
        rw [if_neg (nI_pos (by omega)), if_neg (Lnlt (show k ≤ 10 by omega))]
        simp only [Option.bind_some, vl_eq, jn_eq, rc_11_0, gR_11_0_0, gR_11_0_1, gR_11_0_2, gR_11_0_3, gR_11_0_4, gR_11_0_5, gR_11_0_6, gR_11_0_7, gR_11_0_8, gR_11_0_9, gR_11_0_10, gR_11_0_11, gR_11_0_12, gR_11_0_13, gI_11_0_14, sI_11_0_14, rc_8_1, gR_8_1_0, gI_8_1_1, sI_8_1_1, rc_1_3, gR_1_3_0, gI_1_3_1, sI_1_3_1, gI_1_3_2, sI_1_3_2, gI_1_3_3, sI_1_3_3, gR_1_3_4, gI_1_3_5, sI_1_3_5, rc_1_2_3, gR_1_2_3_0, gI_1_2_3_1, sI_1_2_3_1, gI_1_2_3_2, sI_1_2_3_2, gI_1_2_3_3, sI_1_2_3_3, gR_1_2_3_4, gI_1_2_3_5, sI_1_2_3_5, rc_0_5, gR_0_5_0, gI_0_5_1, sI_0_5_1, rc_0_15, gR_0_15_0, gI_0_15_1, sI_0_15_1, rc_3_25, gR_3_25_0, gR_3_25_1, gR_3_25_2, gR_3_25_3, rc_5_34, gI_5_34_1, sI_5_34_1, gI_5_34_2, sI_5_34_2, gI_5_34_3, sI_5_34_3, gI_5_34_4, sI_5_34_4, gI_5_34_5, sI_5_34_5, gI_5_34_6, sI_5_34_6, gR_5_34_7, gR_5_34_8, gR_5_34_9, gR_5_34_10, gR_5_34_11, gR_5_34_12, rc_10_51, gI_10_51_0, sI_10_51_0, gI_10_51_1, sI_10_51_1, gI_10_51_2, sI_10_51_2, gR_10_51_3, rc_9_64, gR_9_64_0, gR_9_64_1, gR_9_64_2, rc_6_68, gI_6_68_0, sI_6_68_0, gI_6_68_1, sI_6_68_1, gI_6_68_2, sI_6_68_2, gI_6_68_3, sI_6_68_3, gI_6_68_4, sI_6_68_4, gI_6_68_5, sI_6_68_5, rc_6_69, gI_6_69_0, sI_6_69_0, gI_6_69_1, sI_6_69_1, gI_6_69_2, sI_6_69_2, gI_6_69_3, sI_6_69_3, gI_6_69_4, sI_6_69_4, gI_6_69_5, sI_6_69_5, e1]
        rw [if_neg (nI_ge (by omega) (by omega))]
      · unfold FX12_check
        rw [in_y hk, Option.bind_some, if_neg n10]
        simp only [Option.bind_some, vl_eq, jn_eq, rc_12_77, gR_12_77_0, gR_12_77_1, gR_12_77_2, gR_12_77_3, gR_12_77_4, gI_12_77_5, sI_12_77_5, gI_12_77_6, sI_12_77_6, gI_12_77_7, sI_12_77_7, gI_12_77_8, sI_12_77_8, gI_12_77_9, sI_12_77_9, gI_12_77_10, sI_12_77_10, gI_12_77_11, sI_12_77_11, gI_12_77_12, sI_12_77_12, gR_12_77_13, gI_12_77_14, sI_12_77_14, gI_12_77_15, sI_12_77_15, gI_12_77_16, sI_12_77_16, gI_12_77_17, sI_12_77_17, gI_12_77_18, sI_12_77_18, gI_12_77_19, sI_12_77_19, gI_12_77_20, sI_12_77_20, gI_12_77_21, sI_12_77_21, gI_12_77_22, sI_12_77_22, gI_12_77_23, sI_12_77_23, gR_12_77_24, gR_12_77_25, gR_12_77_26, gR_12_77_27, gR_12_77_28, gR_12_77_29, gR_12_77_30, gR_12_77_31, gR_12_77_32, gR_12_77_33, gR_12_77_34, gR_12_77_35, gR_12_77_36, gR_12_77_37, gR_12_77_38, gR_12_77_39, gI_12_77_40, sI_12_77_40, gI_12_77_41, sI_12_77_41, gI_12_77_42, sI_12_77_42, gI_12_77_43, sI_12_77_43, gR_12_77_44, gI_12_77_45, sI_12_77_45, gI_12_77_46, sI_12_77_46, gI_12_77_47, sI_12_77_47, gI_12_77_48, sI_12_77_48, gI_12_77_49, sI_12_77_49, gI_12_77_50, sI_12_77_50, gI_12_77_51, sI_12_77_51, gI_12_77_52, sI_12_77_52, gI_12_77_53, sI_12_77_53, gR_12_77_54, gR_12_77_55, gR_12_77_56, gR_12_77_57, gR_12_77_58, gI_12_77_59, sI_12_77_59, gI_12_77_60, sI_12_77_60, gI_12_77_61, sI_12_77_61, gI_12_77_62, sI_12_77_62, gI_12_77_63, sI_12_77_63, gI_12_77_64, sI_12_77_64, gI_12_77_65, sI_12_77_65]
        rw [show w.1 77 14 = nI n from en, if_neg (nI_ge (by omega) (by omega))]
  · refine OPi (r := -2) (w1 := w) (w2 := w) ?_ ?_ h
    · unfold FX11_check
      rcases ix_out (n := 11) (by decide) e with q | ⟨q1, q2⟩
      · rw [if_pos q]
      · rw [if_neg q1, if_pos]
        have : (11 : Int32).toInt = 11 := by decide
        have : (10 : Int32).toInt = 10 := by decide
        have q2 : (11 : Int32) ≤ x := q2
        rw [fa_le] at q2
        rw [fa_lt]
        omega
    · unfold FX12_check
      rw [in_n e]
      rfl
/-- four bytes behind a tape -/
def b4 (v : Int32) (s : Nat) : Int32 := (v >>> (nI s &&& 31)).toInt8.toInt32
def add4 (f : Nat → Int32) (n : Nat) (v : Int32) : Nat → Nat → Int32
  | 0 => f
  | t + 1 => upd (add4 f n v t) (n + t) (b4 v (24 - 8 * t))
theorem add_mk {n : Nat} (hn : n + 4 ≤ 260) (e1 : w.1 1 1 = nI n) (v : Int32) : FX8_add (mk b w) (b + 1) v = some (mk b (uI (uA w 2 (add4 (w.2.1 2) n v 4)) 1 1 (nI (n + 4)))) := by
  unfold FX8_add
  have hid : uI (uA w 2 (w.2.1 2)) 1 1 (nI n) = w := by
    rw [uA_id, ← e1]
    obtain ⟨w1, w2⟩ := w
    unfold uI
    congr 1
    funext j k
    by_cases q : j = 1 ∧ k = 1
    · rw [if_pos q, q.1, q.2]
    · rw [if_neg q]
  refine lpb_for (fun t => (nI (24 + 8) - nI (8 * (t + 1)), mk b (uI (uA w 2 (add4 (w.2.1 2) n v t)) 1 1 (nI (n + t))))) (mk b (uI (uA w 2 (add4 (w.2.1 2) n v 4)) 1 1 (nI (n + 4)))) 4 ?_ (by decide) (fun t ht => ?_) (by rfl) (by rfl)
  · show (nI (24 + 8) - nI 8, mk b (uI (uA w 2 (w.2.1 2)) 1 1 (nI n))) = _
    rw [hid]
    rfl
  · try dsimp only
    have ec : nI (24 + 8) - nI (8 * (t + 1)) = nI (24 - 8 * t) := by rw [pk_sub (by omega)]; congr 1; omega
    have ec2 : nI (24 - 8 * t) + (-8 : Int32) = nI (24 + 8) - nI (8 * (t + 1 + 1)) := by
      rcases (show t = 0 ∨ t = 1 ∨ t = 2 ∨ t = 3 by omega) with rfl | rfl | rfl | rfl <;> decide
    rw [ec, if_neg (nI_pos (by omega)), gI_8_1_1, Option.bind_some, uI_at, if_neg (Lnle (show n + t < 260 by omega)), gR_8_1_0, Option.bind_some, Option.bind_some, wrB_mk (n := 260) (by decide +kernel) b _ (show n + t < 260 by omega), Option.bind_some, gI_8_1_1, Option.bind_some, sI_8_1_1, Option.bind_some, vl_eq, ec2]
    have e2 : (uA (uI (uA w 2 (add4 (w.2.1 2) n v t)) 1 1 (nI (n + t))) 2 (upd ((uI (uA w 2 (add4 (w.2.1 2) n v t)) 1 1 (nI (n + t))).2.1 2) (n + t) ((v >>> (nI (24 - 8 * t) &&& 31)).toInt8.toInt32.toInt8.toInt32))) = uI (uA w 2 (add4 (w.2.1 2) n v (t + 1))) 1 1 (nI (n + t)) := by
      rw [fb_byte_twice]
      have : (uI (uA w 2 (add4 (w.2.1 2) n v t)) 1 1 (nI (n + t))).2.1 2 = add4 (w.2.1 2) n v t := uA_at _ _ _
      rw [this]
      exact congrArg (fun z => uI z 1 1 (nI (n + t))) (uA_uA w 2 _ _)
    rw [e2, uI_at, nI_1]
    have e3 : ∀ (z : WD) (a c : Int32), uI (uI z 1 1 a) 1 1 c = uI z 1 1 c := fun z a c => by
      unfold uI
      congr 1
      funext j k
      by_cases q : j = 1 ∧ k = 1
      · rw [if_pos q, if_pos q]
      · rw [if_neg q, if_neg q]
        exact if_neg q
    rw [e3]
    rfl
def T2 (w : WD) (n : Nat) (v : Int32) : WD := uI (uA w 2 (add4 (w.2.1 2) n v 4)) 1 1 (nI (n + 4))
def M2 (w : WD) (n : Nat) (v : Int32) : WD := uI (uA w 83 (add4 (w.2.1 83) n v 4)) 77 14 (nI (n + 4))
theorem types_mk {n : Nat} (hn : n + 4 ≤ 260) (e1 : w.1 77 14 = nI n) (v : Int32) : FX12_types (mk b w) (b + 77) v = some (mk b (M2 w n v)) := by
  unfold FX12_types M2
  have hid : uI (uA w 83 (w.2.1 83)) 77 14 (nI n) = w := by
    rw [uA_id, ← e1]
    obtain ⟨w1, w2⟩ := w
    unfold uI
    congr 1
    funext j k
    by_cases q : j = 77 ∧ k = 14
    · rw [if_pos q, q.1, q.2]
    · rw [if_neg q]
  refine lpb_for (fun t => (nI 4 - nI (t + 1), mk b (uI (uA w 83 (add4 (w.2.1 83) n v t)) 77 14 (nI (n + t))))) (mk b (uI (uA w 83 (add4 (w.2.1 83) n v 4)) 77 14 (nI (n + 4)))) 4 ?_ (by decide) (fun t ht => ?_) (by rfl) (by rfl)
  · show (nI 4 - nI 1, mk b (uI (uA w 83 (w.2.1 83)) 77 14 (nI n))) = _
    rw [hid]
    rfl
  · try dsimp only
    have ec : nI 4 - nI (t + 1) = nI (3 - t) := by rw [pk_sub (by omega)]; congr 1; omega
    have ec2 : nI (3 - t) + (-1 : Int32) = nI 4 - nI (t + 1 + 1) := by
      rcases (show t = 0 ∨ t = 1 ∨ t = 2 ∨ t = 3 by omega) with rfl | rfl | rfl | rfl <;> decide
    have ec3 : (8 : Int32) * nI (3 - t) = nI (24 - 8 * t) := by rw [fa_lit 8, pk_mul]; congr 1; omega
    rw [ec, if_neg (nI_pos (by omega)), gR_12_77_13, Option.bind_some, gI_12_77_14, Option.bind_some, uI_at, ec3, wrB_mk (n := 260) (by decide +kernel) b _ (show n + t < 260 by omega), Option.bind_some, gI_12_77_14, Option.bind_some, sI_12_77_14, Option.bind_some, vl_eq, ec2]
    have e2 : (uA (uI (uA w 83 (add4 (w.2.1 83) n v t)) 77 14 (nI (n + t))) 83 (upd ((uI (uA w 83 (add4 (w.2.1 83) n v t)) 77 14 (nI (n + t))).2.1 83) (n + t) ((v >>> (nI (24 - 8 * t) &&& 31)).toInt8.toInt32.toInt8.toInt32))) = uI (uA w 83 (add4 (w.2.1 83) n v (t + 1))) 77 14 (nI (n + t)) := by
      rw [fb_byte_twice]
      have : (uI (uA w 83 (add4 (w.2.1 83) n v t)) 77 14 (nI (n + t))).2.1 83 = add4 (w.2.1 83) n v t := uA_at _ _ _
      rw [this]
      exact congrArg (fun z => uI z 77 14 (nI (n + t))) (uA_uA w 83 _ _)
    rw [e2, uI_at, nI_1]
    have e3 : ∀ (z : WD) (a c : Int32), uI (uI z 77 14 a) 77 14 c = uI z 77 14 c := fun z a c => by
      unfold uI
      congr 1
      funext j k
      by_cases q : j = 77 ∧ k = 14
      · rw [if_pos q, if_pos q]
      · rw [if_neg q, if_neg q]
        exact if_neg q
    rw [e3]
    rfl
theorem add4_cong {f g : Nat → Int32} (h : ∀ i, i < 260 → f i = g i) (n : Nat) (v : Int32) : ∀ t, ∀ i, i < 260 → add4 f n v t i = add4 g n v t i
  | 0 => h
  | t + 1 => fun i hi => by
    show upd (add4 f n v t) (n + t) _ i = upd (add4 g n v t) (n + t) _ i
    unfold upd
    by_cases q : i = n + t
    · rw [if_pos q, if_pos q]
    · rw [if_neg q, if_neg q, add4_cong h n v t i hi]
theorem add4_byt {f : Nat → Int32} (h : ∀ i, i < 260 → (f i).toInt8.toInt32 = f i) (n : Nat) (v : Int32) : ∀ t, ∀ i, i < 260 → (add4 f n v t i).toInt8.toInt32 = add4 f n v t i
  | 0 => h
  | t + 1 => fun i hi => by
    show (upd (add4 f n v t) (n + t) _ i).toInt8.toInt32 = upd (add4 f n v t) (n + t) _ i
    unfold upd
    by_cases q : i = n + t
    · rw [if_pos q]
      exact fb_byte_twice _
    · rw [if_neg q, add4_byt h n v t i hi]
theorem T2_2 (w : WD) (n : Nat) (v : Int32) : (T2 w n v).2.1 2 = add4 (w.2.1 2) n v 4 := rfl
theorem T2_83 (w : WD) (n : Nat) (v : Int32) : (T2 w n v).2.1 83 = w.2.1 83 := rfl
theorem M2_83 (w : WD) (n : Nat) (v : Int32) : (M2 w n v).2.1 83 = add4 (w.2.1 83) n v 4 := rfl
theorem M2_2 (w : WD) (n : Nat) (v : Int32) : (M2 w n v).2.1 2 = w.2.1 2 := rfl
theorem sT2 (w : WD) (n : Nat) (v : Int32) : simP eT eAT eL w (T2 w n v) := sP_trans (sP_uA w _ rfl) (sP_uI _ _ rfl)
theorem sM2 (w : WD) (n : Nat) (v : Int32) : simP eT eAT eL w (M2 w n v) := sP_trans (sP_uA w _ rfl) (sP_uI _ _ rfl)
theorem op_feed (hRL : LOK RL) (h : Rel RL w) (x1 x2 x3 x4 x5 : Int32) : OP RL b w (fun hp => FX11_feed hp (b + 0) x1 x2 x3 x4 x5) (fun hp => FX12_feed hp (b + 77) x1 x2 x3 x4 x5) := by
  obtain ⟨t1, ⟨n, hn, en⟩, t3, t4⟩ := h.tape
  have e1 : w.1 1 1 = nI n := t1.trans en
  by_cases q : n + 20 ≤ 260
  · refine OPi (r := nI (n + 20)) (w1 := T2 (T2 (T2 (T2 (T2 w n x1) (n + 4) x2) (n + 4 + 4) x3) (n + 4 + 4 + 4) x4) (n + 4 + 4 + 4 + 4) x5) (w2 := M2 (M2 (M2 (M2 (M2 (T2 (T2 (T2 (T2 (T2 w n x1) (n + 4) x2) (n + 4 + 4) x3) (n + 4 + 4 + 4) x4) (n + 4 + 4 + 4 + 4) x5) n x1) (n + 4) x2) (n + 4 + 4) x3) (n + 4 + 4 + 4) x4) (n + 4 + 4 + 4 + 4) x5) ?_ ?_ ?_
    · unfold FX11_feed
      rw [gR_11_0_0, Option.bind_some, gI_8_1_1, Option.bind_some, e1, fa_lit 20, nI_add, if_pos (Rle q), Option.bind_some, rc_8_1, add_mk (by omega) e1, Option.bind_some]
      rw [gR_11_0_0, Option.bind_some, rc_8_1, add_mk (w := uI (uA w 2 (add4 (w.2.1 2) n x1 4)) 1 1 (nI (n + 4))) (n := n + 4) (by omega) rfl, Option.bind_some]
      rw [gR_11_0_0, Option.bind_some, rc_8_1, add_mk (n := n + 4 + 4) (by omega) rfl, Option.bind_some]
      rw [gR_11_0_0, Option.bind_some, rc_8_1, add_mk (n := n + 4 + 4 + 4) (by omega) rfl, Option.bind_some]
      rw [gR_11_0_0, Option.bind_some, rc_8_1, add_mk (n := n + 4 + 4 + 4 + 4) (by omega) rfl, Option.bind_some]
      rw [gR_11_0_0, Option.bind_some, gI_8_1_1, Option.bind_some, uI_at]
      rfl
    · unfold FX12_feed
      have en' : (T2 (T2 (T2 (T2 (T2 w n x1) (n + 4) x2) (n + 4 + 4) x3) (n + 4 + 4 + 4) x4) (n + 4 + 4 + 4 + 4) x5).1 77 14 = nI n := en
      rw [gI_12_77_14, Option.bind_some, en', fa_lit 20, nI_add, if_pos (Rle q), rc_12_77, types_mk (by omega) en', Option.bind_some]
      rw [rc_12_77, types_mk (n := n + 4) (by omega) rfl, Option.bind_some]
      rw [rc_12_77, types_mk (n := n + 4 + 4) (by omega) rfl, Option.bind_some]
      rw [rc_12_77, types_mk (n := n + 4 + 4 + 4) (by omega) rfl, Option.bind_some]
      rw [rc_12_77, types_mk (n := n + 4 + 4 + 4 + 4) (by omega) rfl, Option.bind_some, gI_12_77_14, Option.bind_some]
      rfl
    · refine Rel_tape hRL h (sP_trans (sT2 _ _ _) (sP_trans (sT2 _ _ _) (sP_trans (sT2 _ _ _) (sP_trans (sT2 _ _ _) (sP_trans (sT2 _ _ _) (sP_trans (sM2 _ _ _) (sP_trans (sM2 _ _ _) (sP_trans (sM2 _ _ _) (sP_trans (sM2 _ _ _) (sM2 _ _ _)))))))))) ⟨rfl, ⟨n + 20, by omega, rfl⟩, ?_, ?_⟩
      · simp only [M2_2, M2_83, T2_2, T2_83]
        exact add4_cong (add4_cong (add4_cong (add4_cong (add4_cong t3 _ _ _) _ _ _) _ _ _) _ _ _) _ _ _
      · simp only [M2_2, M2_83, T2_2, T2_83]
        exact add4_byt (add4_byt (add4_byt (add4_byt (add4_byt t4 _ _ _) _ _ _) _ _ _) _ _ _) _ _ _
  · refine OPi (r := -1) (w1 := w) (w2 := w) ?_ ?_ h
    · unfold FX11_feed
      rw [gR_11_0_0, Option.bind_some, gI_8_1_1, Option.bind_some, e1, fa_lit 20, nI_add, if_neg (Rnle (show 260 < n + 20 by omega) (by omega))]
    · unfold FX12_feed
      rw [gI_12_77_14, Option.bind_some, show w.1 77 14 = nI n from en, fa_lit 20, nI_add, if_neg (Rnle (show 260 < n + 20 by omega) (by omega))]
end
