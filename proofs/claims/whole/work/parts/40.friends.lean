/-! call: friends; wishes told as bits -/
theorem al_false {p : Nat → Bool} {i n : Nat} (h : i ≤ n) (hp : al p i = false) : al p n = false := by
  cases g : al p n with
  | false => rfl
  | true =>
    rw [al_iff] at g
    have : al p i = true := (al_iff p i).mpr (fun k hk => g k (by omega))
    rw [this] at hp
    cases hp
section
variable {RL : WD → Prop} {b : Nat} {w : WD}
theorem told_small {x : Int32} {T : Nat} (hT : T < 256) (h : x &&& (nI T ^^^ (-1 : Int32)) = 0) : ∃ m, m < 256 ∧ x = nI m := by
  have e : x = nI T &&& x := by
    refine b_ext (fun i hi => ?_)
    have := congrArg (fun z => bt z i) h
    simp only [b_and, bt_not _ hi, b_0] at this
    rw [b_and]
    cases h1 : bt x i <;> cases h2 : bt (nI T) i <;> simp_all
  obtain ⟨m, hm, em⟩ := and_small (a := T) (k := 8) hT x
  exact ⟨m, hm, e.trans em⟩
theorem howMany_mk (h : Rel RL w) (x : Int32) : (∃ m, m < 256 ∧ x = nI m ∧ nI m &&& (w.1 77 5 ^^^ (-1 : Int32)) = 0 ∧ FX0_howMany (mk b w) (b + 5) x = some (nI (pc m)) ∧ ∀ lo hi : Nat, 1 ≤ lo → lo < 2 ^ 31 → hi < 2 ^ 31 → FX12_areWishes (mk b w) (b + 77) x (OfNat.ofNat lo) (OfNat.ofNat hi) = some (if lo ≤ pc m ∧ pc m ≤ hi then 1 else 0)) ∨ (FX0_howMany (mk b w) (b + 5) x = some (-1) ∧ ∀ lo hi : Int32, FX12_areWishes (mk b w) (b + 77) x lo hi = some 0) := by
  obtain ⟨T, hT, eT⟩ := h.int.2.1
  have e5 : w.1 5 1 = w.1 77 5 := h.int.1
  by_cases q : x &&& (w.1 77 5 ^^^ (-1 : Int32)) = 0
  · left
    obtain ⟨m, hm, rfl⟩ := told_small hT (by rw [← eT]; exact q)
    have hp := pc_le m
    refine ⟨m, hm, rfl, q, ?_, fun lo hi h1 h0 h2 => ?_⟩
    · unfold FX0_howMany
      rw [gI_0_5_1, Option.bind_some, e5, if_pos q, bc_small m (by omega)]
      rfl
    · unfold FX12_areWishes
      rw [gI_12_77_5, Option.bind_some, if_pos q, bits_nI, Option.bind_some, in_eq, Option.bind_some]
      by_cases m0 : m = 0
      · subst m0
        rw [if_pos (by decide), if_neg]
        rintro ⟨g, _⟩
        have : pc 0 = 0 := by decide
        omega
      · rw [if_neg (nI_nle (by omega) (by omega))]
        by_cases g : lo ≤ pc m ∧ pc m ≤ hi
        · rw [if_pos g, if_neg]
          rw [if_pos ⟨Lle g.1 (by omega), Rle g.2 h2⟩]
          decide
        · rw [if_neg g, if_pos]
          rw [if_neg]
          rintro ⟨g1, g2⟩
          apply g
          have g1 : nI lo ≤ nI (pc m) := g1
          have g2 : nI (pc m) ≤ nI hi := g2
          exact ⟨(nI_leI h0 (by omega)).mp g1, (nI_leI (by omega) h2).mp g2⟩
  · right
    refine ⟨?_, fun lo hi => ?_⟩
    · unfold FX0_howMany
      rw [gI_0_5_1, Option.bind_some, e5, if_neg q]
    · unfold FX12_areWishes
      rw [gI_12_77_5, Option.bind_some, if_neg q]
      by_cases g : x ≤ 0
      · rw [if_pos g]
      · rw [if_neg g]
def frC (w : WD) (s : Nat) : Bool := ex (fun t => WF w t && al (fun j => !bt (nI s) j || WT w j t) 8) 1024
theorem canAll_mk (h1 : bo (w.2.1 79) 8192) (h2 : bo (w.2.1 81) 1024) (x : Int32) : FX12_canAllBe (mk b w) (b + 77) x = some (if ex (fun t => WF w t && al (fun j => !bt x j || WT w j t) 8) 1024 then 1 else 0) := by
  unfold FX12_canAllBe
  rw [lpb_first (P := Int32) (fun t => WF w t && al (fun j => !bt x j || WT w j t) 8) (fun _ => 1) () 1024 (by decide) (fun t ht => ?_) (by rfl)]
  · cases ex (fun t => WF w t && al (fun j => !bt x j || WT w j t) 8) 1024 <;> rfl
  · rw [if_neg (Lnle ht), gR_12_77_3, Option.bind_some, rdF h2 ht, Option.bind_some]
    have hl : ∃ y, lp (fun (s5 : Int32 × Int32) => if (8 : Int32) ≤ s5.2 then some (Sum.inl s5.1) else if s5.1 = 0 then some (Sum.inl s5.1) else (FX12_has x s5.2).bind (fun v8 => if v8 = 0 then vl (s5.2 + (1 : Int32)) (fun x9 => some (Sum.inr ((1 : Int32), x9))) else (rc [12] (mk b w) (b + 77) (FX12_holdsIn (mk b w) (b + 77) s5.2 (nI t))).bind (fun v10 => if v10 = 0 then vl (s5.2 + (1 : Int32)) (fun x11 => some (Sum.inr ((0 : Int32), x11))) else vl (s5.2 + (1 : Int32)) (fun x12 => some (Sum.inr ((1 : Int32), x12)))))) FU (if WF w t = true then (1 : Int32) else 0, (0 : Int32)) = some y ∧ y = if (WF w t && al (fun j => !bt x j || WT w j t) 8) = true then (1 : Int32) else 0 := by
      refine lp_ex (fun m s => ∃ k, k ≤ 8 ∧ m = 8 - k ∧ s = (if (WF w t && al (fun j => !bt x j || WT w j t) k) = true then (1 : Int32) else 0, nI k)) (fun y => y = if (WF w t && al (fun j => !bt x j || WT w j t) 8) = true then (1 : Int32) else 0) ?_ 8 _ ⟨0, by decide, rfl, by rw [show al (fun j => !bt x j || WT w j t) 0 = true from rfl, Bool.and_true]; rfl⟩ _ (by decide)
      rintro m s ⟨k, hk, rfl, rfl⟩
      try dsimp only
      by_cases e : k = 8
      · subst e
        left
        rw [if_pos (by decide)]
        exact ⟨_, rfl, rfl⟩
      · rw [if_neg (Lnle (show k < 8 by omega))]
        cases g : (WF w t && al (fun j => !bt x j || WT w j t) k) with
        | false =>
          left
          rw [if_pos (by rfl)]
          refine ⟨_, rfl, ?_⟩
          have : (WF w t && al (fun j => !bt x j || WT w j t) 8) = false := by
            rw [Bool.and_eq_false_iff] at *
            rcases g with g | g
            · exact Or.inl g
            · exact Or.inr (al_false (by omega) g)
          rw [this]
        | true =>
          right
          rw [if_neg (by decide), has_eq x (by omega), Option.bind_some, bite, rc_12_77, holds_mk h1 (show k < 8 by omega) ht, Option.bind_some, bite]
          simp only [vl_eq, nI_1]
          have g2 : (WF w t && al (fun j => !bt x j || WT w j t) (k + 1)) = (!bt x k || WT w k t) := by
            rw [al_succ, ← Bool.and_assoc, g, Bool.true_and]
          refine ⟨(if (WF w t && al (fun j => !bt x j || WT w j t) (k + 1)) = true then (1 : Int32) else 0, nI (k + 1)), 8 - (k + 1), ?_, by omega, k + 1, by omega, rfl, rfl⟩
          rw [g2]
          cases bt x k <;> cases WT w k t <;> rfl
    obtain ⟨y, l1, rfl⟩ := hl
    refine (congrArg (fun o => Option.bind o _) l1).trans ?_
    rw [Option.bind_some, bite]
    simp only [vl_eq, nI_1]
theorem op_friends (h : Rel RL w) (x y : Int32) : OPr b w (fun hp => FX11_friends hp (b + 0) x y) (fun hp => FX12_friends hp (b + 77) x y) := by
  unfold OPr FX11_friends FX12_friends
  try dsimp only
  simp only [Option.bind_some, vl_eq, jn_eq, rc_11_0, gR_11_0_0, gR_11_0_1, gR_11_0_2, gR_11_0_3, gR_11_0_4, gR_11_0_5, gR_11_0_6, gR_11_0_7, gR_11_0_8, gR_11_0_9, gR_11_0_10, gR_11_0_11, gR_11_0_12, gR_11_0_13, gI_11_0_14, sI_11_0_14, rc_8_1, gR_8_1_0, gI_8_1_1, sI_8_1_1, rc_1_3, gR_1_3_0, gI_1_3_1, sI_1_3_1, gI_1_3_2, sI_1_3_2, gI_1_3_3, sI_1_3_3, gR_1_3_4, gI_1_3_5, sI_1_3_5, rc_1_2_3, gR_1_2_3_0, gI_1_2_3_1, sI_1_2_3_1, gI_1_2_3_2, sI_1_2_3_2, gI_1_2_3_3, sI_1_2_3_3, gR_1_2_3_4, gI_1_2_3_5, sI_1_2_3_5, rc_0_5, gR_0_5_0, gI_0_5_1, sI_0_5_1, rc_0_15, gR_0_15_0, gI_0_15_1, sI_0_15_1, rc_3_25, gR_3_25_0, gR_3_25_1, gR_3_25_2, gR_3_25_3, rc_5_34, gI_5_34_1, sI_5_34_1, gI_5_34_2, sI_5_34_2, gI_5_34_3, sI_5_34_3, gI_5_34_4, sI_5_34_4, gI_5_34_5, sI_5_34_5, gI_5_34_6, sI_5_34_6, gR_5_34_7, gR_5_34_8, gR_5_34_9, gR_5_34_10, gR_5_34_11, gR_5_34_12, rc_10_51, gI_10_51_0, sI_10_51_0, gI_10_51_1, sI_10_51_1, gI_10_51_2, sI_10_51_2, gR_10_51_3, rc_9_64, gR_9_64_0, gR_9_64_1, gR_9_64_2, rc_6_68, gI_6_68_0, sI_6_68_0, gI_6_68_1, sI_6_68_1, gI_6_68_2, sI_6_68_2, gI_6_68_3, sI_6_68_3, gI_6_68_4, sI_6_68_4, gI_6_68_5, sI_6_68_5, rc_6_69, gI_6_69_0, sI_6_69_0, gI_6_69_1, sI_6_69_1, gI_6_69_2, sI_6_69_2, gI_6_69_3, sI_6_69_3, gI_6_69_4, sI_6_69_4, gI_6_69_5, sI_6_69_5, rc_12_77, gR_12_77_0, gR_12_77_1, gR_12_77_2, gR_12_77_3, gR_12_77_4, gI_12_77_5, sI_12_77_5, gI_12_77_6, sI_12_77_6, gI_12_77_7, sI_12_77_7, gI_12_77_8, sI_12_77_8, gI_12_77_9, sI_12_77_9, gI_12_77_10, sI_12_77_10, gI_12_77_11, sI_12_77_11, gI_12_77_12, sI_12_77_12, gR_12_77_13, gI_12_77_14, sI_12_77_14, gI_12_77_15, sI_12_77_15, gI_12_77_16, sI_12_77_16, gI_12_77_17, sI_12_77_17, gI_12_77_18, sI_12_77_18, gI_12_77_19, sI_12_77_19, gI_12_77_20, sI_12_77_20, gI_12_77_21, sI_12_77_21, gI_12_77_22, sI_12_77_22, gI_12_77_23, sI_12_77_23, gR_12_77_24, gR_12_77_25, gR_12_77_26, gR_12_77_27, gR_12_77_28, gR_12_77_29, gR_12_77_30, gR_12_77_31, gR_12_77_32, gR_12_77_33, gR_12_77_34, gR_12_77_35, gR_12_77_36, gR_12_77_37, gR_12_77_38, gR_12_77_39, gI_12_77_40, sI_12_77_40, gI_12_77_41, sI_12_77_41, gI_12_77_42, sI_12_77_42, gI_12_77_43, sI_12_77_43, gR_12_77_44, gI_12_77_45, sI_12_77_45, gI_12_77_46, sI_12_77_46, gI_12_77_47, sI_12_77_47, gI_12_77_48, sI_12_77_48, gI_12_77_49, sI_12_77_49, gI_12_77_50, sI_12_77_50, gI_12_77_51, sI_12_77_51, gI_12_77_52, sI_12_77_52, gI_12_77_53, sI_12_77_53, gR_12_77_54, gR_12_77_55, gR_12_77_56, gR_12_77_57, gR_12_77_58, gI_12_77_59, sI_12_77_59, gI_12_77_60, sI_12_77_60, gI_12_77_61, sI_12_77_61, gI_12_77_62, sI_12_77_62, gI_12_77_63, sI_12_77_63, gI_12_77_64, sI_12_77_64, gI_12_77_65, sI_12_77_65]
  rcases howMany_mk (b := b) h x with ⟨M, hM, rfl, hsub, h1, h2⟩ | ⟨h1, h2⟩
  · have hp := pc_le M
    have h2' : FX12_areWishes (mk b w) (b + 77) (nI M) 2 6 = some (if 2 ≤ pc M ∧ pc M ≤ 6 then 1 else 0) := h2 2 6 (by decide) (by decide) (by decide)
    rw [h1, h2', Option.bind_some, Option.bind_some]
    by_cases q1 : pc M < 2
    · rw [if_pos (Rlt q1), if_neg (show ¬ (2 ≤ pc M ∧ pc M ≤ 6) by omega)]
      exact ⟨-1, rfl, rfl⟩
    · rw [if_neg (Rnlt (n := 2) (by omega) (by omega))]
      by_cases q2 : 6 < pc M
      · rw [if_pos (Llt q2 (by omega)), if_neg (show ¬ (2 ≤ pc M ∧ pc M ≤ 6) by omega)]
        exact ⟨-1, rfl, rfl⟩
      · rw [if_neg (Lnlt (n := 6) (by omega)), if_pos (show 2 ≤ pc M ∧ pc M ≤ 6 by omega), if_neg n10]
        have hL : 1 ≤ M := by
          rcases Nat.eq_zero_or_pos M with z | z
          · subst z
            exact absurd (show pc 0 < 2 by decide) q1
          · exact z
        rcases case_ix y 2 with ⟨i, hi, rfl⟩ | e
        · have hc : ∀ s, s < 256 → ex (fun t => tb (w.2.2.1 30) t && al (fun j => !bt (nI s) j || tb (w.2.2.1 (5 + 2 + j)) t) 8) 1024 = frC w s := fun s _ => ex_cong (fun t ht => by
            rw [h.tF ht]
            congr 1
            exact al_cong (fun j hj => by rw [show 5 + 2 + j = 7 + j by omega, h.tT hj ht]))
          have hfw : FX11_fewestAgainst (mk b w) (b + 30) (b + 5) (nI M) 1 = some (if frC w M then -2 else nI (clF M 1 (frC w) (M - 1))) := fewest_c (Or.inl rfl) okF hM hL (frC w) hc
          rw [wh_y hi, in_y hi, Option.bind_some, if_neg n10, hfw, Option.bind_some]
          have hl : ∀ (kf : Int32 → Option Int32), (lp (fun (s3 : Int32 × Int32) => if nI M < s3.2 then some (Sum.inl s3.1) else if (s3.2 &&& (nI M ^^^ (-1 : Int32))) = 0 then if s3.1 = (-2 : Int32) then (FX12_canAllBe (mk b w) (b + 77) s3.2).bind (fun v8 => if v8 = 0 then some (Sum.inr (s3.2, s3.2 + (1 : Int32))) else some (Sum.inr (s3.1, s3.2 + (1 : Int32)))) else (FX12_bits s3.2).bind (fun v11 => (FX12_bits s3.1).bind (fun v12 => if v12 ≤ v11 then some (Sum.inr (s3.1, s3.2 + (1 : Int32))) else (FX12_canAllBe (mk b w) (b + 77) s3.2).bind (fun v8 => if v8 = 0 then some (Sum.inr (s3.2, s3.2 + (1 : Int32))) else some (Sum.inr (s3.1, s3.2 + (1 : Int32)))))) else some (Sum.inr (s3.1, s3.2 + (1 : Int32)))) FU ((-2 : Int32), (1 : Int32))).bind kf = kf (oI (mdF M 1 (frC w) (M - 1 + 1))) := by
            intro kf
            refine lpb_for (fun i => (oI (mdF M 1 (frC w) i), nI (1 + i))) _ (M - 1 + 1) (by rfl) (Nat.lt_of_le_of_lt (show M - 1 + 1 ≤ 256 by omega) (by decide)) (fun i hi => ?_) (by try dsimp only; rw [if_pos (nI_lt (by omega) (by omega))]) rfl
            try dsimp only
            have p1 := pc_le (1 + i)
            have hI := mdF_lt hM (can := frC w) (L := 1) i (by omega)
            rw [if_neg (nI_nlt (by omega) (by omega)), canAll_mk h.b79 h.b81, Option.bind_some, bits_nI, Option.bind_some, nI_1]
            show _ = some (Sum.inr (oI (mdN M (frC w) (1 + i) (mdF M 1 (frC w) i)), nI (1 + i + 1)))
            show (if _ then if _ then (if (if frC w (1 + i) = true then (1 : Int32) else 0) = 0 then _ else _) else Option.bind _ (fun v14 => if v14 ≤ _ then _ else (if (if frC w (1 + i) = true then (1 : Int32) else 0) = 0 then _ else _)) else _) = _
            rw [bite]
            cases g : mdF M 1 (frC w) i with
            | none =>
              rw [mdN_n]
              unfold sbN
              show (if nI (1 + i) &&& (nI M ^^^ (-1 : Int32)) = 0 then (if (-2 : Int32) = -2 then _ else _) else _) = _
              rw [if_pos (show (-2 : Int32) = -2 from rfl)]
              by_cases g1 : nI (1 + i) &&& (nI M ^^^ (-1 : Int32)) = 0
              · rw [if_pos g1, decide_eq_true g1]
                cases frC w (1 + i) <;> rfl
              · rw [if_neg g1, decide_eq_false g1]
                rfl
            | some s =>
              have hs := hI s g
              have p2 := pc_le s
              rw [mdN_s]
              unfold sbN
              show (if nI (1 + i) &&& (nI M ^^^ (-1 : Int32)) = 0 then (if nI s = -2 then _ else _) else _) = _
              rw [if_neg (nI_nm2 (show s < 2 ^ 31 by omega)), show oI (some s) = nI s from rfl, bits_nI, Option.bind_some]
              by_cases g1 : nI (1 + i) &&& (nI M ^^^ (-1 : Int32)) = 0
              · rw [if_pos g1, decide_eq_true g1]
                by_cases g2 : pc (1 + i) < pc s
                · rw [if_neg (nI_ge g2 (by omega)), decide_eq_true g2]
                  cases frC w (1 + i) <;> rfl
                · rw [if_pos (nI_le (by omega) (by omega)), decide_eq_false g2]
                  rfl
              · rw [if_neg g1, decide_eq_false g1]
                rfl
          rw [hl]
          cases hcM : frC w M with
          | true =>
            have hn := few_none (M := M) (L := 1) hL (can := frC w) (fun j hj g => can_mono (by omega) g hcM) (M - 1 + 1) (Nat.le_refl _)
            rw [hn]
            refine ⟨-2, rfl, ?_⟩
            rcases (show i = 0 ∨ i = 1 by omega) with rfl | rfl <;> rfl
          | false =>
            rw [few_same (by omega) hL hcM, if_neg (show ¬ false = true by decide)]
            have h3 := clF_lt hM (can := frC w) (L := 1) (M - 1) (by omega)
            generalize clF M 1 (frC w) (M - 1) = c at *
            have e1 : oI (some c) = nI c := rfl
            rw [e1, if_neg (show ¬ nI c < 0 from nI_pos (show c < 2 ^ 31 by omega)), bc_small c (by omega), bits_nI, if_neg (nI_nm2 (show c < 2 ^ 31 by omega))]
            rcases (show i = 0 ∨ i = 1 by omega) with rfl | rfl
            · exact ⟨_, rfl, rfl⟩
            · exact ⟨_, rfl, rfl⟩
        · rw [wh_n e, in_n e]
          exact ⟨-1, rfl, rfl⟩
  · rw [h1, h2]
    exact ⟨-1, rfl, rfl⟩
end
