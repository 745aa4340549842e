/-! calls: why, friends -/
def sbN (M k : Nat) : Bool := decide (nI k &&& (nI M ^^^ (-1 : Int32)) = 0)
def clN (M : Nat) (can : Nat → Bool) (k s : Nat) : Nat := if sbN M k && decide (pc k < pc s) && !can k then k else s
def mdN (M : Nat) (can : Nat → Bool) (k : Nat) (o : Option Nat) : Option Nat := match o with
  | none => if sbN M k && !can k then some k else none
  | some s => if sbN M k && decide (pc k < pc s) && !can k then some k else some s
theorem mdN_n (M : Nat) (can : Nat → Bool) (k : Nat) : mdN M can k none = if (sbN M k && !can k) = true then some k else none := rfl
theorem mdN_s (M : Nat) (can : Nat → Bool) (k s : Nat) : mdN M can k (some s) = if (sbN M k && decide (pc k < pc s) && !can k) = true then some k else some s := rfl
def oI (o : Option Nat) : Int32 := match o with
  | none => -2
  | some s => nI s
def clF (M L : Nat) (can : Nat → Bool) : Nat → Nat
  | 0 => M
  | i + 1 => clN M can (L + i) (clF M L can i)
def mdF (M L : Nat) (can : Nat → Bool) : Nat → Option Nat
  | 0 => none
  | i + 1 => mdN M can (L + i) (mdF M L can i)
theorem sbN_iff {M k : Nat} (hk : k < 1024) : sbN M k = true ↔ ∀ i, i < 32 → k.testBit i = true → M.testBit i = true := by
  unfold sbN
  rw [decide_eq_true_eq]
  constructor
  · intro h i hi q
    have := congrArg (fun x => bt x i) h
    simp only [b_and, bt_not _ hi, bt_nI _ hi, b_0, q, Bool.true_and] at this
    cases g : M.testBit i with
    | true => rfl
    | false => rw [g] at this; cases this
  · intro h
    refine b_ext (fun i hi => ?_)
    rw [b_and, bt_not _ hi, bt_nI _ hi, bt_nI _ hi, b_0]
    cases g : k.testBit i with
    | false => rfl
    | true => rw [h i hi g]; rfl
theorem sbN_self (M : Nat) : sbN M M = true := by
  unfold sbN
  rw [decide_eq_true_eq]
  refine b_ext (fun i hi => ?_)
  rw [b_and, bt_not _ hi, b_0]
  cases bt (nI M) i <;> rfl
theorem pc_lt {M k : Nat} (hM : M < 1024) (hk : k < 1024) (h : sbN M k = true) (hne : k ≠ M) : pc k < pc M := by
  rw [sbN_iff hk] at h
  have h1 : pc k ≤ pc M := fb_ct_sub (fun i hi q => h i (by omega) q)
  rcases Nat.lt_or_ge (pc k) (pc M) with g | g
  · exact g
  · exfalso
    apply hne
    have c := ct_minus (fun i => M.testBit i) (fun i => k.testBit i) 10
    have c2 : fb_ct (fun i => M.testBit i && k.testBit i) 10 = pc k := fb_ct_cong (fun i hi => by
      cases q : k.testBit i with
      | false => rw [Bool.and_false]
      | true => rw [h i (by omega) q]; rfl)
    have c3 : fb_ct (fun i => M.testBit i && !k.testBit i) 10 = 0 := by
      have : fb_ct (fun i => M.testBit i) 10 = pc M := rfl
      omega
    rw [fb_ct_zero] at c3
    apply Nat.eq_of_testBit_eq
    intro i
    by_cases hi : i < 10
    · have := c3 i hi
      cases q : k.testBit i with
      | true => rw [h i (by omega) q]
      | false =>
        rw [q] at this
        cases q2 : M.testBit i with
        | false => rfl
        | true => rw [q2] at this; cases this
    · rw [Nat.testBit_lt_two_pow (Nat.lt_of_lt_of_le hk (Nat.pow_le_pow_right (n := 2) (by decide) (show 10 ≤ i by omega))), Nat.testBit_lt_two_pow (Nat.lt_of_lt_of_le hM (Nat.pow_le_pow_right (n := 2) (by decide) (show 10 ≤ i by omega)))]
/-- both ways the same is found -/
theorem few_same {M L : Nat} (hM : M < 1024) (hL : L ≤ M) {can : Nat → Bool} (hc : can M = false) : mdF M L can (M - L + 1) = some (clF M L can (M - L)) := by
  have key : ∀ i, i ≤ M - L → (mdF M L can i = none ∧ clF M L can i = M) ∨ (∃ s, s < 1024 ∧ mdF M L can i = some s ∧ clF M L can i = s ∧ pc s < pc M) := by
    intro i
    induction i with
    | zero => exact fun _ => Or.inl ⟨rfl, rfl⟩
    | succ i ih =>
      intro hi
      rcases ih (by omega) with ⟨h1, h2⟩ | ⟨s, h0, h1, h2, h3⟩
      · show (mdN M can (L + i) (mdF M L can i) = none ∧ clN M can (L + i) (clF M L can i) = M) ∨ (∃ s, s < 1024 ∧ mdN M can (L + i) (mdF M L can i) = some s ∧ clN M can (L + i) (clF M L can i) = s ∧ pc s < pc M)
        rw [h1, h2]
        unfold mdN clN
        cases g : sbN M (L + i) with
        | false => exact Or.inl ⟨rfl, rfl⟩
        | true =>
          have hp := pc_lt hM (show L + i < 1024 by omega) g (by omega)
          rw [decide_eq_true hp]
          cases g2 : can (L + i) with
          | true => exact Or.inl ⟨rfl, rfl⟩
          | false => exact Or.inr ⟨L + i, by omega, rfl, rfl, hp⟩
      · show (mdN M can (L + i) (mdF M L can i) = none ∧ clN M can (L + i) (clF M L can i) = M) ∨ (∃ s, s < 1024 ∧ mdN M can (L + i) (mdF M L can i) = some s ∧ clN M can (L + i) (clF M L can i) = s ∧ pc s < pc M)
        rw [h1, h2]
        unfold mdN clN
        right
        by_cases g : (sbN M (L + i) && decide (pc (L + i) < pc s) && !can (L + i)) = true
        · refine ⟨L + i, by omega, if_pos g, if_pos g, ?_⟩
          rw [Bool.and_eq_true, Bool.and_eq_true, decide_eq_true_eq] at g
          omega
        · exact ⟨s, h0, if_neg g, if_neg g, h3⟩
  show mdN M can (L + (M - L)) (mdF M L can (M - L)) = _
  rw [show L + (M - L) = M by omega]
  rcases key (M - L) (Nat.le_refl _) with ⟨h1, h2⟩ | ⟨s, h0, h1, h2, h3⟩
  · rw [h1, h2]
    unfold mdN
    rw [sbN_self, hc]
    rfl
  · rw [h1, h2]
    unfold mdN
    show (if (sbN M M && decide (pc M < pc s) && !can M) = true then some M else some s) = some s
    rw [decide_eq_false (by omega : ¬ pc M < pc s), Bool.and_false, Bool.false_and]
    rfl
theorem few_none {M L : Nat} (hL : L ≤ M) {can : Nat → Bool} (hc : ∀ k, k ≤ M → sbN M k = true → can k = true) : ∀ i, i ≤ M - L + 1 → mdF M L can i = none
  | 0, _ => rfl
  | i + 1, h => by
    show mdN M can (L + i) (mdF M L can i) = none
    rw [few_none hL hc i (by omega)]
    unfold mdN
    cases g : sbN M (L + i) with
    | false => rfl
    | true => rw [hc (L + i) (by omega) g]; rfl
theorem clF_lt {M L : Nat} (hM : M < 256) {can : Nat → Bool} : ∀ i, L + i ≤ M → clF M L can i < 256
  | 0, _ => hM
  | i + 1, h => by
    show clN M can (L + i) (clF M L can i) < 256
    unfold clN
    split
    · omega
    · exact clF_lt hM i (by omega)
theorem mdF_lt {M L : Nat} (hM : M < 256) {can : Nat → Bool} : ∀ i, L + i ≤ M + 1 → ∀ s, mdF M L can i = some s → s < 256
  | 0, _, s, h => by cases h
  | i + 1, h, s, hs => by
    have hs : mdN M can (L + i) (mdF M L can i) = some s := hs
    have ih := mdF_lt hM (can := can) (L := L) i (by omega)
    unfold mdN at hs
    cases g : mdF M L can i with
    | none =>
      rw [g] at hs
      simp only at hs
      split at hs
      · cases hs; omega
      · cases hs
    | some t =>
      rw [g] at hs ih
      simp only at hs
      split at hs
      · cases hs; omega
      · exact ih s hs
section
variable {RL : WD → Prop} {b : Nat} {w : WD}
/-- the class's search -/
theorem fewest_c {o j : Nat} (ho : o = 5 ∨ o = 15) (hj : okA 3 j 16 = true) {M L : Nat} (hM : M < 256) (hL : L ≤ M) (can : Nat → Bool) (hc : ∀ s, s < 256 → ex (fun t => tb (w.2.2.1 j) t && al (fun k => !bt (nI s) k || tb (w.2.2.1 (o + 2 + k)) t) 8) 1024 = can s) : FX11_fewestAgainst (mk b w) (b + j) (b + o) (nI M) (nI L) = some (if can M then -2 else nI (clF M L can (M - L))) := by
  unfold FX11_fewestAgainst
  rw [rc_mk (okB_of ho).2.2.2, leaves_mk ho hj, hc M hM, Option.bind_some]
  cases hcM : can M with
  | true => rfl
  | false =>
    rw [if_pos (by rfl), if_neg (by decide)]
    refine lpb_for (fun i => (nI (clF M L can i), nI (L + i))) (nI (clF M L can (M - L))) (M - L) (by rfl) (Nat.lt_of_le_of_lt (Nat.sub_le _ _) (Nat.lt_trans hM (by decide))) (fun i hi => ?_) (by rw [show L + (M - L) = M by omega]; try dsimp only; rw [if_pos (nI_le (Nat.le_refl M) (by omega))]) rfl
    try dsimp only
    have h1 := clF_lt hM (can := can) (L := L) i (by omega)
    have p1 := pc_le (L + i)
    have p2 := pc_le (clF M L can i)
    rw [if_neg (nI_ge (by omega) (by omega)), bc_small _ (by omega), Option.bind_some, bc_small _ (by omega), Option.bind_some, jn_eq, rc_mk (okB_of ho).2.2.2, leaves_mk ho hj, hc _ (by omega), Option.bind_some]
    simp only [vl_eq, nI_1]
    show _ = some (Sum.inr (nI (clN M can (L + i) (clF M L can i)), nI (L + i + 1)))
    unfold clN sbN
    by_cases g1 : nI (L + i) &&& (nI M ^^^ (-1 : Int32)) = 0
    · rw [decide_eq_true g1]
      by_cases g2 : pc (L + i) < pc (clF M L can i)
      · rw [decide_eq_true g2, if_neg (nI_ge g2 (by omega)), if_pos g1, if_neg n10]
        cases can (L + i) <;> rfl
      · rw [decide_eq_false g2, if_pos (nI_le (by omega) (by omega)), if_pos g1]
        rfl
    · rw [decide_eq_false g1]
      by_cases g2 : pc (L + i) < pc (clF M L can i)
      · rw [if_neg (nI_ge g2 (by omega)), if_neg g1]
        rfl
      · rw [if_pos (nI_le (by omega) (by omega)), if_neg g1]
        rfl
theorem canBe_mk (h1 : bo (w.2.1 79) 8192) (h2 : bo (w.2.1 80) 8192) {k : Nat} (hk : k < 8) (x : Int32) : FX12_canBeBy (mk b w) (b + 77) (nI k) x = some (if ex (fun t => WT w k t && al (fun j => !bt x j || WC w j t) 8) 1024 then 1 else 0) := by
  unfold FX12_canBeBy
  rw [lpb_first (P := Int32) (fun t => WT w k t && al (fun j => !bt x j || WC w j t) 8) (fun _ => 1) () 1024 (by decide) (fun t ht => ?_) (by rfl)]
  · cases ex (fun t => WT w k t && al (fun j => !bt x j || WC w j t) 8) 1024 <;> rfl
  · rw [if_neg (Lnle ht), rc_12_77, holds_mk h1 hk ht, Option.bind_some, rc_12_77, allows_mk h2 _ ht, Option.bind_some, bite, bite]
    simp only [vl_eq, nI_1]
    cases WT w k t <;> cases al (fun j => !bt x j || WC w j t) 8 <;> rfl
theorem al_mono {p q : Nat → Bool} {n : Nat} (h : ∀ k, k < n → p k = true → q k = true) (hp : al p n = true) : al q n = true := by
  rw [al_iff] at *
  exact fun k hk => h k hk (hp k hk)
theorem can_mono {p : Nat → Bool} {C : Nat → Nat → Bool} {M k : Nat} (hk : k < 1024) (hs : sbN M k = true) (h : ex (fun t => p t && al (fun j => !bt (nI M) j || C j t) 8) 1024 = true) : ex (fun t => p t && al (fun j => !bt (nI k) j || C j t) 8) 1024 = true := by
  rw [sbN_iff hk] at hs
  rw [ex_iff] at *
  obtain ⟨t, ht, q⟩ := h
  rw [Bool.and_eq_true] at q
  refine ⟨t, ht, ?_⟩
  rw [Bool.and_eq_true]
  refine ⟨q.1, al_mono (fun j hj g => ?_) q.2⟩
  rw [bt_nI _ (by omega)] at *
  cases g2 : k.testBit j with
  | false => rfl
  | true => rw [hs j (by omega) g2] at g; exact g
def whyC (w : WD) (k s : Nat) : Bool := ex (fun t => WT w k t && al (fun j => !bt (nI s) j || WC w j t) 8) 1024
theorem op_why (h : Rel RL w) (x y : Int32) : OPr b w (fun hp => FX11_why hp (b + 0) x y) (fun hp => FX12_why hp (b + 77) x y) := by
  unfold FX11_why FX12_why
  refine wguard h x _ _ _ _ ⟨-1, rfl, rfl⟩ (fun k hk hb hx => ?_)
  subst hx
  obtain ⟨M, hM, eM⟩ := h.int.2.2.2.1
  have eM2 : w.1 15 1 = nI M := h.int.2.2.1.trans eM
  simp only [Option.bind_some, vl_eq, jn_eq, rc_11_0, gR_11_0_0, gR_11_0_1, gR_11_0_2, gR_11_0_3, gR_11_0_4, gR_11_0_5, gR_11_0_6, gR_11_0_7, gR_11_0_8, gR_11_0_9, gR_11_0_10, gR_11_0_11, gR_11_0_12, gR_11_0_13, gI_11_0_14, sI_11_0_14, rc_8_1, gR_8_1_0, gI_8_1_1, sI_8_1_1, rc_1_3, gR_1_3_0, gI_1_3_1, sI_1_3_1, gI_1_3_2, sI_1_3_2, gI_1_3_3, sI_1_3_3, gR_1_3_4, gI_1_3_5, sI_1_3_5, rc_1_2_3, gR_1_2_3_0, gI_1_2_3_1, sI_1_2_3_1, gI_1_2_3_2, sI_1_2_3_2, gI_1_2_3_3, sI_1_2_3_3, gR_1_2_3_4, gI_1_2_3_5, sI_1_2_3_5, rc_0_5, gR_0_5_0, gI_0_5_1, sI_0_5_1, rc_0_15, gR_0_15_0, gI_0_15_1, sI_0_15_1, rc_3_25, gR_3_25_0, gR_3_25_1, gR_3_25_2, gR_3_25_3, rc_5_34, gI_5_34_1, sI_5_34_1, gI_5_34_2, sI_5_34_2, gI_5_34_3, sI_5_34_3, gI_5_34_4, sI_5_34_4, gI_5_34_5, sI_5_34_5, gI_5_34_6, sI_5_34_6, gR_5_34_7, gR_5_34_8, gR_5_34_9, gR_5_34_10, gR_5_34_11, gR_5_34_12, rc_10_51, gI_10_51_0, sI_10_51_0, gI_10_51_1, sI_10_51_1, gI_10_51_2, sI_10_51_2, gR_10_51_3, rc_9_64, gR_9_64_0, gR_9_64_1, gR_9_64_2, rc_6_68, gI_6_68_0, sI_6_68_0, gI_6_68_1, sI_6_68_1, gI_6_68_2, sI_6_68_2, gI_6_68_3, sI_6_68_3, gI_6_68_4, sI_6_68_4, gI_6_68_5, sI_6_68_5, rc_6_69, gI_6_69_0, sI_6_69_0, gI_6_69_1, sI_6_69_1, gI_6_69_2, sI_6_69_2, gI_6_69_3, sI_6_69_3, gI_6_69_4, sI_6_69_4, gI_6_69_5, sI_6_69_5, rc_12_77, gR_12_77_0, gR_12_77_1, gR_12_77_2, gR_12_77_3, gR_12_77_4, gI_12_77_5, sI_12_77_5, gI_12_77_6, sI_12_77_6, gI_12_77_7, sI_12_77_7, gI_12_77_8, sI_12_77_8, gI_12_77_9, sI_12_77_9, gI_12_77_10, sI_12_77_10, gI_12_77_11, sI_12_77_11, gI_12_77_12, sI_12_77_12, gR_12_77_13, gI_12_77_14, sI_12_77_14, gI_12_77_15, sI_12_77_15, gI_12_77_16, sI_12_77_16, gI_12_77_17, sI_12_77_17, gI_12_77_18, sI_12_77_18, gI_12_77_19, sI_12_77_19, gI_12_77_20, sI_12_77_20, gI_12_77_21, sI_12_77_21, gI_12_77_22, sI_12_77_22, gI_12_77_23, sI_12_77_23, gR_12_77_24, gR_12_77_25, gR_12_77_26, gR_12_77_27, gR_12_77_28, gR_12_77_29, gR_12_77_30, gR_12_77_31, gR_12_77_32, gR_12_77_33, gR_12_77_34, gR_12_77_35, gR_12_77_36, gR_12_77_37, gR_12_77_38, gR_12_77_39, gI_12_77_40, sI_12_77_40, gI_12_77_41, sI_12_77_41, gI_12_77_42, sI_12_77_42, gI_12_77_43, sI_12_77_43, gR_12_77_44, gI_12_77_45, sI_12_77_45, gI_12_77_46, sI_12_77_46, gI_12_77_47, sI_12_77_47, gI_12_77_48, sI_12_77_48, gI_12_77_49, sI_12_77_49, gI_12_77_50, sI_12_77_50, gI_12_77_51, sI_12_77_51, gI_12_77_52, sI_12_77_52, gI_12_77_53, sI_12_77_53, gR_12_77_54, gR_12_77_55, gR_12_77_56, gR_12_77_57, gR_12_77_58, gI_12_77_59, sI_12_77_59, gI_12_77_60, sI_12_77_60, gI_12_77_61, sI_12_77_61, gI_12_77_62, sI_12_77_62, gI_12_77_63, sI_12_77_63, gI_12_77_64, sI_12_77_64, gI_12_77_65, sI_12_77_65]
  rcases case_ix y 2 with ⟨i, hi, rfl⟩ | e
  · have hc : ∀ s, s < 256 → ex (fun t => tb (w.2.2.1 (7 + k)) t && al (fun j => !bt (nI s) j || tb (w.2.2.1 (15 + 2 + j)) t) 8) 1024 = whyC w k s := fun s _ => ex_cong (fun t ht => by
      rw [h.tT hk ht]
      congr 1
      exact al_cong (fun j hj => by rw [show 15 + 2 + j = 17 + j by omega, h.tC hj ht]))
    rw [wh_y hi, in_y hi, Option.bind_some, if_neg n10, rdT hk, Option.bind_some, eM2, eM, show (0 : Int32) = nI 0 from rfl, fewest_c (Or.inr rfl) (okT k hk) hM (Nat.zero_le M) (whyC w k) hc, Option.bind_some]
    have hl : ∀ (kf : Int32 → Option Int32), (lp (fun (s3 : Int32 × Int32) => if nI M < s3.2 then some (Sum.inl s3.1) else if (s3.2 &&& (nI M ^^^ (-1 : Int32))) = nI 0 then if s3.1 = (-2 : Int32) then (FX12_canBeBy (mk b w) (b + 77) (nI k) s3.2).bind (fun v10 => if v10 = nI 0 then some (Sum.inr (s3.2, s3.2 + (1 : Int32))) else some (Sum.inr (s3.1, s3.2 + (1 : Int32)))) else (FX12_bits s3.2).bind (fun v13 => (FX12_bits s3.1).bind (fun v14 => if v14 ≤ v13 then some (Sum.inr (s3.1, s3.2 + (1 : Int32))) else (FX12_canBeBy (mk b w) (b + 77) (nI k) s3.2).bind (fun v10 => if v10 = nI 0 then some (Sum.inr (s3.2, s3.2 + (1 : Int32))) else some (Sum.inr (s3.1, s3.2 + (1 : Int32)))))) else some (Sum.inr (s3.1, s3.2 + (1 : Int32)))) FU ((-2 : Int32), nI 0)).bind kf = kf (oI (mdF M 0 (whyC w k) (M - 0 + 1))) := by
      intro kf
      refine lpb_for (fun i => (oI (mdF M 0 (whyC w k) i), nI (0 + i))) _ (M - 0 + 1) (by rfl) (Nat.lt_of_le_of_lt (show M - 0 + 1 ≤ 256 by omega) (by decide)) (fun i hi => ?_) (by try dsimp only; rw [if_pos (nI_lt (by omega) (by omega))]) rfl
      try dsimp only
      have p1 := pc_le (0 + i)
      have hI := mdF_lt hM (can := whyC w k) (L := 0) i (by omega)
      rw [if_neg (nI_nlt (by omega) (by omega)), canBe_mk h.b79 h.b80 hk, Option.bind_some, bits_nI, Option.bind_some, nI_1]
      show _ = some (Sum.inr (oI (mdN M (whyC w k) (0 + i) (mdF M 0 (whyC w k) i)), nI (0 + i + 1)))
      show (if _ then if _ then (if (if whyC w k (0 + i) = true then (1 : Int32) else 0) = 0 then _ else _) else Option.bind _ (fun v14 => if v14 ≤ _ then _ else (if (if whyC w k (0 + i) = true then (1 : Int32) else 0) = 0 then _ else _)) else _) = _
      rw [bite]
      cases g : mdF M 0 (whyC w k) i with
      | none =>
        rw [mdN_n]
        unfold sbN
        show (if nI (0 + i) &&& (nI M ^^^ (-1 : Int32)) = nI 0 then (if (-2 : Int32) = -2 then _ else _) else _) = _
        rw [if_pos (show (-2 : Int32) = -2 from rfl)]
        by_cases g1 : nI (0 + i) &&& (nI M ^^^ (-1 : Int32)) = 0
        · rw [if_pos (show nI (0 + i) &&& (nI M ^^^ (-1 : Int32)) = nI 0 from g1), decide_eq_true g1]
          cases whyC w k (0 + i) <;> rfl
        · rw [if_neg (show ¬ nI (0 + i) &&& (nI M ^^^ (-1 : Int32)) = nI 0 from g1), decide_eq_false g1]
          rfl
      | some s =>
        have hs := hI s g
        have p2 := pc_le s
        rw [mdN_s]
        unfold sbN
        show (if nI (0 + i) &&& (nI M ^^^ (-1 : Int32)) = nI 0 then (if nI s = -2 then _ else _) else _) = _
        rw [if_neg (nI_nm2 (show s < 2 ^ 31 by omega)), show oI (some s) = nI s from rfl, bits_nI, Option.bind_some]
        by_cases g1 : nI (0 + i) &&& (nI M ^^^ (-1 : Int32)) = 0
        · rw [if_pos (show nI (0 + i) &&& (nI M ^^^ (-1 : Int32)) = nI 0 from g1), decide_eq_true g1]
          by_cases g2 : pc (0 + i) < pc s
          · rw [if_neg (nI_ge g2 (by omega)), decide_eq_true g2]
            cases whyC w k (0 + i) <;> rfl
          · rw [if_pos (nI_le (by omega) (by omega)), decide_eq_false g2]
            rfl
        · rw [if_neg (show ¬ nI (0 + i) &&& (nI M ^^^ (-1 : Int32)) = nI 0 from g1), decide_eq_false g1]
          rfl
    rw [hl]
    cases hcM : whyC w k M with
    | true =>
      have hn := few_none (M := M) (L := 0) (Nat.zero_le M) (can := whyC w k) (fun j hj g => can_mono (by omega) g hcM) (M - 0 + 1) (Nat.le_refl _)
      rw [hn]
      refine ⟨-2, rfl, ?_⟩
      rcases (show i = 0 ∨ i = 1 by omega) with rfl | rfl <;> rfl
    | false =>
      rw [few_same (by omega) (Nat.zero_le M) hcM, if_neg (show ¬ false = true by decide)]
      have h1 := clF_lt hM (can := whyC w k) (L := 0) (M - 0) (by omega)
      generalize clF M 0 (whyC w k) (M - 0) = c at *
      have e1 : oI (some c) = nI c := rfl
      rw [e1, if_neg (show ¬ nI c < nI 0 from nI_pos (show c < 2 ^ 31 by omega)), bc_small c (by omega), bits_nI, if_neg (nI_nm2 (show c < 2 ^ 31 by omega))]
      rcases (show i = 0 ∨ i = 1 by omega) with rfl | rfl
      · exact ⟨_, rfl, rfl⟩
      · exact ⟨_, rfl, rfl⟩
  · rw [wh_n e, in_n e]
    exact ⟨-1, rfl, rfl⟩
end
