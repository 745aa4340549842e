/-! prices of many facts -/
def prS (f : Nat → Int32) (m : Nat) : Nat := fb_sm (fun i => if m.testBit i then pN f i else 0) 10
theorem sm16 (p : Nat → Bool) (f : Nat → Nat) : ∀ n, fb_sm (fun i => if p i then 16 * f i + 1 else 0) n = 16 * fb_sm (fun i => if p i then f i else 0) n + fb_ct p n
  | 0 => rfl
  | n + 1 => by
    rw [fb_sm_succ, fb_sm_succ, fb_ct_succ, sm16 p f n]
    cases p n <;> simp <;> omega
theorem lowhigh (f : Nat → Int32) (m : Nat) : lowN f (m % 64) + highN f (m / 64) = 16 * prS f m + pc m := by
  unfold lowN highN prS pc
  rw [← sm16, show (10 : Nat) = 6 + 4 from rfl, fb_sm_split]
  congr 1
  · exact fb_sm_cong (fun i hi => by rw [show (64 : Nat) = 2 ^ 6 from rfl, Nat.testBit_mod_two_pow, decide_eq_true hi, Bool.true_and])
  · exact fb_sm_cong (fun i hi => by rw [show (64 : Nat) = 2 ^ 6 from rfl, Nat.testBit_div_two_pow, Nat.add_comm])
theorem pN_le {f : Nat → Int32} (h : ∀ i, i < 10 → sm (f i) 100) {i : Nat} (hi : i < 10) : pN f i ≤ 99 ∧ f i = nI (pN f i) := by
  obtain ⟨k, hk, e⟩ := h i hi
  unfold pN
  rw [e, nI_clamp (by omega)]
  exact ⟨by omega, rfl⟩
theorem lowN_le {f : Nat → Int32} (h : ∀ i, i < 10 → sm (f i) 100) (n : Nat) : lowN f n ≤ 9510 := by
  have : lowN f n ≤ fb_sm (fun _ => 1585) 6 := fb_sm_le (fun i hi => by
    have := (pN_le h (show i < 10 by omega)).1
    split <;> omega)
  rw [fb_sm_const] at this
  exact this
theorem highN_le {f : Nat → Int32} (h : ∀ i, i < 10 → sm (f i) 100) (n : Nat) : highN f n ≤ 6340 := by
  have : highN f n ≤ fb_sm (fun _ => 1585) 4 := fb_sm_le (fun i hi => by
    have := (pN_le h (show 6 + i < 10 by omega)).1
    split <;> omega)
  rw [fb_sm_const] at this
  exact this
theorem prS_le {f : Nat → Int32} (h : ∀ i, i < 10 → sm (f i) 100) (m : Nat) : prS f m ≤ 990 := by
  have : prS f m ≤ fb_sm (fun _ => 99) 10 := fb_sm_le (fun i hi => by
    have := (pN_le h hi).1
    split <;> omega)
  rw [fb_sm_const] at this
  exact this
theorem pc_le (m : Nat) : pc m ≤ 10 := fb_ct_le _ 10
section
variable {RL : WD → Prop} {b : Nat} {w : WD}
theorem of_mk (h : R_price w) {m : Nat} (hm : m < 1024) : FX3_of (mk b w) (b + 25) (nI m) = some (nI (prS (w.2.1 78) m)) := by
  obtain ⟨p1, p2, p3, p4, _⟩ := h
  unfold FX3_of
  have hl := lowN_le p2 (m % 64)
  have hh := highN_le p2 (m / 64)
  have e := lowhigh (w.2.1 78) m
  have hc := pc_le m
  rw [gR_3_25_1, Option.bind_some, an63 hm, rdN_mk (t := 0) (n := 64) (by decide +kernel) (by decide) b w (by omega), Option.bind_some, gR_3_25_2, Option.bind_some, sh6 hm, rdN_mk (t := 0) (n := 16) (by decide +kernel) (by decide) b w (by omega), Option.bind_some, p3 _ (by omega), p4 _ (by omega), nI_add, e, dv_nI (d := 16) (by omega) (by decide) (by decide), Option.bind_some]
  congr 2
  omega
theorem pricesOf_mk (h : ∀ i, i < 10 → sm (w.2.1 78 i) 100) (m : Nat) : FX12_pricesOf (mk b w) (b + 77) (nI m) = some (nI (prS (w.2.1 78) m)) := by
  unfold FX12_pricesOf
  refine lpb_fld (fun i a => a + nI (if m.testBit i then pN (w.2.1 78) i else 0)) (fun a => a) 10 (by decide) (fun i hi a => ?_) (fun a => by rfl) ?_
  · try dsimp only
    rw [if_neg (Lnle hi), has_eq _ (by omega), Option.bind_some, bt_nI _ (by omega), bite, gR_12_77_0, Option.bind_some, rdN_mk (t := 0) (n := 10) (by decide +kernel) (by decide) b w hi, Option.bind_some]
    simp only [vl_eq, nI_1]
    cases m.testBit i
    · rfl
    · rw [if_pos rfl, if_pos rfl, ← (pN_le h hi).2]
  · rw [fld_sum0]
    rfl
theorem op_count (h : Rel RL w) (hL : w.1 w.2.2.2.1 4 = w.1 77 23) (x : Int32) : OPr b w (fun hp => FX11_count hp (b + 0) x) (fun hp => FX12_count hp (b + 77) x) := by
  unfold OPr
  try dsimp only
  by_cases e : ∃ i, i < 10 ∧ x = nI (20 + i)
  · obtain ⟨i, hi, rfl⟩ := e
    have e20 : nI (20 + i) - (20 : Int32) = nI i := by rw [fa_lit 20, pk_sub (by omega)]; congr 1; omega
    refine ⟨w.2.1 78 i, ?_, ?_⟩
    · unfold FX11_count
      rw [e20, isFact_y hi, Option.bind_some, if_neg n10, gR_11_0_4, Option.bind_some, rc_3_25, shl1 i (by omega), of_mk h.price (p2_lt hi), Option.bind_some, (pN_le h.price.2.1 hi).2]
      congr 2
      have : ∀ i, i < 10 → ∀ k, k < 10 → (2 ^ i).testBit k = decide (k = i) := by decide
      unfold prS
      have e1 : fb_sm (fun k => if (2 ^ i).testBit k then pN (w.2.1 78) k else 0) 10 = fb_sm (fun k => if k = i then pN (w.2.1 78) i else 0) 10 := fb_sm_cong (fun k hk => by
        rw [this i hi k hk]
        by_cases q : k = i
        · rw [q]; simp
        · simp [q])
      rw [e1]
      have e2 := fb_sm_upd (fun _ => 0) (pN (w.2.1 78) i) (i := i) (n := 10) hi
      have e3 : fb_sm (fun _ => 0) 10 = 0 := by rw [fb_sm_const]
      omega
    · unfold FX12_count
      have n0 : ∀ k, k < 10 → ¬ nI (20 + i) = nI k := fun k hk q => by have := nI_inj (by omega) (by omega) q; omega
      rw [if_neg (show ¬ nI (20 + i) = 0 from n0 0 (by decide)), if_neg (show ¬ nI (20 + i) = 1 from n0 1 (by decide)), if_neg (show ¬ nI (20 + i) = 2 from n0 2 (by decide)), if_neg (show ¬ nI (20 + i) = 3 from n0 3 (by decide)), if_neg (show ¬ nI (20 + i) = 4 from n0 4 (by decide)), if_neg (show ¬ nI (20 + i) = 5 from n0 5 (by decide)), if_neg (show ¬ nI (20 + i) = 6 from n0 6 (by decide)), if_neg (show ¬ nI (20 + i) = 7 from n0 7 (by decide)), if_neg (show ¬ nI (20 + i) = 8 from n0 8 (by decide)), if_neg (show ¬ nI (20 + i) = 9 from n0 9 (by decide)), in_yes (a := 20) (c := 29) (by omega) (by omega), Option.bind_some, if_neg n10, gR_12_77_0, Option.bind_some, e20, rdN_mk (t := 0) (n := 10) (by decide +kernel) (by decide) b w hi, Option.bind_some]
  · have nf : FX11_isFact (x - 20) = some 0 := isFact_n (fun ⟨k, hk, q⟩ => e ⟨k, hk, by
      have : x = x - 20 + 20 := by rw [Int32.sub_add_cancel]
      rw [this, q, fa_lit 20, nI_add, Nat.add_comm]⟩)
    have nn : FX12_in x 20 29 = some 0 := in_no (a := 20) (c := 29) (fun ⟨k, h1, h2, h3⟩ => e ⟨k - 20, by omega, by rw [h3]; congr 1; omega⟩)
    obtain ⟨s0, s1, ⟨d, hd, ed⟩, s3, s4, s5⟩ := h.now
    have ed : w.1 77 8 = nI d := ed
    have s5 : w.1 77 12 = 0 ∨ w.1 77 12 = 1 := s5
    have e1 : w.1 68 1 = nI d := (s0 1 (by decide)).trans ed
    have e5 : w.1 68 5 = w.1 77 12 := s0 5 (by decide)
    have hlw : LW w.2.2.2.1 := by rcases h.1 with q | q <;> rw [q] <;> simp [LW]
    unfold FX11_count FX12_count
    rw [nf, Option.bind_some, if_pos (show (0 : Int32) = 0 from rfl), nn, Option.bind_some, if_pos (show (0 : Int32) = 0 from rfl)]
    rw [gR_11_0_12, Option.bind_some, gI_6_68_0, Option.bind_some, gI_12_77_7, Option.bind_some, Option.bind_some, gI_6_68_1, Option.bind_some, gI_12_77_8, Option.bind_some]
    by_cases q0 : x = 0
    · rw [if_pos q0, if_pos q0]; exact ⟨_, rfl, congrArg some (s0 0 (by decide)).symm⟩
    rw [if_neg q0, if_neg q0]
    by_cases q1 : x = 1
    · rw [if_pos q1, if_pos q1]; exact ⟨_, rfl, congrArg some (s0 1 (by decide)).symm⟩
    rw [if_neg q1, if_neg q1]
    by_cases q2 : x = 2
    · rw [if_pos q2, if_pos q2, gI_6_68_2, gI_12_77_9]; exact ⟨_, rfl, congrArg some (s0 2 (by decide)).symm⟩
    rw [if_neg q2, if_neg q2]
    by_cases q3 : x = 3
    · rw [if_pos q3, if_pos q3, gI_6_68_3, gI_12_77_10]; exact ⟨_, rfl, congrArg some (s0 3 (by decide)).symm⟩
    rw [if_neg q3, if_neg q3]
    by_cases q4 : x = 4
    · rw [if_pos q4, if_pos q4, gR_11_0_2, Option.bind_some, gI_0_5_1, gI_12_77_5]; exact ⟨_, rfl, congrArg some h.int.1.symm⟩
    rw [if_neg q4, if_neg q4]
    by_cases q5 : x = 5
    · rw [if_pos q5, if_pos q5, gR_11_0_3, Option.bind_some, gI_0_15_1, gI_12_77_6]; exact ⟨_, rfl, congrArg some h.int.2.2.1.symm⟩
    rw [if_neg q5, if_neg q5]
    by_cases q6 : x = 6
    · rw [if_pos q6, if_pos q6, Option.bind_some, gI_6_68_4, gI_12_77_11]; exact ⟨_, rfl, congrArg some (s0 4 (by decide)).symm⟩
    rw [if_neg q6, if_neg q6]
    by_cases q7 : x = 7
    · rw [if_pos q7, if_pos q7, gR_11_0_9, Option.bind_some, gR_law, Option.bind_some, gI_2_o_4 b w hlw, gI_12_77_23]; exact ⟨_, rfl, congrArg some hL.symm⟩
    rw [if_neg q7, if_neg q7]
    by_cases q8 : x = 8
    · rw [if_pos q8, if_pos q8, gR_11_0_0, Option.bind_some, gI_8_1_1, gI_12_77_14]; exact ⟨_, rfl, congrArg some h.tape.1.symm⟩
    rw [if_neg q8, if_neg q8]
    by_cases q9 : x = 9
    · rw [if_pos q9, if_pos q9, Option.bind_some, gI_6_68_5, Option.bind_some, gI_12_77_12, Option.bind_some, e5]
      unfold FX6_isFetched
      rcases s5 with q | q
      · rw [q, if_pos (show (0 : Int32) = 0 from rfl), Option.bind_some, if_neg (show ¬ (0 : Int32) = 1 by decide), rc_6_68, gI_6_68_1, Option.bind_some, e1, ed, fa_lit 8640]
        by_cases q2 : d = 8640
        · rw [if_neg (nI_nlt (by omega) (by omega)), Option.bind_some, Option.bind_some, if_pos (show nI d = nI 8640 by rw [q2])]
          exact ⟨_, rfl, rfl⟩
        · rw [if_pos (nI_lt (by omega) (by decide)), Option.bind_some, Option.bind_some, if_neg (show ¬ nI d = nI 8640 from fun g => q2 (nI_inj (by omega) (by decide) g))]
          exact ⟨_, rfl, rfl⟩
      · rw [q, if_neg n10]
        exact ⟨_, rfl, rfl⟩
    rw [if_neg q9, if_neg q9]
    exact ⟨_, rfl, rfl⟩
end
