/-! calls: drop, joke, hindered -/
theorem lpb_inv {S X Z : Type} {body : S → Option (X ⊕ S)} {kf : X → Option Z} {N : Nat} {s0 : S} (Inv : Nat → S → Prop) (Post : Z → Prop) (n : Nat) (hN : n < N) (h0 : Inv 0 s0) (hb : ∀ i, i < n → ∀ s, Inv i s → ∃ s', body s = some (.inr s') ∧ Inv (i + 1) s') (hx : ∀ s, Inv n s → ∃ x, body s = some (.inl x) ∧ ∃ r, kf x = some r ∧ Post r) : ∃ r, (lp body N s0).bind kf = some r ∧ Post r := by
  have key : ∀ (d i N : Nat) (s : S), i + d = n → d < N → Inv i s → ∃ x, lp body N s = some x ∧ ∃ r, kf x = some r ∧ Post r := by
    intro d
    induction d with
    | zero =>
      intro i N s h1 h2 hI
      obtain ⟨N, rfl⟩ := Nat.exists_eq_succ_of_ne_zero (Nat.ne_of_gt h2)
      rw [show i = n by omega] at hI
      obtain ⟨x, e1, e2⟩ := hx s hI
      refine ⟨x, ?_, e2⟩
      unfold lp
      rw [e1]
      rfl
    | succ d ih =>
      intro i N s h1 h2 hI
      obtain ⟨N, rfl⟩ := Nat.exists_eq_succ_of_ne_zero (Nat.ne_of_gt (Nat.lt_of_le_of_lt (Nat.zero_le _) h2))
      obtain ⟨s', e1, e2⟩ := hb i (by omega) s hI
      obtain ⟨x, e3, e4⟩ := ih (i + 1) N s' (by omega) (by omega) e2
      refine ⟨x, ?_, e4⟩
      unfold lp
      rw [e1]
      exact e3
  obtain ⟨x, e1, r, e2, e3⟩ := key n 0 N s0 (by omega) hN h0
  exact ⟨r, by rw [e1]; exact e2, e3⟩
/-! a state and its neighbour by one fact: all are counted either way -/
theorem xor_fact : ∀ i, i < 10 → ∀ s, s < 1024 → s ^^^ 2 ^ i = if s.testBit i then s - 2 ^ i else s + 2 ^ i := by decide +kernel
theorem tb_lo {m t r : Nat} (i : Nat) (hm : m = 2 ^ i) (hr : r < m) : (2 * m * t + r).testBit i = false := by
  rw [Nat.testBit_eq_decide_div_mod_eq, ← hm, show 2 * m * t + r = r + m * (2 * t) by rw [Nat.mul_comm 2 m, Nat.mul_assoc, Nat.add_comm], Nat.add_mul_div_left _ _ (by omega), Nat.div_eq_of_lt hr]
  simp
theorem tb_hi {m t r : Nat} (i : Nat) (hm : m = 2 ^ i) (hr : r < m) : (2 * m * t + (m + r)).testBit i = true := by
  rw [Nat.testBit_eq_decide_div_mod_eq, ← hm, show 2 * m * t + (m + r) = r + m * (2 * t + 1) by rw [Nat.mul_add, Nat.mul_comm 2 m, Nat.mul_assoc]; omega, Nat.add_mul_div_left _ _ (by omega), Nat.div_eq_of_lt hr]
  simp
theorem ct_flip (q : Nat → Bool) {i : Nat} (hi : i < 10) : fb_ct (fun s => q (s ^^^ 2 ^ i)) 1024 = fb_ct q 1024 := by
  obtain ⟨m, hm⟩ : ∃ m, m = 2 ^ i := ⟨_, rfl⟩
  have hp : 0 < m := by rw [hm]; exact Nat.two_pow_pos i
  have key : ∀ t, 2 * m * t ≤ 1024 → fb_ct (fun s => q (s ^^^ 2 ^ i)) (2 * m * t) = fb_ct q (2 * m * t) := by
    intro t
    induction t with
    | zero => intro _; rfl
    | succ t ih =>
      intro h
      have e : 2 * m * (t + 1) = 2 * m * t + (m + m) := by rw [Nat.mul_add]; omega
      rw [e] at h
      rw [e, fb_ct_split, fb_ct_split, ih (by omega), fb_ct_split, fb_ct_split]
      have e1 : fb_ct (fun k => q ((2 * m * t + k) ^^^ 2 ^ i)) m = fb_ct (fun k => q (2 * m * t + (m + k))) m := fb_ct_cong (fun k hk => by
        rw [xor_fact i hi _ (by omega), if_neg (by rw [tb_lo i hm hk]; decide), ← hm]
        congr 1
        omega)
      have e2 : fb_ct (fun k => q ((2 * m * t + (m + k)) ^^^ 2 ^ i)) m = fb_ct (fun k => q (2 * m * t + k)) m := fb_ct_cong (fun k hk => by
        rw [xor_fact i hi _ (by omega), if_pos (tb_hi i hm hk), ← hm]
        congr 1
        omega)
      show _ + (fb_ct (fun k => q ((2 * m * t + k) ^^^ 2 ^ i)) m + fb_ct (fun k => q ((2 * m * t + (m + k)) ^^^ 2 ^ i)) m) = _
      rw [e1, e2]
      omega
  have e : 2 * m * 2 ^ (9 - i) = 1024 := by
    rw [hm, Nat.mul_assoc, ← Nat.pow_add, show i + (9 - i) = 9 by omega]
  have := key (2 ^ (9 - i)) (by omega)
  rw [e] at this
  exact this
theorem ct_xor (p q : Nat → Bool) : ∀ n, fb_ct (fun s => p s ^^ q s) n = fb_ct (fun s => p s && !q s) n + fb_ct (fun s => q s && !p s) n
  | 0 => rfl
  | n + 1 => by
    rw [fb_ct_succ, fb_ct_succ, fb_ct_succ, ct_xor p q n]
    cases p n <;> cases q n <;> simp <;> omega
theorem ct_swing (p : Nat → Bool) {i : Nat} (hi : i < 10) : fb_ct (fun s => p s ^^ p (s ^^^ 2 ^ i)) 1024 = 2 * fb_ct (fun s => p s && !p (s ^^^ 2 ^ i)) 1024 := by
  rw [ct_xor p (fun s => p (s ^^^ 2 ^ i))]
  have e : fb_ct (fun s => p (s ^^^ 2 ^ i) && !p s) 1024 = fb_ct (fun s => p s && !p (s ^^^ 2 ^ i)) 1024 := by
    rw [← ct_flip (fun s => p s && !p (s ^^^ 2 ^ i)) hi]
    exact fb_ct_cong (fun s _ => by rw [Nat.xor_assoc, Nat.xor_self, Nat.xor_zero])
  rw [e]
  omega
theorem dv_nI {a d : Nat} (ha : a < 2 ^ 31) (h0 : 0 < d) (hd : d < 2 ^ 31) : dvI (nI a) (OfNat.ofNat d) = some (nI (a / d)) := by
  unfold dvI
  rw [if_neg (show ¬ (OfNat.ofNat d : Int32) = 0 from nI_ne0 h0 hd)]
  exact congrArg some (pk_div ha h0 hd)
theorem rm_nI {a d : Nat} (ha : a < 2 ^ 31) (h0 : 0 < d) (hd : d < 2 ^ 31) : rmI (nI a) (OfNat.ofNat d) = some (nI (a % d)) := by
  unfold rmI
  rw [if_neg (show ¬ (OfNat.ofNat d : Int32) = 0 from nI_ne0 h0 hd)]
  exact congrArg some (pk_rem ha h0 hd)
section
variable {RL : WD → Prop} {b : Nat} {w : WD}
theorem forb_mk (h : Rel RL w) {i : Nat} (hi : i < 10) : FX7_forbidden (mk b w) (b + 30) (nI i) = some (nI (fb_ct (fun s => WF w s && !WF w (s ^^^ 2 ^ i)) 1024)) := by
  unfold FX7_forbidden
  have e : fb_ct (fun s => tb (w.2.2.1 30) s ^^ tb (w.2.2.1 30) (s ^^^ 2 ^ i)) 1024 = 2 * fb_ct (fun s => WF w s && !WF w (s ^^^ 2 ^ i)) 1024 := by
    rw [← ct_swing (WF w) hi]
    exact fb_ct_cong (fun s hs => by rw [h.tF hs, h.tF (xr_lt hs hi)])
  have c := fb_ct_le (fun s => WF w s && !WF w (s ^^^ 2 ^ i)) 1024
  rw [swing_mk okF hi, Option.bind_some, e, dv_nI (by omega) (by decide) (by decide), Option.bind_some, Nat.mul_div_cancel_left _ (by decide)]
/-- the greatest of a row, the first of like ones -/
def amax (told : Nat → Bool) (v : Nat → Int32) (k : Nat) (a : Int32 × Int32) : Int32 × Int32 := if told k then (if v k ≤ a.2 then a else (nI k, v k)) else a
theorem amax_f {told : Nat → Bool} {v : Nat → Int32} {k : Nat} {a : Int32 × Int32} (h : told k = false) : amax told v k a = a := by unfold amax; rw [h]; rfl
theorem amax_le {told : Nat → Bool} {v : Nat → Int32} {k : Nat} {a : Int32 × Int32} (h : told k = true) (h2 : v k ≤ a.2) : amax told v k a = a := by unfold amax; rw [h, if_pos rfl, if_pos h2]
theorem amax_gt {told : Nat → Bool} {v : Nat → Int32} {k : Nat} {a : Int32 × Int32} (h : told k = true) (h2 : ¬ v k ≤ a.2) : amax told v k a = (nI k, v k) := by unfold amax; rw [h, if_pos rfl, if_neg h2]
def hinV (w : WD) (k : Nat) : Int32 := nI (fb_ct (fun s => WF w s && !WF w (s ^^^ 2 ^ k)) 1024)
theorem op_hindered (h : Rel RL w) (x y : Int32) : OPr b w (fun hp => FX11_hindered hp (b + 0) x y) (fun hp => FX12_hindered hp (b + 77) x y) := by
  unfold OPr FX11_hindered FX12_hindered FX11_areFacts
  try dsimp only
  simp only [Option.bind_some, vl_eq, jn_eq, rc_11_0, gR_11_0_0, gR_11_0_1, gR_11_0_2, gR_11_0_3, gR_11_0_4, gR_11_0_5, gR_11_0_6, gR_11_0_7, gR_11_0_8, gR_11_0_9, gR_11_0_10, gR_11_0_11, gR_11_0_12, gR_11_0_13, gI_11_0_14, sI_11_0_14, rc_8_1, gR_8_1_0, gI_8_1_1, sI_8_1_1, rc_1_3, gR_1_3_0, gI_1_3_1, sI_1_3_1, gI_1_3_2, sI_1_3_2, gI_1_3_3, sI_1_3_3, gR_1_3_4, gI_1_3_5, sI_1_3_5, rc_1_2_3, gR_1_2_3_0, gI_1_2_3_1, sI_1_2_3_1, gI_1_2_3_2, sI_1_2_3_2, gI_1_2_3_3, sI_1_2_3_3, gR_1_2_3_4, gI_1_2_3_5, sI_1_2_3_5, rc_0_5, gR_0_5_0, gI_0_5_1, sI_0_5_1, rc_0_15, gR_0_15_0, gI_0_15_1, sI_0_15_1, rc_3_25, gR_3_25_0, gR_3_25_1, gR_3_25_2, gR_3_25_3, rc_5_34, gI_5_34_1, sI_5_34_1, gI_5_34_2, sI_5_34_2, gI_5_34_3, sI_5_34_3, gI_5_34_4, sI_5_34_4, gI_5_34_5, sI_5_34_5, gI_5_34_6, sI_5_34_6, gR_5_34_7, gR_5_34_8, gR_5_34_9, gR_5_34_10, gR_5_34_11, gR_5_34_12, rc_10_51, gI_10_51_0, sI_10_51_0, gI_10_51_1, sI_10_51_1, gI_10_51_2, sI_10_51_2, gR_10_51_3, rc_9_64, gR_9_64_0, gR_9_64_1, gR_9_64_2, rc_6_68, gI_6_68_0, sI_6_68_0, gI_6_68_1, sI_6_68_1, gI_6_68_2, sI_6_68_2, gI_6_68_3, sI_6_68_3, gI_6_68_4, sI_6_68_4, gI_6_68_5, sI_6_68_5, rc_6_69, gI_6_69_0, sI_6_69_0, gI_6_69_1, sI_6_69_1, gI_6_69_2, sI_6_69_2, gI_6_69_3, sI_6_69_3, gI_6_69_4, sI_6_69_4, gI_6_69_5, sI_6_69_5, rc_12_77, gR_12_77_0, gR_12_77_1, gR_12_77_2, gR_12_77_3, gR_12_77_4, gI_12_77_5, sI_12_77_5, gI_12_77_6, sI_12_77_6, gI_12_77_7, sI_12_77_7, gI_12_77_8, sI_12_77_8, gI_12_77_9, sI_12_77_9, gI_12_77_10, sI_12_77_10, gI_12_77_11, sI_12_77_11, gI_12_77_12, sI_12_77_12, gR_12_77_13, gI_12_77_14, sI_12_77_14, gI_12_77_15, sI_12_77_15, gI_12_77_16, sI_12_77_16, gI_12_77_17, sI_12_77_17, gI_12_77_18, sI_12_77_18, gI_12_77_19, sI_12_77_19, gI_12_77_20, sI_12_77_20, gI_12_77_21, sI_12_77_21, gI_12_77_22, sI_12_77_22, gI_12_77_23, sI_12_77_23, gR_12_77_24, gR_12_77_25, gR_12_77_26, gR_12_77_27, gR_12_77_28, gR_12_77_29, gR_12_77_30, gR_12_77_31, gR_12_77_32, gR_12_77_33, gR_12_77_34, gR_12_77_35, gR_12_77_36, gR_12_77_37, gR_12_77_38, gR_12_77_39, gI_12_77_40, sI_12_77_40, gI_12_77_41, sI_12_77_41, gI_12_77_42, sI_12_77_42, gI_12_77_43, sI_12_77_43, gR_12_77_44, gI_12_77_45, sI_12_77_45, gI_12_77_46, sI_12_77_46, gI_12_77_47, sI_12_77_47, gI_12_77_48, sI_12_77_48, gI_12_77_49, sI_12_77_49, gI_12_77_50, sI_12_77_50, gI_12_77_51, sI_12_77_51, gI_12_77_52, sI_12_77_52, gI_12_77_53, sI_12_77_53, gR_12_77_54, gR_12_77_55, gR_12_77_56, gR_12_77_57, gR_12_77_58, gI_12_77_59, sI_12_77_59, gI_12_77_60, sI_12_77_60, gI_12_77_61, sI_12_77_61, gI_12_77_62, sI_12_77_62, gI_12_77_63, sI_12_77_63, gI_12_77_64, sI_12_77_64, gI_12_77_65, sI_12_77_65]
  rcases case_ix x 1024 with ⟨n, hn, rfl⟩ | e
  · rw [if_neg (nI_pos (by omega)), if_neg (Lnle hn), Option.bind_some, if_neg n10]
    by_cases h0 : n = 0
    · subst h0
      rw [if_pos (show nI 0 = 0 from rfl), in_no (a := 1) (c := 1023) (fun ⟨k, h1, _, h3⟩ => by have := nI_inj (by decide) (by omega) h3; omega)]
      exact ⟨-1, rfl, rfl⟩
    · rw [if_neg (nI_ne0 (by omega) (by omega)), in_yes (show 1 ≤ n by omega) (show n ≤ 1023 by omega), Option.bind_some, if_neg n10]
      rcases case_ix y 2 with ⟨i, hi, rfl⟩ | e
      · rw [wh_y hi, in_y hi, Option.bind_some, if_neg n10]
        refine ⟨if nI i = 0 then (fld (amax n.testBit (hinV w)) 10 (-1, -1)).1 else (fld (amax n.testBit (hinV w)) 10 (-1, -1)).2, ?_, ?_⟩
        · refine lpb_for (fun k => ((fld (amax n.testBit (hinV w)) k (-1, -1)).1, (fld (amax n.testBit (hinV w)) k (-1, -1)).2, nI k)) _ 10 (by rfl) (by decide) (fun k hk => ?_) (by rfl) ?_
          · try dsimp only
            generalize hA : fld (amax n.testBit (hinV w)) k (-1, -1) = A
            have e1 : fld (amax n.testBit (hinV w)) (k + 1) (-1, -1) = amax n.testBit (hinV w) k A := by rw [← hA]; rfl
            rw [e1, if_neg (Lnle hk), bit_nI _ (by omega), forb_mk h hk, Option.bind_some, nI_1]
            cases hb : n.testBit k with
            | false =>
              rw [amax_f hb]
              rfl
            | true =>
              rw [if_neg (by decide)]
              by_cases q : hinV w k ≤ A.2
              · rw [if_pos (show nI (fb_ct (fun s => WF w s && !WF w (s ^^^ 2 ^ k)) 1024) ≤ A.2 from q), amax_le hb q]
              · rw [if_neg (show ¬ nI (fb_ct (fun s => WF w s && !WF w (s ^^^ 2 ^ k)) 1024) ≤ A.2 from q), amax_gt hb q]
                rfl
          · try dsimp only
            by_cases q : nI i = 0
            · rw [if_pos q, if_pos q]
            · rw [if_neg q, if_neg q]
        · refine lpb_for (fun k => ((fld (amax n.testBit (hinV w)) k (-1, -1)).1, (fld (amax n.testBit (hinV w)) k (-1, -1)).2, nI k)) _ 10 (by rfl) (by decide) (fun k hk => ?_) (by rfl) ?_
          · try dsimp only
            generalize hA : fld (amax n.testBit (hinV w)) k (-1, -1) = A
            have e1 : fld (amax n.testBit (hinV w)) (k + 1) (-1, -1) = amax n.testBit (hinV w) k A := by rw [← hA]; rfl
            rw [e1, if_neg (Lnle hk), has_eq _ (by omega), bt_nI _ (by omega), Option.bind_some, nI_1]
            cases hb : n.testBit k with
            | false =>
              rw [amax_f hb, if_pos (by rfl)]
            | true =>
              rw [if_neg (by decide)]
              refine lpb_ct (fun s => WF w s && !WF w (s ^^^ 2 ^ k)) 1024 (by decide) (fun s hs a => ?_) (fun a => by rfl) ?_
              · try dsimp only
                rw [if_neg (Lnle hs), rdF h.b81 hs, Option.bind_some, xr hk, rdF h.b81 (xr_lt hs hk), Option.bind_some, bite, bite, nI_1]
                cases WF w s <;> cases WF w (s ^^^ 2 ^ k) <;> rfl
              · by_cases q : hinV w k ≤ A.2
                · rw [if_neg, amax_le hb q]
                  have q : nI (fb_ct (fun s => WF w s && !WF w (s ^^^ 2 ^ k)) 1024) ≤ A.2 := q
                  rw [fa_le] at q
                  rw [fa_lt]
                  omega
                · rw [if_pos (show A.2 < nI (fb_ct (fun s => WF w s && !WF w (s ^^^ 2 ^ k)) 1024) from fa_of_nle q), amax_gt hb q]
                  rfl
          · try dsimp only
            by_cases q : nI i = 0
            · rw [if_pos q, if_pos q]
            · rw [if_neg q, if_neg q]
      · rw [wh_n e, in_n e]
        exact ⟨-1, rfl, rfl⟩
  · rw [in_no (a := 1) (c := 1023) (fun ⟨k, _, h2, h3⟩ => e ⟨k, by omega, h3⟩)]
    rcases ix_out (n := 1024) (by decide) e with q | ⟨q1, q2⟩
    · rw [if_pos q]
      exact ⟨-1, rfl, rfl⟩
    · rw [if_neg q1, if_pos q2]
      exact ⟨-1, rfl, rfl⟩
end
