/-! call: word, the reference, and both -/
def wordB (b : Nat) (p1 p2 z : Int32) : Int32 × HP → Option (((Int32 × HP) ⊕ HP) ⊕ (Int32 × HP)) := fun s5 => if (1024 : Int32) ≤ s5.1 then some (Sum.inl (Sum.inr s5.2)) else (FX12_bits s5.1).bind (fun v8 => if v8 = z then (rc [12] s5.2 (b + 77) (FX12_sureBy s5.2 (b + 77) p1 s5.1)).bind (fun w9 => if w9.1 = (-1 : Int32) then vl (s5.1 + (1 : Int32)) (fun x10 => some (Sum.inr (x10, w9.2))) else if p2 = 0 then some (Sum.inl (Sum.inl (z, w9.2))) else if p2 = (1 : Int32) then some (Sum.inl (Sum.inl (s5.1, w9.2))) else some (Sum.inl (Sum.inl (w9.1, w9.2)))) else vl (s5.1 + (1 : Int32)) (fun x11 => some (Sum.inr (x11, s5.2))))
def wordX (b : Nat) (w : WD) (p : Nat → Bool) (i c : Nat) : (Int32 × HP) ⊕ HP → Prop
  | .inl z => ∃ w1 m, z.2 = mk b w1 ∧ sim w w1 ∧ m < 1024 ∧ pc m = c ∧ okm p m = true ∧ (∀ t, t < m → ¬ (pc t = c ∧ okm p t = true)) ∧ z.1 = if i = 0 then nI (pc m) else if i = 1 then nI m else nI (fa_first (lv p 10 m) 1024)
  | .inr y => ∃ w1, y = mk b w1 ∧ sim w w1 ∧ ∀ t, t < 1024 → ¬ (pc t = c ∧ okm p t = true)
section
variable {RL : WD → Prop} {b : Nat} {w : WD}
theorem wordB_mk (h79 : bo (w.2.1 79) 8192) {k : Nat} (hk : k < 8) {i : Nat} (hi : i < 3) {c : Nat} (hc : c ≤ 10) {w0 : WD} (hs0 : sim w w0) : ∃ x, lp (wordB b (nI k) (nI i) (nI c)) FU (0, mk b w0) = some x ∧ wordX b w (WT w k) i c x := by
  refine lp_ex (fun n (t : Int32 × HP) => ∃ m w1, m ≤ 1024 ∧ n = 1024 - m ∧ t = (nI m, mk b w1) ∧ sim w w1 ∧ ∀ t, t < m → ¬ (pc t = c ∧ okm (WT w k) t = true)) (wordX b w (WT w k) i c) ?_ 1024 (0, mk b w0) ⟨0, w0, by decide, rfl, rfl, hs0, fun t ht => absurd ht (Nat.not_lt_zero t)⟩ FU (by decide)
  rintro n t ⟨m, w1, hm, rfl, rfl, hs1, hno⟩
  unfold wordB
  try dsimp only
  by_cases e : m = 1024
  · subst e
    left
    refine ⟨Sum.inr (mk b w1), ?_, w1, rfl, hs1, hno⟩
    rw [if_pos (by decide)]
  · have hm : m < 1024 := by omega
    have a1 := pc_le m
    rw [if_neg (Lnle hm), bits_nI, Option.bind_some]
    by_cases q : pc m = c
    · rw [if_pos (by rw [q]), rc_12_77]
      obtain ⟨a, e1⟩ := sureBy_mk (b := b) (w := w1) (by rw [hs1.2.1 79 rfl]; exact h79) hk hm
      rw [e1, Option.bind_some, sim_WT hs1]
      cases hE : okm (WT w k) m with
      | false =>
        right
        rw [if_neg (show ¬ false = true by decide), if_pos rfl, vl_eq, nI_1]
        refine ⟨_, 1024 - (m + 1), rfl, by omega, m + 1, _, by omega, rfl, rfl, sP_trans hs1 (sP_uA w1 _ rfl), fun t ht z => ?_⟩
        by_cases y : t = m
        · rw [y, hE] at z; cases z.2
        · exact hno t (by omega) z
      | true =>
        left
        have hf := (ex_first _ _).mpr (show ex (lv (WT w k) 10 m) 1024 = true from hE)
        rw [if_pos rfl, if_neg (nI_nm1 (by omega))]
        rcases (show i = 0 ∨ i = 1 ∨ i = 2 by omega) with rfl | rfl | rfl
        · rw [if_pos (show nI 0 = 0 from rfl)]
          exact ⟨_, rfl, _, m, rfl, sP_trans hs1 (sP_uA w1 a rfl), hm, q, hE, hno, by rw [if_pos rfl, q]⟩
        · rw [if_neg (show ¬ nI 1 = 0 by decide), if_pos (show nI 1 = 1 from rfl)]
          exact ⟨_, rfl, _, m, rfl, sP_trans hs1 (sP_uA w1 a rfl), hm, q, hE, hno, by rw [if_neg (by decide), if_pos rfl]⟩
        · rw [if_neg (show ¬ nI 2 = 0 by decide), if_neg (show ¬ nI 2 = 1 by decide)]
          exact ⟨_, rfl, _, m, rfl, sP_trans hs1 (sP_uA w1 a rfl), hm, q, hE, hno, by rw [if_neg (by decide), if_neg (by decide)]⟩
    · right
      rw [if_neg (fun z => q (nI_inj (by omega) (by omega) z)), vl_eq, nI_1]
      refine ⟨_, 1024 - (m + 1), rfl, by omega, m + 1, w1, by omega, rfl, rfl, hs1, fun t ht z => ?_⟩
      by_cases y : t = m
      · rw [y] at z; exact q z.1
      · exact hno t (by omega) z
theorem word_m (h79 : bo (w.2.1 79) 8192) {k : Nat} (hk : k < 8) (hb : bt (w.1 77 5) k = true) {i : Nat} (hi : i < 3) : ∃ r w1, FX12_word (mk b w) (b + 77) (nI k) (nI i) = some (r, mk b w1) ∧ sim w w1 ∧ wordR (WT w k) i r := by
  have main : ∃ z, FX12_word (mk b w) (b + 77) (nI k) (nI i) = some z ∧ ∃ w1, z.2 = mk b w1 ∧ sim w w1 ∧ wordR (WT w k) i z.1 := by
    unfold FX12_word
    rw [rc_12_77, isWish_t hk hb, Option.bind_some, if_neg n10, in_y hi, Option.bind_some, if_neg n10]
    refine lpb_ex (fun n (t : Int32 × HP) => ∃ c w1, c ≤ 11 ∧ n = 11 - c ∧ t = (nI c, mk b w1) ∧ sim w w1 ∧ ∀ t, t < 1024 → ¬ (pc t < c ∧ okm (WT w k) t = true)) (fun x => match x with
      | .inl z => ∃ w1, z.2 = mk b w1 ∧ sim w w1 ∧ wordR (WT w k) i z.1
      | .inr y => ∃ w1, y = mk b w1 ∧ sim w w1 ∧ ∀ t, t < 1024 → okm (WT w k) t = false) (fun (z : Int32 × HP) => ∃ w1, z.2 = mk b w1 ∧ sim w w1 ∧ wordR (WT w k) i z.1) 11 (by decide) ⟨0, w, by decide, rfl, rfl, sP_refl w, fun t _ q => absurd q.1 (Nat.not_lt_zero _)⟩ ?_ ?_
    · rintro n t ⟨c, w1, hc, rfl, rfl, hs1, hno⟩
      try dsimp only
      by_cases e : c = 11
      · subst e
        left
        refine ⟨Sum.inr (mk b w1), by rfl, w1, rfl, hs1, fun t ht => ?_⟩
        cases z : okm (WT w k) t with
        | false => rfl
        | true => exact absurd ⟨by have := pc_le t; omega, z⟩ (hno t ht)
      · have hc : c ≤ 10 := by omega
        rw [if_neg (Lnlt hc)]
        obtain ⟨x, e1, e2⟩ := wordB_mk (b := b) h79 hk hi hc hs1
        cases x with
        | inl z =>
          left
          obtain ⟨w2, m, f1, f2, f3, f4, f5, f6, f7⟩ := e2
          refine ⟨Sum.inl z, ?_, w2, f1, f2, Or.inr ⟨m, f3, f5, fun t ht q y => ?_, f7⟩⟩
          · refine (congrArg (fun o => Option.bind o _) e1).trans ?_
            rfl
          · rcases y with y | ⟨y1, y2⟩
            · exact hno t ht ⟨by omega, q⟩
            · exact f6 t y2 ⟨by omega, q⟩
        | inr y =>
          right
          obtain ⟨w2, rfl, f2, f3⟩ := e2
          refine ⟨(nI (c + 1), mk b w2), 11 - (c + 1), ?_, by omega, c + 1, w2, by omega, rfl, rfl, f2, fun t ht q => ?_⟩
          · refine (congrArg (fun o => Option.bind o _) e1).trans ?_
            rw [← nI_1]
            rfl
          · by_cases y : pc t = c
            · exact f3 t ht ⟨y, q.2⟩
            · exact hno t ht ⟨by omega, q.2⟩
    · intro x hx
      cases x with
      | inl z => exact ⟨z, rfl, hx⟩
      | inr y =>
        obtain ⟨w1, rfl, f2, f3⟩ := hx
        exact ⟨(-2, mk b w1), rfl, w1, rfl, f2, Or.inl ⟨rfl, f3⟩⟩
  obtain ⟨z, e1, w1, e2, e3, e4⟩ := main
  exact ⟨z.1, w1, by rw [← e2]; exact e1, e3, e4⟩
theorem op_word (hRL : LOK RL) (h : Rel RL w) (x y : Int32) : OP RL b w (fun hp => FX11_word hp (b + 0) x y) (fun hp => FX12_word hp (b + 77) x y) := by
  by_cases q : ∃ k, k < 8 ∧ x = nI k ∧ bt (w.1 77 5) k = true
  · obtain ⟨k, hk, rfl, hb⟩ := q
    rcases case_ix y 3 with ⟨i, hi, rfl⟩ | e
    · obtain ⟨r, w1, e1, s1, p1⟩ := word_c (b := b) h hk hb hi
      have h1 := Rel_sim hRL h s1
      obtain ⟨r', w2, e2, s2, p2⟩ := word_m (b := b) h1.b79 hk (by rw [s1.1 77 5 rfl]; exact hb) hi
      have er : r = r' := by
        rw [sim_WT s1] at p2
        exact wordR_one p1 p2
      subst er
      exact OPi e1 e2 (Rel_sim hRL h1 s2)
    · apply OPi (r := -1) (w1 := w) (w2 := w) ?_ ?_ h
      · unfold FX11_word
        simp only [Option.bind_some, vl_eq, jn_eq, rc_11_0, gR_11_0_0, gR_11_0_1, gR_11_0_2, gR_11_0_3, gR_11_0_4, gR_11_0_5, gR_11_0_6, gR_11_0_7, gR_11_0_8, gR_11_0_9, gR_11_0_10, gR_11_0_11, gR_11_0_12, gR_11_0_13, gI_11_0_14, sI_11_0_14, rc_8_1, gR_8_1_0, gI_8_1_1, sI_8_1_1, rc_1_3, gR_1_3_0, gI_1_3_1, sI_1_3_1, gI_1_3_2, sI_1_3_2, gI_1_3_3, sI_1_3_3, gR_1_3_4, gI_1_3_5, sI_1_3_5, rc_1_2_3, gR_1_2_3_0, gI_1_2_3_1, sI_1_2_3_1, gI_1_2_3_2, sI_1_2_3_2, gI_1_2_3_3, sI_1_2_3_3, gR_1_2_3_4, gI_1_2_3_5, sI_1_2_3_5, rc_0_5, gR_0_5_0, gI_0_5_1, sI_0_5_1, rc_0_15, gR_0_15_0, gI_0_15_1, sI_0_15_1, rc_3_25, gR_3_25_0, gR_3_25_1, gR_3_25_2, gR_3_25_3, rc_5_34, gI_5_34_1, sI_5_34_1, gI_5_34_2, sI_5_34_2, gI_5_34_3, sI_5_34_3, gI_5_34_4, sI_5_34_4, gI_5_34_5, sI_5_34_5, gI_5_34_6, sI_5_34_6, gR_5_34_7, gR_5_34_8, gR_5_34_9, gR_5_34_10, gR_5_34_11, gR_5_34_12, rc_10_51, gI_10_51_0, sI_10_51_0, gI_10_51_1, sI_10_51_1, gI_10_51_2, sI_10_51_2, gR_10_51_3, rc_9_64, gR_9_64_0, gR_9_64_1, gR_9_64_2, rc_6_68, gI_6_68_0, sI_6_68_0, gI_6_68_1, sI_6_68_1, gI_6_68_2, sI_6_68_2, gI_6_68_3, sI_6_68_3, gI_6_68_4, sI_6_68_4, gI_6_68_5, sI_6_68_5, rc_6_69, gI_6_69_0, sI_6_69_0, gI_6_69_1, sI_6_69_1, gI_6_69_2, sI_6_69_2, gI_6_69_3, sI_6_69_3, gI_6_69_4, sI_6_69_4, gI_6_69_5, sI_6_69_5]
        rw [wish_t h hk hb, Option.bind_some, if_neg n10, wh_n e]
      · unfold FX12_word
        rw [rc_12_77, isWish_t hk hb, Option.bind_some, if_neg n10, in_n e, Option.bind_some, if_pos rfl]
  · apply OPi (r := -1) (w1 := w) (w2 := w) ?_ ?_ h
    · unfold FX11_word
      simp only [Option.bind_some, vl_eq, jn_eq, rc_11_0, gR_11_0_0, gR_11_0_1, gR_11_0_2, gR_11_0_3, gR_11_0_4, gR_11_0_5, gR_11_0_6, gR_11_0_7, gR_11_0_8, gR_11_0_9, gR_11_0_10, gR_11_0_11, gR_11_0_12, gR_11_0_13, gI_11_0_14, sI_11_0_14, rc_8_1, gR_8_1_0, gI_8_1_1, sI_8_1_1, rc_1_3, gR_1_3_0, gI_1_3_1, sI_1_3_1, gI_1_3_2, sI_1_3_2, gI_1_3_3, sI_1_3_3, gR_1_3_4, gI_1_3_5, sI_1_3_5, rc_1_2_3, gR_1_2_3_0, gI_1_2_3_1, sI_1_2_3_1, gI_1_2_3_2, sI_1_2_3_2, gI_1_2_3_3, sI_1_2_3_3, gR_1_2_3_4, gI_1_2_3_5, sI_1_2_3_5, rc_0_5, gR_0_5_0, gI_0_5_1, sI_0_5_1, rc_0_15, gR_0_15_0, gI_0_15_1, sI_0_15_1, rc_3_25, gR_3_25_0, gR_3_25_1, gR_3_25_2, gR_3_25_3, rc_5_34, gI_5_34_1, sI_5_34_1, gI_5_34_2, sI_5_34_2, gI_5_34_3, sI_5_34_3, gI_5_34_4, sI_5_34_4, gI_5_34_5, sI_5_34_5, gI_5_34_6, sI_5_34_6, gR_5_34_7, gR_5_34_8, gR_5_34_9, gR_5_34_10, gR_5_34_11, gR_5_34_12, rc_10_51, gI_10_51_0, sI_10_51_0, gI_10_51_1, sI_10_51_1, gI_10_51_2, sI_10_51_2, gR_10_51_3, rc_9_64, gR_9_64_0, gR_9_64_1, gR_9_64_2, rc_6_68, gI_6_68_0, sI_6_68_0, gI_6_68_1, sI_6_68_1, gI_6_68_2, sI_6_68_2, gI_6_68_3, sI_6_68_3, gI_6_68_4, sI_6_68_4, gI_6_68_5, sI_6_68_5, rc_6_69, gI_6_69_0, sI_6_69_0, gI_6_69_1, sI_6_69_1, gI_6_69_2, sI_6_69_2, gI_6_69_3, sI_6_69_3, gI_6_69_4, sI_6_69_4, gI_6_69_5, sI_6_69_5]
      rcases case_ix x 8 with ⟨k, hk, rfl⟩ | e
      · cases hb : bt (w.1 77 5) k with
        | true => exact absurd ⟨k, hk, rfl, hb⟩ q
        | false => rw [wish_f h hk hb, Option.bind_some, if_pos rfl]
      · rw [book_no e, Option.bind_some, if_pos rfl]
    · unfold FX12_word
      rw [rc_12_77]
      rcases case_ix x 8 with ⟨k, hk, rfl⟩ | e
      · cases hb : bt (w.1 77 5) k with
        | true => exact absurd ⟨k, hk, rfl, hb⟩ q
        | false => rw [isWish_f hk hb, Option.bind_some, if_pos rfl]
      · rw [isWish_no e, Option.bind_some, if_pos rfl]
end
