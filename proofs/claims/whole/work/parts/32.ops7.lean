/-! calls: joke, summer, check -/
def jQ (w : WD) (k s : Nat) : Bool := al (fun j => !bt (w.1 77 6 &&& (((1 : Int32) <<< (nI k &&& 31)) ^^^ (-1))) j || WC w j s) 8
def jV (w : WD) (k : Nat) : Int32 := nI (fb_ct (fun s => !WF w s && jQ w k s) 1024)
def amaxJ (told : Nat → Bool) (v : Nat → Int32) (k : Nat) (a : Int32 × Int32) : Int32 × Int32 := if told k then (if a.1 = -2 then (nI k, v k) else if v k ≤ a.2 then a else (nI k, v k)) else a
theorem sim_WT {w w1 : WD} (s : sim w w1) : WT w1 = WT w := by funext k t; unfold WT; rw [s.2.1 79 rfl]
theorem sim_WC {w w1 : WD} (s : sim w w1) : WC w1 = WC w := by funext k t; unfold WC; rw [s.2.1 80 rfl]
theorem sim_WF {w w1 : WD} (s : sim w w1) : WF w1 = WF w := by funext t; unfold WF; rw [s.2.1 81 rfl]
theorem sim_WO {w w1 : WD} (s : sim w w1) : WO w1 = WO w := by funext t; unfold WO; rw [s.2.1 82 rfl]
section
variable {RL : WD → Prop} {b : Nat} {w : WD}
/-- a call in which the class changes scratch alone and the reference nothing -/
def OPc (b : Nat) (w : WD) {X : Type} (f : HP → Option (X × HP)) (g : HP → Option X) : Prop := ∃ r w1, f (mk b w) = some (r, mk b w1) ∧ g (mk b w1) = some r ∧ sim w w1
theorem joke_m (h : Rel RL w) (x : Int32) : FX12_joke (mk b w) (b + 77) x = if ∃ k, k < 2 ∧ x = nI k then some (if x = 0 then (fld (amaxJ (bt (w.1 77 6)) (jV w)) 8 (-2, 0)).1 else (fld (amaxJ (bt (w.1 77 6)) (jV w)) 8 (-2, 0)).2) else some (-1) := by
  unfold FX12_joke
  by_cases e : ∃ k, k < 2 ∧ x = nI k
  · rw [if_pos e]
    obtain ⟨i, hi, rfl⟩ := e
    rw [in_y hi, Option.bind_some, if_neg n10]
    simp only [Option.bind_some, vl_eq, jn_eq, rc_12_77, gR_12_77_0, gR_12_77_1, gR_12_77_2, gR_12_77_3, gR_12_77_4, gI_12_77_5, sI_12_77_5, gI_12_77_6, sI_12_77_6, gI_12_77_7, sI_12_77_7, gI_12_77_8, sI_12_77_8, gI_12_77_9, sI_12_77_9, gI_12_77_10, sI_12_77_10, gI_12_77_11, sI_12_77_11, gI_12_77_12, sI_12_77_12, gR_12_77_13, gI_12_77_14, sI_12_77_14, gI_12_77_15, sI_12_77_15, gI_12_77_16, sI_12_77_16, gI_12_77_17, sI_12_77_17, gI_12_77_18, sI_12_77_18, gI_12_77_19, sI_12_77_19, gI_12_77_20, sI_12_77_20, gI_12_77_21, sI_12_77_21, gI_12_77_22, sI_12_77_22, gI_12_77_23, sI_12_77_23, gR_12_77_24, gR_12_77_25, gR_12_77_26, gR_12_77_27, gR_12_77_28, gR_12_77_29, gR_12_77_30, gR_12_77_31, gR_12_77_32, gR_12_77_33, gR_12_77_34, gR_12_77_35, gR_12_77_36, gR_12_77_37, gR_12_77_38, gR_12_77_39, gI_12_77_40, sI_12_77_40, gI_12_77_41, sI_12_77_41, gI_12_77_42, sI_12_77_42, gI_12_77_43, sI_12_77_43, gR_12_77_44, gI_12_77_45, sI_12_77_45, gI_12_77_46, sI_12_77_46, gI_12_77_47, sI_12_77_47, gI_12_77_48, sI_12_77_48, gI_12_77_49, sI_12_77_49, gI_12_77_50, sI_12_77_50, gI_12_77_51, sI_12_77_51, gI_12_77_52, sI_12_77_52, gI_12_77_53, sI_12_77_53, gR_12_77_54, gR_12_77_55, gR_12_77_56, gR_12_77_57, gR_12_77_58, gI_12_77_59, sI_12_77_59, gI_12_77_60, sI_12_77_60, gI_12_77_61, sI_12_77_61, gI_12_77_62, sI_12_77_62, gI_12_77_63, sI_12_77_63, gI_12_77_64, sI_12_77_64, gI_12_77_65, sI_12_77_65]
    refine lpb_for (fun k => ((fld (amaxJ (bt (w.1 77 6)) (jV w)) k (-2, 0)).1, (fld (amaxJ (bt (w.1 77 6)) (jV w)) k (-2, 0)).2, nI k)) _ 8 (by rfl) (by decide) (fun k hk => ?_) (by rfl) ?_
    · try dsimp only
      generalize hA : fld (amaxJ (bt (w.1 77 6)) (jV w)) k (-2, 0) = A
      have e1 : fld (amaxJ (bt (w.1 77 6)) (jV w)) (k + 1) (-2, 0) = amaxJ (bt (w.1 77 6)) (jV w) k A := by rw [← hA]; rfl
      rw [e1, if_neg (Lnle hk), has_eq _ (by omega), Option.bind_some, nI_1]
      unfold amaxJ
      cases hb : bt (w.1 77 6) k with
      | false => rfl
      | true =>
        rw [if_neg (by decide), if_pos (show true = true from rfl)]
        refine lpb_ct (fun s => !WF w s && jQ w k s) 1024 (by decide) (fun s hs a => ?_) (fun a => by rfl) ?_
        · try dsimp only
          rw [if_neg (Lnle hs), rdF h.b81 hs, Option.bind_some, bite, allows_mk h.b80 _ hs, Option.bind_some, bite, nI_1]
          show (if WF w s = true then _ else if jQ w k s = true then _ else _) = _
          cases WF w s <;> cases jQ w k s <;> rfl
        · show (if A.1 = -2 then some (Sum.inr (nI k, jV w k, nI (k + 1))) else if A.2 < jV w k then some (Sum.inr (nI k, jV w k, nI (k + 1))) else some (Sum.inr (A.1, A.2, nI (k + 1)))) = _
          by_cases q : A.1 = -2
          · rw [if_pos q, if_pos q]
          · rw [if_neg q, if_neg q]
            by_cases q2 : jV w k ≤ A.2
            · rw [if_pos q2, if_neg]
              rw [fa_le] at q2
              rw [fa_lt]
              omega
            · rw [if_neg q2, if_pos (fa_of_nle q2)]
    · try dsimp only
      by_cases q : nI i = 0
      · rw [if_pos q, if_pos q]
      · rw [if_neg q, if_neg q]
  · rw [if_neg e, in_n e]
    rfl
theorem jQ_of (h : Rel RL w) {k s : Nat} (hk : k < 8) (hs : s < 1024) (hF : WF w s = true) : jQ w k s = true := by
  rw [h.fit hs, al_iff] at hF
  unfold jQ
  rw [al_iff]
  intro j hj
  have := hF j hj
  rw [b_and]
  cases h1 : bt (w.1 77 6) j <;> cases h2 : WC w j s <;> simp_all
theorem op_joke (hRL : LOK RL) (h : Rel RL w) (x : Int32) : OPc b w (fun hp => FX11_joke hp (b + 0) x) (fun hp => FX12_joke hp (b + 77) x) := by
  have hj : ∀ w1, sim w w1 → FX12_joke (mk b w1) (b + 77) x = if ∃ k, k < 2 ∧ x = nI k then some (if x = 0 then (fld (amaxJ (bt (w.1 77 6)) (jV w)) 8 (-2, 0)).1 else (fld (amaxJ (bt (w.1 77 6)) (jV w)) 8 (-2, 0)).2) else some (-1) := fun w1 s => by
    rw [joke_m (Rel_sim hRL h s)]
    have e1 : w1.1 77 6 = w.1 77 6 := s.1 77 6 rfl
    have e2 : jV w1 = jV w := by
      funext k
      unfold jV jQ
      rw [sim_WF s, sim_WC s, e1]
    rw [e1, e2]
  by_cases e : ∃ k, k < 2 ∧ x = nI k
  · rw [if_pos e] at hj
    obtain ⟨i, hi, rfl⟩ := e
    have main : ∃ r, FX11_joke (mk b w) (b + 0) (nI i) = some r ∧ ∃ w1, r = (if nI i = 0 then (fld (amaxJ (bt (w.1 77 6)) (jV w)) 8 (-2, 0)).1 else (fld (amaxJ (bt (w.1 77 6)) (jV w)) 8 (-2, 0)).2, mk b w1) ∧ sim w w1 := by
      unfold FX11_joke
      rw [wh_y hi]
      simp only [Option.bind_some, vl_eq, jn_eq]
      refine lpb_inv (fun k s => ∃ g, s = ((fld (amaxJ (bt (w.1 77 6)) (jV w)) k (-2, 0)).1, (fld (amaxJ (bt (w.1 77 6)) (jV w)) k (-2, 0)).2, nI k, mk b (uL w 32 g))) _ 8 (by decide) ⟨w.2.2.1 32, by rw [uL_id]; rfl⟩ (fun k hk s hI => ?_) (fun s hI => ?_)
      · obtain ⟨g, rfl⟩ := hI
        try dsimp only
        generalize hA : fld (amaxJ (bt (w.1 77 6)) (jV w)) k (-2, 0) = A
        have e1 : fld (amaxJ (bt (w.1 77 6)) (jV w)) (k + 1) (-2, 0) = amaxJ (bt (w.1 77 6)) (jV w) k A := by rw [← hA]; rfl
        rw [e1, if_neg (Lnle hk)]
        simp only [rc_11_0, gR_11_0_0, gR_11_0_1, gR_11_0_2, gR_11_0_3, gR_11_0_4, gR_11_0_5, gR_11_0_6, gR_11_0_7, gR_11_0_8, gR_11_0_9, gR_11_0_10, gR_11_0_11, gR_11_0_12, gR_11_0_13, gI_11_0_14, sI_11_0_14, rc_8_1, gR_8_1_0, gI_8_1_1, sI_8_1_1, rc_1_3, gR_1_3_0, gI_1_3_1, sI_1_3_1, gI_1_3_2, sI_1_3_2, gI_1_3_3, sI_1_3_3, gR_1_3_4, gI_1_3_5, sI_1_3_5, rc_1_2_3, gR_1_2_3_0, gI_1_2_3_1, sI_1_2_3_1, gI_1_2_3_2, sI_1_2_3_2, gI_1_2_3_3, sI_1_2_3_3, gR_1_2_3_4, gI_1_2_3_5, sI_1_2_3_5, rc_0_5, gR_0_5_0, gI_0_5_1, sI_0_5_1, rc_0_15, gR_0_15_0, gI_0_15_1, sI_0_15_1, rc_3_25, gR_3_25_0, gR_3_25_1, gR_3_25_2, gR_3_25_3, rc_5_34, gI_5_34_1, sI_5_34_1, gI_5_34_2, sI_5_34_2, gI_5_34_3, sI_5_34_3, gI_5_34_4, sI_5_34_4, gI_5_34_5, sI_5_34_5, gI_5_34_6, sI_5_34_6, gR_5_34_7, gR_5_34_8, gR_5_34_9, gR_5_34_10, gR_5_34_11, gR_5_34_12, rc_10_51, gI_10_51_0, sI_10_51_0, gI_10_51_1, sI_10_51_1, gI_10_51_2, sI_10_51_2, gR_10_51_3, rc_9_64, gR_9_64_0, gR_9_64_1, gR_9_64_2, rc_6_68, gI_6_68_0, sI_6_68_0, gI_6_68_1, sI_6_68_1, gI_6_68_2, sI_6_68_2, gI_6_68_3, sI_6_68_3, gI_6_68_4, sI_6_68_4, gI_6_68_5, sI_6_68_5, rc_6_69, gI_6_69_0, sI_6_69_0, gI_6_69_1, sI_6_69_1, gI_6_69_2, sI_6_69_2, gI_6_69_3, sI_6_69_3, gI_6_69_4, sI_6_69_4, gI_6_69_5, sI_6_69_5, Option.bind_some]
        have hR : Rel RL (uL w 32 g) := Rel_sim hRL h (sP_uL w g rfl)
        rw [clause_y hR hk, Option.bind_some, nI_1]
        have e6 : (uL w 32 g).1 77 6 = w.1 77 6 := rfl
        have e15 : (uL w 32 g).1 15 1 = w.1 77 6 := h.int.2.2.1
        rw [e6, e15]
        unfold amaxJ
        cases hb : bt (w.1 77 6) k with
        | false => exact ⟨_, rfl, g, rfl⟩
        | true =>
          rw [if_neg (by decide), if_pos (show true = true from rfl)]
          obtain ⟨g2, g3, g4⟩ := meet_mk (b := b) (w := uL w 32 g) (o := 15) (d := 32) (Or.inr rfl) (w.1 77 6 &&& (((1 : Int32) <<< (nI k &&& 31)) ^^^ (-1))) okCh (fun k hk => by omega)
          rw [g3, Option.bind_some]
          simp only [rc_11_0, gR_11_0_0, gR_11_0_1, gR_11_0_2, gR_11_0_3, gR_11_0_4, gR_11_0_5, gR_11_0_6, gR_11_0_7, gR_11_0_8, gR_11_0_9, gR_11_0_10, gR_11_0_11, gR_11_0_12, gR_11_0_13, gI_11_0_14, sI_11_0_14, rc_8_1, gR_8_1_0, gI_8_1_1, sI_8_1_1, rc_1_3, gR_1_3_0, gI_1_3_1, sI_1_3_1, gI_1_3_2, sI_1_3_2, gI_1_3_3, sI_1_3_3, gR_1_3_4, gI_1_3_5, sI_1_3_5, rc_1_2_3, gR_1_2_3_0, gI_1_2_3_1, sI_1_2_3_1, gI_1_2_3_2, sI_1_2_3_2, gI_1_2_3_3, sI_1_2_3_3, gR_1_2_3_4, gI_1_2_3_5, sI_1_2_3_5, rc_0_5, gR_0_5_0, gI_0_5_1, sI_0_5_1, rc_0_15, gR_0_15_0, gI_0_15_1, sI_0_15_1, rc_3_25, gR_3_25_0, gR_3_25_1, gR_3_25_2, gR_3_25_3, rc_5_34, gI_5_34_1, sI_5_34_1, gI_5_34_2, sI_5_34_2, gI_5_34_3, sI_5_34_3, gI_5_34_4, sI_5_34_4, gI_5_34_5, sI_5_34_5, gI_5_34_6, sI_5_34_6, gR_5_34_7, gR_5_34_8, gR_5_34_9, gR_5_34_10, gR_5_34_11, gR_5_34_12, rc_10_51, gI_10_51_0, sI_10_51_0, gI_10_51_1, sI_10_51_1, gI_10_51_2, sI_10_51_2, gR_10_51_3, rc_9_64, gR_9_64_0, gR_9_64_1, gR_9_64_2, rc_6_68, gI_6_68_0, sI_6_68_0, gI_6_68_1, sI_6_68_1, gI_6_68_2, sI_6_68_2, gI_6_68_3, sI_6_68_3, gI_6_68_4, sI_6_68_4, gI_6_68_5, sI_6_68_5, rc_6_69, gI_6_69_0, sI_6_69_0, gI_6_69_1, sI_6_69_1, gI_6_69_2, sI_6_69_2, gI_6_69_3, sI_6_69_3, gI_6_69_4, sI_6_69_4, gI_6_69_5, sI_6_69_5, Option.bind_some]
          rw [uL_uL, size_mk okCh, Option.bind_some, size_mk okF, Option.bind_some]
          have c1 : fb_ct (tb ((uL w 32 g2).2.2.1 32)) 1024 = fb_ct (jQ w k) 1024 := fb_ct_cong (fun s hs => by
            rw [uL_at, g4 s hs]
            exact al_cong (fun j hj => by rw [uL_ne _ _ (by omega), h.tC hj hs]))
          have c2 : fb_ct (tb ((uL w 32 g2).2.2.1 30)) 1024 = fb_ct (WF w) 1024 := by rw [uL_ne _ _ (by decide)]; exact cF h
          have c3 := ct_minus (jQ w k) (WF w) 1024
          have c4 : fb_ct (fun s => jQ w k s && WF w s) 1024 = fb_ct (WF w) 1024 := fb_ct_cong (fun s hs => by
            cases hF : WF w s with
            | false => rw [Bool.and_false]
            | true => rw [jQ_of h hk hs hF]; rfl)
          have c5 : fb_ct (fun s => jQ w k s && !WF w s) 1024 = fb_ct (fun s => !WF w s && jQ w k s) 1024 := fb_ct_cong (fun s _ => Bool.and_comm _ _)
          have c6 : nI (fb_ct (jQ w k) 1024) - nI (fb_ct (WF w) 1024) = jV w k := by
            rw [pk_sub (by omega)]
            unfold jV
            congr 1
            omega
          rw [c1, c2, c6]
          by_cases q : A.1 = -2
          · rw [if_pos q, if_pos q]
            exact ⟨_, rfl, g2, rfl⟩
          · rw [if_neg q, if_neg q]
            by_cases q2 : jV w k ≤ A.2
            · rw [if_pos q2, if_pos q2]
              exact ⟨_, rfl, g2, rfl⟩
            · rw [if_neg q2, if_neg q2]
              exact ⟨_, rfl, g2, rfl⟩
      · obtain ⟨g, rfl⟩ := hI
        refine ⟨((fld (amaxJ (bt (w.1 77 6)) (jV w)) 8 (-2, 0)).1, (fld (amaxJ (bt (w.1 77 6)) (jV w)) 8 (-2, 0)).2, mk b (uL w 32 g)), by rfl, ?_⟩
        try dsimp only
        by_cases q : nI i = 0
        · rw [if_pos q]
          exact ⟨_, rfl, uL w 32 g, by rw [if_pos q], sP_uL w g rfl⟩
        · rw [if_neg q]
          exact ⟨_, rfl, uL w 32 g, by rw [if_neg q], sP_uL w g rfl⟩
    obtain ⟨r, e1, w1, rfl, e3⟩ := main
    exact ⟨_, w1, e1, hj w1 e3, e3⟩
  · rw [if_neg e] at hj
    refine ⟨-1, w, ?_, hj w (sP_refl w), sP_refl w⟩
    try dsimp only
    unfold FX11_joke
    rw [wh_n e]
end
