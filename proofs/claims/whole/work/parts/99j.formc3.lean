/-! the class reads a piece of a formula, and a whole one -/
section
variable {b : Nat} {w0 : WD} {len v : Nat} {ch : Nat → Nat}
theorem cB_is {x : Nat} (h : cB x = true) : (97 ≤ x ∧ x ≤ 106) ∨ (48 ≤ x ∧ x ≤ 57) ∨ x = 33 ∨ x = 40 := by
  unfold cB at h
  simp only [Bool.or_eq_true, Bool.and_eq_true, decide_eq_true_eq, beq_iff_eq] at h
  omega
theorem piece_c (hT : TxF w0 len ch) (hv : v < 16) (h5 : w0.1 3 5 = nI v) {rP rF : HP → Nat → Int32 → Option (Int64 × HP)} {rM : HP → Nat → Int32 → Int32 → Option (Int64 × HP)} {e d : Nat} (hd : d + e = 6) {inner : Option ((Nat → FR) × (Nat → FR))} (hin : e = 0 → inner = none) (hin2 : e ≠ 0 → ∃ f, inner = some f ∧ (∀ a z, a ≤ len → f.2 a = .inr z → z.1 ≤ len) ∧ SpF b w0 len v rP (d + 1) f.1 ∧ SpF b w0 len v rF (d + 1) f.2 ∧ ∀ k, k < 10 → SpF b w0 len v (fun hp p0 d => rM hp p0 (nI k) d) (d + 1) (fun a => if ch a = 40 then pManL ch f.2 k 10 (a + 1) 0 (fun _ => 0) [] else .inl (1, a))) : SpF b w0 len v (FBX1_piece rF rP rM) d (pPieB ch inner) := by
  intro a ha
  have hlen := hT.2.1
  unfold FBX1_piece pPieB
  rw [rc_1_3, fz_here hT ha, Option.bind_some, fcan (fch_le hT a), Option.bind_some]
  cases cb : cB (ch a) with
  | false =>
    rw [if_pos (show (if false = true then (1 : Int32) else 0) = 0 by decide), if_neg (by decide), rc_1_3]
    have e1 : FX4_fail (mk b (fzW w0 a 0)) (b + 3) (1 : Int32) = _ := fz_fail (b := b) (w0 := w0) (a := a) (f := 0) 1
    rw [if_pos rfl] at e1
    rw [e1, Option.bind_some]
    exact ⟨_, _, _, rfl, rfl, ha, flt_n (by decide) (by decide) (by omega)⟩
  | true =>
    have hal := cB_in hT.2.2.2 cb
    have hcb := cB_is cb
    have htx : txv (ch a) = nI (ch a) := by
      unfold txv
      rw [if_neg (by omega)]
    rw [if_neg (show ¬ (if true = true then (1 : Int32) else 0) = 0 by decide), if_pos rfl, jn_eq, htx]
    have inc : ∀ (Z : Option (Int64 × HP)) (kf : HP → Option (Int64 × HP)), kf (mk b (fzW w0 (a + 1) 0)) = Z → (gI [1] 2 (mk b (fzW w0 a 0)) (b + 3)).bind (fun v6 => (sI [1] 2 (mk b (fzW w0 a 0)) (b + 3) (v6 + (1 : Int32))).bind kf) = Z := by
      intro Z kf hz
      rw [gI_1_3_2, Option.bind_some, fz_2, nI_1, sI_1_3_2, Option.bind_some, fz_u2]
      exact hz
    by_cases c1 : 97 ≤ ch a
    · rw [if_pos (show (97 : Int32) ≤ nI (ch a) from nI_le (a := 97) (b := ch a) c1 (by omega)), if_pos c1]
      refine ⟨soX (ch a - 97) v, a + 1, 0, inc _ _ ?_, rfl, rfl, fun q hq => lb_soX _ (by omega) v hv q hq⟩
      rw [if_neg (show ¬ nI (ch a) < (97 : Int32) from nI_nlt (a := ch a) (b := 97) c1 (by omega)), gI_1_3_5, Option.bind_some, fz_5, h5, (by decide +kernel : ∀ c, c < 107 → 97 ≤ c → nI c - (97 : Int32) = nI (c - 97)) (ch a) (by omega) c1, so_mk _ (by omega) hv, Option.bind_some]
    · rw [if_neg (show ¬ (97 : Int32) ≤ nI (ch a) from nI_ge (a := ch a) (b := 97) (by omega) (by decide)), if_neg c1]
      by_cases c2 : ch a = 48
      · rw [if_pos c2, c2, if_pos (show nI 48 = (48 : Int32) from rfl)]
        refine ⟨0, a + 1, 0, inc _ _ ?_, rfl, rfl, fun q hq => lb_0 q⟩
        rw [if_pos (by decide)]
        rfl
      · have n48 : ¬ nI (ch a) = (48 : Int32) := fun z => c2 (nI_inj (a := ch a) (b := 48) (by omega) (by omega) z)
        rw [if_neg c2, if_neg n48]
        by_cases c3 : ch a = 49
        · rw [if_pos c3, c3, if_pos (show nI 49 = (49 : Int32) from rfl)]
          refine ⟨-1, a + 1, 0, inc _ _ ?_, rfl, rfl, fun q hq => lb_m1 q hq⟩
          rw [if_pos (by decide)]
          rfl
        · have n49 : ¬ nI (ch a) = (49 : Int32) := fun z => c3 (nI_inj (a := ch a) (b := 49) (by omega) (by omega) z)
          rw [if_neg c3, if_neg n49, rc_1_3, fz_open d (by omega), Option.bind_some]
          by_cases he : e = 0
          · rw [hin he, if_neg (by omega), if_pos rfl]
            have ne : flt (5, a) ≠ 0 := flt_n (by decide) (by decide) (by omega)
            rw [gI_1_3_3, Option.bind_some, fz_3, if_neg ne]
            exact ⟨_, _, _, rfl, rfl, ha, ne⟩
          · obtain ⟨⟨pie, fo⟩, hf, s0, s1, s2, s3⟩ := hin2 he
            rw [hf, if_pos (by omega), gI_1_3_3, Option.bind_some, fz_3, if_pos rfl]
            dsimp only
            by_cases c4 : ch a = 33
            · rw [if_pos c4, c4, if_pos (show nI 33 = (33 : Int32) from rfl), nI_1, rc_1_3]
              obtain ⟨y, a1, f1, p1, p2⟩ := s1 (a + 1) hal
              rw [p1, Option.bind_some]
              refine ⟨_, _, _, rfl, ?_⟩
              revert p2
              show PoF len v (pie (a + 1)) y a1 f1 → _
              cases pie (a + 1) with
              | inl z => exact fun z => z
              | inr z =>
                rintro ⟨q1, q2, q3⟩
                refine ⟨q1, q2, fun q hq => ?_⟩
                show lb (y ^^^ (-1 : Int64)) q = !z.2.1 (64 * v + q)
                rw [lb_not _ hq, q3 q hq]
            · have n33 : ¬ nI (ch a) = (33 : Int32) := fun z => c4 (nI_inj (a := ch a) (b := 33) (by omega) (by omega) z)
              rw [if_neg c4, if_neg n33]
              by_cases c5 : ch a = 40
              · rw [if_pos c5, c5, if_pos (show nI 40 = (40 : Int32) from rfl), nI_1, rc_1_3]
                obtain ⟨y, a1, f1, p1, p2⟩ := s2 (a + 1) hal
                have hfa := p2
                rw [p1, Option.bind_some]
                dsimp only
                rw [rc_1_3]
                revert p2
                show PoF len v (fo (a + 1)) y a1 f1 → _
                cases hpi : fo (a + 1) with
                | inl z =>
                  rintro ⟨q1, q2, q3⟩
                  have hfz : f1 ≠ 0 := by rw [q1]; exact q3
                  have e1 : FX4_expect (mk b (fzW w0 a1 f1)) (b + 3) (41 : Int32) = _ := fz_expect hT q2 (c := 41) (by decide)
                  rw [e1, Option.bind_some, if_neg hfz]
                  by_cases c6 : ch a1 = 41
                  · rw [if_pos c6]
                    exact ⟨_, _, _, rfl, q1, at_in hT.2.2.2 c6 (by decide), q3⟩
                  · rw [if_neg c6]
                    exact ⟨_, _, _, rfl, q1, q2, q3⟩
                | inr z =>
                  rintro ⟨q1, q2, q3⟩
                  subst q1
                  subst q2
                  have hz : z.1 ≤ len := s0 (a + 1) z hal hpi
                  have e1 : FX4_expect (mk b (fzW w0 z.1 0)) (b + 3) (41 : Int32) = _ := fz_expect hT hz (c := 41) (by decide)
                  rw [e1, Option.bind_some, if_pos rfl]
                  dsimp only
                  by_cases c6 : ch z.1 = 41
                  · rw [if_pos c6, if_pos c6]
                    exact ⟨_, _, _, rfl, rfl, rfl, q3⟩
                  · rw [if_neg c6, if_neg c6]
                    exact ⟨_, _, _, rfl, rfl, hz, flt_n (by decide) (by decide) (by omega)⟩
              · have n40 : ¬ nI (ch a) = (40 : Int32) := fun z => c5 (nI_inj (a := ch a) (b := 40) (by omega) (by omega) z)
                rw [if_neg c5, if_neg n40, rc_1_3, nI_1, (by decide +kernel : ∀ c, c < 58 → 48 ≤ c → nI c - (48 : Int32) = nI (c - 48)) (ch a) (by omega) (by omega)]
                obtain ⟨y, a1, f1, p1, p2⟩ := s3 (ch a - 48) (by omega) (a + 1) hal
                exact ⟨_, _, _, bS p1 rfl, p2⟩
theorem knot_c (hT : TxF w0 len ch) (hv : v < 16) (h5 : w0.1 3 5 = nI v) : ∀ e, e ≤ 6 → (∀ N, 3 * e + 1 ≤ N → SpF b w0 len v (FGFO N).2.1 (6 - e) (pPies ch e)) ∧ (∀ N, 3 * e + 2 ≤ N → SpF b w0 len v (FGFO N).1 (6 - e) (pFor ch e)) ∧ ∀ N, 3 * e + 3 ≤ N → ∀ k, k < 10 → SpF b w0 len v (fun hp p0 d => (FGFO N).2.2 hp p0 (nI k) d) (6 - e) (fun a => if ch a = 40 then pManL ch (pFor ch e) k 10 (a + 1) 0 (fun _ => 0) [] else .inl (1, a)) := by
  have next : ∀ e, e ≤ 6 → (∀ N, 3 * e + 1 ≤ N → SpF b w0 len v (FGFO N).2.1 (6 - e) (pPies ch e)) → (∀ N, 3 * e + 1 ≤ N → SpF b w0 len v (FGFO N).2.1 (6 - e) (pPies ch e)) ∧ (∀ N, 3 * e + 2 ≤ N → SpF b w0 len v (FGFO N).1 (6 - e) (pFor ch e)) ∧ ∀ N, 3 * e + 3 ≤ N → ∀ k, k < 10 → SpF b w0 len v (fun hp p0 d => (FGFO N).2.2 hp p0 (nI k) d) (6 - e) (fun a => if ch a = 40 then pManL ch (pFor ch e) k 10 (a + 1) 0 (fun _ => 0) [] else .inl (1, a)) := by
    intro e he h1
    have h2 : ∀ N, 3 * e + 2 ≤ N → SpF b w0 len v (FGFO N).1 (6 - e) (pFor ch e) := by
      intro N hN
      obtain ⟨M, rfl⟩ : ∃ M, N = M + 1 := ⟨N - 1, by omega⟩
      exact form_c (rF := (FGFO M).1) (rM := (FGFO M).2.2) hT (h1 M (by omega)) (pPies_fine hT.2.2.2 e)
    refine ⟨h1, h2, fun N hN k hk => ?_⟩
    obtain ⟨M, rfl⟩ : ∃ M, N = M + 1 := ⟨N - 1, by omega⟩
    exact many_c (rP := (FGFO M).2.1) (rM := (FGFO M).2.2) hT hk (h2 M (by omega)) (fun a ha => pFor_fine hT.2.2.2 e ha)
  intro e
  induction e with
  | zero =>
    intro he
    refine next 0 he (fun N hN => ?_)
    obtain ⟨M, rfl⟩ : ∃ M, N = M + 1 := ⟨N - 1, by omega⟩
    exact piece_c hT hv h5 (e := 0) rfl (fun _ => rfl) (fun z => absurd rfl z)
  | succ e ih =>
    intro he
    obtain ⟨i1, i2, i3⟩ := ih (by omega)
    refine next (e + 1) he (fun N hN => ?_)
    obtain ⟨M, rfl⟩ : ∃ M, N = M + 1 := ⟨N - 1, by omega⟩
    have ed : 6 - (e + 1) + 1 = 6 - e := by omega
    refine piece_c hT hv h5 (e := e + 1) (d := 6 - (e + 1)) (by omega) (fun z => absurd z (by omega)) (fun _ => ⟨(pPies ch e, pForB ch (pPies ch e)), rfl, fun a z ha hz => ?_, ?_, ?_, fun k hk => ?_⟩)
    · have := pForB_fine hT.2.2.2 (pPies_fine hT.2.2.2 e) ha
      have hz : pForB ch (pPies ch e) a = .inr z := hz
      rw [hz] at this
      exact this.2.1
    · rw [ed]; exact i1 M (by omega)
    · rw [ed]; exact i2 M (by omega)
    · rw [ed]; exact i3 M (by omega) k hk
theorem top_c (hT : TxF w0 len ch) (hv : v < 16) (h5 : w0.1 3 5 = nI v) : SpF b w0 len v (FX1_formula 30) 0 (pFor ch 6) := (knot_c hT hv h5 6 (Nat.le_refl 6)).2.1 30 (by decide)
end
def frR (w W : WD) : Prop := (∀ j k, j ≠ 3 → W.1 j k = w.1 j k) ∧ W.2.1 = w.2.1 ∧ (∀ j, j ≠ 4 → W.2.2.1 j = w.2.2.1 j) ∧ W.2.2.2 = w.2.2.2
theorem frR_trans {w w' w'' : WD} (h : frR w w') (h2 : frR w' w'') : frR w w'' := ⟨fun j k e => (h2.1 j k e).trans (h.1 j k e), h2.2.1.trans h.2.1, fun j e => (h2.2.2.1 j e).trans (h.2.2.1 j e), h2.2.2.2.trans h.2.2.2⟩
theorem frR_uI (w : WD) (k : Nat) (x : Int32) : frR w (uI w 3 k x) := ⟨fun j k' e => uI_ne _ _ (by omega), rfl, fun _ _ => rfl, rfl⟩
theorem frR_uL (w : WD) (g : Nat → Int64) : frR w (uL w 4 g) := ⟨fun _ _ _ => rfl, rfl, fun j e => if_neg e, rfl⟩
theorem frR_fz (w : WD) (a : Nat) (f : Int32) : frR w (fzW w a f) := frR_trans (frR_uI w 2 _) (frR_uI _ 3 _)
def rfB (p0 : Nat) (p1 : Int32) : Int32 × HP → Option (((Int32 × HP) ⊕ HP) ⊕ (Int32 × HP)) := (fun (s1 : Int32 × HP) => if (16 : Int32) ≤ s1.1 then some (Sum.inl (Sum.inr s1.2)) else (sI [1] 5 s1.2 p0 s1.1).bind (fun hp3 => (rc [1] hp3 p0 (FX4_begin hp3 p0 p1)).bind (fun w4 => (gR [1] 4 w4 p0).bind (fun v5 => (rc [1] w4 p0 (FX1_formula 30 w4 p0 (0 : Int32))).bind (fun w6 => (wrL w6.2 v5 s1.1 w6.1).bind (fun hp7 => (rc [1] hp7 p0 (FX4_here hp7 p0)).bind (fun v8 => jn (A := HP) (fun a9 => (gI [1] 3 a9 p0).bind (fun v11 => if v11 = 0 then vl (s1.1 + (1 : Int32)) (fun x12 => some (Sum.inr (x12, a9))) else (gI [1] 3 a9 p0).bind (fun v13 => some (Sum.inl (Sum.inl (v13, a9)))))) (fun J10 => if v8 = (-1 : Int32) then J10 hp7 else (rc [1] hp7 p0 (FX4_fail hp7 p0 (1 : Int32))).bind (fun w14 => J10 w14)))))))))
section
variable {b : Nat} {w : WD} {len : Nat} {ch : Nat → Nat}
theorem rfB_step (hl : len ≤ 100) (hX : TX (w.2.1 2) len ch) {v : Nat} (hv : v < 16) : ∃ W, frR w W ∧ (match pTop ch with
    | .inl z => rfB (b + 3) (nI len) (nI v, mk b w) = some (.inl (.inl (flt z, mk b W)))
    | .inr x => rfB (b + 3) (nI len) (nI v, mk b w) = some (.inr (nI (v + 1), mk b W)) ∧ ∃ y, W.2.2.1 4 = vp_updL (w.2.2.1 4) v y ∧ ∀ q, q < 64 → lb y q = x.1 (64 * v + q)) := by
  obtain ⟨w0, hw0⟩ : ∃ w0, w0 = uI (uI w 3 5 (nI v)) 3 1 (nI len) := ⟨_, rfl⟩
  have hT : TxF w0 len ch := by rw [hw0]; exact ⟨rfl, hl, hX⟩
  have h5 : w0.1 3 5 = nI v := by rw [hw0]; rfl
  have f0 : frR w w0 := by rw [hw0]; exact frR_trans (frR_uI w 5 _) (frR_uI _ 1 _)
  have l0 : w0.2.2.1 = w.2.2.1 := by rw [hw0]; rfl
  obtain ⟨y, a, f, p1, p2⟩ := top_c (b := b) hT hv h5 0 (Nat.zero_le len)
  have hfi := pFor_fine hT.2.2.2 6 (Nat.zero_le len)
  have ha : a ≤ len := by
    revert p2 hfi
    cases pFor ch 6 0 with
    | inl z => exact fun p _ => p.2.1
    | inr z => exact fun p q => by rw [p.2.1]; exact q.2.1
  have uf : ∀ a f g, uL (fzW w0 a f) 4 g = fzW (uL w0 4 g) a f := fun _ _ _ => rfl
  have hT2 : ∀ g, TxF (uL w0 4 g) len ch := fun g => hT
  have start : ∀ (Z : Option (((Int32 × HP) ⊕ HP) ⊕ (Int32 × HP))), (jn (A := HP) (fun a9 => (gI [1] 3 a9 (b + 3)).bind (fun v11 => if v11 = 0 then vl (nI v + (1 : Int32)) (fun x12 => some (Sum.inr (x12, a9))) else (gI [1] 3 a9 (b + 3)).bind (fun v13 => some (Sum.inl (Sum.inl (v13, a9)))))) (fun J10 => if txv (ch a) = (-1 : Int32) then J10 (mk b (fzW (uL w0 4 (vp_updL (w.2.2.1 4) v y)) a f)) else (rc [1] (mk b (fzW (uL w0 4 (vp_updL (w.2.2.1 4) v y)) a f)) (b + 3) (FX4_fail (mk b (fzW (uL w0 4 (vp_updL (w.2.2.1 4) v y)) a f)) (b + 3) (1 : Int32))).bind (fun w14 => J10 w14))) = Z → rfB (b + 3) (nI len) (nI v, mk b w) = Z := by
    intro Z hz
    unfold rfB
    dsimp only
    have bg : FX4_begin (mk b (uI w 3 5 (nI v))) (b + 3) (nI len) = some (mk b (fzW w0 0 0)) := by
      unfold FX4_begin
      rw [sI_1_2_3_1, Option.bind_some, sI_1_2_3_2, Option.bind_some, sI_1_2_3_3, Option.bind_some, hw0]
      rfl
    rw [if_neg (show ¬ (16 : Int32) ≤ nI v from nI_ge (a := v) (b := 16) hv (by decide)), sI_1_3_5, Option.bind_some, rc_1_3, bg, Option.bind_some, gR_1_3_4, Option.bind_some, rc_1_3]
    refine bS p1 ?_
    dsimp only
    rw [wrL_mk (j := 4) (n := 16) (by decide +kernel) b _ hv, Option.bind_some]
    have e4 : (fzW w0 a f).2.2.1 4 = w.2.2.1 4 := by
      show w0.2.2.1 4 = _
      rw [l0]
    rw [e4, uf, rc_1_3, fz_here (hT2 _) ha, Option.bind_some]
    exact hz
  have l4 : ∀ a f g, (fzW (uL w0 4 g) a f).2.2.1 4 = g := fun _ _ _ => rfl
  have tm1 : (txv (ch a) = (-1 : Int32)) ↔ ch a = 256 := by
    unfold txv
    by_cases c : ch a = 256
    · rw [if_pos c]
      exact ⟨fun _ => c, fun _ => rfl⟩
    · rw [if_neg c]
      have := fch_le hT a
      exact ⟨fun z => absurd z (nI_nm1 (by omega)), fun z => absurd z c⟩
  have fr1 : ∀ a f g, frR w (fzW (uL w0 4 g) a f) := fun a f g => frR_trans f0 (frR_trans (frR_uL w0 g) (frR_fz _ a f))
  have fl : FX4_fail (mk b (fzW (uL w0 4 (vp_updL (w.2.2.1 4) v y)) a f)) (b + 3) (1 : Int32) = _ := fz_fail 1
  unfold pTop
  revert p2
  cases pFor ch 6 0 with
  | inl z =>
    rintro ⟨q1, q2, q3⟩
    have hfz : f ≠ 0 := by rw [q1]; exact q3
    refine ⟨fzW (uL w0 4 (vp_updL (w.2.2.1 4) v y)) a f, fr1 _ _ _, start _ ?_⟩
    rw [if_neg hfz] at fl
    rw [jn_eq, rc_1_3, fl, Option.bind_some]
    have : ∀ P : Prop, [Decidable P] → ∀ {X : Type} (x : X), (if P then x else x) = x := fun P _ X x => by split <;> rfl
    rw [this]
    dsimp only
    rw [gI_1_3_3, Option.bind_some, fz_3, if_neg hfz, Option.bind_some, q1]
  | inr z =>
    rintro ⟨q1, q2, q3⟩
    subst q1
    subst q2
    dsimp only
    by_cases c : ch z.1 = 256
    · rw [if_pos c]
      refine ⟨fzW (uL w0 4 (vp_updL (w.2.2.1 4) v y)) z.1 0, fr1 _ _ _, start _ ?_, y, rfl, q3⟩
      rw [jn_eq, if_pos (tm1.mpr c)]
      dsimp only
      rw [gI_1_3_3, Option.bind_some, fz_3, if_pos rfl, vl_eq, nI_1]
    · rw [if_neg c]
      have ne : flt (1, z.1) ≠ 0 := flt_n (by decide) (by decide) (by omega)
      refine ⟨fzW (uL w0 4 (vp_updL (w.2.2.1 4) v y)) z.1 (flt (1, z.1)), fr1 _ _ _, start _ ?_⟩
      rw [if_pos rfl] at fl
      rw [jn_eq, if_neg (fun q => c (tm1.mp q)), rc_1_3, fl, Option.bind_some]
      dsimp only
      rw [gI_1_3_3, Option.bind_some, fz_3, if_neg ne, Option.bind_some]
theorem readF_c (hl : len ≤ 100) (hX : TX (w.2.1 2) len ch) : ∃ ans W, FX1_read (mk b w) (b + 3) (nI len) = some (ans, mk b W) ∧ frR w W ∧ (match pTop ch with
    | .inl z => ans = flt z
    | .inr x => ans = 0 ∧ ∀ s, s < 1024 → tb (W.2.2.1 4) s = x.1 s) := by
  have start : FX1_read (mk b w) (b + 3) (nI len) = (lp (rfB (b + 3) (nI len)) FU ((0 : Int32), mk b w)).bind (lk (P := Int32 × HP) (fun r => r) (fun (y2 : HP) => some ((0 : Int32), y2))) := rfl
  rw [start]
  cases hp : pTop ch with
  | inl z =>
    obtain ⟨W, s1, s2⟩ := rfB_step (b := b) hl hX (v := 0) (by decide)
    rw [hp] at s2
    have s2 : rfB (b + 3) (nI len) ((0 : Int32), mk b w) = some (.inl (.inl (flt z, mk b W))) := s2
    have : lp (rfB (b + 3) (nI len)) FU ((0 : Int32), mk b w) = some (.inl (flt z, mk b W)) := lp_out (N := FU - 1) s2
    rw [this, Option.bind_some]
    exact ⟨_, _, rfl, s1, rfl⟩
  | inr x =>
    obtain ⟨r, r1, r2⟩ := lpb_inv (body := rfB (b + 3) (nI len)) (kf := lk (P := Int32 × HP) (fun r => r) (fun (y2 : HP) => some ((0 : Int32), y2))) (N := FU) (s0 := ((0 : Int32), mk b w)) (fun i s => ∃ W, s = (nI i, mk b W) ∧ frR w W ∧ ∀ v, v < i → ∀ q, q < 64 → lb (W.2.2.1 4 v) q = x.1 (64 * v + q)) (fun r => ∃ W, r = ((0 : Int32), mk b W) ∧ frR w W ∧ ∀ v, v < 16 → ∀ q, q < 64 → lb (W.2.2.1 4 v) q = x.1 (64 * v + q)) 16 (by decide) ⟨w, rfl, ⟨fun _ _ _ => rfl, rfl, fun _ _ => rfl, rfl⟩, fun v hv => absurd hv (Nat.not_lt_zero v)⟩ (by
        rintro i hi s ⟨W, rfl, f1, g1⟩
        obtain ⟨W', s1, s2⟩ := rfB_step (b := b) (w := W) (ch := ch) hl (by rw [f1.2.1]; exact hX) (v := i) hi
        rw [hp] at s2
        obtain ⟨s3, y, s4, s5⟩ := s2
        refine ⟨_, s3, W', rfl, frR_trans f1 s1, fun v hv q hq => ?_⟩
        rw [s4]
        unfold vp_updL
        by_cases c : v = i
        · rw [if_pos c, c]
          exact s5 q hq
        · rw [if_neg c]
          exact g1 v (by omega) q hq) (by
        rintro s ⟨W, rfl, f1, g1⟩
        refine ⟨_, rfl, _, rfl, W, rfl, f1, g1⟩)
    rw [r1]
    obtain ⟨W, rfl, f1, g1⟩ := r2
    exact ⟨_, _, rfl, f1, rfl, fun s hs => tb_of g1 hs⟩
end
