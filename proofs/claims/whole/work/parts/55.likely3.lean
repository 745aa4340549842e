/-! call: likely, both -/
/-- what is answered: of the chances, above or below -/
def likR (p : Nat → Bool) (v : Nat → Nat) (i : Nat) : Int64 := if i = 0 then lN (ch p v 10 0 / Nat.gcd 10000000000 (ch p v 10 0)) else lN (10000000000 / Nat.gcd 10000000000 (ch p v 10 0))
theorem mx_one {g : Nat} (h0 : 0 < g) (h : g < 2 ^ 63) : mxL 1 (lN g) = lN g := by
  unfold mxL
  rw [if_neg]
  rw [fa_lt64, pf_lI h]
  have : (1 : Int64).toInt = 1 := by decide
  omega
theorem ch_ten {p : Nat → Bool} {v : Nat → Nat} (hv : ∀ i, i < 10 → v i < 11) : ch p v 10 0 ≤ 10000000000 := ch_le (fun i hi => by have := hv i hi; omega) 10 (Nat.le_refl 10) 0
section
variable {RL : WD → Prop} {b : Nat} {w : WD}
theorem lik_c (h : Rel RL w) {k : Nat} (hk : k < 8) (hb : bt (w.1 77 5) k = true) {i : Nat} (hi : i < 2) {n : Nat} (hn : n < 261) (en : w.1 1 1 = nI n) (h10 : 10 ≤ n) : (ex (fun j => !decide ((w.2.1 83 j &&& (255 : Int32)) ≤ 10)) 10 = true ∧ FX11_likely (mk b w) (b + 0) (nI k) (nI i) = some (-2, mk b (uI w 1 1 0))) ∨ (ex (fun j => !decide ((w.2.1 83 j &&& (255 : Int32)) ≤ 10)) 10 = false ∧ ∀ v : Nat → Nat, (∀ j, j < 10 → v j < 11 ∧ w.2.1 83 j = nI (v j) ∧ (w.2.1 83 j &&& (255 : Int32)) = nI (v j)) → FX11_likely (mk b w) (b + 0) (nI k) (nI i) = some (likR (WT w k) v i, mk b (uI w 1 1 0))) := by
  obtain ⟨t1, _, t3, t4⟩ := h.tape
  have start : FX11_likely (mk b w) (b + 0) (nI k) (nI i) = if ex (fun j => !decide ((w.2.1 83 j &&& (255 : Int32)) ≤ 10)) 10 then some (-2, mk b (uI w 1 1 0)) else (FX11_chances 12 (mk b (uI w 1 1 0)) (b + 0) (b + (7 + k)) (10 : Int32) (0 : Int32)).bind (fun v12 => (FX11_commonDivisor (10000000000 : Int64) v12).bind (fun v13 => vl (mxL (1 : Int64) v13) (fun x14 => if nI i = 0 then (dvL v12 x14).bind (fun v15 => some (v15, mk b (uI w 1 1 0))) else (dvL (10000000000 : Int64) x14).bind (fun v16 => some (v16, mk b (uI w 1 1 0)))))) := by
    unfold FX11_likely
    rw [gR_11_0_2, Option.bind_some, rc_0_5, wish_t h hk hb, Option.bind_some, if_neg n10, if_neg (nI_pos (by omega)), if_neg (Lnlt (n := 1) (by omega)), gR_11_0_0, Option.bind_some, gI_8_1_1, Option.bind_some, en, if_pos (Lle (n := 10) h10 (by omega)), Option.bind_some, sI_8_1_1, Option.bind_some]
    rw [lpb_first (P := Int64 × HP) (fun j => !decide ((w.2.1 83 j &&& (255 : Int32)) ≤ 10)) (fun _ => (-2, mk b (uI w 1 1 0))) () 10 (by decide) (fun j hj => ?_) (by rfl)]
    · rw [gR_11_0_2, Option.bind_some, gR_0_5_0, Option.bind_some, rdT hk, Option.bind_some, rc_11_0]
    · rw [if_neg (Lnle hj), gR_11_0_0, Option.bind_some, rc_8_1, at_mk (show j < 260 by omega), Option.bind_some, show (uI w 1 1 0).2.1 2 j = w.2.1 2 j from rfl, t3 j (by omega), vl_eq, nI_1]
      by_cases g : (w.2.1 83 j &&& (255 : Int32)) ≤ 10
      · rw [if_pos g, decide_eq_true g]; rfl
      · rw [if_neg g, decide_eq_false g]; rfl
  cases hE : ex (fun j => !decide ((w.2.1 83 j &&& (255 : Int32)) ≤ 10)) 10 with
  | true =>
    left
    rw [hE, if_pos rfl] at start
    exact ⟨rfl, start⟩
  | false =>
    right
    refine ⟨rfl, fun v hv => ?_⟩
    have cc : FX11_chances 12 (mk b (uI w 1 1 0)) (b + 0) (b + (7 + k)) (10 : Int32) (0 : Int32) = some (lN (ch (WT w k) v 10 0)) := chances_mk (b := b) (w := uI w 1 1 0) hk (fun j hj => ⟨(hv j hj).1, by
      show w.2.1 2 j &&& 255 = _
      rw [t3 j (by omega)]
      exact (hv j hj).2.2⟩) (fun s hs => h.tT hk hs) 10 12 0 (Nat.le_refl 10) (by decide) (by decide)
    have hT := ch_ten (p := WT w k) (v := v) (fun j hj => (hv j hj).1)
    have gg : FX11_commonDivisor (10000000000 : Int64) (lN (ch (WT w k) v 10 0)) = some (lN (Nat.gcd 10000000000 (ch (WT w k) v 10 0))) := gcd_c (N := 10000000000) (by decide) (by decide) hT
    have g0 : 0 < Nat.gcd 10000000000 (ch (WT w k) v 10 0) := Nat.gcd_pos_of_pos_left _ (by decide)
    have g1 : Nat.gcd 10000000000 (ch (WT w k) v 10 0) ≤ 10000000000 := Nat.gcd_le_left _ (by decide)
    rw [start, hE, if_neg (show ¬ false = true by decide), cc, Option.bind_some, gg, Option.bind_some, vl_eq]
    unfold likR
    generalize Nat.gcd 10000000000 (ch (WT w k) v 10 0) = g at *
    generalize ch (WT w k) v 10 0 = T at *
    rw [mx_one g0 (by omega), dvL_lN (by omega) (by omega) g0, Option.bind_some, show dvL (10000000000 : Int64) (lN g) = some (lN (10000000000 / g)) from dvL_lN (a := 10000000000) (by decide) (by omega) g0, Option.bind_some]
    rcases (show i = 0 ∨ i = 1 by omega) with rfl | rfl
    · rw [if_pos (show nI 0 = 0 from rfl), if_pos rfl]
    · rw [if_neg (show ¬ nI 1 = 0 by decide), if_neg (by decide)]
theorem lik_m (b79 : bo (w.2.1 79) 8192) (t4 : ∀ i, i < 260 → (w.2.1 83 i).toInt8.toInt32 = w.2.1 83 i) {k : Nat} (hk : k < 8) (hb : bt (w.1 77 5) k = true) {i : Nat} (hi : i < 2) {n : Nat} (hn : n < 261) (en : w.1 77 14 = nI n) (h10 : 10 ≤ n) : (ex (fun j => !decide ((w.2.1 83 j &&& (255 : Int32)) ≤ 10)) 10 = true ∧ FX12_likely (mk b w) (b + 77) (nI k) (nI i) = some (-2, mk b (uI w 77 14 0))) ∨ (ex (fun j => !decide ((w.2.1 83 j &&& (255 : Int32)) ≤ 10)) 10 = false ∧ ∀ v : Nat → Nat, (∀ j, j < 10 → v j < 11 ∧ w.2.1 83 j = nI (v j) ∧ (w.2.1 83 j &&& (255 : Int32)) = nI (v j)) → FX12_likely (mk b w) (b + 77) (nI k) (nI i) = some (likR (WT w k) v i, mk b (uI w 77 14 0))) := by
  have start : FX12_likely (mk b w) (b + 77) (nI k) (nI i) = if ex (fun j => !decide ((w.2.1 83 j &&& (255 : Int32)) ≤ 10)) 10 then some (-2, mk b (uI w 77 14 0)) else (lp (fun (s7 : Int64 × Int32) => if (1024 : Int32) ≤ s7.2 then some (Sum.inl s7.1) else (rc [12] (mk b (uI w 77 14 0)) (b + 77) (FX12_holdsIn (mk b (uI w 77 14 0)) (b + 77) (nI k) s7.2)).bind (fun v12 => if v12 = 0 then vl (s7.2 + (1 : Int32)) (fun x13 => some (Sum.inr (s7.1, x13))) else (rc [12] (mk b (uI w 77 14 0)) (b + 77) (FX12_weightOf (mk b (uI w 77 14 0)) (b + 77) s7.2)).bind (fun v14 => vl (s7.1 + v14) (fun x15 => vl (s7.2 + (1 : Int32)) (fun x16 => some (Sum.inr (x15, x16))))))) FU ((0 : Int64), (0 : Int32))).bind (fun (y8 : Int64) => (FX12_gcd y8 (10000000000 : Int64)).bind (fun v9 => if nI i = 0 then (dvL y8 v9).bind (fun v10 => some (v10, mk b (uI w 77 14 0))) else (dvL (10000000000 : Int64) v9).bind (fun v11 => some (v11, mk b (uI w 77 14 0))))) := by
    unfold FX12_likely
    rw [rc_12_77, isWish_t hk hb, Option.bind_some, if_neg n10, in_y hi, Option.bind_some, if_neg n10, gI_12_77_14, Option.bind_some, en, if_pos (Lle (n := 10) h10 (by omega)), sI_12_77_14, Option.bind_some]
    rw [lpb_first (P := Int64 × HP) (fun j => !decide ((w.2.1 83 j &&& (255 : Int32)) ≤ 10)) (fun _ => (-2, mk b (uI w 77 14 0))) () 10 (by decide) (fun j hj => ?_) (by rfl)]
    rw [if_neg (Lnle hj), gR_12_77_13, Option.bind_some, rdN_mk (t := 1) (n := 260) (by decide +kernel) (by decide) b _ (show j < 260 by omega), Option.bind_some, show (uI w 77 14 0).2.1 83 j = w.2.1 83 j from rfl, vl_eq, nI_1]
    rcases in_byte (t4 j (by omega)) with ⟨c, hc, q1, q2⟩ | ⟨q1, q2⟩
    · rw [q2, q1, in_y hc, Option.bind_some, if_neg n10, decide_eq_true (Rle (n := 10) (show c ≤ 10 by omega))]
      rfl
    · rw [in_n q2, Option.bind_some, if_pos rfl, decide_eq_false q1]
      rfl
  cases hE : ex (fun j => !decide ((w.2.1 83 j &&& (255 : Int32)) ≤ 10)) 10 with
  | true =>
    left
    rw [hE, if_pos rfl] at start
    exact ⟨rfl, start⟩
  | false =>
    right
    refine ⟨rfl, fun v hv => ?_⟩
    rw [start, hE, if_neg (show ¬ false = true by decide)]
    have hT := ch_ten (p := WT w k) (v := v) (fun j hj => (hv j hj).1)
    have hS : ch (WT w k) v 10 0 = fb_sm (fun s => if WT w k s then wgt v 10 s else 0) 1024 := by
      rw [ch_sum 10 0 (fun i _ => Nat.zero_testBit i)]
      exact fb_sm_cong (fun s _ => by rw [Nat.zero_or])
    refine lpb_for (fun s => (lN (fb_sm (fun s => if WT w k s then wgt v 10 s else 0) s), nI s)) (lN (ch (WT w k) v 10 0)) 1024 rfl (by decide) (fun s hs => ?_) ?_ ?_
    · try dsimp only
      have h79 : bo ((uI w 77 14 0).2.1 79) 8192 := b79
      rw [if_neg (Lnle hs), rc_12_77, holds_mk h79 hk hs, show WT (uI w 77 14 0) = WT w from rfl, Option.bind_some, bite, rc_12_77, weight_mk (w := uI w 77 14 0) (v := v) (fun j hj => ⟨(hv j hj).1, (hv j hj).2.1⟩) s, Option.bind_some, vl_eq, vl_eq, vl_eq, nI_1, fb_sm_succ, lN_add]
      cases WT w k s with
      | true => rw [if_pos rfl, if_pos rfl]
      | false =>
        rw [if_neg (show ¬ false = true by decide), if_neg (show ¬ false = true by decide)]
        exact congrArg (fun z => some (Sum.inr (lN z, nI (s + 1)))) (Nat.add_zero _).symm
    · rw [hS]
      try dsimp only
      rw [if_pos (by decide)]
    · have gg : FX12_gcd (lN (ch (WT w k) v 10 0)) (10000000000 : Int64) = some (lN (Nat.gcd 10000000000 (ch (WT w k) v 10 0))) := gcd_m (N := 10000000000) (by decide) (by decide) hT
      have g0 : 0 < Nat.gcd 10000000000 (ch (WT w k) v 10 0) := Nat.gcd_pos_of_pos_left _ (by decide)
      have g1 : Nat.gcd 10000000000 (ch (WT w k) v 10 0) ≤ 10000000000 := Nat.gcd_le_left _ (by decide)
      rw [gg, Option.bind_some]
      unfold likR
      generalize Nat.gcd 10000000000 (ch (WT w k) v 10 0) = g at *
      clear hS
      generalize ch (WT w k) v 10 0 = T at *
      rw [dvL_lN (by omega) (by omega) g0, Option.bind_some, show dvL (10000000000 : Int64) (lN g) = some (lN (10000000000 / g)) from dvL_lN (a := 10000000000) (by decide) (by omega) g0, Option.bind_some]
      rcases (show i = 0 ∨ i = 1 by omega) with rfl | rfl
      · rw [if_pos (show nI 0 = 0 from rfl), if_pos rfl]
      · rw [if_neg (show ¬ nI 1 = 0 by decide), if_neg (by decide)]
theorem op_likely (hRL : LOK RL) (h : Rel RL w) (x y : Int32) : OP RL b w (fun hp => FX11_likely hp (b + 0) x y) (fun hp => FX12_likely hp (b + 77) x y) := by
  obtain ⟨t1, ⟨n, hn, en⟩, t3, t4⟩ := h.tape
  have e1 : w.1 1 1 = nI n := t1.trans en
  have hz : Rel RL (uI (uI w 1 1 0) 77 14 0) := Rel_tape hRL h (sP_trans (sP_uI w _ rfl) (sP_uI _ _ rfl)) ⟨rfl, ⟨0, by decide, rfl⟩, t3, t4⟩
  by_cases q : ∃ k, k < 8 ∧ x = nI k ∧ bt (w.1 77 5) k = true
  · obtain ⟨k, hk, rfl, hb⟩ := q
    rcases case_ix y 2 with ⟨i, hi, rfl⟩ | e
    · rcases Nat.lt_or_ge n 10 with z | z
      · apply OPi (r := -1) (w1 := w) (w2 := w) ?_ ?_ h
        · unfold FX11_likely
          rw [gR_11_0_2, Option.bind_some, rc_0_5, wish_t h hk hb, Option.bind_some, if_neg n10, if_neg (nI_pos (by omega)), if_neg (Lnlt (n := 1) (by omega)), gR_11_0_0, Option.bind_some, gI_8_1_1, Option.bind_some, e1, if_neg (Lnle (n := 10) z)]
        · unfold FX12_likely
          rw [rc_12_77, isWish_t hk hb, Option.bind_some, if_neg n10, in_y hi, Option.bind_some, if_neg n10, gI_12_77_14, Option.bind_some, en, if_neg (Lnle (n := 10) z)]
      · have cm := lik_m (b := b) (w := uI w 1 1 0) h.b79 t4 hk hb hi hn en z
        rcases lik_c (b := b) h hk hb hi hn e1 z with ⟨c1, c2⟩ | ⟨c1, c2⟩
        · rcases cm with ⟨m1, m2⟩ | ⟨m1, m2⟩
          · exact OPi c2 m2 hz
          · cases c1.symm.trans m1
        · rcases cm with ⟨m1, m2⟩ | ⟨m1, m2⟩
          · cases c1.symm.trans m1
          · have each : ∀ j, ∃ c, j < 10 → (c < 11 ∧ w.2.1 83 j = nI c ∧ (w.2.1 83 j &&& (255 : Int32)) = nI c) := fun j => by
              by_cases hj : j < 10
              · rcases in_byte (t4 j (by omega)) with ⟨c, hc, q1, q2⟩ | ⟨q1, q2⟩
                · exact ⟨c, fun _ => ⟨hc, q1, q2⟩⟩
                · rw [(ex_iff _ _).mpr ⟨j, hj, by rw [decide_eq_false q1]; rfl⟩] at c1
                  cases c1
              · exact ⟨0, fun z => absurd z hj⟩
            obtain ⟨v, hv⟩ := Classical.axiomOfChoice each
            exact OPi (c2 v hv) (m2 v hv) hz
    · apply OPi (r := -1) (w1 := w) (w2 := w) ?_ ?_ h
      · unfold FX11_likely
        rw [gR_11_0_2, Option.bind_some, rc_0_5, wish_t h hk hb, Option.bind_some, if_neg n10]
        rcases ix_out (n := 2) (by decide) e with q | ⟨q1, q2⟩
        · rw [if_pos q]
        · rw [if_neg q1, if_pos]
          have q2 : (2 : Int32) ≤ y := q2
          have z1 : (2 : Int32).toInt = 2 := by decide
          have z2 : (1 : Int32).toInt = 1 := by decide
          rw [fa_le] at q2
          rw [fa_lt]
          omega
      · unfold FX12_likely
        rw [rc_12_77, isWish_t hk hb, Option.bind_some, if_neg n10, in_n e, Option.bind_some, if_pos rfl]
  · apply OPi (r := -1) (w1 := w) (w2 := w) ?_ ?_ h
    · unfold FX11_likely
      rw [gR_11_0_2, Option.bind_some, rc_0_5]
      rcases case_ix x 8 with ⟨k, hk, rfl⟩ | e
      · cases hb : bt (w.1 77 5) k with
        | true => exact absurd ⟨k, hk, rfl, hb⟩ q
        | false => rw [wish_f h hk hb, Option.bind_some, if_pos rfl]
      · rw [book_no e, Option.bind_some, if_pos rfl]
    · unfold FX12_likely
      rw [rc_12_77]
      rcases case_ix x 8 with ⟨k, hk, rfl⟩ | e
      · cases hb : bt (w.1 77 5) k with
        | true => exact absurd ⟨k, hk, rfl, hb⟩ q
        | false => rw [isWish_f hk hb, Option.bind_some, if_pos rfl]
      · rw [isWish_no e, Option.bind_some, if_pos rfl]
end
