/-! call: price, on -/
section
variable {RL : WD → Prop} {b : Nat} {w : WD}
theorem and_pred {k : Nat} (hk : k < 64) (h0 : 0 < k) : nI k &&& (nI k - (1 : Int32)) = nI (k &&& (k - 1)) := by
  rw [show (1 : Int32) = nI 1 from rfl, pk_sub h0, fa_and]
theorem reckon_mk {f : Nat → Int32} (h : ∀ i, i < 10 → sm (f i) 100) (e : ∀ i, i < 10 → w.2.1 26 i = f i) (l0 : w.2.1 27 0 = 0) (h0 : w.2.1 28 0 = 0) {c0 : Nat → Nat} (hc0 : perm64 c0) (ha0 : ∀ t, t < 64 → w.2.1 29 t = nI (c0 t)) : ∃ l g a c, FX3_reckon (mk b w) (b + 25) = some (mk b (uA (uA (uA w 27 l) 28 g) 29 a)) ∧ (∀ n, n < 64 → l n = nI (lowN f n)) ∧ (∀ n, n < 16 → g n = nI (highN f n)) ∧ perm64 c ∧ (∀ t, t < 64 → a t = nI (c t)) ∧ ∀ t, t + 1 < 64 → lowN f (c t) ≤ lowN f (c (t + 1)) := by
  have z1 : lowN f 0 = 0 := by
    have : lowN f 0 = fb_sm (fun _ => 0) 6 := fb_sm_cong (fun i _ => by rw [Nat.zero_testBit]; rfl)
    rw [this, fb_sm_const]
  have z2 : highN f 0 = 0 := by
    have : highN f 0 = fb_sm (fun _ => 0) 4 := fb_sm_cong (fun i _ => by rw [Nat.zero_testBit]; rfl)
    rw [this, fb_sm_const]
  have main : ∃ r, FX3_reckon (mk b w) (b + 25) = some r ∧ ∃ l g a c, r = mk b (uA (uA (uA w 27 l) 28 g) 29 a) ∧ (∀ n, n < 64 → l n = nI (lowN f n)) ∧ (∀ n, n < 16 → g n = nI (highN f n)) ∧ perm64 c ∧ (∀ t, t < 64 → a t = nI (c t)) ∧ ∀ t, t + 1 < 64 → lowN f (c t) ≤ lowN f (c (t + 1)) := by
    unfold FX3_reckon
    refine lpb_inv (fun t s => ∃ l, s = (nI (1 + t), mk b (uA w 27 l)) ∧ ∀ n, n ≤ t → l n = nI (lowN f n)) _ 63 (by decide) ⟨w.2.1 27, by rw [uA_id]; rfl, fun n hn => by rw [show n = 0 by omega, l0, z1]; rfl⟩ (fun t ht s hI => ?_) (fun s hI => ?_)
    · obtain ⟨l, rfl, hl⟩ := hI
      try dsimp only
      obtain ⟨t1, t2, t3, t4⟩ := tz_fact (1 + t) (by omega) (by omega)
      have hle : (1 + t) &&& (1 + t - 1) ≤ t := by
        have := @Nat.and_le_right (1 + t) (1 + t - 1)
        omega
      rw [if_neg (Lnle (show 1 + t < 64 by omega)), gR_3_25_1, Option.bind_some, Option.bind_some, and_pred (by omega) (by omega), rdN_mk (t := 0) (n := 64) (by decide +kernel) (by decide) b _ (show (1 + t) &&& (1 + t - 1) < 64 by omega), Option.bind_some, uA_at, hl _ hle, t1, Option.bind_some, rc_3_25, step_mk (w := uA w 27 l) h (fun i hi => (by rw [uA_ne _ _ (by decide)]; exact e i hi)) (show tzz (1 + t) < 10 by omega), Option.bind_some, nI_add, ← low_step f (by omega) (by omega), wrI_mk (n := 64) (by decide +kernel) b _ (show 1 + t < 64 by omega), Option.bind_some, vl_eq, nI_1, uA_at, uA_uA]
      refine ⟨_, rfl, upd l (1 + t) (nI (lowN f (1 + t))), by rw [show 1 + t + 1 = 1 + (t + 1) by omega], fun n hn => ?_⟩
      unfold upd
      by_cases g : n = 1 + t
      · rw [if_pos g, g]
      · rw [if_neg g]
        exact hl n (by omega)
    · obtain ⟨l, rfl, hl⟩ := hI
      refine ⟨mk b (uA w 27 l), by rfl, ?_⟩
      have e1 : ∀ i, i < 10 → (uA w 27 l).2.1 26 i = f i := fun i hi => by rw [uA_ne _ _ (by decide)]; exact e i hi
      refine lpb_inv (fun t s => ∃ g, s = (nI (1 + t), mk b (uA (uA w 27 l) 28 g)) ∧ ∀ n, n ≤ t → g n = nI (highN f n)) _ 15 (by decide) ⟨(uA w 27 l).2.1 28, by rw [uA_id]; rfl, fun n hn => by rw [show n = 0 by omega, uA_ne _ _ (by decide), h0, z2]; rfl⟩ (fun t ht s hI => ?_) (fun s hI => ?_)
      · obtain ⟨g, rfl, hg⟩ := hI
        try dsimp only
        obtain ⟨t1, t2, t3, t4⟩ := tz_fact (1 + t) (by omega) (by omega)
        have t5 := tz_four (1 + t) (by omega) (by omega)
        have hle : (1 + t) &&& (1 + t - 1) ≤ t := by
          have := @Nat.and_le_right (1 + t) (1 + t - 1)
          omega
        rw [if_neg (Lnle (show 1 + t < 16 by omega)), gR_3_25_2, Option.bind_some, Option.bind_some, and_pred (by omega) (by omega), rdN_mk (t := 0) (n := 16) (by decide +kernel) (by decide) b _ (show (1 + t) &&& (1 + t - 1) < 16 by omega), Option.bind_some, uA_at, hg _ hle, t1, Option.bind_some, fa_lit 6, nI_add, rc_3_25, step_mk (w := uA (uA w 27 l) 28 g) h (fun i hi => (by rw [uA_ne _ _ (by decide)]; exact e1 i hi)) (show 6 + tzz (1 + t) < 10 by omega), Option.bind_some, nI_add, ← high_step f (by omega) (by omega), wrI_mk (n := 16) (by decide +kernel) b _ (show 1 + t < 16 by omega), Option.bind_some, vl_eq, nI_1, uA_at, uA_uA]
        refine ⟨_, rfl, upd g (1 + t) (nI (highN f (1 + t))), by rw [show 1 + t + 1 = 1 + (t + 1) by omega], fun n hn => ?_⟩
        unfold upd
        by_cases q : n = 1 + t
        · rw [if_pos q, q]
        · rw [if_neg q]
          exact hg n (by omega)
      · obtain ⟨g, rfl, hg⟩ := hI
        refine ⟨mk b (uA (uA w 27 l) 28 g), by rfl, ?_⟩
        have hK : ∀ n, lowN f n < 2 ^ 31 := fun n => Nat.lt_of_le_of_lt (lowN_le h n) (by decide)
        refine lpb_inv (fun t s => ∃ a c, s = (nI (1 + t), mk b (uA (uA (uA w 27 l) 28 g) 29 a)) ∧ perm64 c ∧ (∀ t, t < 64 → a t = nI (c t)) ∧ ∀ u, u + 1 < 1 + t → lowN f (c u) ≤ lowN f (c (u + 1))) _ 63 (by decide) ⟨(uA (uA w 27 l) 28 g).2.1 29, c0, by rw [uA_id]; rfl, hc0, fun t ht => by rw [uA_ne _ _ (by decide), uA_ne _ _ (by decide)]; exact ha0 t ht, fun u hu => by omega⟩ (fun t ht s hI => ?_) (fun s hI => ?_)
        · obtain ⟨a, c, rfl, hc, ha, hs⟩ := hI
          try dsimp only
          obtain ⟨to, a2, s1, s2, s3, s4, s5⟩ := sortIn_mk (b := b) (w := uA (uA (uA w 27 l) 28 g) 29 a) (lowN f) hK c hc.1 (fun n hn => by rw [uA_ne _ _ (by decide), uA_ne _ _ (by decide), uA_at]; exact hl n (by omega)) (fun t ht => by rw [uA_at]; exact ha t ht) (show 1 + t < 64 by omega)
          rw [if_neg (Lnle (show 1 + t < 64 by omega)), rc_3_25, s4, Option.bind_some, vl_eq, nI_1, uA_uA]
          exact ⟨_, rfl, a2, ins c (1 + t) to, by rw [show 1 + t + 1 = 1 + (t + 1) by omega], ins_perm hc (by omega) s1, s5, by
            have := ins_sorted (K := lowN f) s1 hs s2 s3
            rw [show 1 + t + 1 = 1 + (t + 1) by omega] at this
            exact this⟩
        · obtain ⟨a, c, rfl, hc, ha, hs⟩ := hI
          exact ⟨_, by rfl, _, rfl, l, g, a, c, rfl, fun n hn => hl n (by omega), fun n hn => hg n (by omega), hc, ha, hs⟩
  obtain ⟨r, e1, l, g, a, c, rfl, e2⟩ := main
  exact ⟨l, g, a, c, e1, e2⟩
theorem pN_cong {f g : Nat → Int32} (h : ∀ i, i < 10 → f i = g i) : (∀ n, lowN f n = lowN g n) ∧ ∀ n, highN f n = highN g n := by
  have e : ∀ i, i < 10 → pN f i = pN g i := fun i hi => by unfold pN; rw [h i hi]
  exact ⟨fun n => fb_sm_cong (fun i hi => by rw [e i (by omega)]), fun n => fb_sm_cong (fun i hi => by rw [e _ (by omega)])⟩
theorem op_price (hRL : LOK RL) (h : Rel RL w) (x y : Int32) : OP RL b w (fun hp => FX11_price hp (b + 0) x y) (fun hp => FX12_price hp (b + 77) x y) := by
  by_cases ex1 : ∃ k, k < 10 ∧ x = nI k
  · obtain ⟨i, hi, rfl⟩ := ex1
    by_cases ey : ∃ k, k < 100 ∧ y = nI k
    · obtain ⟨d, hd, rfl⟩ := ey
      obtain ⟨p1, p2, p3, p4, c0, p5, p6, p7, p8⟩ := h.price
      have hs : ∀ k, k < 10 → sm (upd (w.2.1 78) i (nI d) k) 100 := fun k hk => by
        unfold upd
        by_cases g : k = i
        · rw [if_pos g]; exact ⟨d, hd, rfl⟩
        · rw [if_neg g]; exact p2 k hk
      have he : ∀ k, k < 10 → (uA w 26 (upd (w.2.1 26) i (nI d))).2.1 26 k = upd (w.2.1 78) i (nI d) k := fun k hk => by
        rw [uA_at]
        unfold upd
        by_cases g : k = i
        · rw [if_pos g, if_pos g]
        · rw [if_neg g, if_neg g]; exact p1 k hk
      have z1 : lowN (w.2.1 78) 0 = 0 := by
        have : lowN (w.2.1 78) 0 = fb_sm (fun _ => 0) 6 := fb_sm_cong (fun i _ => by rw [Nat.zero_testBit]; rfl)
        rw [this, fb_sm_const]
      have z2 : highN (w.2.1 78) 0 = 0 := by
        have : highN (w.2.1 78) 0 = fb_sm (fun _ => 0) 4 := fb_sm_cong (fun i _ => by rw [Nat.zero_testBit]; rfl)
        rw [this, fb_sm_const]
      obtain ⟨l, g, a, c, r1, r2, r3, r4, r5, r6⟩ := reckon_mk (b := b) (w := uA w 26 (upd (w.2.1 26) i (nI d))) hs he (by rw [uA_ne _ _ (by decide), p3 0 (by decide), z1]; rfl) (by rw [uA_ne _ _ (by decide), p4 0 (by decide), z2]; rfl) ⟨p6, p7⟩ (fun t ht => by rw [uA_ne _ _ (by decide)]; exact p5 t ht)
      refine OPi (r := 1) (w1 := uA (uA (uA (uA w 26 (upd (w.2.1 26) i (nI d))) 27 l) 28 g) 29 a) (w2 := uA (uA (uA (uA (uA w 26 (upd (w.2.1 26) i (nI d))) 27 l) 28 g) 29 a) 78 (upd (w.2.1 78) i (nI d))) ?_ ?_ ?_
      · unfold FX11_price FX3_set
        rw [isFact_y hi, Option.bind_some, if_neg n10, if_neg (nI_pos (by omega)), if_pos (Rle (show d ≤ 99 by omega)), gR_11_0_4, Option.bind_some, rc_3_25, jn_eq, if_neg (nI_pos (by omega)), if_neg (Lnle hi), gR_3_25_0, Option.bind_some, wrI_mk (n := 10) (by decide +kernel) b _ hi, Option.bind_some]
        try dsimp only
        rw [rc_3_25, r1]
        rfl
      · unfold FX12_price
        rw [in_y hi, Option.bind_some, if_neg n10, in_y hd, Option.bind_some, if_neg n10, gR_12_77_0, Option.bind_some, wrI_mk (n := 10) (by decide +kernel) b _ hi, Option.bind_some, uA_ne _ _ (by decide), uA_ne _ _ (by decide), uA_ne _ _ (by decide), uA_ne _ _ (by decide)]
      · obtain ⟨a1, a2, a3, a4, a5, a6, a7, a8⟩ := h
        refine ⟨a1, R_tab_of a2 rfl rfl rfl rfl (fun _ _ => rfl) (fun _ _ => rfl) rfl rfl rfl, a3, a4, a5, R_tape_of a6 rfl rfl rfl rfl, ⟨?_, ?_, ?_, ?_, c, ?_, r4.1, r4.2, ?_⟩, ?_⟩
        · intro k hk
          rw [uA_at]
          exact he k hk
        · rw [uA_at]; exact hs
        · intro n hn
          rw [uA_at]
          exact r2 n hn
        · intro n hn
          rw [uA_at]
          exact r3 n hn
        · exact r5
        · rw [uA_at]; exact r6
        · exact hRL w _ (sP_trans (sP_uA w _ rfl) (sP_trans (sP_uA _ _ rfl) (sP_trans (sP_uA _ _ rfl) (sP_trans (sP_uA _ _ rfl) (sP_uA _ _ rfl))))) a8
    · refine OPi (r := 0) (w1 := w) (w2 := w) ?_ ?_ h
      · unfold FX11_price
        rw [isFact_y hi, Option.bind_some, if_neg n10, wh_n ey]
      · unfold FX12_price
        rw [in_y hi, Option.bind_some, if_neg n10, in_n ey]
        rfl
  · refine OPi (r := 0) (w1 := w) (w2 := w) ?_ ?_ h
    · unfold FX11_price
      rw [isFact_n ex1]
      rfl
    · unfold FX12_price
      rw [in_n ex1]
      rfl
end
