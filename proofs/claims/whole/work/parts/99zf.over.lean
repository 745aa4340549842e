/-! some cells of the layout over another heap -/
def ov (lo hi : Nat) (X0 : HP) (b : Nat) (w : WD) : HP := fun q => if b + lo ≤ q ∧ q < b + hi then mk b w q else X0 q
section
variable {lo hi j : Nat} {X0 : HP} {b : Nat} {w w2 : WD}
theorem ov_at (h1 : lo ≤ j) (h2 : j < hi) : ov lo hi X0 b w (b + j) = mk b w (b + j) := if_pos ⟨by omega, by omega⟩
theorem ov_up {y : AE} (h1 : lo ≤ j) (h2 : j < hi) (h : upH (mk b w) (b + j) y = mk b w2) : upH (ov lo hi X0 b w) (b + j) y = ov lo hi X0 b w2 := by
  funext q
  have hq := congrFun h q
  unfold upH ov at *
  by_cases c : q = b + j
  · rw [if_pos c] at hq ⊢
    rw [if_pos ⟨by omega, by omega⟩]
    exact hq
  · rw [if_neg c] at hq ⊢
    by_cases d : b + lo ≤ q ∧ q < b + hi
    · rw [if_pos d, if_pos d]
      exact hq
    · rw [if_neg d, if_neg d]
theorem gR_ov {cs : List Nat} {k : Nat} (h1 : lo ≤ j) (h2 : j < hi) : gR cs k (ov lo hi X0 b w) (b + j) = gR cs k (mk b w) (b + j) := by
  unfold gR gV
  rw [ov_at h1 h2]
theorem rdN_ov {t : Nat} {i : Int32} (h1 : lo ≤ j) (h2 : j < hi) : rdN t (ov lo hi X0 b w) (b + j) i = rdN t (mk b w) (b + j) i := by
  unfold rdN
  rw [ov_at h1 h2]
theorem rc_ov {Y : Type} {cs : List Nat} {o : Option Y} (h1 : lo ≤ j) (h2 : j < hi) : rc cs (ov lo hi X0 b w) (b + j) o = rc cs (mk b w) (b + j) o := by
  unfold rc isO
  rw [ov_at h1 h2]
theorem wrI_ov {i x : Int32} (h1 : lo ≤ j) (h2 : j < hi) (h : wrI (mk b w) (b + j) i x = some (mk b w2)) : wrI (ov lo hi X0 b w) (b + j) i x = some (ov lo hi X0 b w2) := by
  unfold wrI at h ⊢
  rw [ov_at h1 h2]
  split at h
  · rename_i t' n f hq
    split at h
    · rename_i c
      rw [if_pos c, ov_up h1 h2 (Option.some.inj h)]
    · cases h
  · cases h
theorem wrL_ov {i : Int32} {x : Int64} (h1 : lo ≤ j) (h2 : j < hi) (h : wrL (mk b w) (b + j) i x = some (mk b w2)) : wrL (ov lo hi X0 b w) (b + j) i x = some (ov lo hi X0 b w2) := by
  unfold wrL at h ⊢
  rw [ov_at h1 h2]
  split at h
  · rename_i t' n f hq
    split at h
    · rename_i c
      rw [if_pos c, ov_up h1 h2 (Option.some.inj h)]
    · cases h
  · cases h
end
/-! the prices' cells alone -/
abbrev pv (X0 : HP) (b : Nat) (w : WD) : HP := ov 25 30 X0 b w
section
variable {X0 : HP} {b : Nat} {w : WD}
theorem gRp_0 : gR [3] 0 (pv X0 b w) (b + 25) = some (b + 26) := (gR_ov (by decide) (by decide)).trans (gR_3_25_0 b w)
theorem gRp_1 : gR [3] 1 (pv X0 b w) (b + 25) = some (b + 27) := (gR_ov (by decide) (by decide)).trans (gR_3_25_1 b w)
theorem gRp_2 : gR [3] 2 (pv X0 b w) (b + 25) = some (b + 28) := (gR_ov (by decide) (by decide)).trans (gR_3_25_2 b w)
theorem gRp_3 : gR [3] 3 (pv X0 b w) (b + 25) = some (b + 29) := (gR_ov (by decide) (by decide)).trans (gR_3_25_3 b w)
theorem rcp {Y : Type} (o : Option Y) : rc [3] (pv X0 b w) (b + 25) o = o := (rc_ov (by decide) (by decide)).trans (rc_3_25 b w o)
theorem rdN_pv {t j n : Nat} (h : okA t j n = true) (ht : t < 3) (hj : 25 ≤ j ∧ j < 30) (b : Nat) (w : WD) {i : Nat} (hi : i < n) : rdN t (pv X0 b w) (b + j) (nI i) = some (w.2.1 j i) := (rdN_ov hj.1 hj.2).trans (rdN_mk h ht b w hi)
theorem wrI_pv {j n : Nat} (h : okA 0 j n = true) (hj : 25 ≤ j ∧ j < 30) (b : Nat) (w : WD) {i : Nat} (hi : i < n) (x : Int32) : wrI (pv X0 b w) (b + j) (nI i) x = some (pv X0 b (uA w j (upd (w.2.1 j) i x))) := wrI_ov hj.1 hj.2 (wrI_mk h b w hi x)
end
section
variable {X0 : HP} {b : Nat} {w : WD}
theorem step_pv {f : Nat → Int32} (h : ∀ i, i < 10 → sm (f i) 100) (e : ∀ i, i < 10 → w.2.1 26 i = f i) {i : Nat} (hi : i < 10) : FX3_step (pv X0 b w) (b + 25) (nI i) = some (nI (16 * pN f i + 1)) := by
  unfold FX3_step
  obtain ⟨h1, h2⟩ := pN_le h hi
  rw [if_neg (nI_pos (by omega)), if_neg (Lnle hi), gRp_0, Option.bind_some, rdN_pv (t := 0) (n := 10) (by decide +kernel) (by decide) (by decide) b w hi, Option.bind_some, e i hi, h2, fa_lit 16, pk_mul, nI_1]
  congr 3
  omega
theorem sortIn_pv (K : Nat → Nat) (hK : ∀ n, K n < 2 ^ 31) (c : Nat → Nat) (hc : ∀ t, t < 64 → c t < 64) (hl : ∀ n, n < 64 → w.2.1 27 n = nI (K n)) (ha : ∀ t, t < 64 → w.2.1 29 t = nI (c t)) {p : Nat} (hp : p < 64) : ∃ to a, to ≤ p ∧ (to = 0 ∨ K (c (to - 1)) ≤ K (c p)) ∧ (∀ j, to ≤ j → j < p → K (c p) < K (c j)) ∧ FX3_sortIn (pv X0 b w) (b + 25) (nI p) = some (pv X0 b (uA w 29 a)) ∧ ∀ j, j < 64 → a j = nI (ins c p to j) := by
  obtain ⟨to, h1, h2, h3⟩ := shift_ex K c p
  refine ⟨to, ?_⟩
  have main : ∃ r, FX3_sortIn (pv X0 b w) (b + 25) (nI p) = some r ∧ ∃ a, r = pv X0 b (uA w 29 a) ∧ ∀ j, j < 64 → a j = nI (ins c p to j) := by
    unfold FX3_sortIn
    rw [vl_eq, msk63 hp, gRp_3, Option.bind_some, rdN_pv (t := 0) (n := 64) (by decide +kernel) (by decide) (by decide) b w hp, Option.bind_some, ha p hp, vl_eq, msk63 (hc p hp)]
    refine lpb_inv (fun t s => ∃ a, s = (nI (p - t), pv X0 b (uA w 29 a)) ∧ ∀ j, j < 64 → a j = nI (if p - t < j ∧ j ≤ p then c (j - 1) else c j)) _ (p - to) (Nat.lt_of_le_of_lt (Nat.sub_le _ _) (Nat.lt_trans hp (by decide))) ⟨w.2.1 29, by rw [uA_id]; rfl, fun j hj => ?_⟩ (fun t ht s hI => ?_) (fun s hI => ?_)
    · rw [if_neg (by omega)]
      exact ha j hj
    · obtain ⟨a, rfl, hA⟩ := hI
      try dsimp only
      have e1 : nI (p - t) - (1 : Int32) = nI (p - t - 1) := by rw [show (1 : Int32) = nI 1 from rfl, pk_sub (by omega)]
      have r1 : a (p - t - 1) = nI (c (p - t - 1)) := by rw [hA _ (by omega), if_neg (by omega)]
      rw [if_neg (nI_nle (by omega) (by omega)), gRp_1, Option.bind_some, gRp_3, Option.bind_some, e1, rdN_pv (t := 0) (n := 64) (by decide +kernel) (by decide) (by decide) b _ (show p - t - 1 < 64 by omega), Option.bind_some, uA_at, r1, msk63 (hc (p - t - 1) (by omega)), rdN_pv (t := 0) (n := 64) (by decide +kernel) (by decide) (by decide) b _ (hc (p - t - 1) (by omega)), Option.bind_some, uA_ne _ _ (by decide), hl _ (hc _ (by omega)), Option.bind_some, rdN_pv (t := 0) (n := 64) (by decide +kernel) (by decide) (by decide) b _ (hc p hp), Option.bind_some, uA_ne _ _ (by decide), hl _ (hc _ hp), if_neg (nI_ge (h3 _ (by omega) (by omega)) (hK _)), Option.bind_some, Option.bind_some, rdN_pv (t := 0) (n := 64) (by decide +kernel) (by decide) (by decide) b _ (show p - t - 1 < 64 by omega), Option.bind_some, uA_at, r1, wrI_pv (n := 64) (by decide +kernel) (by decide) b _ (show p - t < 64 by omega), Option.bind_some, vl_eq, uA_at, uA_uA]
      refine ⟨_, rfl, upd a (p - t) (nI (c (p - t - 1))), ?_, fun j hj => ?_⟩
      · rw [show p - t = p - (t + 1) + 1 by omega, pk_m1]
      · unfold upd
        by_cases g : j = p - t
        · rw [if_pos g, if_pos (by omega), g]
        · rw [if_neg g, hA j hj]
          by_cases g2 : p - t < j ∧ j ≤ p
          · rw [if_pos g2, if_pos (by omega)]
          · rw [if_neg g2, if_neg (by omega)]
    · obtain ⟨a, rfl, hA⟩ := hI
      rw [show p - (p - to) = to by omega] at hA ⊢
      refine ⟨(nI to, pv X0 b (uA w 29 a)), ?_, pv X0 b (uA w 29 (upd a to (nI (c p)))), ?_, upd a to (nI (c p)), rfl, fun j hj => ?_⟩
      · try dsimp only
        rcases h2 with g | g
        · subst g
          rw [if_pos (by decide)]
        · by_cases z : to = 0
          · subst z
            rw [if_pos (by decide)]
          · have e1 : nI to - (1 : Int32) = nI (to - 1) := by rw [show (1 : Int32) = nI 1 from rfl, pk_sub (by omega)]
            have r1 : a (to - 1) = nI (c (to - 1)) := by rw [hA _ (by omega), if_neg (by omega)]
            rw [if_neg (nI_nle (by omega) (by omega)), gRp_1, Option.bind_some, gRp_3, Option.bind_some, e1, rdN_pv (t := 0) (n := 64) (by decide +kernel) (by decide) (by decide) b _ (show to - 1 < 64 by omega), Option.bind_some, uA_at, r1, msk63 (hc (to - 1) (by omega)), rdN_pv (t := 0) (n := 64) (by decide +kernel) (by decide) (by decide) b _ (hc (to - 1) (by omega)), Option.bind_some, uA_ne _ _ (by decide), hl _ (hc _ (by omega)), Option.bind_some, rdN_pv (t := 0) (n := 64) (by decide +kernel) (by decide) (by decide) b _ (hc p hp), Option.bind_some, uA_ne _ _ (by decide), hl _ (hc _ hp), if_pos (nI_le g (hK _))]
      · try dsimp only
        rw [gRp_3, Option.bind_some, wrI_pv (n := 64) (by decide +kernel) (by decide) b _ (show to < 64 by omega), Option.bind_some, uA_at, uA_uA]
      · unfold upd ins
        by_cases g : j = to
        · rw [if_pos g, if_pos g]
        · rw [if_neg g, if_neg g, hA j hj]
  obtain ⟨r, e1, a, rfl, e2⟩ := main
  exact ⟨a, h1, h2, h3, e1, e2⟩
theorem reckon_pv {f : Nat → Int32} (h : ∀ i, i < 10 → sm (f i) 100) (e : ∀ i, i < 10 → w.2.1 26 i = f i) (l0 : w.2.1 27 0 = 0) (h0 : w.2.1 28 0 = 0) {c0 : Nat → Nat} (hc0 : perm64 c0) (ha0 : ∀ t, t < 64 → w.2.1 29 t = nI (c0 t)) : ∃ l g a c, FX3_reckon (pv X0 b w) (b + 25) = some (pv X0 b (uA (uA (uA w 27 l) 28 g) 29 a)) ∧ (∀ n, n < 64 → l n = nI (lowN f n)) ∧ (∀ n, n < 16 → g n = nI (highN f n)) ∧ perm64 c ∧ (∀ t, t < 64 → a t = nI (c t)) ∧ ∀ t, t + 1 < 64 → lowN f (c t) ≤ lowN f (c (t + 1)) := by
  have z1 : lowN f 0 = 0 := by
    have : lowN f 0 = fb_sm (fun _ => 0) 6 := fb_sm_cong (fun i _ => by rw [Nat.zero_testBit]; rfl)
    rw [this, fb_sm_const]
  have z2 : highN f 0 = 0 := by
    have : highN f 0 = fb_sm (fun _ => 0) 4 := fb_sm_cong (fun i _ => by rw [Nat.zero_testBit]; rfl)
    rw [this, fb_sm_const]
  have main : ∃ r, FX3_reckon (pv X0 b w) (b + 25) = some r ∧ ∃ l g a c, r = pv X0 b (uA (uA (uA w 27 l) 28 g) 29 a) ∧ (∀ n, n < 64 → l n = nI (lowN f n)) ∧ (∀ n, n < 16 → g n = nI (highN f n)) ∧ perm64 c ∧ (∀ t, t < 64 → a t = nI (c t)) ∧ ∀ t, t + 1 < 64 → lowN f (c t) ≤ lowN f (c (t + 1)) := by
    unfold FX3_reckon
    refine lpb_inv (fun t s => ∃ l, s = (nI (1 + t), pv X0 b (uA w 27 l)) ∧ ∀ n, n ≤ t → l n = nI (lowN f n)) _ 63 (by decide) ⟨w.2.1 27, by rw [uA_id]; rfl, fun n hn => by rw [show n = 0 by omega, l0, z1]; rfl⟩ (fun t ht s hI => ?_) (fun s hI => ?_)
    · obtain ⟨l, rfl, hl⟩ := hI
      try dsimp only
      obtain ⟨t1, t2, t3, t4⟩ := tz_fact (1 + t) (by omega) (by omega)
      have hle : (1 + t) &&& (1 + t - 1) ≤ t := by
        have := @Nat.and_le_right (1 + t) (1 + t - 1)
        omega
      rw [if_neg (Lnle (show 1 + t < 64 by omega)), gRp_1, Option.bind_some, Option.bind_some, and_pred (by omega) (by omega), rdN_pv (t := 0) (n := 64) (by decide +kernel) (by decide) (by decide) b _ (show (1 + t) &&& (1 + t - 1) < 64 by omega), Option.bind_some, uA_at, hl _ hle, t1, Option.bind_some, rcp, step_pv (X0 := X0) (w := uA w 27 l) h (fun i hi => (by rw [uA_ne _ _ (by decide)]; exact e i hi)) (show tzz (1 + t) < 10 by omega), Option.bind_some, nI_add, ← low_step f (by omega) (by omega), wrI_pv (n := 64) (by decide +kernel) (by decide) b _ (show 1 + t < 64 by omega), Option.bind_some, vl_eq, nI_1, uA_at, uA_uA]
      refine ⟨_, rfl, upd l (1 + t) (nI (lowN f (1 + t))), by rw [show 1 + t + 1 = 1 + (t + 1) by omega], fun n hn => ?_⟩
      unfold upd
      by_cases g : n = 1 + t
      · rw [if_pos g, g]
      · rw [if_neg g]
        exact hl n (by omega)
    · obtain ⟨l, rfl, hl⟩ := hI
      refine ⟨pv X0 b (uA w 27 l), by rfl, ?_⟩
      have e1 : ∀ i, i < 10 → (uA w 27 l).2.1 26 i = f i := fun i hi => by rw [uA_ne _ _ (by decide)]; exact e i hi
      refine lpb_inv (fun t s => ∃ g, s = (nI (1 + t), pv X0 b (uA (uA w 27 l) 28 g)) ∧ ∀ n, n ≤ t → g n = nI (highN f n)) _ 15 (by decide) ⟨(uA w 27 l).2.1 28, by rw [uA_id]; rfl, fun n hn => by rw [show n = 0 by omega, uA_ne _ _ (by decide), h0, z2]; rfl⟩ (fun t ht s hI => ?_) (fun s hI => ?_)
      · obtain ⟨g, rfl, hg⟩ := hI
        try dsimp only
        obtain ⟨t1, t2, t3, t4⟩ := tz_fact (1 + t) (by omega) (by omega)
        have t5 := tz_four (1 + t) (by omega) (by omega)
        have hle : (1 + t) &&& (1 + t - 1) ≤ t := by
          have := @Nat.and_le_right (1 + t) (1 + t - 1)
          omega
        rw [if_neg (Lnle (show 1 + t < 16 by omega)), gRp_2, Option.bind_some, Option.bind_some, and_pred (by omega) (by omega), rdN_pv (t := 0) (n := 16) (by decide +kernel) (by decide) (by decide) b _ (show (1 + t) &&& (1 + t - 1) < 16 by omega), Option.bind_some, uA_at, hg _ hle, t1, Option.bind_some, fa_lit 6, nI_add, rcp, step_pv (X0 := X0) (w := uA (uA w 27 l) 28 g) h (fun i hi => (by rw [uA_ne _ _ (by decide)]; exact e1 i hi)) (show 6 + tzz (1 + t) < 10 by omega), Option.bind_some, nI_add, ← high_step f (by omega) (by omega), wrI_pv (n := 16) (by decide +kernel) (by decide) b _ (show 1 + t < 16 by omega), Option.bind_some, vl_eq, nI_1, uA_at, uA_uA]
        refine ⟨_, rfl, upd g (1 + t) (nI (highN f (1 + t))), by rw [show 1 + t + 1 = 1 + (t + 1) by omega], fun n hn => ?_⟩
        unfold upd
        by_cases q : n = 1 + t
        · rw [if_pos q, q]
        · rw [if_neg q]
          exact hg n (by omega)
      · obtain ⟨g, rfl, hg⟩ := hI
        refine ⟨pv X0 b (uA (uA w 27 l) 28 g), by rfl, ?_⟩
        have hK : ∀ n, lowN f n < 2 ^ 31 := fun n => Nat.lt_of_le_of_lt (lowN_le h n) (by decide)
        refine lpb_inv (fun t s => ∃ a c, s = (nI (1 + t), pv X0 b (uA (uA (uA w 27 l) 28 g) 29 a)) ∧ perm64 c ∧ (∀ t, t < 64 → a t = nI (c t)) ∧ ∀ u, u + 1 < 1 + t → lowN f (c u) ≤ lowN f (c (u + 1))) _ 63 (by decide) ⟨(uA (uA w 27 l) 28 g).2.1 29, c0, by rw [uA_id]; rfl, hc0, fun t ht => by rw [uA_ne _ _ (by decide), uA_ne _ _ (by decide)]; exact ha0 t ht, fun u hu => by omega⟩ (fun t ht s hI => ?_) (fun s hI => ?_)
        · obtain ⟨a, c, rfl, hc, ha, hs⟩ := hI
          try dsimp only
          obtain ⟨to, a2, s1, s2, s3, s4, s5⟩ := sortIn_pv (X0 := X0) (b := b) (w := uA (uA (uA w 27 l) 28 g) 29 a) (lowN f) hK c hc.1 (fun n hn => by rw [uA_ne _ _ (by decide), uA_ne _ _ (by decide), uA_at]; exact hl n (by omega)) (fun t ht => by rw [uA_at]; exact ha t ht) (show 1 + t < 64 by omega)
          rw [if_neg (Lnle (show 1 + t < 64 by omega)), rcp, s4, Option.bind_some, vl_eq, nI_1, uA_uA]
          exact ⟨_, rfl, a2, ins c (1 + t) to, by rw [show 1 + t + 1 = 1 + (t + 1) by omega], ins_perm hc (by omega) s1, s5, by
            have := ins_sorted (K := lowN f) s1 hs s2 s3
            rw [show 1 + t + 1 = 1 + (t + 1) by omega] at this
            exact this⟩
        · obtain ⟨a, c, rfl, hc, ha, hs⟩ := hI
          exact ⟨_, by rfl, _, rfl, l, g, a, c, rfl, fun n hn => hl n (by omega), fun n hn => hg n (by omega), hc, ha, hs⟩
  obtain ⟨r, e1, l, g, a, c, rfl, e2⟩ := main
  exact ⟨l, g, a, c, e1, e2⟩
end
