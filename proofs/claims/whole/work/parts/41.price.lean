/-! call: price -/
def tzz (k : Nat) : Nat := fa_first (fun i => k.testBit i) 6
theorem tz_fact : ∀ k, k < 64 → 0 < k → FX7_lowestBit (nI k).toInt64 = some (nI (tzz k)) ∧ tzz k < 6 ∧ k.testBit (tzz k) = true ∧ ∀ i, i < 6 → (k &&& (k - 1)).testBit i = (k.testBit i && !decide (i = tzz k)) := by decide +kernel
theorem tz_four : ∀ k, k < 16 → 0 < k → tzz k < 4 := by decide +kernel
theorem sm_step (p q : Nat → Bool) (v : Nat → Nat) {t n : Nat} (ht : t < n) (hp : p t = true) (hq : ∀ i, i < n → q i = (p i && !decide (i = t))) : fb_sm (fun i => if p i then v i else 0) n = fb_sm (fun i => if q i then v i else 0) n + v t := by
  have e := fb_sm_upd (fun i => if q i then v i else 0) (v t) (i := t) (n := n) ht
  have e2 : fb_sm (fun k => if k = t then v t else if q k then v k else 0) n = fb_sm (fun i => if p i then v i else 0) n := fb_sm_cong (fun k hk => by
    by_cases g : k = t
    · subst g
      rw [if_pos rfl, hp, if_pos rfl]
    · rw [if_neg g, hq k hk, decide_eq_false g]
      simp)
  have e3 : (if q t = true then v t else 0) = 0 := by
    rw [hq t ht, decide_eq_true rfl]
    simp
  rw [e2] at e
  have e : fb_sm (fun i => if p i = true then v i else 0) n + (if q t = true then v t else 0) = fb_sm (fun i => if q i = true then v i else 0) n + v t := e
  rw [e3] at e
  exact e
theorem low_step (f : Nat → Int32) {k : Nat} (hk : k < 64) (h0 : 0 < k) : lowN f k = lowN f (k &&& (k - 1)) + (16 * pN f (tzz k) + 1) := by
  obtain ⟨_, h1, h2, h3⟩ := tz_fact k hk h0
  exact sm_step (fun i => k.testBit i) (fun i => (k &&& (k - 1)).testBit i) (fun i => 16 * pN f i + 1) h1 h2 h3
theorem high_step (f : Nat → Int32) {k : Nat} (hk : k < 16) (h0 : 0 < k) : highN f k = highN f (k &&& (k - 1)) + (16 * pN f (6 + tzz k) + 1) := by
  obtain ⟨_, h1, h2, h3⟩ := tz_fact k (by omega) h0
  exact sm_step (fun i => k.testBit i) (fun i => (k &&& (k - 1)).testBit i) (fun i => 16 * pN f (6 + i) + 1) (tz_four k hk h0) h2 (fun i hi => h3 i (by omega))
/-- a row of 64 numbers, each once -/
def perm64 (c : Nat → Nat) : Prop := (∀ t, t < 64 → c t < 64) ∧ ∀ n, n < 64 → ∃ t, t < 64 ∧ c t = n
section
variable {RL : WD → Prop} {b : Nat} {w : WD}
theorem step_mk {f : Nat → Int32} (h : ∀ i, i < 10 → sm (f i) 100) (e : ∀ i, i < 10 → w.2.1 26 i = f i) {i : Nat} (hi : i < 10) : FX3_step (mk b w) (b + 25) (nI i) = some (nI (16 * pN f i + 1)) := by
  unfold FX3_step
  obtain ⟨h1, h2⟩ := pN_le h hi
  rw [if_neg (nI_pos (by omega)), if_neg (Lnle hi), gR_3_25_0, Option.bind_some, rdN_mk (t := 0) (n := 10) (by decide +kernel) (by decide) b w hi, Option.bind_some, e i hi, h2, fa_lit 16, pk_mul, nI_1]
  congr 3
  omega
theorem shift_ex (K : Nat → Nat) (c : Nat → Nat) (p : Nat) : ∃ to, to ≤ p ∧ (to = 0 ∨ K (c (to - 1)) ≤ K (c p)) ∧ ∀ j, to ≤ j → j < p → K (c p) < K (c j) := by
  have key : ∀ d, d ≤ p → (∃ to, p - d ≤ to ∧ to ≤ p ∧ (to = 0 ∨ K (c (to - 1)) ≤ K (c p)) ∧ ∀ j, to ≤ j → j < p → K (c p) < K (c j)) ∨ (∀ j, p - d ≤ j → j < p → K (c p) < K (c j)) := by
    intro d
    induction d with
    | zero => exact fun _ => Or.inr (fun j h1 h2 => by omega)
    | succ d ih =>
      intro hd
      rcases ih (by omega) with ⟨to, h1, h2, h3, h4⟩ | h
      · exact Or.inl ⟨to, by omega, h2, h3, h4⟩
      · rcases Nat.lt_or_ge (K (c p)) (K (c (p - (d + 1)))) with g | g
        · refine Or.inr (fun j h1 h2 => ?_)
          by_cases e : j = p - (d + 1)
          · rw [e]; exact g
          · exact h j (by omega) h2
        · refine Or.inl ⟨p - d, by omega, by omega, Or.inr ?_, fun j h1 h2 => h j h1 h2⟩
          rw [show p - d - 1 = p - (d + 1) by omega]
          exact g
  rcases key p (Nat.le_refl p) with ⟨to, _, h2, h3, h4⟩ | h
  · exact ⟨to, h2, h3, h4⟩
  · exact ⟨0, Nat.zero_le p, Or.inl rfl, fun j h1 h2 => h j (by omega) h2⟩
def ins (c : Nat → Nat) (p to : Nat) (j : Nat) : Nat := if j = to then c p else if to < j ∧ j ≤ p then c (j - 1) else c j
theorem msk63 {s : Nat} (hs : s < 64) : nI s &&& (63 : Int32) = nI s := by rw [an63 (by omega), Nat.mod_eq_of_lt hs]
theorem sortIn_mk (K : Nat → Nat) (hK : ∀ n, K n < 2 ^ 31) (c : Nat → Nat) (hc : ∀ t, t < 64 → c t < 64) (hl : ∀ n, n < 64 → w.2.1 27 n = nI (K n)) (ha : ∀ t, t < 64 → w.2.1 29 t = nI (c t)) {p : Nat} (hp : p < 64) : ∃ to a, to ≤ p ∧ (to = 0 ∨ K (c (to - 1)) ≤ K (c p)) ∧ (∀ j, to ≤ j → j < p → K (c p) < K (c j)) ∧ FX3_sortIn (mk b w) (b + 25) (nI p) = some (mk b (uA w 29 a)) ∧ ∀ j, j < 64 → a j = nI (ins c p to j) := by
  obtain ⟨to, h1, h2, h3⟩ := shift_ex K c p
  refine ⟨to, ?_⟩
  have main : ∃ r, FX3_sortIn (mk b w) (b + 25) (nI p) = some r ∧ ∃ a, r = mk b (uA w 29 a) ∧ ∀ j, j < 64 → a j = nI (ins c p to j) := by
    unfold FX3_sortIn
    rw [vl_eq, msk63 hp, gR_3_25_3, Option.bind_some, rdN_mk (t := 0) (n := 64) (by decide +kernel) (by decide) b w hp, Option.bind_some, ha p hp, vl_eq, msk63 (hc p hp)]
    refine lpb_inv (fun t s => ∃ a, s = (nI (p - t), mk b (uA w 29 a)) ∧ ∀ j, j < 64 → a j = nI (if p - t < j ∧ j ≤ p then c (j - 1) else c j)) _ (p - to) (Nat.lt_of_le_of_lt (Nat.sub_le _ _) (Nat.lt_trans hp (by decide))) ⟨w.2.1 29, by rw [uA_id]; rfl, fun j hj => ?_⟩ (fun t ht s hI => ?_) (fun s hI => ?_)
    · rw [if_neg (by omega)]
      exact ha j hj
    · obtain ⟨a, rfl, hA⟩ := hI
      try dsimp only
      have e1 : nI (p - t) - (1 : Int32) = nI (p - t - 1) := by rw [show (1 : Int32) = nI 1 from rfl, pk_sub (by omega)]
      have r1 : a (p - t - 1) = nI (c (p - t - 1)) := by rw [hA _ (by omega), if_neg (by omega)]
      rw [if_neg (nI_nle (by omega) (by omega)), gR_3_25_1, Option.bind_some, gR_3_25_3, Option.bind_some, e1, rdN_mk (t := 0) (n := 64) (by decide +kernel) (by decide) b _ (show p - t - 1 < 64 by omega), Option.bind_some, uA_at, r1, msk63 (hc (p - t - 1) (by omega)), rdN_mk (t := 0) (n := 64) (by decide +kernel) (by decide) b _ (hc (p - t - 1) (by omega)), Option.bind_some, uA_ne _ _ (by decide), hl _ (hc _ (by omega)), Option.bind_some, rdN_mk (t := 0) (n := 64) (by decide +kernel) (by decide) b _ (hc p hp), Option.bind_some, uA_ne _ _ (by decide), hl _ (hc _ hp), if_neg (nI_ge (h3 _ (by omega) (by omega)) (hK _)), Option.bind_some, Option.bind_some, rdN_mk (t := 0) (n := 64) (by decide +kernel) (by decide) b _ (show p - t - 1 < 64 by omega), Option.bind_some, uA_at, r1, wrI_mk (n := 64) (by decide +kernel) b _ (show p - t < 64 by omega), Option.bind_some, vl_eq, uA_at, uA_uA]
      refine ⟨_, rfl, upd a (p - t) (nI (c (p - t - 1))), ?_, fun j hj => ?_⟩
      · rw [show p - t = p - (t + 1) + 1 by omega, pk_m1]
      · unfold upd
        by_cases g : j = p - t
        · rw [if_pos g, if_pos (by omega), g]
        · rw [if_neg g, hA j hj]
          by_cases g2 : p - t < j ∧ j ≤ p
          · rw [if_pos g2, if_pos (by omega)]
          · rw [if_neg g2, if_neg (by omega)]
    · obtain ⟨a, rfl, hA⟩ := hI
      rw [show p - (p - to) = to by omega] at hA ⊢
      refine ⟨(nI to, mk b (uA w 29 a)), ?_, mk b (uA w 29 (upd a to (nI (c p)))), ?_, upd a to (nI (c p)), rfl, fun j hj => ?_⟩
      · try dsimp only
        rcases h2 with g | g
        · subst g
          rw [if_pos (by decide)]
        · by_cases z : to = 0
          · subst z
            rw [if_pos (by decide)]
          · have e1 : nI to - (1 : Int32) = nI (to - 1) := by rw [show (1 : Int32) = nI 1 from rfl, pk_sub (by omega)]
            have r1 : a (to - 1) = nI (c (to - 1)) := by rw [hA _ (by omega), if_neg (by omega)]
            rw [if_neg (nI_nle (by omega) (by omega)), gR_3_25_1, Option.bind_some, gR_3_25_3, Option.bind_some, e1, rdN_mk (t := 0) (n := 64) (by decide +kernel) (by decide) b _ (show to - 1 < 64 by omega), Option.bind_some, uA_at, r1, msk63 (hc (to - 1) (by omega)), rdN_mk (t := 0) (n := 64) (by decide +kernel) (by decide) b _ (hc (to - 1) (by omega)), Option.bind_some, uA_ne _ _ (by decide), hl _ (hc _ (by omega)), Option.bind_some, rdN_mk (t := 0) (n := 64) (by decide +kernel) (by decide) b _ (hc p hp), Option.bind_some, uA_ne _ _ (by decide), hl _ (hc _ hp), if_pos (nI_le g (hK _))]
      · try dsimp only
        rw [gR_3_25_3, Option.bind_some, wrI_mk (n := 64) (by decide +kernel) b _ (show to < 64 by omega), Option.bind_some, uA_at, uA_uA]
      · unfold upd ins
        by_cases g : j = to
        · rw [if_pos g, if_pos g]
        · rw [if_neg g, if_neg g, hA j hj]
  obtain ⟨r, e1, a, rfl, e2⟩ := main
  exact ⟨a, h1, h2, h3, e1, e2⟩
theorem ins_perm {c : Nat → Nat} (h : perm64 c) {p to : Nat} (hp : p < 64) (ht : to ≤ p) : perm64 (ins c p to) := by
  refine ⟨fun t h1 => ?_, fun n hn => ?_⟩
  · unfold ins
    split
    · exact h.1 p hp
    · split
      · exact h.1 _ (by omega)
      · exact h.1 t h1
  · obtain ⟨j, hj, e⟩ := h.2 n hn
    unfold ins
    by_cases g1 : j = p
    · exact ⟨to, by omega, by rw [if_pos rfl, ← g1]; exact e⟩
    · by_cases g2 : to ≤ j ∧ j < p
      · exact ⟨j + 1, by omega, by rw [if_neg (by omega), if_pos (by omega), Nat.add_sub_cancel]; exact e⟩
      · exact ⟨j, hj, by rw [if_neg (by omega), if_neg (by omega)]; exact e⟩
theorem ins_sorted {K : Nat → Nat} {c : Nat → Nat} {p to : Nat} (ht : to ≤ p) (hs : ∀ u, u + 1 < p → K (c u) ≤ K (c (u + 1))) (h2 : to = 0 ∨ K (c (to - 1)) ≤ K (c p)) (h3 : ∀ j, to ≤ j → j < p → K (c p) < K (c j)) : ∀ u, u + 1 < p + 1 → K (ins c p to u) ≤ K (ins c p to (u + 1)) := by
  intro u hu
  unfold ins
  by_cases g1 : u + 1 < to
  · rw [if_neg (by omega), if_neg (by omega), if_neg (by omega), if_neg (by omega)]
    exact hs u (by omega)
  · by_cases g2 : u + 1 = to
    · rw [if_neg (by omega), if_neg (by omega), if_pos g2]
      rcases h2 with z | z
      · omega
      · rw [show u = to - 1 by omega]; exact z
    · by_cases g3 : u = to
      · rw [if_pos g3, if_neg (by omega), if_pos (by omega), Nat.add_sub_cancel]
        exact Nat.le_of_lt (h3 u (by omega) (by omega))
      · rw [if_neg g3, if_pos (by omega), if_neg (by omega), if_pos (by omega), Nat.add_sub_cancel]
        have := hs (u - 1) (by omega)
        rw [show u - 1 + 1 = u by omega] at this
        exact this
end
