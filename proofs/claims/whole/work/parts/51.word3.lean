/-! call: word, both -/
def wordR (p : Nat → Bool) (i : Nat) (r : Int32) : Prop := (r = -2 ∧ ∀ t, t < 1024 → okm p t = false) ∨ ∃ m, m < 1024 ∧ okm p m = true ∧ (∀ t, t < 1024 → okm p t = true → ¬ bet t m) ∧ r = if i = 0 then nI (pc m) else if i = 1 then nI m else nI (fa_first (lv p 10 m) 1024)
theorem wordR_one {p : Nat → Bool} {i : Nat} {r r' : Int32} (h : wordR p i r) (h' : wordR p i r') : r = r' := by
  rcases h with ⟨h1, h2⟩ | ⟨m, h1, h2, h3, h4⟩
  · rcases h' with ⟨g1, g2⟩ | ⟨m', g1, g2, g3, g4⟩
    · rw [h1, g1]
    · rw [h2 m' g1] at g2; cases g2
  · rcases h' with ⟨g1, g2⟩ | ⟨m', g1, g2, g3, g4⟩
    · rw [g2 m h1] at h2; cases h2
    · have a1 := h3 m' g1 g2
      have a2 := g3 m h1 h2
      have : m = m' := by unfold bet at a1 a2; omega
      subst this
      rw [h4, g4]
theorem okm_full {p : Nat → Bool} (h : ex p 1024 = true) : okm p 1023 = true := by
  obtain ⟨s, hs, q⟩ := (ex_iff _ _).mp h
  refine (ex_iff _ _).mpr ⟨s, hs, (lv_ten hs).mpr (fun r hr z => ?_)⟩
  rw [show (1023 : Nat) = 2 ^ 10 - 1 from rfl, Nat.and_two_pow_sub_one_eq_mod, Nat.and_two_pow_sub_one_eq_mod, Nat.mod_eq_of_lt hr, Nat.mod_eq_of_lt hs] at z
  rw [z]
  exact q
theorem okm_none {p : Nat → Bool} (h : ex p 1024 = false) (t : Nat) : okm p t = false := by
  cases z : okm p t with
  | false => rfl
  | true =>
    obtain ⟨s, hs, q⟩ := (ex_iff _ _).mp z
    rw [(ex_iff p 1024).mpr ⟨s, hs, lv_down (n := 0) 10 q⟩] at h
    cases h
theorem best_all {p : Nat → Bool} {on : Nat} (hinv : inv p on) (hp : ex p 1024 = true) {x y : Int32} (h : best p (fun t => False ∨ cone on 0 0 t) x y) : ∃ m, m < 1024 ∧ x = nI m ∧ y = nI (fa_first (lv p 10 m) 1024) ∧ okm p m = true ∧ ∀ t, t < 1024 → okm p t = true → ¬ bet t m := by
  have hc : ∀ t, t < 1024 → cone on 0 0 (t &&& on) := fun t ht => ⟨Nat.lt_of_le_of_lt Nat.and_le_left ht, fun i hi => absurd hi (Nat.not_lt_zero i), fun i _ q => by
    rw [Nat.testBit_and, Bool.and_eq_true] at q
    exact q.2⟩
  rcases h with ⟨h1, h2⟩ | ⟨m, h1, h2, h3, h4, h5, h6⟩
  · have := h2 (1023 &&& on) (Or.inr (hc 1023 (by decide)))
    rw [okm_and hinv, okm_full hp] at this
    cases this
  · refine ⟨m, h1, h2, h3, h5, fun t ht q z => ?_⟩
    have := h6 (t &&& on) (Or.inr (hc t ht)) (by rw [okm_and hinv]; exact q)
    apply this
    have a1 : pc (t &&& on) ≤ pc t := pc_sub (fun i _ q => by
      rw [Nat.testBit_and, Bool.and_eq_true] at q
      exact q.1)
    have a2 : t &&& on ≤ t := Nat.and_le_left
    unfold bet at *
    omega
theorem m1_nI : (-1 : Int32) = nI 4294967295 := by decide
theorem sub_iff {f m : Nat} (hf : f < 1024) : (nI f &&& (nI m ^^^ (-1 : Int32))) = 0 ↔ f &&& m = f := by
  have e : nI f &&& (nI m ^^^ (-1 : Int32)) = nI (f &&& (m ^^^ 4294967295)) := by rw [m1_nI, fb_xorI, fa_and]
  have hle : f &&& (m ^^^ 4294967295) ≤ f := Nat.and_le_left
  have bits : ∀ i, (f &&& (m ^^^ 4294967295)).testBit i = (f.testBit i && !m.testBit i) := fun i => by
    rw [Nat.testBit_and, Nat.testBit_xor, show (4294967295 : Nat) = 2 ^ 32 - 1 from rfl, Nat.testBit_two_pow_sub_one]
    rcases Nat.lt_or_ge i 10 with z | z
    · rw [decide_eq_true (by omega), Bool.xor_true]
    · rw [big_bit hf z]; rfl
  rw [e]
  constructor
  · intro q
    have q0 : f &&& (m ^^^ 4294967295) = 0 := nI_inj (by omega) (by decide) q
    apply Nat.eq_of_testBit_eq
    intro i
    have := bits i
    rw [q0, Nat.zero_testBit] at this
    rw [Nat.testBit_and]
    cases h1 : f.testBit i <;> cases h2 : m.testBit i <;> rw [h1, h2] at this <;> first | rfl | cases this
  · intro q
    have q0 : f &&& (m ^^^ 4294967295) = 0 := by
      apply Nat.eq_of_testBit_eq
      intro i
      rw [bits i, Nat.zero_testBit]
      have := congrArg (fun z => Nat.testBit z i) q
      simp only [Nat.testBit_and] at this
      cases h1 : f.testBit i <;> cases h2 : m.testBit i <;> rw [h1, h2] at this <;> first | rfl | cases this
    rw [q0]
    rfl
section
variable {RL : WD → Prop} {b : Nat} {w : WD}
theorem sureBy_mk (h79 : bo (w.2.1 79) 8192) {k : Nat} (hk : k < 8) {m : Nat} (hm : m < 1024) : ∃ a, FX12_sureBy (mk b w) (b + 77) (nI k) (nI m) = some (if okm (WT w k) m then nI (fa_first (lv (WT w k) 10 m) 1024) else -1, mk b (uA w 105 a)) := by
  have main : ∃ r, FX12_sureBy (mk b w) (b + 77) (nI k) (nI m) = some r ∧ ∃ a, r = (if okm (WT w k) m then nI (fa_first (lv (WT w k) 10 m) 1024) else -1, mk b (uA w 105 a)) := by
    unfold FX12_sureBy
    refine lpb_inv (fun i (t : Int32 × HP) => ∃ a, t = (nI i, mk b (uA w 105 a)) ∧ ∀ x, x < i → a x = 0) _ 1024 (by decide) ⟨w.2.1 105, by rw [uA_id]; rfl, fun x hx => absurd hx (Nat.not_lt_zero x)⟩ (fun i hi t hI => ?_) (fun t hI => ?_)
    · obtain ⟨a, rfl, hA⟩ := hI
      try dsimp only
      rw [if_neg (Lnle hi), gR_12_77_58, Option.bind_some, wrZ_mk (n := 1024) (by decide +kernel) b _ hi (Or.inl rfl), Option.bind_some, vl_eq, nI_1, uA_at, uA_uA]
      refine ⟨_, rfl, _, rfl, fun x hx => ?_⟩
      unfold upd
      by_cases e : x = i
      · rw [if_pos e]
      · rw [if_neg e]; exact hA x (by omega)
    · obtain ⟨a, rfl, hA⟩ := hI
      refine ⟨mk b (uA w 105 a), by rfl, ?_⟩
      refine lpb_inv (fun i (t : Int32 × HP) => ∃ a, t = (nI i, mk b (uA w 105 a)) ∧ ∀ x, x < 1024 → a x = if ex (fun s => !WT w k s && decide (s &&& m = x)) i then 1 else 0) _ 1024 (by decide) ⟨a, rfl, hA⟩ (fun i hi t hI => ?_) (fun t hI => ?_)
      · obtain ⟨a, rfl, hA⟩ := hI
        try dsimp only
        have h79' : bo ((uA w 105 a).2.1 79) 8192 := h79
        have hx : i &&& m < 1024 := Nat.lt_of_le_of_lt Nat.and_le_left hi
        rw [if_neg (Lnle hi), rc_12_77, holds_mk h79' hk hi, show WT (uA w 105 a) = WT w from rfl, Option.bind_some, bite]
        cases g : WT w k i with
        | true =>
          rw [if_pos rfl, vl_eq, nI_1]
          refine ⟨_, rfl, a, rfl, fun x hx => ?_⟩
          rw [hA x hx, ex_succ, g, Bool.not_true, Bool.false_and, Bool.or_false]
        | false =>
          rw [if_neg (show ¬ false = true by decide), gR_12_77_58, Option.bind_some, fa_and, wrZ_mk (n := 1024) (by decide +kernel) b _ hx (Or.inr rfl), Option.bind_some, vl_eq, nI_1, uA_at, uA_uA]
          refine ⟨_, rfl, _, rfl, fun x hx => ?_⟩
          unfold upd
          rw [ex_succ, g, Bool.not_false, Bool.true_and]
          by_cases e : x = i &&& m
          · rw [if_pos e, decide_eq_true e.symm, Bool.or_true, if_pos rfl]
          · rw [if_neg e, decide_eq_false (fun z => e z.symm), Bool.or_false]
            exact hA x hx
      · obtain ⟨a, rfl, hA⟩ := hI
        refine ⟨mk b (uA w 105 a), ?_, ?_⟩
        · try dsimp only
          rw [if_pos (by decide)]
        · rw [lpb_first (P := Int32 × HP) (sureP (WT w k) m) (fun j => (nI j, mk b (uA w 105 a))) () 1024 (by decide) (fun f hf => ?_) (by rfl)]
          · rw [sure_ex]
            unfold okm
            cases hE : ex (lv (WT w k) 10 m) 1024 with
            | true =>
              rw [if_pos rfl, if_pos rfl, sure_first hE]
              exact ⟨_, rfl, a, rfl⟩
            | false =>
              rw [if_neg (show ¬ false = true by decide), if_neg (show ¬ false = true by decide)]
              exact ⟨_, rfl, a, rfl⟩
          · rw [if_neg (Lnle hf)]
            by_cases q : f &&& m = f
            · rw [if_pos ((sub_iff hf).mpr q), gR_12_77_58, Option.bind_some, rdN_mk (t := 2) (n := 1024) (by decide +kernel) (by decide) b _ hf, Option.bind_some, uA_at, hA f hf, bite, vl_eq, nI_1]
              have ee : ex (fun s => !WT w k s && decide (s &&& m = f)) 1024 = !sureP (WT w k) m f := by
                cases z : sureP (WT w k) m f with
                | true =>
                  obtain ⟨_, z2⟩ := sureP_iff.mp z
                  rw [Bool.not_true]
                  cases y : ex (fun s => !WT w k s && decide (s &&& m = f)) 1024 with
                  | false => rfl
                  | true =>
                    obtain ⟨s, hs, x⟩ := (ex_iff _ _).mp y
                    rw [Bool.and_eq_true, decide_eq_true_iff] at x
                    rw [z2 s hs x.2] at x
                    cases x.1
                | false =>
                  rw [Bool.not_false]
                  apply Classical.byContradiction
                  intro no
                  have : sureP (WT w k) m f = true := sureP_iff.mpr ⟨q, fun s hs x => by
                    cases u : WT w k s with
                    | true => rfl
                    | false => exact absurd ((ex_iff _ _).mpr ⟨s, hs, by rw [u, decide_eq_true x]; rfl⟩) no⟩
                  rw [this] at z
                  cases z
              rw [ee]
              cases sureP (WT w k) m f <;> rfl
            · rw [if_neg (fun z => q ((sub_iff hf).mp z)), vl_eq, nI_1, if_neg]
              intro z
              exact q (sureP_iff.mp z).1
  obtain ⟨r, e1, a, rfl⟩ := main
  exact ⟨a, e1⟩
theorem find_mk (h : Rel RL w) {k : Nat} (hk : k < 8) : (ex (WT w k) 1024 = false ∧ ∃ w1, FX10_find (mk b w) (b + 51) (b + (7 + k)) = some (0, mk b w1) ∧ sim w w1) ∨ ∃ w1 m, FX10_find (mk b w) (b + 51) (b + (7 + k)) = some (1, mk b w1) ∧ sim w w1 ∧ m < 1024 ∧ w1.1 51 0 = nI m ∧ w1.1 51 1 = nI (fa_first (lv (WT w k) 10 m) 1024) ∧ okm (WT w k) m = true ∧ ∀ t, t < 1024 → okm (WT w k) t = true → ¬ bet t m := by
  unfold FX10_find
  have ht : ∀ s, s < 1024 → tb (w.2.2.1 (7 + k)) s = WT w k s := fun s hs => h.tT hk hs
  rw [sI_10_51_0, Option.bind_some, empty_mk (okT k hk), Option.bind_some, show (uI w 51 0 (-1)).2.2.1 = w.2.2.1 from rfl, ex_cong ht]
  cases hE : ex (WT w k) 1024 with
  | false => exact Or.inl ⟨rfl, uI w 51 0 (-1), rfl, sP_uI w _ rfl⟩
  | true =>
    right
    rw [if_pos rfl, if_pos rfl, dep_mk (okT k hk), Option.bind_some, show (uI w 51 0 (-1)).2.2.1 = w.2.2.1 from rfl]
    obtain ⟨on, hon⟩ : ∃ on, on = mO (fun i => ex (fun s => tb (w.2.2.1 (7 + k)) s ^^ tb (w.2.2.1 (7 + k)) (s ^^^ 2 ^ i)) 1024) 10 := ⟨_, rfl⟩
    have hinv : inv (WT w k) on := fun i hi q s hs => by
      rw [hon, mO_bit, decide_eq_true hi, Bool.true_and] at q
      have no : ¬ (tb (w.2.2.1 (7 + k)) s ^^ tb (w.2.2.1 (7 + k)) (s ^^^ 2 ^ i)) = true := fun z => by
        rw [(ex_iff _ _).mpr ⟨s, hs, z⟩] at q; cases q
      rw [ht s hs, ht _ (xr_lt hs hi)] at no
      cases u : WT w k s <;> cases v : WT w k (s ^^^ 2 ^ i) <;> rw [u, v] at no <;> first | rfl | exact absurd rfl no
    rw [← hon, sI_10_51_2, Option.bind_some, gR_10_51_3, Option.bind_some, show (0 : Int32) = nI 0 from rfl, rdV (by decide), Option.bind_some]
    rw [show nI 0 = (0 : Int32) from rfl, cpL_mk (okT k hk) (okLv 0 (by decide)), Option.bind_some, rc_10_51]
    have hs1 : sim w (uL (uI (uI w 51 0 (-1)) 51 2 (nI on)) (53 + 0) (va_cpy (w.2.2.1 (7 + k)) (w.2.2.1 (53 + 0)) 0 0 16)) := sP_trans (sP_uI w _ rfl) (sP_trans (sP_uI _ _ rfl) (sP_uL _ _ rfl))
    obtain ⟨w2, k1, k2, k3, k4, k5⟩ := dec_mk (b := b) hinv 10 0 14 0 (uL (uI (uI w 51 0 (-1)) 51 2 (nI on)) (53 + 0) (va_cpy (w.2.2.1 (7 + k)) (w.2.2.1 (53 + 0)) 0 0 16)) (fun _ => False) (by decide) (by decide) (by decide) (fun i _ => Nat.zero_testBit i) (fun s hs => by
      rw [uL_at]
      show _ = WT w k s
      rw [← ht s hs]
      unfold tb
      rw [sb_cpy0' (by omega)]) (uI_at (uI w 51 0 (-1)) 51 2 (nI on)) (Or.inl ⟨rfl, fun _ f => f.elim⟩)
    obtain ⟨m, b1, b2, b3, b4, b5⟩ := best_all hinv hE k5
    refine ⟨w2, m, ?_, sP_trans hs1 k2, b1, b2, b3, b4, b5⟩
    have k1 : FX10_decide 14 (mk b (uL (uI (uI w 51 0 (-1)) 51 2 (nI on)) (53 + 0) (va_cpy (w.2.2.1 (7 + k)) (w.2.2.1 (53 + 0)) 0 0 16))) (b + 51) 0 0 = some (mk b w2) := k1
    exact congrArg (fun o => Option.bind o (fun w8 => some ((1 : Int32), w8))) k1
theorem word_c (h : Rel RL w) {k : Nat} (hk : k < 8) (hb : bt (w.1 77 5) k = true) {i : Nat} (hi : i < 3) : ∃ r w1, FX11_word (mk b w) (b + 0) (nI k) (nI i) = some (r, mk b w1) ∧ sim w w1 ∧ wordR (WT w k) i r := by
  unfold FX11_word
  simp only [Option.bind_some, vl_eq, jn_eq, rc_11_0, gR_11_0_0, gR_11_0_1, gR_11_0_2, gR_11_0_3, gR_11_0_4, gR_11_0_5, gR_11_0_6, gR_11_0_7, gR_11_0_8, gR_11_0_9, gR_11_0_10, gR_11_0_11, gR_11_0_12, gR_11_0_13, gI_11_0_14, sI_11_0_14, rc_8_1, gR_8_1_0, gI_8_1_1, sI_8_1_1, rc_1_3, gR_1_3_0, gI_1_3_1, sI_1_3_1, gI_1_3_2, sI_1_3_2, gI_1_3_3, sI_1_3_3, gR_1_3_4, gI_1_3_5, sI_1_3_5, rc_1_2_3, gR_1_2_3_0, gI_1_2_3_1, sI_1_2_3_1, gI_1_2_3_2, sI_1_2_3_2, gI_1_2_3_3, sI_1_2_3_3, gR_1_2_3_4, gI_1_2_3_5, sI_1_2_3_5, rc_0_5, gR_0_5_0, gI_0_5_1, sI_0_5_1, rc_0_15, gR_0_15_0, gI_0_15_1, sI_0_15_1, rc_3_25, gR_3_25_0, gR_3_25_1, gR_3_25_2, gR_3_25_3, rc_5_34, gI_5_34_1, sI_5_34_1, gI_5_34_2, sI_5_34_2, gI_5_34_3, sI_5_34_3, gI_5_34_4, sI_5_34_4, gI_5_34_5, sI_5_34_5, gI_5_34_6, sI_5_34_6, gR_5_34_7, gR_5_34_8, gR_5_34_9, gR_5_34_10, gR_5_34_11, gR_5_34_12, rc_10_51, gI_10_51_0, sI_10_51_0, gI_10_51_1, sI_10_51_1, gI_10_51_2, sI_10_51_2, gR_10_51_3, rc_9_64, gR_9_64_0, gR_9_64_1, gR_9_64_2, rc_6_68, gI_6_68_0, sI_6_68_0, gI_6_68_1, sI_6_68_1, gI_6_68_2, sI_6_68_2, gI_6_68_3, sI_6_68_3, gI_6_68_4, sI_6_68_4, gI_6_68_5, sI_6_68_5, rc_6_69, gI_6_69_0, sI_6_69_0, gI_6_69_1, sI_6_69_1, gI_6_69_2, sI_6_69_2, gI_6_69_3, sI_6_69_3, gI_6_69_4, sI_6_69_4, gI_6_69_5, sI_6_69_5]
  rw [wish_t h hk hb, Option.bind_some, if_neg n10, wh_y hi, rdT hk, Option.bind_some]
  rcases find_mk (b := b) h hk with ⟨e0, w1, e1, e2⟩ | ⟨w1, m, e1, e2, b1, b2, b3, b4, b5⟩
  · rw [e1, Option.bind_some, if_pos rfl]
    exact ⟨-2, w1, rfl, e2, Or.inl ⟨rfl, fun t _ => okm_none e0 t⟩⟩
  · rw [e1, Option.bind_some, if_neg n10]
    simp only [Option.bind_some, vl_eq, jn_eq, rc_11_0, gR_11_0_0, gR_11_0_1, gR_11_0_2, gR_11_0_3, gR_11_0_4, gR_11_0_5, gR_11_0_6, gR_11_0_7, gR_11_0_8, gR_11_0_9, gR_11_0_10, gR_11_0_11, gR_11_0_12, gR_11_0_13, gI_11_0_14, sI_11_0_14, rc_8_1, gR_8_1_0, gI_8_1_1, sI_8_1_1, rc_1_3, gR_1_3_0, gI_1_3_1, sI_1_3_1, gI_1_3_2, sI_1_3_2, gI_1_3_3, sI_1_3_3, gR_1_3_4, gI_1_3_5, sI_1_3_5, rc_1_2_3, gR_1_2_3_0, gI_1_2_3_1, sI_1_2_3_1, gI_1_2_3_2, sI_1_2_3_2, gI_1_2_3_3, sI_1_2_3_3, gR_1_2_3_4, gI_1_2_3_5, sI_1_2_3_5, rc_0_5, gR_0_5_0, gI_0_5_1, sI_0_5_1, rc_0_15, gR_0_15_0, gI_0_15_1, sI_0_15_1, rc_3_25, gR_3_25_0, gR_3_25_1, gR_3_25_2, gR_3_25_3, rc_5_34, gI_5_34_1, sI_5_34_1, gI_5_34_2, sI_5_34_2, gI_5_34_3, sI_5_34_3, gI_5_34_4, sI_5_34_4, gI_5_34_5, sI_5_34_5, gI_5_34_6, sI_5_34_6, gR_5_34_7, gR_5_34_8, gR_5_34_9, gR_5_34_10, gR_5_34_11, gR_5_34_12, rc_10_51, gI_10_51_0, sI_10_51_0, gI_10_51_1, sI_10_51_1, gI_10_51_2, sI_10_51_2, gR_10_51_3, rc_9_64, gR_9_64_0, gR_9_64_1, gR_9_64_2, rc_6_68, gI_6_68_0, sI_6_68_0, gI_6_68_1, sI_6_68_1, gI_6_68_2, sI_6_68_2, gI_6_68_3, sI_6_68_3, gI_6_68_4, sI_6_68_4, gI_6_68_5, sI_6_68_5, rc_6_69, gI_6_69_0, sI_6_69_0, gI_6_69_1, sI_6_69_1, gI_6_69_2, sI_6_69_2, gI_6_69_3, sI_6_69_3, gI_6_69_4, sI_6_69_4, gI_6_69_5, sI_6_69_5]
    rcases (show i = 0 ∨ i = 1 ∨ i = 2 by omega) with rfl | rfl | rfl
    · rw [if_pos (show nI 0 = 0 from rfl), b2, bc_small m b1, Option.bind_some]
      exact ⟨_, w1, rfl, e2, Or.inr ⟨m, b1, b4, b5, rfl⟩⟩
    · rw [if_neg (show ¬ nI 1 = 0 by decide), if_pos (show nI 1 = 1 from rfl), b2]
      exact ⟨_, w1, rfl, e2, Or.inr ⟨m, b1, b4, b5, rfl⟩⟩
    · rw [if_neg (show ¬ nI 2 = 0 by decide), if_neg (show ¬ nI 2 = 1 by decide), b3]
      refine ⟨_, w1, rfl, e2, Or.inr ⟨m, b1, b4, b5, ?_⟩⟩
      rw [if_neg (by decide), if_neg (by decide)]
end
