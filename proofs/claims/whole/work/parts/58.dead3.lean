/-! call: dead, the class: the table of what the rest costs -/
section
variable {RL : WD → Prop} {b : Nat} {w : WD}
theorem tour_mk (hP : R_price w) {n : Nat} (h1 : 1 ≤ n) (hn : n ≤ 8) {s : Nat → Nat} (hs : ∀ j, j < n → s j < 1024 ∧ w.2.1 65 j = nI (s j)) {a0 : Nat} (ha : a0 < 1024) {c : Nat → Nat → Nat} (ec : c = fun a j => prS (w.2.1 78) (a ^^^ s j)) : ∃ r a, FX9_find (mk b w) (b + 64) (nI a0) (nI n) (b + 25) = some (nI (wk c s n a0 n).2.2, mk b (uA (uA w 67 a) 66 r)) ∧ ∀ i, i < n → r i = nI (nx c s n (wk c s n a0 i).1 (wk c s n a0 i).2.1) := by
  have hc : ∀ a j, c a j ≤ 990 := fun a j => by rw [ec]; exact prS_le hP.2.1 _
  have h256 : 2 ^ n ≤ 256 := Nat.pow_le_pow_right (n := 2) (j := 8) (by decide) hn
  have h2 : 2 ≤ 2 ^ n := Nat.pow_le_pow_right (n := 2) (i := 1) (by decide) h1
  have main : ∃ z, FX9_find (mk b w) (b + 64) (nI a0) (nI n) (b + 25) = some z ∧ ∃ r a, z = (nI (wk c s n a0 n).2.2, mk b (uA (uA w 67 a) 66 r)) ∧ ∀ i, i < n → r i = nI (nx c s n (wk c s n a0 i).1 (wk c s n a0 i).2.1) := by
    unfold FX9_find
    rw [(places n (by omega)).1, vl_eq, shl1 n (by omega), (places n (by omega)).2, vl_eq]
    generalize hA : 2 ^ n - 1 = A
    refine lpb_inv (fun l (t : Int32 × HP) => ∃ a, t = (nI l, mk b (uA w 67 a)) ∧ ∀ l', l' < l → a (A * 8 + l') = 0) _ n (Nat.lt_of_le_of_lt hn (by decide)) ⟨w.2.1 67, by rw [uA_id]; rfl, fun j hj => absurd hj (Nat.not_lt_zero j)⟩ (fun l hl t hI => ?_) (fun t hI => ?_)
    · obtain ⟨a, rfl, hr⟩ := hI
      try dsimp only
      rw [if_neg (nI_ge hl (by omega)), gR_9_64_2, Option.bind_some, fa_lit 8, pk_mul, nI_add, wrI_mk (n := 2048) (by decide +kernel) b _ (show A * 8 + l < 2048 by omega), Option.bind_some, uA_at, uA_uA, vl_eq, nI_1]
      refine ⟨_, rfl, _, rfl, fun j hj => ?_⟩
      unfold upd
      by_cases q : j = l
      · rw [q, if_pos rfl]
      · rw [if_neg (by omega)]; exact hr j (by omega)
    · obtain ⟨a, rfl, hr⟩ := hI
      refine ⟨mk b (uA w 67 a), ?_, ?_⟩
      · try dsimp only
        rw [if_pos (nI_le (Nat.le_refl n) (by omega))]
      · rw [vl_eq]
        obtain ⟨B, rfl⟩ : ∃ B, A = B + 1 := ⟨A - 1, by omega⟩
        rw [nI_p]
        refine lpb_ex (fun k (t : Int32 × HP) => ∃ a, t = (nI k, mk b (uA w 67 a)) ∧ k ≤ B ∧ ∀ S, k < S → S < 2 ^ n → ∀ l, l < n → a (S * 8 + l) = nI (rst c s n S (s l))) (fun y => ∃ a, y = mk b (uA w 67 a) ∧ ∀ S, 0 < S → S < 2 ^ n → ∀ l, l < n → a (S * 8 + l) = nI (rst c s n S (s l))) _ B (Nat.lt_trans (show B < 256 by omega) (by decide)) ⟨a, rfl, Nat.le_refl B, fun S h3 h4 l hl => ?_⟩ ?_ ?_
        · have e : S = B + 1 := by omega
          rw [e, hr l hl]
          unfold rst
          rw [← hA, lft_all n]
          rfl
        · rintro k t ⟨a, rfl, hk, hD⟩
          try dsimp only
          by_cases k0 : k = 0
          · left
            subst k0
            rw [if_pos (show nI 0 ≤ 0 by decide)]
            exact ⟨_, rfl, a, rfl, hD⟩
          · right
            obtain ⟨j, rfl⟩ : ∃ j, k = j + 1 := ⟨k - 1, by omega⟩
            rw [if_neg (nI_gt0 (by omega))]
            have hl0 : 0 < lft n (j + 1) := by
              rcases Nat.eq_zero_or_pos (lft n (j + 1)) with z | z
              · have := lft_full (show j + 1 < 2 ^ n by omega) z
                omega
              · exact z
            have inner : ∃ z, (lp (fun (s9 : Int32 × HP) => if nI n ≤ s9.1 then some (Sum.inl s9.2) else (gR [9] 0 s9.2 (b + 64)).bind (fun v12 => (rdN 0 s9.2 v12 s9.1).bind (fun v13 => (rc [9] s9.2 (b + 64) (FX9_nextOf s9.2 (b + 64) (nI (j + 1)) v13 (nI n) (b + 25))).bind (fun v14 => (gR [9] 2 s9.2 (b + 64)).bind (fun v15 => (gR [9] 0 s9.2 (b + 64)).bind (fun v16 => (rdN 0 s9.2 v16 s9.1).bind (fun v17 => (rc [9] s9.2 (b + 64) (FX9_throughNext s9.2 (b + 64) (nI (j + 1)) v17 v14 (b + 25))).bind (fun v18 => (wrI s9.2 v15 ((nI (j + 1) * (8 : Int32)) + s9.1) v18).bind (fun hp19 => vl (s9.1 + (1 : Int32)) (fun x20 => some (Sum.inr (x20, hp19)))))))))))) FU ((0 : Int32), mk b (uA w 67 a))).bind (fun (y10 : HP) => vl (nI (j + 1) + (-1 : Int32)) (fun x11 => some (Sum.inr (α := HP) (x11, y10)))) = some z ∧ ∃ a, z = Sum.inr (nI j, mk b (uA w 67 a)) ∧ ∀ S, j < S → S < 2 ^ n → ∀ l, l < n → a (S * 8 + l) = nI (rst c s n S (s l)) := by
              refine lpb_inv (fun l (t : Int32 × HP) => ∃ a, t = (nI l, mk b (uA w 67 a)) ∧ (∀ S, j + 1 < S → S < 2 ^ n → ∀ l, l < n → a (S * 8 + l) = nI (rst c s n S (s l))) ∧ ∀ l', l' < l → a ((j + 1) * 8 + l') = nI (rst c s n (j + 1) (s l'))) _ n (Nat.lt_of_le_of_lt hn (by decide)) ⟨a, rfl, hD, fun j hj => absurd hj (Nat.not_lt_zero j)⟩ (fun l hl t hI => ?_) (fun t hI => ?_)
              · obtain ⟨a, rfl, hD, hr⟩ := hI
                try dsimp only
                have hS : j + 1 < 2 ^ n := by omega
                have bound : ∀ i, rst c s n (j + 1 ||| 2 ^ i) (s i) ≤ 10000 := fun i => by
                  have := rst_le (s := s) hn hc (lft n (j + 1 ||| 2 ^ i)) (j + 1 ||| 2 ^ i) (s i) rfl
                  have := fb_ct_le (fun i' => !(j + 1 ||| 2 ^ i).testBit i') n
                  unfold lft at *
                  omega
                have nxt := next_mk (b := b) (w := uA w 67 a) (R_price_of hP rfl rfl rfl rfl rfl) hn (s := s) hs hS (hs l hl).1 (R := fun i => rst c s n (j + 1 ||| 2 ^ i) (s i)) (fun i hi q => ⟨by
                  rw [uA_at]
                  exact hD _ (or_more q) (orS_lt hS hi) i hi, bound i⟩)
                have en : (am (fun i => !(j + 1).testBit i) (fun i => prS ((uA w 67 a).2.1 78) (s l ^^^ s i) + rst c s n (j + 1 ||| 2 ^ i) (s i)) n).1 = nx c s n (j + 1) (s l) := by
                  unfold nx
                  rw [ec]
                  rfl
                rw [en] at nxt
                obtain ⟨k1, k2, k3, _⟩ := nx_is (s := s) (a := s l) hn hc hl0
                have thr := thr_mk (b := b) (w := uA w 67 a) (R_price_of hP rfl rfl rfl rfl rfl) hn (s := s) hs hS (hs l hl).1 k1 (R := rst c s n (j + 1 ||| 2 ^ nx c s n (j + 1) (s l)) (s (nx c s n (j + 1) (s l)))) (by
                  rw [uA_at]
                  exact hD _ (or_more k2) (orS_lt hS k1) _ k1)
                have e3 : prS ((uA w 67 a).2.1 78) (s l ^^^ s (nx c s n (j + 1) (s l))) + rst c s n (j + 1 ||| 2 ^ nx c s n (j + 1) (s l)) (s (nx c s n (j + 1) (s l))) = rst c s n (j + 1) (s l) := by
                  rw [k3]
                  refine congrArg (fun z => z + _) ?_
                  rw [ec]
                  rfl
                rw [e3] at thr
                rw [if_neg (nI_ge hl (by omega)), gR_9_64_0, Option.bind_some, rdN_mk (t := 0) (n := 8) (by decide +kernel) (by decide) b _ (show l < 8 by omega), Option.bind_some, show (uA w 67 a).2.1 65 l = nI (s l) from (hs l hl).2, rc_9_64, nxt, Option.bind_some, gR_9_64_2, Option.bind_some, Option.bind_some, rdN_mk (t := 0) (n := 8) (by decide +kernel) (by decide) b _ (show l < 8 by omega), Option.bind_some, show (uA w 67 a).2.1 65 l = nI (s l) from (hs l hl).2, rc_9_64, thr, Option.bind_some, fa_lit 8, pk_mul, nI_add, wrI_mk (n := 2048) (by decide +kernel) b _ (show (j + 1) * 8 + l < 2048 by omega), Option.bind_some, uA_at, uA_uA, vl_eq, nI_1]
                refine ⟨_, rfl, _, rfl, fun S h3 h4 l' hl' => ?_, fun l' hl' => ?_⟩
                · unfold upd
                  rw [if_neg (by omega)]
                  exact hD S h3 h4 l' hl'
                · unfold upd
                  by_cases q : l' = l
                  · rw [q, if_pos rfl]
                  · rw [if_neg (by omega)]; exact hr l' (by omega)
              · obtain ⟨a, rfl, hD, hr⟩ := hI
                try dsimp only
                rw [if_pos (nI_le (Nat.le_refl n) (by omega))]
                refine ⟨_, rfl, _, rfl, a, ?_, fun S h3 h4 l hl => ?_⟩
                · rw [← Int32.sub_eq_add_neg, nI_p]
                · by_cases q : S = j + 1
                  · rw [q]; exact hr l hl
                  · exact hD S (by omega) h4 l hl
            obtain ⟨z, e1, a', rfl, e2⟩ := inner
            exact ⟨_, j, e1, by omega, a', rfl, by omega, e2⟩
        · rintro y ⟨a, rfl, hD⟩
          obtain ⟨r, e1, e2⟩ := walk_mk (b := b) (w := uA w 67 a) (R_price_of hP rfl rfl rfl rfl rfl) hn (s := s) hs ha (c := c) (by rw [ec]; rfl) (fun S h3 h4 l hl => by rw [uA_at]; exact hD S h3 h4 l hl)
          try dsimp only
          rw [rc_9_64, e1, Option.bind_some]
          exact ⟨_, rfl, r, a, rfl, e2⟩
  obtain ⟨z, e1, r, a, rfl, e2⟩ := main
  exact ⟨r, a, e1, e2⟩
end
