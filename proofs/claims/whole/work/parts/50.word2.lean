/-! call: word, the class -/
theorem okLv : ∀ k, k < 11 → okA 3 (53 + k) 16 = true := by decide +kernel
theorem eLv : ∀ k, k < 11 → eL (53 + k) = false := by decide +kernel
def cone (on n told t : Nat) : Prop := t < 1024 ∧ (∀ i, i < n → t.testBit i = told.testBit i) ∧ ∀ i, n ≤ i → t.testBit i = true → on.testBit i = true
section
variable {RL : WD → Prop} {b : Nat}
theorem rdV {w : WD} {k : Nat} (hk : k < 11) : rdA 4 (mk b w) (b + 52) (nI k) = some (b + (53 + k)) := by
  rw [rdA_mk (j := 52) (n := 11) (by decide +kernel) (by decide) b w hk]
theorem out_mk {X : Option HP} {P : WD → Prop} (h : ∃ r, X = some r ∧ ∃ w', r = mk b w' ∧ P w') : ∃ w', X = some (mk b w') ∧ P w' := by
  obtain ⟨r, e1, w', rfl, e2⟩ := h
  exact ⟨w', e1, e2⟩
theorem dec_mk {p : Nat → Bool} {on : Nat} (hinv : inv p on) : ∀ (d n e told : Nat) (w : WD) (Q : Nat → Prop), n + d = 10 → d < e → told < 1024 → (∀ i, n ≤ i → told.testBit i = false) → (∀ s, s < 1024 → tb (w.2.2.1 (53 + n)) s = lv p n told s) → w.1 51 2 = nI on → best p Q (w.1 51 0) (w.1 51 1) → ∃ w', FGX10_decide e (mk b w) (b + 51) (nI n) (nI told) = some (mk b w') ∧ sim w w' ∧ w'.1 51 2 = nI on ∧ (∀ j, j ≤ n → w'.2.2.1 (53 + j) = w.2.2.1 (53 + j)) ∧ best p (fun t => Q t ∨ cone on n told t) (w'.1 51 0) (w'.1 51 1) := by
  intro d
  induction d with
  | zero =>
    intro n e told w Q hn he ht htb hL hon hB
    have hn : n = 10 := by omega
    subst hn
    obtain ⟨e, rfl⟩ : ∃ e', e = e' + 1 := ⟨e - 1, by omega⟩
    show ∃ w', FBX10_decide (FGX10_decide e) (mk b w) (b + 51) (nI 10) (nI told) = some (mk b w') ∧ _
    unfold FBX10_decide
    have hone : ∀ t, cone on 10 told t → t = told := fun t q => eq_bits q.1 ht (fun i hi => q.2.1 i hi)
    have hC : cone on 10 told told := ⟨ht, fun _ _ => rfl, fun i hi q => by rw [htb i hi] at q; cases q⟩
    rw [if_neg (show ¬ nI 10 < 0 by decide), if_neg (show ¬ (10 : Int32) < nI 10 by decide), gR_10_51_3, Option.bind_some, rdV (by decide), Option.bind_some, empty_mk (okLv 10 (by decide)), Option.bind_some, ex_cong hL, rc_10_51]
    cases hE : ex (lv p 10 told) 1024 with
    | false =>
      refine ⟨w, rfl, sP_refl w, hon, fun _ _ => rfl, best_more hB (fun t q z => ?_)⟩
      rw [hone t q] at z
      unfold okm at z
      rw [hE] at z
      cases z
    | true =>
      rw [if_pos rfl, if_pos rfl]
      rcases mayBe_mk (b := b) hB ht with ⟨g1, g2⟩ | ⟨g1, m, g2, g3, g4⟩
      · rw [g1, Option.bind_some, if_neg n10, if_pos (show nI 10 = (10 : Int32) by decide), sI_10_51_0, Option.bind_some, gR_10_51_3, Option.bind_some, rdV (by decide), Option.bind_some]
        have hf := (ex_first _ _).mpr hE
        have f1 := fa_first_yes (lv p 10 told) 1024 hf
        have f2 := fun j hj => fa_first_no (lv p 10 told) 1024 j hj
        rw [first_mk (w := uI w 51 0 (nI told)) (okLv 10 (by decide)) hf ((hL _ hf).trans f1) (fun r hr => (hL r (by omega)).trans (f2 r hr)), Option.bind_some, sI_10_51_1, Option.bind_some]
        refine ⟨_, rfl, sP_trans (sP_uI w _ rfl) (sP_uI _ _ rfl), ?_, fun _ _ => rfl, ?_⟩
        · rw [uI_ne _ _ (by decide), uI_ne _ _ (by decide)]
          exact hon
        · rw [uI_ne _ _ (by decide), uI_at, uI_at]
          refine Or.inr ⟨told, ht, rfl, rfl, Or.inr hC, hE, fun t q z y => ?_⟩
          rcases q with q | q
          · rcases hB with ⟨h1, h2⟩ | ⟨m, h1, h2, h3, h4, h5, h6⟩
            · rw [h2 t q] at z; cases z
            · rcases g2 with g2 | ⟨m', g2, g3, g4⟩
              · rw [h2] at g2
                have := congrArg Int32.toInt g2
                rw [nI_toInt (by omega)] at this
                have e : (-1 : Int32).toInt = -1 := by decide
                omega
              · rw [h2] at g3
                rw [← nI_inj (by omega) (by omega) g3] at g4
                exact h6 t q z (bet_trans y g4)
          · rw [hone t q] at y
            unfold bet at y
            omega
      · rw [g1, Option.bind_some, if_pos rfl]
        refine ⟨w, rfl, sP_refl w, hon, fun _ _ => rfl, best_more hB (fun t q z => ⟨m, g3, g2, ?_⟩)⟩
        rw [hone t q]
        exact g4
  | succ d ih =>
    intro n e told w Q hn he ht htb hL hon hB
    obtain ⟨e, rfl⟩ : ∃ e', e = e' + 1 := ⟨e - 1, by omega⟩
    show ∃ w', FBX10_decide (FGX10_decide e) (mk b w) (b + 51) (nI n) (nI told) = some (mk b w') ∧ _
    unfold FBX10_decide
    have hn10 : n < 10 := by omega
    have sub : ∀ t, cone on n told t → ∀ i, i < 10 → told.testBit i = true → t.testBit i = true := fun t q i hi z => by
      rcases Nat.lt_or_ge i n with y | y
      · rw [q.2.1 i y]; exact z
      · rw [htb i y] at z; cases z
    rw [if_neg (nI_pos (by omega)), if_neg (show ¬ (10 : Int32) < nI n from nI_nlt (a := 10) (by omega) (by decide)), gR_10_51_3, Option.bind_some, rdV (by omega), Option.bind_some, empty_mk (okLv n (by omega)), Option.bind_some, ex_cong hL, rc_10_51]
    cases hE : ex (lv p n told) 1024 with
    | false =>
      refine ⟨w, rfl, sP_refl w, hon, fun _ _ => rfl, best_more hB (fun t q z => ?_)⟩
      exfalso
      unfold okm at z
      obtain ⟨s, hs, y⟩ := (ex_iff _ _).mp z
      have y2 := lv_down (n := n) (10 - n) (by rw [show n + (10 - n) = 10 by omega]; exact y)
      rw [lv_cong n q.2.1 s] at y2
      rw [(ex_iff _ _).mpr ⟨s, hs, y2⟩] at hE
      cases hE
    | true =>
      rw [if_pos rfl, if_pos rfl]
      rcases mayBe_mk (b := b) hB ht with ⟨g1, g2⟩ | ⟨g1, m, g2, g3, g4⟩
      · rw [g1, Option.bind_some, if_neg n10, if_neg (show ¬ nI n = (10 : Int32) from fun z => absurd (nI_inj (a := n) (b := 10) (by omega) (by decide) z) (by omega)), gI_10_51_2, Option.bind_some, hon, bit_at _ (by omega), bt_nI _ (by omega)]
        cases hb : on.testBit n with
        | false =>
          rw [if_neg (show ¬ false = true by decide), if_pos rfl]
          have lvn : ∀ s, s < 1024 → lv p (n + 1) told s = lv p n told s := fun s hs => by
            rw [lv_s, lv_flip (hinv n hn10 hb) n (by omega) told s hs, htb n (Nat.le_refl n), Bool.false_or, Bool.and_self]
          refine out_mk (P := fun w' => sim w w' ∧ w'.1 51 2 = nI on ∧ (∀ j, j ≤ n → w'.2.2.1 (53 + j) = w.2.2.1 (53 + j)) ∧ best p (fun t => Q t ∨ cone on n told t) (w'.1 51 0) (w'.1 51 1)) ?_
          refine lpb_inv (fun v (t : Int32 × HP) => ∃ g, t = (nI v, mk b (uL w (53 + (n + 1)) g)) ∧ ∀ u, u < v → g u = w.2.2.1 (53 + n) u) (fun r => ∃ w', r = mk b w' ∧ sim w w' ∧ w'.1 51 2 = nI on ∧ (∀ j, j ≤ n → w'.2.2.1 (53 + j) = w.2.2.1 (53 + j)) ∧ best p (fun t => Q t ∨ cone on n told t) (w'.1 51 0) (w'.1 51 1)) 16 (by decide) ⟨w.2.2.1 (53 + (n + 1)), by rw [uL_id]; rfl, fun u hu => absurd hu (Nat.not_lt_zero u)⟩ (fun v hv t hI => ?_) (fun t hI => ?_)
          · obtain ⟨g, rfl, hg⟩ := hI
            try dsimp only
            rw [if_neg (Lnle hv), gR_10_51_3, Option.bind_some, rdV (by omega), Option.bind_some, rdL_mk (okLv n (by omega)) b _ hv, Option.bind_some, uL_ne _ _ (by omega), Option.bind_some, nI_1, rdV (by omega), Option.bind_some, jn_eq, if_pos rfl]
            try dsimp only
            rw [wrL_mk (okLv (n + 1) (by omega)) b _ hv, Option.bind_some, uL_at, uL_uL, vl_eq, nI_1]
            refine ⟨_, rfl, vp_updL g v (w.2.2.1 (53 + n) v), rfl, fun u hu => ?_⟩
            unfold vp_updL
            by_cases q : u = v
            · rw [if_pos q, q]
            · rw [if_neg q]; exact hg u (by omega)
          · obtain ⟨g, rfl, hg⟩ := hI
            refine ⟨mk b (uL w (53 + (n + 1)) g), by rfl, ?_⟩
            have hL' : ∀ s, s < 1024 → tb ((uL w (53 + (n + 1)) g).2.2.1 (53 + (n + 1))) s = lv p (n + 1) told s := fun s hs => by
              rw [uL_at, lvn s hs, ← hL s hs]
              unfold tb
              rw [hg _ (by omega)]
            obtain ⟨w2, k1, k2, k3, k4, k5⟩ := ih (n + 1) e told (uL w (53 + (n + 1)) g) Q (by omega) (by omega) ht (fun i hi => htb i (by omega)) hL' hon hB
            rw [rc_10_51, nI_1, k1, Option.bind_some]
            refine ⟨mk b w2, by rfl, w2, rfl, sP_trans (sP_uL w _ (eLv _ (by omega))) k2, k3, fun j hj => ?_, best_iff k5 (fun t => ?_)⟩
            · rw [k4 j (by omega), uL_ne _ _ (by omega)]
            · constructor
              · rintro (q | q)
                · exact Or.inl q
                · exact Or.inr ⟨q.1, fun i hi => q.2.1 i (by omega), fun i hi z => by
                    by_cases y : i = n
                    · rw [y, q.2.1 n (by omega), htb n (Nat.le_refl n)] at z; cases z
                    · exact q.2.2 i (by omega) z⟩
              · rintro (q | q)
                · exact Or.inl q
                · refine Or.inr ⟨q.1, fun i hi => ?_, fun i hi z => q.2.2 i (by omega) z⟩
                  by_cases y : i = n
                  · rw [y, htb n (Nat.le_refl n)]
                    cases z : t.testBit n with
                    | false => rfl
                    | true => rw [q.2.2 n (Nat.le_refl n) z] at hb; cases hb
                  · exact q.2.1 i (by omega)
        | true =>
          rw [if_pos rfl, if_neg n10]
          refine out_mk (P := fun w' => sim w w' ∧ w'.1 51 2 = nI on ∧ (∀ j, j ≤ n → w'.2.2.1 (53 + j) = w.2.2.1 (53 + j)) ∧ best p (fun t => Q t ∨ cone on n told t) (w'.1 51 0) (w'.1 51 1)) ?_
          refine lpb_inv (fun v (t : Int32 × HP) => ∃ g, t = (nI v, mk b (uL w (53 + (n + 1)) g)) ∧ ∀ u, u < v → g u = w.2.2.1 (53 + n) u &&& chg (w.2.2.1 (53 + n)) u (2 ^ n)) (fun r => ∃ w', r = mk b w' ∧ sim w w' ∧ w'.1 51 2 = nI on ∧ (∀ j, j ≤ n → w'.2.2.1 (53 + j) = w.2.2.1 (53 + j)) ∧ best p (fun t => Q t ∨ cone on n told t) (w'.1 51 0) (w'.1 51 1)) 16 (by decide) ⟨w.2.2.1 (53 + (n + 1)), by rw [uL_id]; rfl, fun u hu => absurd hu (Nat.not_lt_zero u)⟩ (fun v hv t hI => ?_) (fun t hI => ?_)
          · obtain ⟨g, rfl, hg⟩ := hI
            try dsimp only
            rw [if_neg (Lnle hv), gR_10_51_3, Option.bind_some, rdV (by omega), Option.bind_some, rdL_mk (okLv n (by omega)) b _ hv, Option.bind_some, uL_ne _ _ (by omega), Option.bind_some, nI_1, rdV (by omega), Option.bind_some, jn_eq, if_neg n10, Option.bind_some, rdV (by omega), Option.bind_some, shl1 n (by omega), chg_mk (okLv n (by omega)) hv (p2_lt hn10), Option.bind_some, uL_ne _ _ (by omega), vl_eq]
            try dsimp only
            rw [wrL_mk (okLv (n + 1) (by omega)) b _ hv, Option.bind_some, uL_at, uL_uL, vl_eq, nI_1]
            refine ⟨_, rfl, vp_updL g v (w.2.2.1 (53 + n) v &&& chg (w.2.2.1 (53 + n)) v (2 ^ n)), rfl, fun u hu => ?_⟩
            unfold vp_updL
            by_cases q : u = v
            · rw [if_pos q, q]
            · rw [if_neg q]; exact hg u (by omega)
          · obtain ⟨g, rfl, hg⟩ := hI
            refine ⟨mk b (uL w (53 + (n + 1)) g), by rfl, ?_⟩
            have hL' : ∀ s, s < 1024 → tb ((uL w (53 + (n + 1)) g).2.2.1 (53 + (n + 1))) s = lv p (n + 1) told s := fun s hs => by
              rw [uL_at, lv_s, htb n (Nat.le_refl n), Bool.false_or, ← hL s hs, ← hL _ (xr_lt hs hn10)]
              unfold tb
              rw [hg _ (by omega), lb_and, lb_chg _ (p2_lt hn10) (by omega), show 64 * (s / 64) + s % 64 = s by omega]
              rfl
            obtain ⟨w2, k1, k2, k3, k4, k5⟩ := ih (n + 1) e told (uL w (53 + (n + 1)) g) Q (by omega) (by omega) ht (fun i hi => htb i (by omega)) hL' hon hB
            rw [rc_10_51, nI_1, k1, Option.bind_some, if_neg n10, gR_10_51_3, Option.bind_some, rdV (by omega), Option.bind_some, Option.bind_some, rdV (by omega), Option.bind_some, cpL_mk (okLv n (by omega)) (okLv (n + 1) (by omega)), Option.bind_some, rc_10_51, shl1 n (by omega), fa_or]
            have hlow : w2.2.2.1 (53 + n) = w.2.2.1 (53 + n) := by rw [k4 n (by omega), uL_ne _ _ (by omega)]
            have tb2 : ∀ i, (told ||| 2 ^ n).testBit i = (told.testBit i || decide (n = i)) := fun i => by rw [Nat.testBit_or, Nat.testBit_two_pow]
            have hL2 : ∀ s, s < 1024 → tb ((uL w2 (53 + (n + 1)) (va_cpy (w2.2.2.1 (53 + n)) (w2.2.2.1 (53 + (n + 1))) 0 0 16)).2.2.1 (53 + (n + 1))) s = lv p (n + 1) (told ||| 2 ^ n) s := fun s hs => by
              rw [uL_at, lv_s, tb2, decide_eq_true rfl, Bool.or_true, Bool.true_or, Bool.and_true, lv_cong (t' := told) n (fun i hi => by rw [tb2, decide_eq_false (by omega), Bool.or_false]) s, ← hL s hs]
              unfold tb
              rw [sb_cpy0' (by omega), hlow]
            obtain ⟨w3, l1, l2, l3, l4, l5⟩ := ih (n + 1) e (told ||| 2 ^ n) (uL w2 (53 + (n + 1)) (va_cpy (w2.2.2.1 (53 + n)) (w2.2.2.1 (53 + (n + 1))) 0 0 16)) (fun t => Q t ∨ cone on (n + 1) told t) (by omega) (by omega) (Nat.or_lt_two_pow (n := 10) ht (p2_lt hn10)) (fun i hi => by rw [tb2, htb i (by omega), decide_eq_false (by omega)]; rfl) hL2 k3 k5
            rw [l1, Option.bind_some]
            refine ⟨mk b w3, by rfl, w3, rfl, sP_trans (sP_uL w _ (eLv _ (by omega))) (sP_trans k2 (sP_trans (sP_uL w2 _ (eLv _ (by omega))) l2)), l3, fun j hj => ?_, best_iff l5 (fun t => ?_)⟩
            · rw [l4 j (by omega), uL_ne _ _ (by omega), k4 j (by omega), uL_ne _ _ (by omega)]
            · constructor
              · rintro ((q | q) | q)
                · exact Or.inl q
                · refine Or.inr ⟨q.1, fun i hi => q.2.1 i (by omega), fun i hi z => ?_⟩
                  by_cases y : i = n
                  · rw [y]; exact hb
                  · exact q.2.2 i (by omega) z
                · refine Or.inr ⟨q.1, fun i hi => ?_, fun i hi z => ?_⟩
                  · rw [q.2.1 i (by omega), tb2, decide_eq_false (by omega), Bool.or_false]
                  · by_cases y : i = n
                    · rw [y]; exact hb
                    · exact q.2.2 i (by omega) z
              · rintro (q | q)
                · exact Or.inl (Or.inl q)
                · cases z : t.testBit n with
                  | false =>
                    refine Or.inl (Or.inr ⟨q.1, fun i hi => ?_, fun i hi y => q.2.2 i (by omega) y⟩)
                    by_cases y : i = n
                    · rw [y, z, htb n (Nat.le_refl n)]
                    · exact q.2.1 i (by omega)
                  | true =>
                    refine Or.inr ⟨q.1, fun i hi => ?_, fun i hi y => q.2.2 i (by omega) y⟩
                    by_cases y : i = n
                    · rw [y, z, tb2, decide_eq_true rfl, Bool.or_true]
                    · rw [q.2.1 i (by omega), tb2, decide_eq_false (by omega), Bool.or_false]
      · rw [g1, Option.bind_some, if_pos rfl]
        refine ⟨w, rfl, sP_refl w, hon, fun _ _ => rfl, best_more hB (fun t q z => ⟨m, g3, g2, fun y => g4 ?_⟩)⟩
        have a1 := pc_sub (sub t q)
        have a2 := le_sub ht (sub t q)
        unfold bet at *
        omega
end
