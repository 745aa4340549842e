/-! in which order to wish, on both sides -/
theorem bt_fun {m : Nat} (hm : m < 256) : (fun k => bt (nI m) k) = fun k => m.testBit k := by
  funext k
  by_cases h : k < 32
  · exact bt_nI m h
  · have e1 : m.testBit k = false := Nat.testBit_lt_two_pow (Nat.lt_of_lt_of_le hm (Nat.pow_le_pow_right (n := 2) (i := 8) (by decide) (by omega)))
    rw [e1]
    unfold bt
    exact BitVec.getLsbD_of_ge _ _ (by omega)
theorem pc_8 {m : Nat} (hm : m < 256) : fb_ct (fun k => m.testBit k) 8 = pc m := by
  unfold pc
  have e : ∀ i, 8 ≤ i → m.testBit i = false := fun i hi => Nat.testBit_lt_two_pow (Nat.lt_of_lt_of_le hm (Nat.pow_le_pow_right (n := 2) (i := 8) (by decide) hi))
  have h10 : fb_ct (fun i => m.testBit i) 10 = fb_ct (fun k => m.testBit k) 8 + (if m.testBit 8 then 1 else 0) + (if m.testBit 9 then 1 else 0) := rfl
  rw [h10, e 8 (by decide), e 9 (by decide)]
  rfl
section
variable {b : Nat} {w : WD}
theorem areW_of {w2 : WD} (h : w2.1 77 5 = w.1 77 5) (x lo hi : Int32) : FX12_areWishes (mk b w2) (b + 77) x lo hi = FX12_areWishes (mk b w) (b + 77) x lo hi := by
  unfold FX12_areWishes
  rw [gI_12_77_5, gI_12_77_5, h]
theorem nPI_of (j k : Nat) (h : eI j k = true) (h2 : ¬ (j = 77 ∧ 7 ≤ k ∧ k ≤ 12)) : qPI j k = true := by
  show mPI j k = true
  unfold mPI
  rw [eI_t j k h, Bool.true_and]
  by_cases e : j = 77
  · subst e
    have : (decide (7 ≤ k) && decide (k ≤ 12)) = false := by
      rw [Bool.and_eq_false_iff, decide_eq_false_iff_not, decide_eq_false_iff_not]
      omega
    rw [this]
    rfl
  · rw [beq_eq_false_iff_ne.mpr e]
    rfl
theorem sim_q {w2 w3 : WD} {sv0 : SV} (f : frQ w2 w3) (h1 : ∀ i, i < 6 → w2.1 77 (7 + i) = sv0 i) (h2 : ∀ i, i < 6 → w3.1 77 (7 + i) = sv0 i) : sim w2 w3 := by
  refine ⟨fun j k q => ?_, fun j q => f.2.1 j (eA_q j q), fun j _ => f.2.2.1 j rfl, f.2.2.2⟩
  by_cases e : j = 77 ∧ 7 ≤ k ∧ k ≤ 12
  · obtain ⟨rfl, e1, e2⟩ := e
    obtain ⟨i, rfl⟩ : ∃ i, k = 7 + i := ⟨k - 7, by omega⟩
    rw [h1 i (by omega), h2 i (by omega)]
  · exact f.1 j k (nPI_of j k q e)
theorem op_inOrder (h : Rel RLaw w) (x y : Int32) : OP RLaw b w (fun hp => FX11_inOrder hp (b + 0) x y) (fun hp => FX12_inOrder hp (b + 77) x y) := by
  rcases howMany_mk (b := b) h x with ⟨m, hm, rfl, hsub, e1, e2⟩ | ⟨e1, e2⟩
  · by_cases hin : 1 ≤ pc m ∧ pc m ≤ 5
    · obtain ⟨n, hn⟩ : ∃ n, n = pc m := ⟨_, rfl⟩
      rw [← hn] at hin
      have hpn : fb_ct (fun k => m.testBit k) 8 = n := (pc_8 hm).trans hn.symm
      obtain ⟨who, hwho⟩ := who_ex (fun k => m.testBit k)
      obtain ⟨hv, h77⟩ := now_ok h
      obtain ⟨G, hG⟩ := G_ex (b := b) h
      have hw8 : ∀ i, i < n → who i < 8 := fun i hi => (hwho.2 i (by omega)).1
      have hare : ∀ w2 : WD, w2.1 77 5 = w.1 77 5 → FX12_areWishes (mk b w2) (b + 77) (nI m) 1 5 = some 1 := fun w2 q => by
        rw [areW_of q]
        refine (e2 1 5 (by decide) (by decide) (by decide)).trans ?_
        rw [if_pos (by omega)]
      by_cases hy : y = 20 ∨ ∃ q, q < n ∧ y = nI q
      · obtain ⟨r, w2, o1, o2, o3, o4⟩ := order_mk (b := b) h hG hm hpn (by omega) hin.2 hwho
        have toE : ∀ {a c : WD}, sim a c → env a c := fun q => sP_mono q (fun j k z => (Bool.and_eq_true_iff.mp (Bool.and_eq_true_iff.mp z).1).1) (fun _ z => z) (fun _ z => z)
        have h77' : ∀ i, i < 6 → w2.1 77 (7 + i) = w.1 68 i := fun i hi => (o2.1 77 (7 + i) ((by decide : ∀ i, i < 6 → eI 77 (7 + i) = true) i hi)).trans (h77 i hi)
        obtain ⟨g, k1, k2⟩ := who_mk (b := b) (x := nI m) (who := who) (by rw [bt_fun hm]; exact hwho) w2
        rw [bt_fun hm, hpn] at k1 k2
        have s3 : sim w2 (asW (uA w2 103 g)) := sP_trans (sP_uA w2 g rfl) (asW_s _)
        have hsv3 : ∀ i, i < 6 → (asW (uA w2 103 g)).1 77 (7 + i) = w.1 68 i := fun i hi => by
          rw [s3.1 77 (7 + i) ((by decide : ∀ i, i < 6 → eI 77 (7 + i) = true) i hi)]
          exact h77' i hi
        have has3 : ∀ i, i < 6 → (asW (uA w2 103 g)).1 77 (48 + i) = w.1 68 i := fun i hi => by
          rw [asW_at _ i hi]
          exact h77' i hi
        obtain ⟨l, w4, b1, b2, b3, b4⟩ := best_mk (b := b) (who := who) (n := n) (w2 := asW (uA w2 103 g)) hG hv (by omega) hin.2 hw8 (sP_trans (toE o2) (toE s3)) k2 hsv3 has3
        have hR : Rel RLaw w4 := Rel_sim RLaw_LOK h (sP_trans (sP_trans o2 s3) (sim_q b2 hsv3 b3))
        have cls : ∀ z, (if w2.1 34 6 = 1000000000 then some (-2) else if y = 20 then some (w2.1 34 6) else (rdN 0 (mk b w2) (b + 43) y)) = some z → FX11_inOrder (mk b w) (b + 0) (nI m) y = some (z, mk b w2) := by
          intro z hz
          have inner : (rc [5] (mk b w) (b + 34) (FX5_order (mk b w) (b + 34) (b + 68) (nI m))).bind (fun w7 => if w7.1 = 0 then some ((-2 : Int32), w7.2) else if y = (20 : Int32) then (gR [11] 9 w7.2 (b + 0)).bind (fun v8 => (gI [5] 6 w7.2 v8).bind (fun v9 => some (v9, w7.2))) else (gR [11] 9 w7.2 (b + 0)).bind (fun v10 => (gR [5] 8 w7.2 v10).bind (fun v11 => (rdN 0 w7.2 v11 y).bind (fun v12 => some (v12, w7.2))))) = some (z, mk b w2) := by
            rw [rc_5_34, o1, Option.bind_some]
            dsimp only
            rw [o4]
            by_cases q : w2.1 34 6 = 1000000000
            · rw [if_pos q] at hz ⊢
              rw [if_pos rfl, Option.some.inj hz]
            · rw [if_neg q] at hz ⊢
              rw [if_neg (by decide)]
              by_cases q2 : y = 20
              · rw [if_pos q2] at hz ⊢
                rw [gR_11_0_9, Option.bind_some, gI_5_34_6, Option.bind_some, Option.some.inj hz]
              · rw [if_neg q2] at hz ⊢
                rw [gR_11_0_9, Option.bind_some, gR_5_34_8, Option.bind_some, hz, Option.bind_some]
          unfold FX11_inOrder
          rw [gR_11_0_2, Option.bind_some, rc_0_5, e1, Option.bind_some, ← hn, if_neg (show ¬ nI n < (1 : Int32) from nI_nlt (a := n) (b := 1) (by omega) (by omega)), if_neg (show ¬ (5 : Int32) < nI n from nI_nlt (a := 5) (b := n) (by omega) (by decide)), jn_eq]
          have J : (gR [11] 9 (mk b w) (b + 0)).bind (fun v5 => (gR [11] 12 (mk b w) (b + 0)).bind (fun v6 => (rc [5] (mk b w) v5 (FX5_order (mk b w) v5 v6 (nI m))).bind (fun w7 => if w7.1 = 0 then some ((-2 : Int32), w7.2) else if y = (20 : Int32) then (gR [11] 9 w7.2 (b + 0)).bind (fun v8 => (gI [5] 6 w7.2 v8).bind (fun v9 => some (v9, w7.2))) else (gR [11] 9 w7.2 (b + 0)).bind (fun v10 => (gR [5] 8 w7.2 v10).bind (fun v11 => (rdN 0 w7.2 v11 y).bind (fun v12 => some (v12, w7.2))))))) = some (z, mk b w2) := bS (gR_11_0_9 b _) (bS (gR_11_0_12 b _) inner)
          rcases hy with q | ⟨q, hq, rfl⟩
          · rw [if_pos q]
            exact J
          · by_cases q20 : nI q = 20
            · rw [if_pos q20]
              exact J
            · rw [if_neg q20, if_neg (nI_pos (by omega)), if_pos (nI_lt hq (by omega))]
              exact J
        have ref : ∀ z, (if l = 1000000 then some (-2) else if y = 20 then some l else (rdN 0 (mk b w4) (b + 102) y)) = some z → FX12_inOrder (mk b w2) (b + 77) (nI m) y = some (z, mk b w4) := by
          intro z hz
          unfold FX12_inOrder
          rw [rc_12_77, hare w2 (o2.1 77 5 rfl), Option.bind_some, if_neg (by decide), rc_12_77, k1, Option.bind_some, jn_eq]
          dsimp only
          rw [rc_12_77, aside_mk, Option.bind_some, b1, Option.bind_some]
          dsimp only
          have J : (if l = (1000000 : Int32) then some ((-2 : Int32), mk b w4) else if y = (20 : Int32) then some (l, mk b w4) else (gR [12] 55 (mk b w4) (b + 77)).bind (fun v8 => (rdN 0 (mk b w4) v8 y).bind (fun v9 => some (v9, mk b w4)))) = some (z, mk b w4) := by
            by_cases q : l = 1000000
            · rw [if_pos q] at hz ⊢
              rw [Option.some.inj hz]
            · rw [if_neg q] at hz ⊢
              by_cases q2 : y = 20
              · rw [if_pos q2] at hz ⊢
                rw [Option.some.inj hz]
              · rw [if_neg q2] at hz ⊢
                rw [gR_12_77_55, Option.bind_some, hz, Option.bind_some]
          rcases hy with q | ⟨q, hq, rfl⟩
          · rw [if_pos q]
            exact J
          · by_cases q20 : nI q = 20
            · rw [if_pos q20]
              exact J
            · obtain ⟨n', rfl⟩ : ∃ n', n = n' + 1 := ⟨n - 1, by omega⟩
              have ein : FX12_in (nI q) 0 (nI (n' + 1) - 1) = some 1 := by
                rw [nI_pred, in_eq, if_pos ⟨nI_pos' (by omega), nI_le (by omega) (by omega)⟩]
              rw [if_neg q20, ein, Option.bind_some, if_neg (by decide)]
              exact J
        cases hq : bst (VR G (w.1 68) who n n) (n ^ n) with
        | none =>
          rw [hq] at o3 b4
          have o3 : w2.1 34 6 = 1000000000 := o3
          have b4 : l = 1000000 := b4
          exact ⟨-2, w2, w4, cls _ (if_pos o3), ref _ (if_pos b4), hR⟩
        | some u =>
          rw [hq] at o3 b4
          obtain ⟨c1, c2, c3⟩ := o3
          obtain ⟨d1, d2, d3⟩ := b4
          have n1 : ¬ w2.1 34 6 = 1000000000 := by
            rw [c1]
            exact fun z => absurd (nI_inj (a := u.1) (b := 1000000000) (by omega) (by decide) z) (by omega)
          have n2 : ¬ l = 1000000 := by
            rw [d1]
            exact fun z => absurd (nI_inj (a := u.1) (b := 1000000) (by omega) (by decide) z) (by omega)
          by_cases q20 : y = 20
          · refine ⟨nI u.1, w2, w4, cls _ ?_, ref _ ?_, hR⟩
            · rw [if_neg n1, if_pos q20, c1]
            · rw [if_neg n2, if_pos q20, d1]
          · rcases hy with q | ⟨q, hqn, rfl⟩
            · exact absurd q q20
            · refine ⟨nI (who (u.2 / n ^ (n - 1 - q) % n)), w2, w4, cls _ ?_, ref _ ?_, hR⟩
              · rw [if_neg n1, if_neg q20, rdN_mk (t := 0) (j := 43) (n := 5) (by decide +kernel) (by decide) b _ (by omega), c3 q hqn]
              · rw [if_neg n2, if_neg q20, rdN_mk (t := 0) (j := 102) (n := 8) (by decide +kernel) (by decide) b _ (by omega), d3 q hqn]
      · have h20 : ¬ y = 20 := fun q => hy (Or.inl q)
        have hno : ¬ ∃ q, q < n ∧ y = nI q := fun q => hy (Or.inr q)
        obtain ⟨g, k1, k2⟩ := who_mk (b := b) (x := nI m) (who := who) (by rw [bt_fun hm]; exact hwho) w
        rw [bt_fun hm, hpn] at k1
        refine ⟨-1, w, uA w 103 g, ?_, ?_, Rel_sim RLaw_LOK h (sP_uA w g rfl)⟩
        · try dsimp only
          unfold FX11_inOrder
          rw [gR_11_0_2, Option.bind_some, rc_0_5, e1, Option.bind_some, ← hn, if_neg (show ¬ nI n < (1 : Int32) from nI_nlt (a := n) (b := 1) (by omega) (by omega)), if_neg (show ¬ (5 : Int32) < nI n from nI_nlt (a := 5) (b := n) (by omega) (by decide)), jn_eq, if_neg h20]
          rcases pk_ix y (n := n) (by omega) with q | q | q
          · rw [if_pos q]
          · by_cases q0 : y < 0
            · rw [if_pos q0]
            · rw [if_neg q0, if_neg]
              intro z
              exact (fa_of_lt z).2.1 q
          · exact absurd q hno
        · try dsimp only
          unfold FX12_inOrder
          rw [rc_12_77, hare w rfl, Option.bind_some, if_neg (by decide), rc_12_77, k1, Option.bind_some, jn_eq]
          dsimp only
          obtain ⟨n', rfl⟩ : ∃ n', n = n' + 1 := ⟨n - 1, by omega⟩
          have ein : FX12_in y 0 (nI (n' + 1) - 1) = some 0 := by
            rw [nI_pred, in_eq, if_neg]
            rintro ⟨z1, z2⟩
            obtain ⟨k, _, k3, k4⟩ := in_nat (a := 0) (b := n') (by omega) z1 z2 (by decide)
            exact hno ⟨k, by omega, k4⟩
          rw [if_neg h20, ein, Option.bind_some, if_pos rfl]
    · refine ⟨-1, w, w, ?_, ?_, h⟩
      · try dsimp only
        unfold FX11_inOrder
        have hle := pc_le m
        rw [gR_11_0_2, Option.bind_some, rc_0_5, e1, Option.bind_some]
        rcases Nat.lt_or_ge (pc m) 1 with q | q
        · rw [if_pos (show nI (pc m) < (1 : Int32) from nI_lt (b := 1) q (by decide))]
        · rw [if_neg (show ¬ nI (pc m) < (1 : Int32) from nI_nlt (b := 1) q (by omega)), if_pos (show (5 : Int32) < nI (pc m) from nI_lt (a := 5) (by omega) (by omega))]
      · try dsimp only
        unfold FX12_inOrder
        have := e2 1 5 (by decide) (by decide) (by decide)
        rw [if_neg hin] at this
        rw [rc_12_77, show FX12_areWishes (mk b w) (b + 77) (nI m) 1 5 = some 0 from this, Option.bind_some, if_pos rfl]
  · refine ⟨-1, w, w, ?_, ?_, h⟩
    · try dsimp only
      unfold FX11_inOrder
      rw [gR_11_0_2, Option.bind_some, rc_0_5, e1, Option.bind_some, if_pos (by decide)]
    · try dsimp only
      unfold FX12_inOrder
      rw [rc_12_77, e2, Option.bind_some, if_pos rfl]
end
