/-! the reference tries rows -/
def mPI (j k : Nat) : Bool := tPI j k && !(j == 77 && (decide (7 ≤ k) && decide (k ≤ 12)))
abbrev frM : WD → WD → Prop := simP mPI tPA aL
theorem eN_m (j k : Nat) (h : eN j k = true) : mPI j k = true := by
  unfold mPI
  rw [eN_t j k h, Bool.true_and]
  unfold eN at h
  rw [Bool.and_eq_true] at h
  exact h.2
theorem frM_env {w w' : WD} (s : frM w w') : env w w' := sP_mono s eN_m eA_t (fun _ _ => rfl)
section
variable {b : Nat} {w : WD} {G : TG} {sv0 : SV} {who : Nat → Nat} {n : Nat} {p : Nat → Bool}
theorem who_mk {x : Int32} (hwho : whoOk (fun k => bt x k) who) (w2 : WD) : ∃ g, FX12_laysWho (mk b w2) (b + 77) x = some (nI (fb_ct (fun k => bt x k) 8), mk b (uA w2 103 g)) ∧ ∀ i, i < fb_ct (fun k => bt x k) 8 → g i = nI (who i) := by
  have lem := lpb_inv (body := fun (s1 : Int32 × Int32 × HP) => if (8 : Int32) ≤ s1.2.1 then some (Sum.inl (s1.1, s1.2.2)) else (FX12_has x s1.2.1).bind (fun v3 => if v3 = 0 then vl (s1.2.1 + (1 : Int32)) (fun x4 => some (Sum.inr (s1.1, x4, s1.2.2))) else (gR [12] 56 s1.2.2 (b + 77)).bind (fun v5 => (wrI s1.2.2 v5 s1.1 s1.2.1).bind (fun hp6 => vl (s1.1 + (1 : Int32)) (fun x7 => vl (s1.2.1 + (1 : Int32)) (fun x8 => some (Sum.inr (x7, x8, hp6))))))))
    (kf := fun (y2 : Int32 × HP) => some (y2.1, y2.2)) (N := FU) (s0 := ((0 : Int32), (0 : Int32), mk b w2))
    (fun k s1 => ∃ g, s1 = (nI (fb_ct (fun k => bt x k) k), nI k, mk b (uA w2 103 g)) ∧ ∀ i, i < fb_ct (fun k => bt x k) k → g i = nI (who i))
    (fun r => ∃ g, r = (nI (fb_ct (fun k => bt x k) 8), mk b (uA w2 103 g)) ∧ ∀ i, i < fb_ct (fun k => bt x k) 8 → g i = nI (who i))
    8 (by decide) ⟨w2.2.1 103, by rw [uA_self]; rfl, fun i hi => absurd hi (Nat.not_lt_zero i)⟩ (fun k hk s1 => ?_) (fun s1 => ?_)
  · obtain ⟨r, q1, g, rfl, q2⟩ := lem
    exact ⟨g, q1, q2⟩
  · rintro ⟨g, rfl, hg⟩
    dsimp only
    rw [if_neg (show ¬ (8 : Int32) ≤ nI k from nI_ge (a := k) (b := 8) hk (by decide)), has_eq _ (by omega), Option.bind_some]
    cases hb : bt x k with
    | false =>
      rw [if_pos (by decide), vl_eq, nI_1]
      have e1 : fb_ct (fun k => bt x k) (k + 1) = fb_ct (fun k => bt x k) k := by rw [fb_ct_succ, hb]; rfl
      exact ⟨_, rfl, g, by rw [e1], by rw [e1]; exact hg⟩
    | true =>
      have e1 : fb_ct (fun k => bt x k) (k + 1) = fb_ct (fun k => bt x k) k + 1 := by rw [fb_ct_succ, hb]; rfl
      have hle := fb_ct_le (fun k => bt x k) k
      rw [if_neg (by decide), gR_12_77_56, Option.bind_some, wrI_mk (j := 103) (n := 8) (by decide +kernel) b _ (by omega), Option.bind_some, vl_eq, vl_eq, nI_1, nI_1, uA_at, uA_uA]
      refine ⟨_, rfl, _, by rw [e1], fun i hi => ?_⟩
      rw [e1] at hi
      rcases Nat.lt_or_ge i (fb_ct (fun k => bt x k) k) with q | q
      · rw [pk_un (by omega)]
        exact hg i q
      · have : i = fb_ct (fun k => bt x k) k := by omega
        rw [this, pk_us, hwho.1 k hk hb]
  · rintro ⟨g, rfl, hg⟩
    exact ⟨_, if_pos (Int32.le_refl _), _, rfl, g, rfl, hg⟩
theorem codes_mk (a m : Nat) (hm : m < 1000) : FX12_codesFor (nI a) (nI m) = some (nI (a ^ m)) := by
  unfold FX12_codesFor
  refine lpb_for (fun i => (nI (a ^ i), nI i)) (nI (a ^ m)) m (by rfl) (by unfold FU; omega) (fun i hi => ?_) ?_ rfl
  · dsimp only
    rw [if_neg (nI_ge hi (by omega)), vl_eq, vl_eq, nI_1, pk_mul, Nat.pow_succ]
  · dsimp only
    rw [if_pos (Int32.le_refl _)]
/-- a row read from its code -/
theorem reads_mk (hG : Gok b w G) (hv : okSv sv0) (hn : 0 < n) (hn8 : n ≤ 8) (hw8 : ∀ i, i < n → who i < 8) {w2 : WD} (h103 : ∀ i, i < n → w2.2.1 103 i = nI (who i)) {c m : Nat} (hc : c < 100000) (hm : m ≤ 8) : ∃ r g, FX12_readsRow (mk b w2) (b + 77) (nI c) (nI n) (nI m) = some (r, mk b (uA w2 101 g)) ∧ ((r = 0 ∧ VR G sv0 who n m c = none) ∨ (r = 1 ∧ ∀ j, j < m → g j = nI (who (c / n ^ (m - 1 - j) % n)))) := by
  unfold FX12_readsRow
  rw [vl_eq]
  have lem := lpb_ex (body := fun (s2 : Int32 × Int32 × Int32 × HP) => if s2.2.2.1 < 0 then some (Sum.inl (Sum.inr s2.2.2.2)) else (gR [12] 54 s2.2.2.2 (b + 77)).bind (fun v4 => (gR [12] 56 s2.2.2.2 (b + 77)).bind (fun v5 => (rmI s2.1 (nI n)).bind (fun v6 => (rdN 0 s2.2.2.2 v5 v6).bind (fun v7 => (wrI s2.2.2.2 v4 s2.2.2.1 v7).bind (fun hp8 => (dvI s2.1 (nI n)).bind (fun v9 => (gR [12] 54 hp8 (b + 77)).bind (fun v10 => (rdN 0 hp8 v10 s2.2.2.1).bind (fun v11 => (FX12_has s2.2.1 v11).bind (fun v12 => if v12 = 0 then (gR [12] 54 hp8 (b + 77)).bind (fun v13 => (rdN 0 hp8 v13 s2.2.2.1).bind (fun v14 => vl (s2.2.1 ||| ((1 : Int32) <<< (v14 &&& 31))) (fun x15 => vl (s2.2.2.1 + (-1 : Int32)) (fun x16 => some (Sum.inr (v9, x15, x16, hp8)))))) else some (Sum.inl (Sum.inl ((0 : Int32), hp8)))))))))))))
    (kf := lk (P := Int32 × HP) (fun r => r) (fun (y3 : HP) => some ((1 : Int32), y3))) (N := FU) (s0 := (nI c, (0 : Int32), nI m - (1 : Int32), mk b w2))
    (fun k s2 => ∃ t S g, t ≤ m ∧ k = m - t ∧ s2 = (nI (c / n ^ t), S, nI (m - t) - (1 : Int32), mk b (uA w2 101 g)) ∧ (∀ x, x < 8 → bt S x = ex (fun i => decide (who (c / n ^ i % n) = x)) t) ∧ ∀ j, m - t ≤ j → j < m → g j = nI (who (c / n ^ (m - 1 - j) % n)))
    (fun x => ∃ g, (x = .inr (mk b (uA w2 101 g)) ∧ ∀ j, j < m → g j = nI (who (c / n ^ (m - 1 - j) % n))) ∨ (x = .inl (0, mk b (uA w2 101 g)) ∧ VR G sv0 who n m c = none))
    (fun z => ∃ g, z.2 = mk b (uA w2 101 g) ∧ ((z.1 = 0 ∧ VR G sv0 who n m c = none) ∨ (z.1 = 1 ∧ ∀ j, j < m → g j = nI (who (c / n ^ (m - 1 - j) % n))))) m (by unfold FU; omega)
    ⟨0, 0, w2.2.1 101, Nat.zero_le _, rfl, by rw [uA_self, Nat.pow_zero, Nat.div_one, Nat.sub_zero], fun x hx => ?_, fun j h1 h2 => absurd h1 (by omega)⟩ ?_ ?_
  · obtain ⟨z, q1, g, q2, q3⟩ := lem
    exact ⟨z.1, g, by rw [← q2]; exact q1, q3⟩
  · show bt 0 x = false
    exact (by decide : ∀ x, x < 8 → bt 0 x = false) x hx
  · rintro k s2 ⟨t, S, g, ht, rfl, rfl, hS, hg⟩
    dsimp only
    rcases Nat.lt_or_ge t m with htm | htm
    · obtain ⟨u, hu⟩ : ∃ u, m - t = u + 1 := ⟨m - t - 1, by omega⟩
      have hle : c / n ^ t ≤ c := Nat.div_le_self _ _
      have hdlt : c / n ^ t % n < n := Nat.mod_lt _ hn
      have hk8 := hw8 _ hdlt
      have hr : (uA w2 101 g).2.1 103 (c / n ^ t % n) = nI (who (c / n ^ t % n)) := h103 _ hdlt
      have ed : dvI (nI (c / n ^ t)) (nI n) = some (nI (c / n ^ (t + 1))) := by
        rw [dv_n _ (nI_ne0 hn (by omega)), pk_div (by omega) hn (by omega), Nat.div_div_eq_div_mul, ← Nat.pow_succ]
      have er : rmI (nI (c / n ^ t)) (nI n) = some (nI (c / n ^ t % n)) := by
        rw [rm_n _ (nI_ne0 hn (by omega)), pk_rem (by omega) hn (by omega)]
      have er2 : rdN 0 (mk b (uA w2 101 (upd g u (nI (who (c / n ^ t % n)))))) (b + 101) (nI u) = some (nI (who (c / n ^ t % n))) := by
        rw [rdN_mk (t := 0) (j := 101) (n := 8) (by decide +kernel) (by decide) b _ (by omega), uA_at, pk_us]
      rw [hu, nI_pred, if_neg (nI_pos (by omega)), gR_12_77_54, Option.bind_some, gR_12_77_56, Option.bind_some, er, Option.bind_some, rdN_mk (t := 0) (j := 103) (n := 8) (by decide +kernel) (by decide) b _ (by omega), Option.bind_some, hr, wrI_mk (j := 101) (n := 8) (by decide +kernel) b _ (by omega), Option.bind_some, uA_at, uA_uA, ed, Option.bind_some, gR_12_77_54, Option.bind_some, er2, Option.bind_some, has_eq _ (by omega), Option.bind_some, hS _ hk8]
      cases hx : ex (fun i => decide (who (c / n ^ i % n) = who (c / n ^ t % n))) t with
      | true =>
        left
        rw [if_neg (by decide)]
        refine ⟨_, rfl, _, Or.inr ⟨rfl, ?_⟩⟩
        obtain ⟨i, hi, ei⟩ := (ex_iff _ _).mp hx
        have ei := of_decide_eq_true ei
        have h1 : VR G sv0 who n (m - i - 1 + 1) (c / n ^ i) = none := by
          refine V_twice hG hv hn hw8 (i := t - i - 1) (by omega) ?_
          rw [ei, Nat.div_div_eq_div_mul, Nat.div_div_eq_div_mul, ← Nat.pow_succ', ← Nat.pow_add, show i + (t - i - 1 + 1) = t by omega]
        have h2 := V_none (G := G) (sv0 := sv0) (who := who) (n := n) (m - i - 1 + 1) i c h1
        rw [show m - i - 1 + 1 + i = m by omega] at h2
        exact h2
      | false =>
        right
        rw [if_pos (by decide), Option.bind_some, er2, Option.bind_some, vl_eq, vl_eq]
        refine ⟨_, m - (t + 1), rfl, by omega, t + 1, S ||| ((1 : Int32) <<< (nI (who (c / n ^ t % n)) &&& 31)), upd g u (nI (who (c / n ^ t % n))), by omega, rfl, ?_, fun x hx8 => ?_, fun j h1 h2 => ?_⟩
        · rw [show m - (t + 1) = u by omega, Int32.sub_eq_add_neg]
        · rw [b_or, bt_pow _ (by omega) x (by omega), hS x hx8]
          show _ = (ex (fun i => decide (who (c / n ^ i % n) = x)) t || decide (who (c / n ^ t % n) = x))
          congr 1
          by_cases q : x = who (c / n ^ t % n)
          · rw [decide_eq_true q, decide_eq_true q.symm]
          · rw [decide_eq_false q, decide_eq_false (fun z => q z.symm)]
        · rcases Nat.lt_or_ge j (m - t) with q | q
          · have : j = u := by omega
            rw [this, pk_us, show m - 1 - u = t by omega]
          · rw [pk_un (by omega)]
            exact hg j q h2
    · left
      have : t = m := by omega
      subst this
      refine ⟨_, if_pos ?_, g, Or.inl ⟨rfl, fun j hj => hg j (by omega) hj⟩⟩
      rw [Nat.sub_self]
      decide
  · rintro x ⟨g, ⟨rfl, h1⟩ | ⟨rfl, h1⟩⟩
    · exact ⟨_, rfl, g, rfl, Or.inr ⟨rfl, h1⟩⟩
    · exact ⟨_, rfl, g, rfl, Or.inl ⟨rfl, h1⟩⟩
/-- a row granted -/
theorem grRow_mk (hG : Gok b w G) (hv : okSv sv0) (hn : 0 < n) (hw8 : ∀ i, i < n → who i < 8) {w2 : WD} (e2 : env w w2) (hsv : ∀ i, i < 6 → w2.1 77 (7 + i) = sv0 i) {c m : Nat} (hm : m ≤ 8) (hrow : ∀ j, j < m → w2.2.1 101 j = nI (who (c / n ^ (m - 1 - j) % n))) : ∃ r w3, FX12_grantsRow (mk b w2) (b + 77) (nI m) = some (r, mk b w3) ∧ frM w2 w3 ∧ ((r = -1 ∧ VR G sv0 who n m c = none) ∨ ∃ z, VR G sv0 who n m c = some z ∧ r = nI z.1 ∧ ∀ i, i < 6 → w3.1 77 (7 + i) = z.2 i) := by
  unfold FX12_grantsRow
  have lem := lpb_ex (body := fun (s1 : Int32 × Int32 × HP) => if nI m ≤ s1.2.1 then some (Sum.inl (Sum.inr (s1.1, s1.2.2))) else (gR [12] 54 s1.2.2 (b + 77)).bind (fun v3 => (rdN 0 s1.2.2 v3 s1.2.1).bind (fun v4 => (rc [12] s1.2.2 (b + 77) (FX12_grants s1.2.2 (b + 77) v4)).bind (fun w5 => if 0 ≤ w5.1 then vl (s1.1 + w5.1) (fun x6 => vl (s1.2.1 + (1 : Int32)) (fun x7 => some (Sum.inr (x6, x7, w5.2)))) else some (Sum.inl (Sum.inl ((-1 : Int32), w5.2)))))))
    (kf := lk (P := Int32 × HP) (fun r => r) (fun (y2 : Int32 × HP) => some (y2.1, y2.2))) (N := FU) (s0 := ((0 : Int32), (0 : Int32), mk b w2))
    (fun k s1 => ∃ j z w3, j ≤ m ∧ k = m - j ∧ s1 = (nI z.1, nI j, mk b w3) ∧ frM w2 w3 ∧ VR G sv0 who n j (c / n ^ (m - j)) = some z ∧ ∀ i, i < 6 → w3.1 77 (7 + i) = z.2 i)
    (fun x => ∃ w3, frM w2 w3 ∧ ((x = .inl (-1, mk b w3) ∧ VR G sv0 who n m c = none) ∨ ∃ z, x = .inr (nI z.1, mk b w3) ∧ VR G sv0 who n m c = some z ∧ ∀ i, i < 6 → w3.1 77 (7 + i) = z.2 i))
    (fun r => ∃ w3, r.2 = mk b w3 ∧ frM w2 w3 ∧ ((r.1 = -1 ∧ VR G sv0 who n m c = none) ∨ ∃ z, VR G sv0 who n m c = some z ∧ r.1 = nI z.1 ∧ ∀ i, i < 6 → w3.1 77 (7 + i) = z.2 i)) m (by unfold FU; omega)
    ⟨0, (0, sv0), w2, Nat.zero_le _, rfl, rfl, sP_refl w2, rfl, hsv⟩ ?_ ?_
  · obtain ⟨r, q1, w3, q2, q3, q4⟩ := lem
    exact ⟨r.1, w3, by rw [← q2]; exact q1, q3, q4⟩
  · rintro k s1 ⟨j, z, w3, hj, rfl, rfl, f3, hV, hs3⟩
    dsimp only
    rcases Nat.lt_or_ge j m with hjm | hjm
    · have hdlt : c / n ^ (m - 1 - j) % n < n := Nat.mod_lt _ hn
      have hk8 := hw8 _ hdlt
      obtain ⟨hz, _, _, _⟩ := V_ok hG hv hn hw8 j _ z hV
      obtain ⟨hT, hsp⟩ := hG z.2 _ hz hk8
      obtain ⟨w4, g1, g2, g3⟩ := grants_mk (b := b) hT (sP_trans e2 (frM_env f3)) hs3
      have er : rdN 0 (mk b w3) (b + 101) (nI j) = some (nI (who (c / n ^ (m - 1 - j) % n))) := by
        rw [rdN_mk (t := 0) (j := 101) (n := 8) (by decide +kernel) (by decide) b _ (by omega), f3.2.1 101 rfl, hrow j hjm]
      rw [if_neg (nI_ge hjm (by omega)), gR_12_77_54, Option.bind_some, er, Option.bind_some, rc_12_77, g1, Option.bind_some]
      dsimp only
      have f4 : frM w2 w4 := sP_trans f3 g3
      have hVn : VR G sv0 who n (j + 1) (c / n ^ (m - 1 - j)) = (stG G z.2 (who (c / n ^ (m - 1 - j) % n))).map (fun y => (z.1 + y.1, y.2)) := by
        show (VR G sv0 who n j (c / n ^ (m - 1 - j) / n)).bind _ = _
        rw [Nat.div_div_eq_div_mul, ← Nat.pow_succ, show (m - 1 - j).succ = m - j by omega, hV]
        rfl
      by_cases hp : 0 ≤ (G z.2 (who (c / n ^ (m - 1 - j) % n))).1
      · right
        have hst : stG G z.2 (who (c / n ^ (m - 1 - j) % n)) = some (dyN (G z.2 (who (c / n ^ (m - 1 - j) % n))).1, grS z.2 (G z.2 (who (c / n ^ (m - 1 - j) % n))).1 (G z.2 (who (c / n ^ (m - 1 - j) % n))).2.1 (G z.2 (who (c / n ^ (m - 1 - j) % n))).2.2 (who (c / n ^ (m - 1 - j) % n))) := if_pos hp
        have ea := (stG_ok hG hz hk8 hst).2.2.1
        rw [if_pos hp, vl_eq, vl_eq, nI_1]
        rw [hst] at hVn
        refine ⟨_, m - (j + 1), rfl, by omega, j + 1, _, w4, by omega, rfl, ?_, f4, by rw [show m - (j + 1) = m - 1 - j by omega]; exact hVn, ?_⟩
        · have ea' : (G z.2 (who (c / n ^ (m - 1 - j) % n))).1 = nI (dyN (G z.2 (who (c / n ^ (m - 1 - j) % n))).1) := ea
          show (nI z.1 + (G z.2 (who (c / n ^ (m - 1 - j) % n))).1, _) = (nI (z.1 + dyN (G z.2 (who (c / n ^ (m - 1 - j) % n))).1), _)
          have e3 : nI z.1 + (G z.2 (who (c / n ^ (m - 1 - j) % n))).1 = nI (z.1 + dyN (G z.2 (who (c / n ^ (m - 1 - j) % n))).1) := by
            rw [← nI_add z.1 (dyN _), ← ea']
          rw [e3]
        · intro i hi
          rw [g2 i hi]
          unfold nxS
          rw [if_pos hp]
      · left
        rw [if_neg hp]
        have hst : stG G z.2 (who (c / n ^ (m - 1 - j) % n)) = none := if_neg hp
        rw [hst] at hVn
        have h2 := V_none (G := G) (sv0 := sv0) (who := who) (n := n) (j + 1) (m - 1 - j) c hVn
        rw [show j + 1 + (m - 1 - j) = m by omega] at h2
        exact ⟨_, rfl, w4, f4, Or.inl ⟨rfl, h2⟩⟩
    · left
      have : j = m := by omega
      subst this
      rw [Nat.sub_self, Nat.pow_zero, Nat.div_one] at hV
      exact ⟨_, if_pos (Int32.le_refl _), w3, f3, Or.inr ⟨z, rfl, hV, hs3⟩⟩
  · rintro x ⟨w3, f3, ⟨rfl, h1⟩ | ⟨z, rfl, h1, h2⟩⟩
    · exact ⟨_, rfl, w3, rfl, f3, Or.inl ⟨rfl, h1⟩⟩
    · exact ⟨_, rfl, w3, rfl, f3, Or.inr ⟨z, h1, rfl, h2⟩⟩
def asW (w2 : WD) : WD := uI (uI (uI (uI (uI (uI w2 77 48 (w2.1 77 7)) 77 49 (w2.1 77 8)) 77 50 (w2.1 77 9)) 77 51 (w2.1 77 10)) 77 52 (w2.1 77 11)) 77 53 (w2.1 77 12)
theorem aside_mk (w2 : WD) : FX12_putsAside (mk b w2) (b + 77) = some (mk b (asW w2)) := by
  unfold FX12_putsAside
  refine bS (gI_12_77_7 b _) ?_
  refine bS (sI_12_77_48 b _ _) ?_
  refine bS (gI_12_77_8 b _) ?_
  refine bS (sI_12_77_49 b _ _) ?_
  refine bS (gI_12_77_9 b _) ?_
  refine bS (sI_12_77_50 b _ _) ?_
  refine bS (gI_12_77_10 b _) ?_
  refine bS (sI_12_77_51 b _ _) ?_
  refine bS (gI_12_77_11 b _) ?_
  refine bS (sI_12_77_52 b _ _) ?_
  refine bS (gI_12_77_12 b _) ?_
  exact bS (sI_12_77_53 b _ _) rfl
def bkW (w2 : WD) : WD := uI (uI (uI (uI (uI (uI w2 77 7 (w2.1 77 48)) 77 8 (w2.1 77 49)) 77 9 (w2.1 77 50)) 77 10 (w2.1 77 51)) 77 11 (w2.1 77 52)) 77 12 (w2.1 77 53)
theorem back_mk (w2 : WD) : FX12_bringsBack (mk b w2) (b + 77) = some (mk b (bkW w2)) := by
  unfold FX12_bringsBack
  refine bS (gI_12_77_48 b _) ?_
  refine bS (sI_12_77_7 b _ _) ?_
  refine bS (gI_12_77_49 b _) ?_
  refine bS (sI_12_77_8 b _ _) ?_
  refine bS (gI_12_77_50 b _) ?_
  refine bS (sI_12_77_9 b _ _) ?_
  refine bS (gI_12_77_51 b _) ?_
  refine bS (sI_12_77_10 b _ _) ?_
  refine bS (gI_12_77_52 b _) ?_
  refine bS (sI_12_77_11 b _ _) ?_
  refine bS (gI_12_77_53 b _) ?_
  exact bS (sI_12_77_12 b _ _) rfl
theorem bkW_f (w2 : WD) : frM w2 (bkW w2) := sP_trans (sP_trans (sP_trans (sP_trans (sP_trans (sP_uI w2 _ rfl) (sP_uI _ _ rfl)) (sP_uI _ _ rfl)) (sP_uI _ _ rfl)) (sP_uI _ _ rfl)) (sP_uI _ _ rfl)
theorem bkW_at (w2 : WD) : ∀ i, i < 6 → (bkW w2).1 77 (7 + i) = w2.1 77 (48 + i) := by
  intro i hi
  have hk : i = 0 ∨ i = 1 ∨ i = 2 ∨ i = 3 ∨ i = 4 ∨ i = 5 := by omega
  rcases hk with rfl | rfl | rfl | rfl | rfl | rfl <;> rfl
theorem asW_at (w2 : WD) : ∀ i, i < 6 → (asW w2).1 77 (48 + i) = w2.1 77 (7 + i) := by
  intro i hi
  have hk : i = 0 ∨ i = 1 ∨ i = 2 ∨ i = 3 ∨ i = 4 ∨ i = 5 := by omega
  rcases hk with rfl | rfl | rfl | rfl | rfl | rfl <;> rfl
theorem asW_s (w2 : WD) : sim w2 (asW w2) := sP_trans (sP_trans (sP_trans (sP_trans (sP_trans (sP_uI w2 _ rfl) (sP_uI _ _ rfl)) (sP_uI _ _ rfl)) (sP_uI _ _ rfl)) (sP_uI _ _ rfl)) (sP_uI _ _ rfl)
end
