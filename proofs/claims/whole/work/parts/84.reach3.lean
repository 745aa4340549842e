/-! by which few wishes: the reference's loops, and both sides -/
def ansR (m : Nat) (row : Nat → Nat) (y : Int32) : Int32 := if y = 20 then nI m else if nI m ≤ y then -4 else nI (row y.toNatClampNeg)
section
variable {b : Nat} {w : WD} {G : TG} {who : Nat → Nat} {n : Nat} {sv0 : SV}
theorem codeL_mk (h : Rel RLaw w) (hG : Gok b w G) (hv : okSv sv0) {goal : Nat} (hg : goal < 8) {m : Nat} (hm : m ≤ 4) (hn : 0 < n ∨ m = 0) (hn8 : n ≤ 8) (hw8 : ∀ i, i < n → who i < 8) {y : Int32} (hy : y = 20 ∨ ∃ q, q < 4 ∧ y = nI q) {w2 : WD} (e2 : env w w2) (h103 : ∀ i, i < n → w2.2.1 103 i = nI (who i)) (hsv : ∀ i, i < 6 → w2.1 77 (7 + i) = sv0 i) (has : ∀ i, i < 6 → w2.1 77 (48 + i) = sv0 i) : ∃ x, lp (fun (s11 : Int32 × HP) => (FX12_codesFor (nI n) (nI m)).bind (fun v14 => if v14 ≤ s11.1 then some (Sum.inl (Sum.inr s11.2)) else (rc [12] s11.2 (b + 77) (FX12_readsRow s11.2 (b + 77) s11.1 (nI n) (nI m))).bind (fun w15 => if w15.1 = 0 then vl (s11.1 + (1 : Int32)) (fun x16 => some (Sum.inr (x16, w15.2))) else (rc [12] w15.2 (b + 77) (FX12_leadsRow w15.2 (b + 77) (nI goal) (nI m))).bind (fun w17 => if w17.1 = 0 then vl (s11.1 + (1 : Int32)) (fun x18 => some (Sum.inr (x18, w17.2))) else if y = (20 : Int32) then some (Sum.inl (Sum.inl (nI m, w17.2))) else if nI m ≤ y then some (Sum.inl (Sum.inl ((-4 : Int32), w17.2))) else (gR [12] 54 w17.2 (b + 77)).bind (fun v19 => (rdN 0 w17.2 v19 y).bind (fun v20 => some (Sum.inl (Sum.inl (v20, w17.2))))))))) FU ((0 : Int32), mk b w2) = some x ∧ ∃ w3, frQ w2 w3 ∧ (∀ i, i < 6 → w3.1 77 (7 + i) = sv0 i) ∧ ((x = .inr (mk b w3) ∧ ∀ c, c < n ^ m → Hd w goal (VR G sv0 who n m c) = false) ∨ ∃ c, c < n ^ m ∧ Hd w goal (VR G sv0 who n m c) = true ∧ (∀ c', c' < c → Hd w goal (VR G sv0 who n m c') = false) ∧ x = .inl (ansR m (fun j => who (c / n ^ (m - 1 - j) % n)) y, mk b w3)) := by
  have hpow : n ^ m ≤ 4096 := by
    refine Nat.le_trans (Nat.pow_le_pow_left hn8 m) ?_
    exact Nat.le_trans (Nat.pow_le_pow_right (by decide) hm) (by decide)
  refine lp_ex (fun k s11 => ∃ c w3, c ≤ n ^ m ∧ k = n ^ m - c ∧ s11 = (nI c, mk b w3) ∧ frQ w2 w3 ∧ (∀ i, i < 6 → w3.1 77 (7 + i) = sv0 i) ∧ ∀ c', c' < c → Hd w goal (VR G sv0 who n m c') = false) _ ?_ (n ^ m) _ ⟨0, w2, Nat.zero_le _, rfl, rfl, sP_refl w2, hsv, fun c' hc' => absurd hc' (Nat.not_lt_zero c')⟩ FU (by unfold FU; omega)
  rintro k s11 ⟨c, w3, hc, rfl, rfl, f3, hs3, hno⟩
  dsimp only
  rw [codes_mk n m (by omega), Option.bind_some]
  rcases Nat.lt_or_ge c (n ^ m) with hcn | hcn
  · have e3 : env w w3 := sP_trans e2 (frQ_env f3)
    obtain ⟨r, g, r1, r2⟩ := reads_any (b := b) (w2 := w3) hG hv hn hn8 hw8 (fun i hi => by rw [f3.2.1 103 rfl]; exact h103 i hi) (c := c) (by omega) (by omega)
    have f4 : frQ w3 (uA w3 101 g) := sP_uA _ _ rfl
    have has4 : ∀ i, i < 6 → (uA w3 101 g).1 77 (48 + i) = sv0 i := fun i hi => by
      show w3.1 77 (48 + i) = _
      rw [f3.1 77 (48 + i) ((by decide : ∀ i, i < 6 → qPI 77 (48 + i) = true) i hi)]
      exact has i hi
    have ext : Hd w goal (VR G sv0 who n m c) = false → ∀ c', c' < c + 1 → Hd w goal (VR G sv0 who n m c') = false := fun q c' hc' => by
      rcases Nat.lt_or_ge c' c with z | z
      · exact hno c' z
      · have : c' = c := by omega
        rw [this]
        exact q
    rw [if_neg (nI_ge hcn (by omega)), rc_12_77, r1, Option.bind_some]
    dsimp only
    rcases r2 with ⟨rfl, hN⟩ | ⟨rfl, hrow⟩
    · right
      rw [if_pos rfl, vl_eq, nI_1]
      exact ⟨_, n ^ m - (c + 1), rfl, by omega, c + 1, _, by omega, rfl, rfl, sP_trans f3 f4, hs3, ext (by rw [hN]; rfl)⟩
    · obtain ⟨w5, l1, l2, l3⟩ := lead_mk (b := b) (w2 := uA w3 101 g) h hG hv hg hn hw8 (sP_trans e3 (frQ_env f4)) hs3 has4 (c := c) (by omega) hrow
      have f5 : frQ w2 w5 := sP_trans (sP_trans f3 f4) (frM_Q l2)
      have e101 : w5.2.1 101 = g := l2.2.1 101 rfl
      rw [if_neg (by decide), rc_12_77, l1, Option.bind_some]
      dsimp only
      cases hH : Hd w goal (VR G sv0 who n m c) with
      | false =>
        right
        rw [if_pos (by decide), vl_eq, nI_1]
        exact ⟨_, n ^ m - (c + 1), rfl, by omega, c + 1, _, by omega, rfl, rfl, f5, l3, ext hH⟩
      | true =>
        left
        rw [if_neg (by decide)]
        refine ⟨.inl (ansR m (fun j => who (c / n ^ (m - 1 - j) % n)) y, mk b w5), ?_, w5, f5, l3, Or.inr ⟨c, hcn, hH, hno, rfl⟩⟩
        unfold ansR
        by_cases q20 : y = 20
        · rw [if_pos q20, if_pos q20]
        · rw [if_neg q20, if_neg q20]
          by_cases qm : nI m ≤ y
          · rw [if_pos qm, if_pos qm]
          · rw [if_neg qm, if_neg qm]
            rcases hy with z | ⟨q, hq, rfl⟩
            · exact absurd z q20
            · have hqm : q < m := by
                rcases Nat.lt_or_ge q m with z | z
                · exact z
                · exact absurd (nI_le z (by omega)) qm
              rw [gR_12_77_54, Option.bind_some, rdN_mk (t := 0) (j := 101) (n := 8) (by decide +kernel) (by decide) b _ (by omega), Option.bind_some, e101, hrow q hqm, nI_clamp (by omega)]
  · left
    have : c = n ^ m := by omega
    subst this
    exact ⟨_, if_pos (Int32.le_refl _), w3, f3, hs3, Or.inl ⟨rfl, hno⟩⟩
theorem byW_mk (h : Rel RLaw w) (hG : Gok b w G) (hv : okSv sv0) {goal : Nat} (hg : goal < 8) (hn8 : n ≤ 8) (hw8 : ∀ i, i < n → who i < 8) {y : Int32} (hy : y = 20 ∨ ∃ q, q < 4 ∧ y = nI q) {w2 : WD} (e2 : env w w2) (h103 : ∀ i, i < n → w2.2.1 103 i = nI (who i)) (hsv : ∀ i, i < 6 → w2.1 77 (7 + i) = sv0 i) (has : ∀ i, i < 6 → w2.1 77 (48 + i) = sv0 i) : ∃ r w3, (lp (fun (s8 : Int32 × HP) => (FX12_min (4 : Int32) (nI n)).bind (fun v10 => if v10 < s8.1 then some (Sum.inl (Sum.inr s8.2)) else (lp (fun (s11 : Int32 × HP) => (FX12_codesFor (nI n) s8.1).bind (fun v14 => if v14 ≤ s11.1 then some (Sum.inl (Sum.inr s11.2)) else (rc [12] s11.2 (b + 77) (FX12_readsRow s11.2 (b + 77) s11.1 (nI n) s8.1)).bind (fun w15 => if w15.1 = 0 then vl (s11.1 + (1 : Int32)) (fun x16 => some (Sum.inr (x16, w15.2))) else (rc [12] w15.2 (b + 77) (FX12_leadsRow w15.2 (b + 77) (nI goal) s8.1)).bind (fun w17 => if w17.1 = 0 then vl (s11.1 + (1 : Int32)) (fun x18 => some (Sum.inr (x18, w17.2))) else if y = (20 : Int32) then some (Sum.inl (Sum.inl (s8.1, w17.2))) else if s8.1 ≤ y then some (Sum.inl (Sum.inl ((-4 : Int32), w17.2))) else (gR [12] 54 w17.2 (b + 77)).bind (fun v19 => (rdN 0 w17.2 v19 y).bind (fun v20 => some (Sum.inl (Sum.inl (v20, w17.2))))))))) FU ((0 : Int32), s8.2)).bind (lk (P := Int32 × HP) (fun r => (Sum.inl (Sum.inl r))) (fun (y12 : HP) => vl (s8.1 + (1 : Int32)) (fun x13 => some (Sum.inr (x13, y12))))))) FU ((0 : Int32), mk b w2)).bind (lk (P := Int32 × HP) (fun r => r) (fun (y9 : HP) => some ((-2 : Int32), y9))) = some (r, mk b w3) ∧ frQ w2 w3 ∧ (∀ i, i < 6 → w3.1 77 (7 + i) = sv0 i) ∧ ((r = -2 ∧ ∀ m, m ≤ min 4 n → ∀ c, c < n ^ m → Hd w goal (VR G sv0 who n m c) = false) ∨ ∃ m c, m ≤ min 4 n ∧ c < n ^ m ∧ Hd w goal (VR G sv0 who n m c) = true ∧ (∀ m', m' < m → ∀ c, c < n ^ m' → Hd w goal (VR G sv0 who n m' c) = false) ∧ (∀ c', c' < c → Hd w goal (VR G sv0 who n m c') = false) ∧ r = ansR m (fun j => who (c / n ^ (m - 1 - j) % n)) y) := by
  have lem := lpb_ex (body := fun (s8 : Int32 × HP) => (FX12_min (4 : Int32) (nI n)).bind (fun v10 => if v10 < s8.1 then some (Sum.inl (Sum.inr s8.2)) else (lp (fun (s11 : Int32 × HP) => (FX12_codesFor (nI n) s8.1).bind (fun v14 => if v14 ≤ s11.1 then some (Sum.inl (Sum.inr s11.2)) else (rc [12] s11.2 (b + 77) (FX12_readsRow s11.2 (b + 77) s11.1 (nI n) s8.1)).bind (fun w15 => if w15.1 = 0 then vl (s11.1 + (1 : Int32)) (fun x16 => some (Sum.inr (x16, w15.2))) else (rc [12] w15.2 (b + 77) (FX12_leadsRow w15.2 (b + 77) (nI goal) s8.1)).bind (fun w17 => if w17.1 = 0 then vl (s11.1 + (1 : Int32)) (fun x18 => some (Sum.inr (x18, w17.2))) else if y = (20 : Int32) then some (Sum.inl (Sum.inl (s8.1, w17.2))) else if s8.1 ≤ y then some (Sum.inl (Sum.inl ((-4 : Int32), w17.2))) else (gR [12] 54 w17.2 (b + 77)).bind (fun v19 => (rdN 0 w17.2 v19 y).bind (fun v20 => some (Sum.inl (Sum.inl (v20, w17.2))))))))) FU ((0 : Int32), s8.2)).bind (lk (P := Int32 × HP) (fun r => (Sum.inl (Sum.inl r))) (fun (y12 : HP) => vl (s8.1 + (1 : Int32)) (fun x13 => some (Sum.inr (x13, y12)))))))
    (kf := lk (P := Int32 × HP) (fun r => r) (fun (y9 : HP) => some ((-2 : Int32), y9))) (N := FU) (s0 := ((0 : Int32), mk b w2))
    (fun k s8 => ∃ m w3, m ≤ min 4 n + 1 ∧ k = min 4 n + 1 - m ∧ s8 = (nI m, mk b w3) ∧ frQ w2 w3 ∧ (∀ i, i < 6 → w3.1 77 (7 + i) = sv0 i) ∧ ∀ m', m' < m → ∀ c, c < n ^ m' → Hd w goal (VR G sv0 who n m' c) = false)
    (fun x => ∃ w3, frQ w2 w3 ∧ (∀ i, i < 6 → w3.1 77 (7 + i) = sv0 i) ∧ ((x = .inr (mk b w3) ∧ ∀ m, m ≤ min 4 n → ∀ c, c < n ^ m → Hd w goal (VR G sv0 who n m c) = false) ∨ ∃ m c, m ≤ min 4 n ∧ c < n ^ m ∧ Hd w goal (VR G sv0 who n m c) = true ∧ (∀ m', m' < m → ∀ c, c < n ^ m' → Hd w goal (VR G sv0 who n m' c) = false) ∧ (∀ c', c' < c → Hd w goal (VR G sv0 who n m c') = false) ∧ x = .inl (ansR m (fun j => who (c / n ^ (m - 1 - j) % n)) y, mk b w3)))
    (fun z => ∃ w3, z.2 = mk b w3 ∧ frQ w2 w3 ∧ (∀ i, i < 6 → w3.1 77 (7 + i) = sv0 i) ∧ ((z.1 = -2 ∧ ∀ m, m ≤ min 4 n → ∀ c, c < n ^ m → Hd w goal (VR G sv0 who n m c) = false) ∨ ∃ m c, m ≤ min 4 n ∧ c < n ^ m ∧ Hd w goal (VR G sv0 who n m c) = true ∧ (∀ m', m' < m → ∀ c, c < n ^ m' → Hd w goal (VR G sv0 who n m' c) = false) ∧ (∀ c', c' < c → Hd w goal (VR G sv0 who n m c') = false) ∧ z.1 = ansR m (fun j => who (c / n ^ (m - 1 - j) % n)) y))
    (min 4 n + 1) (by unfold FU; omega) ⟨0, w2, Nat.zero_le _, rfl, rfl, sP_refl w2, hsv, fun m' hm' => absurd hm' (Nat.not_lt_zero m')⟩ ?_ ?_
  · obtain ⟨z, q1, w3, q2, q3, q4, q5⟩ := lem
    exact ⟨z.1, w3, by rw [← q2]; exact q1, q3, q4, q5⟩
  · rintro k s8 ⟨m, w3, hm, rfl, rfl, f3, hs3, hno⟩
    dsimp only
    have emin : FX12_min (4 : Int32) (nI n) = some (nI (min 4 n)) := by rw [mn_min, fa_lit 4, mn_nI (by decide) (by omega)]
    rw [emin, Option.bind_some]
    rcases Nat.lt_or_ge (min 4 n) m with hlt | hge
    · left
      exact ⟨_, if_pos (nI_lt hlt (by omega)), w3, f3, hs3, Or.inl ⟨rfl, fun m' hm' => hno m' (by omega)⟩⟩
    · obtain ⟨x, l1, w4, l2, l3, l4⟩ := codeL_mk (b := b) (w2 := w3) (who := who) (n := n) (sv0 := sv0) h hG hv hg (m := m) (by omega) (by omega) hn8 hw8 hy (sP_trans e2 (frQ_env f3)) (fun i hi => by rw [f3.2.1 103 rfl]; exact h103 i hi) hs3 (fun i hi => by
        rw [f3.1 77 (48 + i) ((by decide : ∀ i, i < 6 → qPI 77 (48 + i) = true) i hi)]
        exact has i hi)
      rw [if_neg (nI_nlt hge (by omega)), l1, Option.bind_some]
      rcases l4 with ⟨rfl, l4⟩ | ⟨c, c1, c2, c3, rfl⟩
      · right
        refine ⟨(nI (m + 1), mk b w4), min 4 n + 1 - (m + 1), ?_, by omega, m + 1, w4, by omega, rfl, rfl, sP_trans f3 l2, l3, fun m' hm' => ?_⟩
        · show some (Sum.inr (nI m + (1 : Int32), mk b w4)) = _
          rw [nI_1]
        · rcases Nat.lt_or_ge m' m with z | z
          · exact hno m' z
          · have : m' = m := by omega
            rw [this]
            exact l4
      · left
        exact ⟨_, rfl, w4, sP_trans f3 l2, l3, Or.inr ⟨m, c, hge, c1, c2, hno, c3, rfl⟩⟩
  · rintro x ⟨w3, f3, hs3, ⟨rfl, h1⟩ | ⟨m, c, h1, h2, h3, h4, h5, rfl⟩⟩
    · exact ⟨_, rfl, w3, rfl, f3, hs3, Or.inl ⟨rfl, h1⟩⟩
    · exact ⟨_, rfl, w3, rfl, f3, hs3, Or.inr ⟨m, c, h1, h2, h3, h4, h5, rfl⟩⟩
theorem op_byWishes (h : Rel RLaw w) (x y : Int32) : OP RLaw b w (fun hp => FX11_byWishes hp (b + 0) x y) (fun hp => FX12_byWishes hp (b + 77) x y) := by
  rcases case_ix x 8 with ⟨k, hk, rfl⟩ | e
  · cases hb : bt (w.1 77 5) k with
    | false =>
      refine ⟨-1, w, w, ?_, ?_, h⟩
      · try dsimp only
        unfold FX11_byWishes
        rw [gR_11_0_2, Option.bind_some, rc_0_5, wish_f h hk hb, Option.bind_some, if_pos rfl]
      · try dsimp only
        unfold FX12_byWishes
        rw [rc_12_77, isWish_f hk hb, Option.bind_some, if_pos rfl]
    | true =>
      by_cases hy : y = 20 ∨ ∃ q, q < 4 ∧ y = nI q
      · obtain ⟨hv, h77⟩ := now_ok h
        obtain ⟨G, hG⟩ := G_ex (b := b) h
        have toE : ∀ {a c : WD}, sim a c → env a c := fun q => sP_mono q (fun j k z => (Bool.and_eq_true_iff.mp (Bool.and_eq_true_iff.mp z).1).1) (fun _ z => z) (fun _ z => z)
        obtain ⟨X, hX⟩ : ∃ X, X = (w.1 77 5 &&& (w.1 68 4 ^^^ (-1 : Int32))) &&& (((1 : Int32) <<< (nI k &&& 31)) ^^^ (-1 : Int32)) := ⟨_, rfl⟩
        have hp : ∀ i, i < 8 → bt X i = (bt (w.1 77 5) i && !bt (w.1 68 4) i && !decide (i = k)) := fun i hi => by
          rw [hX, b_and, b_and, bt_not _ (by omega), bt_not _ (by omega), bt_pow k (by omega) i (by omega)]
        obtain ⟨who, hwho⟩ := who_ex (fun k => bt X k)
        obtain ⟨n, hpn⟩ : ∃ n, fb_ct (fun k => bt X k) 8 = n := ⟨_, rfl⟩
        have hn8 : n ≤ 8 := by rw [← hpn]; exact fb_ct_le _ 8
        have hw8 : ∀ i, i < n → who i < 8 := fun i hi => (hwho.2 i (by omega)).1
        obtain ⟨r, w2, o1, o2, o3⟩ := reach_mk (b := b) (p := fun k => bt X k) h hG hk hp hpn hwho
        have h77' : ∀ i, i < 6 → w2.1 77 (7 + i) = w.1 68 i := fun i hi => (o2.1 77 (7 + i) ((by decide : ∀ i, i < 6 → eI 77 (7 + i) = true) i hi)).trans (h77 i hi)
        obtain ⟨g, k1, k2⟩ := who_mk (b := b) (x := X) (who := who) hwho w2
        rw [hpn] at k1 k2
        have s3 : sim w2 (asW (uA w2 103 g)) := sP_trans (sP_uA w2 g rfl) (asW_s _)
        have hsv3 : ∀ i, i < 6 → (asW (uA w2 103 g)).1 77 (7 + i) = w.1 68 i := fun i hi => by
          rw [s3.1 77 (7 + i) ((by decide : ∀ i, i < 6 → eI 77 (7 + i) = true) i hi)]
          exact h77' i hi
        have has3 : ∀ i, i < 6 → (asW (uA w2 103 g)).1 77 (48 + i) = w.1 68 i := fun i hi => by
          rw [asW_at _ i hi]
          exact h77' i hi
        obtain ⟨r', w4, b1, b2, b3, b4⟩ := byW_mk (b := b) (who := who) (n := n) (w2 := asW (uA w2 103 g)) h hG hv hk hn8 hw8 hy (sP_trans (toE o2) (toE s3)) k2 hsv3 has3
        have hR : Rel RLaw w4 := Rel_sim RLaw_LOK h (sP_trans (sP_trans o2 s3) (sim_q b2 hsv3 b3))
        have cls : ∀ z, (if 0 ≤ r then (if y = 20 then some r else if r ≤ y then some (-4) else rdN 0 (mk b w2) (b + 42) y) else some (-2)) = some z → FX11_byWishes (mk b w) (b + 0) (nI k) y = some (z, mk b w2) := by
          intro z hz
          have inner : (rc [5] (mk b w) (b + 34) (FX5_reach (mk b w) (b + 34) (b + 68) (nI k))).bind (fun w7 => if 0 ≤ w7.1 then if y = (20 : Int32) then some (w7.1, w7.2) else if w7.1 ≤ y then some ((-4 : Int32), w7.2) else (gR [11] 9 w7.2 (b + 0)).bind (fun v8 => (gR [5] 7 w7.2 v8).bind (fun v9 => (rdN 0 w7.2 v9 y).bind (fun v10 => some (v10, w7.2)))) else some ((-2 : Int32), w7.2)) = some (z, mk b w2) := by
            rw [rc_5_34, o1, Option.bind_some]
            dsimp only
            by_cases q : 0 ≤ r
            · rw [if_pos q] at hz ⊢
              by_cases q2 : y = 20
              · rw [if_pos q2] at hz ⊢
                rw [Option.some.inj hz]
              · rw [if_neg q2] at hz ⊢
                by_cases q3 : r ≤ y
                · rw [if_pos q3] at hz ⊢
                  rw [Option.some.inj hz]
                · rw [if_neg q3] at hz ⊢
                  rw [gR_11_0_9, Option.bind_some, gR_5_34_7, Option.bind_some, hz, Option.bind_some]
            · rw [if_neg q] at hz ⊢
              rw [Option.some.inj hz]
          unfold FX11_byWishes
          rw [gR_11_0_2, Option.bind_some, rc_0_5, wish_t h hk hb, Option.bind_some, if_neg (by decide), jn_eq]
          have J : (gR [11] 9 (mk b w) (b + 0)).bind (fun v5 => (gR [11] 12 (mk b w) (b + 0)).bind (fun v6 => (rc [5] (mk b w) v5 (FX5_reach (mk b w) v5 v6 (nI k))).bind (fun w7 => if 0 ≤ w7.1 then if y = (20 : Int32) then some (w7.1, w7.2) else if w7.1 ≤ y then some ((-4 : Int32), w7.2) else (gR [11] 9 w7.2 (b + 0)).bind (fun v8 => (gR [5] 7 w7.2 v8).bind (fun v9 => (rdN 0 w7.2 v9 y).bind (fun v10 => some (v10, w7.2)))) else some ((-2 : Int32), w7.2)))) = some (z, mk b w2) := bS (gR_11_0_9 b w) (bS (gR_11_0_12 b w) inner)
          rcases hy with q | ⟨q, hq, rfl⟩
          · rw [if_pos q]
            exact J
          · by_cases q20 : nI q = 20
            · rw [if_pos q20]
              exact J
            · rw [if_neg q20, if_neg (nI_pos (by omega)), if_pos (show nI q < (4 : Int32) from nI_lt (a := q) (b := 4) hq (by decide))]
              exact J
        have ref : FX12_byWishes (mk b w2) (b + 77) (nI k) y = some (r', mk b w4) := by
          unfold FX12_byWishes
          have e5 : w2.1 77 5 = w.1 77 5 := o2.1 77 5 rfl
          have e11 : w2.1 77 11 = w.1 68 4 := h77' 4 (by decide)
          rw [rc_12_77, isWish_t hk (by rw [e5]; exact hb), Option.bind_some, if_neg (by decide), jn_eq]
          dsimp only
          rw [gI_12_77_5, Option.bind_some, gI_12_77_11, Option.bind_some, e5, e11, ← hX, rc_12_77, k1, Option.bind_some]
          dsimp only
          rw [rc_12_77, aside_mk, Option.bind_some, b1]
          rcases hy with q | ⟨q, hq, rfl⟩
          · rw [if_pos q]
          · by_cases q20 : nI q = 20
            · rw [if_pos q20]
            · rw [if_neg q20, in_yes (a := 0) (c := 3) (Nat.zero_le q) (by omega), Option.bind_some, if_neg (by decide)]
        rcases o3 with ⟨rfl, o3⟩ | ⟨m, c, m1, rfl, m2, m3, m4, m5, m6⟩
        · rcases b4 with ⟨rfl, b4⟩ | ⟨m', c', n1, n2, n3, n4, n5, rfl⟩
          · exact ⟨-2, w2, w4, cls _ (by rw [if_neg (by decide)]), ref, hR⟩
          · have := o3 m' (by omega) c' n2
            rw [this] at n3
            cases n3
        · have hmn : m ≤ n := by
            rcases Nat.lt_or_ge n m with z | z
            · rcases Nat.eq_zero_or_pos n with z0 | z0
              · rw [z0, Nat.zero_pow (by omega)] at m2
                omega
              · rw [V_short hG hv z0 hw8 z c] at m3
                cases m3
            · exact z
          rcases b4 with ⟨rfl, b4⟩ | ⟨m', c', n1, n2, n3, n4, n5, rfl⟩
          · rw [b4 m (by omega) c m2] at m3
            cases m3
          · have em : m = m' := by
              rcases Nat.lt_trichotomy m m' with z | z | z
              · rw [n4 m z c m2] at m3; cases m3
              · exact z
              · rw [m4 m' z c' n2] at n3; cases n3
            subst em
            have ec : c = c' := by
              rcases Nat.lt_trichotomy c c' with z | z | z
              · rw [n5 c z] at m3; cases m3
              · exact z
              · rw [m5 c' z] at n3; cases n3
            subst ec
            refine ⟨_, w2, w4, cls (ansR m (fun j => who (c / n ^ (m - 1 - j) % n)) y) ?_, ref, hR⟩
            rw [if_pos (nI_pos' (by omega))]
            unfold ansR
            by_cases q20 : y = 20
            · rw [if_pos q20, if_pos q20]
            · rw [if_neg q20, if_neg q20]
              by_cases qm : nI m ≤ y
              · rw [if_pos qm, if_pos qm]
              · rw [if_neg qm, if_neg qm]
                rcases hy with z | ⟨q, hq, rfl⟩
                · exact absurd z q20
                · have hqm : q < m := by
                    rcases Nat.lt_or_ge q m with z | z
                    · exact z
                    · exact absurd (nI_le z (by omega)) qm
                  rw [rdN_mk (t := 0) (j := 42) (n := 5) (by decide +kernel) (by decide) b _ (by omega), m6 q hqm, nI_clamp (by omega)]
      · have h20 : ¬ y = 20 := fun q => hy (Or.inl q)
        have hno : ¬ ∃ q, q < 4 ∧ y = nI q := fun q => hy (Or.inr q)
        refine ⟨-1, w, w, ?_, ?_, h⟩
        · try dsimp only
          unfold FX11_byWishes
          rw [gR_11_0_2, Option.bind_some, rc_0_5, wish_t h hk hb, Option.bind_some, if_neg (by decide), jn_eq, if_neg h20]
          rcases ix_out (n := 4) (by decide) hno with q | ⟨q0, q⟩
          · rw [if_pos q]
          · rw [if_neg q0, if_neg]
            intro z
            exact (fa_of_lt z).2.1 q
        · try dsimp only
          unfold FX12_byWishes
          rw [rc_12_77, isWish_t hk hb, Option.bind_some, if_neg (by decide), jn_eq, if_neg h20, in_n hno, Option.bind_some, if_pos rfl]
  · refine ⟨-1, w, w, ?_, ?_, h⟩
    · try dsimp only
      unfold FX11_byWishes
      rw [gR_11_0_2, Option.bind_some, rc_0_5, book_no e, Option.bind_some, if_pos rfl]
    · try dsimp only
      unfold FX12_byWishes
      rw [rc_12_77, isWish_no e, Option.bind_some, if_pos rfl]
end
