/-! by which few wishes: both sides -/
section
variable {b : Nat} {w : WD} {G : TG} {who : Nat → Nat} {n : Nat} {p : Nat → Bool}
theorem reach_mk (h : Rel RLaw w) (hG : Gok b w G) {goal : Nat} (hg : goal < 8) (hp : ∀ k, k < 8 → p k = (bt (w.1 77 5) k && !bt (w.1 68 4) k && !decide (k = goal))) (hpn : fb_ct p 8 = n) (hwho : whoOk p who) : ∃ r w2, FX5_reach (mk b w) (b + 34) (b + 68) (nI goal) = some (r, mk b w2) ∧ sim w w2 ∧ ((r = -1 ∧ ∀ m, m ≤ 4 → ∀ c, c < n ^ m → Hd w goal (VR G (w.1 68) who n m c) = false) ∨ ∃ m c, m ≤ 4 ∧ r = nI m ∧ c < n ^ m ∧ Hd w goal (VR G (w.1 68) who n m c) = true ∧ (∀ m', m' < m → ∀ c, c < n ^ m' → Hd w goal (VR G (w.1 68) who n m' c) = false) ∧ (∀ c', c' < c → Hd w goal (VR G (w.1 68) who n m c') = false) ∧ ∀ j, j < m → w2.2.1 42 j = nI (who (c / n ^ (m - 1 - j) % n))) := by
  obtain ⟨hv, h77⟩ := now_ok h
  obtain ⟨w3, t1, t2, t3, t4⟩ := take_mk (b := b) (w := w) (i := 45) (j := 68) (Or.inr ⟨by decide, by decide⟩) (Or.inl rfl) (by decide) hv.2.2.2.1
  have s3 : sim w w3 := by
    refine ⟨fun j k q => t3 j (fun e => ?_) k, fun j _ => by rw [t4], fun j _ => by rw [t4], by rw [t4]⟩
    subst e
    cases q
  have toE : ∀ {a c : WD}, sim a c → env a c := fun q => sP_mono q (fun j k z => (Bool.and_eq_true_iff.mp (Bool.and_eq_true_iff.mp z).1).1) (fun _ z => z) (fun _ z => z)
  unfold FX5_reach
  have pre : ∀ {Y : Type} (f : HP → Option Y), (gR [5] 12 (mk b w) (b + 34)).bind (fun v1 => (rdA 5 (mk b w) v1 (0 : Int32)).bind (fun v2 => (rc [6] (mk b w) v2 (FX6_take (mk b w) v2 (b + 68))).bind (fun w3 => f w3))) = f (mk b w3) := fun f => by
    refine bS (gR_5_34_12 b _) ?_
    refine bS (rdA_mk (t := 5) (j := 44) (n := 6) (by decide +kernel) (by decide) b _ (i := 0) (by decide)) ?_
    rw [show b + (44 + 1 + 0) = b + 45 from rfl, rc_mk (okStO (Or.inr ⟨by decide, by decide⟩))]
    exact bS t1 rfl
  rw [pre]
  have lem := lpb_ex (body := fun (s4 : Int32 × HP) => if (4 : Int32) < s4.1 then some (Sum.inl (Sum.inr s4.2)) else (rc [5] s4.2 (b + 34) (FX5_reachOn 8 s4.2 (b + 34) (nI goal) (0 : Int32) s4.1)).bind (fun w6 => if w6.1 = 0 then vl (s4.1 + (1 : Int32)) (fun x7 => some (Sum.inr (x7, w6.2))) else some (Sum.inl (Sum.inl (s4.1, w6.2)))))
    (kf := lk (P := Int32 × HP) (fun r => r) (fun (y5 : HP) => some ((-1 : Int32), y5))) (N := FU) (s0 := ((0 : Int32), mk b w3))
    (fun q s4 => ∃ m w4, m ≤ 5 ∧ q = 5 - m ∧ s4 = (nI m, mk b w4) ∧ frO 0 w3 w4 ∧ ∀ m', m' < m → ∀ c, c < n ^ m' → Hd w goal (VR G (w.1 68) who n m' c) = false)
    (fun x => ∃ w4, frO 0 w3 w4 ∧ ((x = .inr (mk b w4) ∧ ∀ m, m ≤ 4 → ∀ c, c < n ^ m → Hd w goal (VR G (w.1 68) who n m c) = false) ∨ ∃ m c, m ≤ 4 ∧ x = .inl (nI m, mk b w4) ∧ c < n ^ m ∧ Hd w goal (VR G (w.1 68) who n m c) = true ∧ (∀ m', m' < m → ∀ c, c < n ^ m' → Hd w goal (VR G (w.1 68) who n m' c) = false) ∧ (∀ c', c' < c → Hd w goal (VR G (w.1 68) who n m c') = false) ∧ ∀ j, j < m → w4.2.1 42 j = nI (who (c / n ^ (m - 1 - j) % n))))
    (fun z => ∃ w4, z.2 = mk b w4 ∧ frO 0 w3 w4 ∧ ((z.1 = -1 ∧ ∀ m, m ≤ 4 → ∀ c, c < n ^ m → Hd w goal (VR G (w.1 68) who n m c) = false) ∨ ∃ m c, m ≤ 4 ∧ z.1 = nI m ∧ c < n ^ m ∧ Hd w goal (VR G (w.1 68) who n m c) = true ∧ (∀ m', m' < m → ∀ c, c < n ^ m' → Hd w goal (VR G (w.1 68) who n m' c) = false) ∧ (∀ c', c' < c → Hd w goal (VR G (w.1 68) who n m c') = false) ∧ ∀ j, j < m → w4.2.1 42 j = nI (who (c / n ^ (m - 1 - j) % n))))
    5 (by decide) ⟨0, w3, by decide, rfl, rfl, sP_refl w3, fun m' hm' => absurd hm' (Nat.not_lt_zero m')⟩ ?_ ?_
  · obtain ⟨z, q1, w4, q2, q3, q4⟩ := lem
    exact ⟨z.1, w4, by rw [← q2]; exact q1, sP_trans s3 (sP_mono q3 (eI_g 0) eA_g (fun _ _ => rfl)), q4⟩
  · rintro q s4 ⟨m, w4, hm, rfl, rfl, f4, hno⟩
    dsimp only
    rcases Nat.lt_or_ge 4 m with hm5 | hm4
    · left
      refine ⟨_, if_pos (show (4 : Int32) < nI m from nI_lt (a := 4) hm5 (by omega)), w4, f4, Or.inl ⟨rfl, fun m' hm' => hno m' (by omega)⟩⟩
    · have ht : ∀ i, i < 6 → w4.1 (45 + 0) i = w.1 68 i := fun i hi => by
        rw [f4.1 45 i ((by decide : ∀ i, i < 6 → gPI 0 45 i = true) i hi)]
        exact t2 i hi
      obtain ⟨r, w5, c1, c2, _, c4⟩ := rch_mk (b := b) (p := p) h hG hv hg hp hpn hwho (m := m) hm4 m 0 0 8 w4 0 (w.1 68) (Nat.zero_add m) (by omega) (sP_trans (toE s3) (frO_env f4)) rfl hv (fun _ _ q => q) ht (fun j hj => absurd hj (Nat.not_lt_zero j))
      rw [if_neg (show ¬ (4 : Int32) < nI m from nI_nlt (a := 4) hm4 (by decide)), rc_5_34]
      have c1' : FX5_reachOn 8 (mk b w4) (b + 34) (nI goal) 0 (nI m) = some (r, mk b w5) := c1
      rw [c1', Option.bind_some]
      dsimp only
      rcases c4 with ⟨rfl, c4⟩ | ⟨rfl, c, d1, d2, d3, d4, d5⟩
      · right
        rw [if_pos rfl, vl_eq, nI_1]
        refine ⟨_, 5 - (m + 1), rfl, by omega, m + 1, w5, by omega, rfl, rfl, sP_trans f4 c2, fun m' hm' c hc => ?_⟩
        rcases Nat.lt_or_ge m' m with z | z
        · exact hno m' z c hc
        · have : m' = m := by omega
          subst this
          exact c4 c (by rw [Nat.zero_mul]; exact Nat.zero_le _) (by rw [Nat.zero_add, Nat.one_mul]; exact hc)
      · left
        rw [if_neg (by decide)]
        rw [Nat.zero_add, Nat.one_mul] at d2
        exact ⟨_, rfl, w5, sP_trans f4 c2, Or.inr ⟨m, c, hm4, rfl, d2, d3, hno, fun c' hc' => d4 c' (by rw [Nat.zero_mul]; exact Nat.zero_le _) hc', d5⟩⟩
  · rintro x ⟨w4, f4, ⟨rfl, h1⟩ | ⟨m, c, h1, rfl, h2⟩⟩
    · exact ⟨_, rfl, w4, rfl, f4, Or.inl ⟨rfl, h1⟩⟩
    · exact ⟨_, rfl, w4, rfl, f4, Or.inr ⟨m, c, h1, rfl, h2⟩⟩
variable {sv0 : SV}
theorem reads_any (hG : Gok b w G) (hv : okSv sv0) {m : Nat} (hn : 0 < n ∨ m = 0) (hn8 : n ≤ 8) (hw8 : ∀ i, i < n → who i < 8) {w2 : WD} (h103 : ∀ i, i < n → w2.2.1 103 i = nI (who i)) {c : Nat} (hc : c < 100000) (hm : m ≤ 8) : ∃ r g, FX12_readsRow (mk b w2) (b + 77) (nI c) (nI n) (nI m) = some (r, mk b (uA w2 101 g)) ∧ ((r = 0 ∧ VR G sv0 who n m c = none) ∨ (r = 1 ∧ ∀ j, j < m → g j = nI (who (c / n ^ (m - 1 - j) % n)))) := by
  rcases hn with hn | rfl
  · exact reads_mk hG hv hn hn8 hw8 h103 hc hm
  · refine ⟨1, w2.2.1 101, ?_, Or.inr ⟨rfl, fun j hj => absurd hj (Nat.not_lt_zero j)⟩⟩
    rw [uA_self]
    unfold FX12_readsRow
    rw [vl_eq, show FU = 999999 + 1 from rfl, lp_out (x := Sum.inr (mk b w2)) (by dsimp only; rw [if_pos (by decide)])]
    rfl
theorem grRow_any (hG : Gok b w G) (hv : okSv sv0) {m : Nat} (hn : 0 < n ∨ m = 0) (hw8 : ∀ i, i < n → who i < 8) {w2 : WD} (e2 : env w w2) (hsv : ∀ i, i < 6 → w2.1 77 (7 + i) = sv0 i) {c : Nat} (hm : m ≤ 8) (hrow : ∀ j, j < m → w2.2.1 101 j = nI (who (c / n ^ (m - 1 - j) % n))) : ∃ r w3, FX12_grantsRow (mk b w2) (b + 77) (nI m) = some (r, mk b w3) ∧ frM w2 w3 ∧ ((r = -1 ∧ VR G sv0 who n m c = none) ∨ ∃ z, VR G sv0 who n m c = some z ∧ okSv z.2 ∧ z.1 < 10000 ∧ r = nI z.1 ∧ ∀ i, i < 6 → w3.1 77 (7 + i) = z.2 i) := by
  rcases hn with hn | rfl
  · obtain ⟨r, w3, g1, g2, g3⟩ := grRow_mk (b := b) hG hv hn hw8 e2 hsv hm hrow
    refine ⟨r, w3, g1, g2, ?_⟩
    rcases g3 with g3 | ⟨z, h1, h2, h3⟩
    · exact Or.inl g3
    · obtain ⟨i1, i2, _, _⟩ := V_ok hG hv hn hw8 m c z h1
      exact Or.inr ⟨z, h1, i1, by omega, h2, h3⟩
  · refine ⟨0, w2, ?_, sP_refl w2, Or.inr ⟨(0, sv0), rfl, hv, (show (0 : Nat) < 10000 by decide), rfl, hsv⟩⟩
    unfold FX12_grantsRow
    rw [show FU = 999999 + 1 from rfl, lp_out (x := Sum.inr ((0 : Int32), mk b w2)) (by dsimp only; rw [if_pos (by decide)])]
    rfl
theorem lead_mk (h : Rel RLaw w) (hG : Gok b w G) (hv : okSv sv0) {goal : Nat} (hg : goal < 8) {m : Nat} (hn : 0 < n ∨ m = 0) (hw8 : ∀ i, i < n → who i < 8) {w2 : WD} (e2 : env w w2) (hsv : ∀ i, i < 6 → w2.1 77 (7 + i) = sv0 i) (has : ∀ i, i < 6 → w2.1 77 (48 + i) = sv0 i) {c : Nat} (hm : m ≤ 8) (hrow : ∀ j, j < m → w2.2.1 101 j = nI (who (c / n ^ (m - 1 - j) % n))) : ∃ w4, FX12_leadsRow (mk b w2) (b + 77) (nI goal) (nI m) = some (if Hd w goal (VR G sv0 who n m c) then 1 else 0, mk b w4) ∧ frM w2 w4 ∧ ∀ i, i < 6 → w4.1 77 (7 + i) = sv0 i := by
  obtain ⟨r, w3, g1, g2, g3⟩ := grRow_any (b := b) hG hv hn hw8 e2 hsv hm hrow
  have hb : ∀ i, i < 6 → (bkW w3).1 77 (7 + i) = sv0 i := fun i hi => by
    rw [bkW_at w3 i hi, g2.1 77 (48 + i) ((by decide : ∀ i, i < 6 → mPI 77 (48 + i) = true) i hi)]
    exact has i hi
  refine ⟨bkW w3, ?_, sP_trans g2 (bkW_f w3), hb⟩
  unfold FX12_leadsRow
  rw [rc_12_77, g1, Option.bind_some, jn_eq]
  dsimp only
  rw [rc_12_77, back_mk]
  have e79 : w3.2.1 79 = w.2.1 79 := (g2.2.1 79 rfl).trans (e2.2.1 79 rfl)
  rcases g3 with ⟨rfl, hno⟩ | ⟨z, hz, hzv, hz9, rfl, hz3⟩
  · rw [if_pos rfl, hno, Option.bind_some]
    rfl
  · obtain ⟨st, hst, est⟩ := hzv.1
    have e7 : w3.1 77 7 = nI st := (hz3 0 (by decide)).trans est
    have eH : Hd w goal (VR G sv0 who n m c) = WT w3 goal st := by
      rw [hz]
      show WT w goal (dyN (z.2 0)) = _
      rw [est, dyN_nI (by omega)]
      unfold WT
      rw [e79]
    rw [if_neg (nI_nm1 (by omega)), gI_12_77_7, Option.bind_some, rc_12_77, e7, holds_mk (by rw [e79]; exact h.b79) hg hst, Option.bind_some, eH, Option.bind_some, Option.bind_some]
    cases WT w3 goal st <;> rfl
end
