/-! in which order to wish -/
theorem eI_g (d j k : Nat) (h : eI j k = true) : gPI d j k = true := by
  unfold gPI hPI
  rw [eI_f j k h, Bool.true_and]
  have h1 : (decide (45 + d < j) && decide (j ≤ 50)) = false := by
    by_cases e : 45 ≤ j ∧ j ≤ 50
    · have hj : j = 45 ∨ j = 46 ∨ j = 47 ∨ j = 48 ∨ j = 49 ∨ j = 50 := by omega
      rcases hj with rfl | rfl | rfl | rfl | rfl | rfl <;> cases h
    · rw [Bool.and_eq_false_iff, decide_eq_false_iff_not, decide_eq_false_iff_not]
      omega
  rw [h1]
  by_cases e : j = 34
  · subst e; cases h
  · rw [beq_eq_false_iff_ne.mpr e]
    rfl
section
variable {b : Nat} {w : WD} {G : TG} {who : Nat → Nat} {n : Nat}
theorem order_mk (h : Rel RLaw w) (hG : Gok b w G) {m : Nat} (hm : m < 256) (hpn : fb_ct (fun k => m.testBit k) 8 = n) (hn : 0 < n) (hn5 : n ≤ 5) (hwho : whoOk (fun k => m.testBit k) who) : ∃ r w2, FX5_order (mk b w) (b + 34) (b + 68) (nI m) = some (r, mk b w2) ∧ sim w w2 ∧ BS w2 who n (bst (VR G (w.1 68) who n n) (n ^ n)) ∧ r = (if w2.1 34 6 = 1000000000 then 0 else 1) := by
  obtain ⟨hv, h77⟩ := now_ok h
  have s1 : sim w (uI w 34 6 1000000000) := sP_uI w _ rfl
  obtain ⟨w3, t1, t2, t3, t4⟩ := take_mk (b := b) (w := uI w 34 6 1000000000) (i := 45) (j := 68) (Or.inr ⟨by decide, by decide⟩) (Or.inl rfl) (by decide) hv.2.2.2.1
  have s3 : sim (uI w 34 6 1000000000) w3 := by
    refine ⟨fun j k q => t3 j (fun e => ?_) k, fun j _ => by rw [t4], fun j _ => by rw [t4], by rw [t4]⟩
    subst e
    cases q
  have s13 : sim w w3 := sP_trans s1 s3
  have toE : ∀ {a c : WD}, sim a c → env a c := fun q => sP_mono q (fun j k z => (Bool.and_eq_true_iff.mp (Bool.and_eq_true_iff.mp z).1).1) (fun _ z => z) (fun _ z => z)
  have h34 : w3.1 34 6 = 1000000000 := t3 34 (by decide) 6
  obtain ⟨w4, o1, o2, o3, o4⟩ := ord_mk (b := b) (p := fun k => m.testBit k) hG hv hn5 hpn hwho n 0 0 8 w3 m 0 (w.1 68) (Nat.zero_add n) hn (by omega) (toE s13) rfl (fun i hi => t2 i hi) (fun j hj => absurd hj (Nat.not_lt_zero j)) hm (fun k hk => by show m.testBit k = (m.testBit k && true); rw [Bool.and_true]) (by rw [hpn]; rfl) (by rw [Nat.zero_mul]; exact h34) (fun y hy => by rw [Nat.zero_mul] at hy; cases hy)
  rw [Nat.zero_add, Nat.one_mul] at o4
  refine ⟨_, w4, ?_, sP_trans s13 (sP_mono o2 (eI_g 0) eA_g (fun _ _ => rfl)), o4, rfl⟩
  unfold FX5_order
  refine bS (sI_5_34_6 b _ _) ?_
  refine bS (gR_5_34_12 b _) ?_
  refine bS (rdA_mk (t := 5) (j := 44) (n := 6) (by decide +kernel) (by decide) b _ (i := 0) (by decide)) ?_
  rw [show b + (44 + 1 + 0) = b + 45 from rfl, rc_mk (okStO (Or.inr ⟨by decide, by decide⟩))]
  refine bS t1 ?_
  rw [rc_5_34]
  refine bS (a := mk b w4) o1 ?_
  refine bS (gI_5_34_6 b _) ?_
  split <;> rfl
def BM (w1 : WD) (least : Int32) (who : Nat → Nat) (n : Nat) (o : Option (Nat × Nat)) : Prop := match o with
  | none => least = 1000000
  | some y => least = nI y.1 ∧ y.1 < 10000 ∧ ∀ j, j < n → w1.2.1 102 j = nI (who (y.2 / n ^ (n - 1 - j) % n))
theorem BM_of {w1 w2 : WD} {l : Int32} {who : Nat → Nat} {n : Nat} {o : Option (Nat × Nat)} (h : BM w1 l who n o) (h2 : w2.2.1 102 = w1.2.1 102) : BM w2 l who n o := by
  cases o with
  | none => exact h
  | some y => exact ⟨h.1, h.2.1, fun j hj => by rw [h2]; exact h.2.2 j hj⟩
/-- what the reference's search leaves alone -/
def nPI (j k : Nat) : Bool := tPI j k && !(j == 77 && (decide (48 ≤ k) && decide (k ≤ 53)))
def nPA (j : Nat) : Bool := tPA j && !(j == 101 || j == 102 || j == 103)
def qPI (j k : Nat) : Bool := mPI j k
def qPA (j : Nat) : Bool := tPA j && !(j == 101 || j == 102)
theorem eN_q (j k : Nat) (h : eN j k = true) : qPI j k = true := eN_m j k h
theorem eA_q (j : Nat) (h : eA j = true) : qPA j = true := by
  unfold eA at h
  rw [List.contains_iff_mem] at h
  simp only [List.mem_cons, List.not_mem_nil, or_false] at h
  rcases h with h | h | h | h | h | h | h | h | h | h | h | h | h | h | h | h | h | h | h | h | h | h | h | h <;> subst h <;> rfl
abbrev frQ : WD → WD → Prop := simP qPI qPA aL
theorem frQ_env {w w' : WD} (s : frQ w w') : env w w' := sP_mono s eN_q eA_q (fun _ _ => rfl)
theorem frM_Q {w w' : WD} (s : frM w w') : frQ w w' := sP_mono s (fun _ _ q => q) (fun j q => (Bool.and_eq_true_iff.mp q).1) (fun _ q => q)
/-- the loop over all codes -/
theorem best_mk {sv0 : SV} (hG : Gok b w G) (hv : okSv sv0) (hn : 0 < n) (hn5 : n ≤ 5) (hw8 : ∀ i, i < n → who i < 8) {w2 : WD} (e2 : env w w2) (h103 : ∀ i, i < n → w2.2.1 103 i = nI (who i)) (hsv : ∀ i, i < 6 → w2.1 77 (7 + i) = sv0 i) (has : ∀ i, i < 6 → w2.1 77 (48 + i) = sv0 i) : ∃ l w3, (lp (fun (s6 : Int32 × Int32 × HP) => (FX12_codesFor (nI n) (nI n)).bind (fun v10 => if v10 ≤ s6.2.1 then some (Sum.inl (s6.1, s6.2.2)) else (rc [12] s6.2.2 (b + 77) (FX12_readsRow s6.2.2 (b + 77) s6.2.1 (nI n) (nI n))).bind (fun w11 => if w11.1 = 0 then vl (s6.2.1 + (1 : Int32)) (fun x12 => some (Sum.inr (s6.1, x12, w11.2))) else (rc [12] w11.2 (b + 77) (FX12_grantsRow w11.2 (b + 77) (nI n))).bind (fun w13 => (rc [12] w13.2 (b + 77) (FX12_bringsBack w13.2 (b + 77))).bind (fun w14 => if w13.1 = (-1 : Int32) then vl (s6.2.1 + (1 : Int32)) (fun x15 => some (Sum.inr (s6.1, x15, w14))) else if w13.1 < s6.1 then (lp (fun (s16 : Int32 × HP) => if nI n ≤ s16.1 then some (Sum.inl s16.2) else (gR [12] 55 s16.2 (b + 77)).bind (fun v19 => (gR [12] 54 s16.2 (b + 77)).bind (fun v20 => (rdN 0 s16.2 v20 s16.1).bind (fun v21 => (wrI s16.2 v19 s16.1 v21).bind (fun hp22 => vl (s16.1 + (1 : Int32)) (fun x23 => some (Sum.inr (x23, hp22)))))))) FU ((0 : Int32), w14)).bind (fun (y17 : HP) => vl (s6.2.1 + (1 : Int32)) (fun x18 => some (Sum.inr (w13.1, x18, y17)))) else vl (s6.2.1 + (1 : Int32)) (fun x24 => some (Sum.inr (s6.1, x24, w14)))))))) FU ((1000000 : Int32), (0 : Int32), mk b w2)) = some (l, mk b w3) ∧ frQ w2 w3 ∧ (∀ i, i < 6 → w3.1 77 (7 + i) = sv0 i) ∧ BM w3 l who n (bst (VR G sv0 who n n) (n ^ n)) := by
  have hpow : n ^ n ≤ 3125 := by
    have hc : n = 1 ∨ n = 2 ∨ n = 3 ∨ n = 4 ∨ n = 5 := by omega
    rcases hc with rfl | rfl | rfl | rfl | rfl <;> decide
  have lem := lpb_inv (kf := fun (x : Int32 × HP) => some x) (N := FU) (body := fun (s6 : Int32 × Int32 × HP) => (FX12_codesFor (nI n) (nI n)).bind (fun v10 => if v10 ≤ s6.2.1 then some (Sum.inl (s6.1, s6.2.2)) else (rc [12] s6.2.2 (b + 77) (FX12_readsRow s6.2.2 (b + 77) s6.2.1 (nI n) (nI n))).bind (fun w11 => if w11.1 = 0 then vl (s6.2.1 + (1 : Int32)) (fun x12 => some (Sum.inr (s6.1, x12, w11.2))) else (rc [12] w11.2 (b + 77) (FX12_grantsRow w11.2 (b + 77) (nI n))).bind (fun w13 => (rc [12] w13.2 (b + 77) (FX12_bringsBack w13.2 (b + 77))).bind (fun w14 => if w13.1 = (-1 : Int32) then vl (s6.2.1 + (1 : Int32)) (fun x15 => some (Sum.inr (s6.1, x15, w14))) else if w13.1 < s6.1 then (lp (fun (s16 : Int32 × HP) => if nI n ≤ s16.1 then some (Sum.inl s16.2) else (gR [12] 55 s16.2 (b + 77)).bind (fun v19 => (gR [12] 54 s16.2 (b + 77)).bind (fun v20 => (rdN 0 s16.2 v20 s16.1).bind (fun v21 => (wrI s16.2 v19 s16.1 v21).bind (fun hp22 => vl (s16.1 + (1 : Int32)) (fun x23 => some (Sum.inr (x23, hp22)))))))) FU ((0 : Int32), w14)).bind (fun (y17 : HP) => vl (s6.2.1 + (1 : Int32)) (fun x18 => some (Sum.inr (w13.1, x18, y17)))) else vl (s6.2.1 + (1 : Int32)) (fun x24 => some (Sum.inr (s6.1, x24, w14))))))))
    (s0 := ((1000000 : Int32), (0 : Int32), mk b w2))
    (fun c s6 => ∃ l w3, s6 = (l, nI c, mk b w3) ∧ frQ w2 w3 ∧ (∀ i, i < 6 → w3.1 77 (7 + i) = sv0 i) ∧ BM w3 l who n (bst (VR G sv0 who n n) c))
    (fun r => ∃ l w3, r = (l, mk b w3) ∧ frQ w2 w3 ∧ (∀ i, i < 6 → w3.1 77 (7 + i) = sv0 i) ∧ BM w3 l who n (bst (VR G sv0 who n n) (n ^ n))) (n ^ n) (by unfold FU; omega) ⟨_, w2, rfl, sP_refl w2, hsv, rfl⟩ (fun c hc s6 => ?_) (fun s6 => ?_)
  · obtain ⟨r, q1, l, w3, rfl, q2, q3, q4⟩ := lem
    rw [Option.bind_eq_some_iff] at q1
    obtain ⟨x, q5, q6⟩ := q1
    have q6 := Option.some.inj q6
    subst q6
    exact ⟨l, w3, q5, q2, q3, q4⟩
  · rintro ⟨l, w3, rfl, f3, hs3, hB⟩
    dsimp only
    have e3 : env w w3 := sP_trans e2 (frQ_env f3)
    obtain ⟨r, g, r1, r2⟩ := reads_mk (b := b) (w2 := w3) hG hv hn (by omega) hw8 (fun i hi => by rw [f3.2.1 103 rfl]; exact h103 i hi) (c := c) (m := n) (by omega) (by omega)
    have f4 : frQ w3 (uA w3 101 g) := sP_uA _ _ rfl
    have bs : bst (VR G sv0 who n n) (c + 1) = (match VR G sv0 who n n c with
      | none => bst (VR G sv0 who n n) c
      | some z => match bst (VR G sv0 who n n) c with
        | none => some (z.1, c)
        | some y => if z.1 < y.1 then some (z.1, c) else some y) := rfl
    rw [codes_mk n n (by omega), Option.bind_some, if_neg (nI_ge hc (by omega)), rc_12_77, r1, Option.bind_some]
    dsimp only
    rcases r2 with ⟨rfl, hno⟩ | ⟨rfl, hrow⟩
    · rw [if_pos rfl, vl_eq, nI_1]
      refine ⟨_, rfl, l, _, rfl, sP_trans f3 f4, hs3, ?_⟩
      rw [bs, hno]
      exact BM_of hB rfl
    · obtain ⟨r, w5, g1, g2, g3⟩ := grRow_mk (b := b) (w2 := uA w3 101 g) hG hv hn hw8 (sP_trans e3 (frQ_env f4)) hs3 (c := c) (m := n) (by omega) hrow
      have f5 : frQ w2 (bkW w5) := sP_trans (sP_trans (sP_trans f3 f4) (frM_Q g2)) (frM_Q (bkW_f w5))
      have hs5 : ∀ i, i < 6 → (bkW w5).1 77 (7 + i) = sv0 i := fun i hi => by
        rw [bkW_at w5 i hi, g2.1 77 (48 + i) ((by decide : ∀ i, i < 6 → mPI 77 (48 + i) = true) i hi)]
        show w3.1 77 (48 + i) = _
        rw [f3.1 77 (48 + i) ((by decide : ∀ i, i < 6 → qPI 77 (48 + i) = true) i hi)]
        exact has i hi
      have e102 : (bkW w5).2.1 102 = w3.2.1 102 := g2.2.1 102 rfl
      have e101 : (bkW w5).2.1 101 = g := g2.2.1 101 rfl
      rw [if_neg (by decide), rc_12_77, g1, Option.bind_some]
      dsimp only
      rw [rc_12_77, back_mk, Option.bind_some]
      rcases g3 with ⟨rfl, hno⟩ | ⟨z, hz, rfl, _⟩
      · rw [if_pos rfl, vl_eq, nI_1]
        refine ⟨_, rfl, l, _, rfl, f5, hs5, ?_⟩
        rw [bs, hno]
        exact BM_of hB e102
      · have hz9 := (V_ok hG hv hn hw8 n c z hz).2.1
        rw [if_neg (nI_nm1 (by omega))]
        have better : (∀ y, bst (VR G sv0 who n n) c = some y → z.1 < y.1) → nI z.1 < l := by
          intro hy
          cases hq : bst (VR G sv0 who n n) c with
          | none =>
            rw [hq] at hB
            have hB : l = 1000000 := hB
            rw [hB]
            exact nI_lt (a := z.1) (b := 1000000) (by omega) (by decide)
          | some y =>
            have := hy y hq
            rw [hq] at hB
            rw [hB.1]
            exact nI_lt this (by have := hB.2.1; omega)
        by_cases hbt : ∀ y, bst (VR G sv0 who n n) c = some y → z.1 < y.1
        · rw [if_pos (better hbt)]
          have fil := lpb_inv (kf := fun (x : HP) => some x) (N := FU) (body := fun (s16 : Int32 × HP) => if nI n ≤ s16.1 then some (Sum.inl s16.2) else (gR [12] 55 s16.2 (b + 77)).bind (fun v19 => (gR [12] 54 s16.2 (b + 77)).bind (fun v20 => (rdN 0 s16.2 v20 s16.1).bind (fun v21 => (wrI s16.2 v19 s16.1 v21).bind (fun hp22 => vl (s16.1 + (1 : Int32)) (fun x23 => some (Sum.inr (x23, hp22))))))))
            (s0 := ((0 : Int32), mk b (bkW w5)))
            (fun k s16 => ∃ g2, s16 = (nI k, mk b (uA (bkW w5) 102 g2)) ∧ ∀ j, j < k → g2 j = g j)
            (fun r => ∃ g2, r = mk b (uA (bkW w5) 102 g2) ∧ ∀ j, j < n → g2 j = g j) n (by unfold FU; omega) ⟨(bkW w5).2.1 102, by rw [uA_self]; rfl, fun j hj => absurd hj (Nat.not_lt_zero j)⟩ (fun k hk s16 => ?_) (fun s16 => ?_)
          · obtain ⟨r, q1, g2, rfl, q2⟩ := fil
            rw [Option.bind_eq_some_iff] at q1
            obtain ⟨x, q5, q6⟩ := q1
            have q6 := Option.some.inj q6
            subst q6
            rw [q5, Option.bind_some, vl_eq, nI_1]
            refine ⟨_, rfl, nI z.1, _, rfl, sP_trans f5 (sP_uA _ _ rfl), hs5, ?_⟩
            rw [bs, hz]
            dsimp only
            have hro : ∀ j, j < n → (uA (bkW w5) 102 g2).2.1 102 j = nI (who (c / n ^ (n - 1 - j) % n)) := fun j hj => by
              rw [uA_at, q2 j hj, hrow j hj]
            cases hq : bst (VR G sv0 who n n) c with
            | none => exact ⟨rfl, by omega, hro⟩
            | some y =>
              dsimp only
              rw [if_pos (hbt y hq)]
              exact ⟨rfl, by omega, hro⟩
          · rintro ⟨g2, rfl, hg2⟩
            dsimp only
            have e1 : (uA (bkW w5) 102 g2).2.1 101 k = g k := congrFun e101 k
            rw [if_neg (nI_ge hk (by omega)), gR_12_77_55, Option.bind_some, gR_12_77_54, Option.bind_some, rdN_mk (t := 0) (j := 101) (n := 8) (by decide +kernel) (by decide) b _ (by omega), Option.bind_some, e1, wrI_mk (j := 102) (n := 8) (by decide +kernel) b _ (by omega), Option.bind_some, vl_eq, nI_1, uA_at, uA_uA]
            refine ⟨_, rfl, _, rfl, fun j hj => ?_⟩
            rcases Nat.lt_or_ge j k with q | q
            · rw [pk_un (by omega)]
              exact hg2 j q
            · have : j = k := by omega
              rw [this, pk_us]
          · rintro ⟨g2, rfl, hg2⟩
            exact ⟨_, if_pos (Int32.le_refl _), _, rfl, g2, rfl, hg2⟩
        · obtain ⟨y, hy⟩ := Classical.not_forall.mp hbt
          obtain ⟨hq, hy⟩ := Classical.not_imp.mp hy
          have hB2 := hB
          rw [hq] at hB2
          rw [if_neg (by rw [hB2.1]; exact nI_nlt (by omega) (by omega)), vl_eq, nI_1]
          refine ⟨_, rfl, l, _, rfl, f5, hs5, ?_⟩
          rw [bs, hz, hq]
          dsimp only
          rw [if_neg hy, ← hq]
          exact BM_of hB e102
  · rintro ⟨l, w3, rfl, f3, hs3, hB⟩
    refine ⟨(l, mk b w3), ?_, _, rfl, l, w3, rfl, f3, hs3, hB⟩
    dsimp only
    rw [codes_mk n n (by omega), Option.bind_some, if_pos (Int32.le_refl _)]
end
