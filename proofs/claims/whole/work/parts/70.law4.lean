/-! the reference's law -/
def LwM (w w' : WD) : Prop := ∃ g, w' = uA w 95 g
theorem LwM_self (w : WD) : LwM w w := by
  refine ⟨w.2.1 95, ?_⟩
  have e : (fun j' => if j' = 95 then w.2.1 95 else w.2.1 j') = w.2.1 := by
    funext j'
    split
    · rename_i e; rw [e]
    · rfl
  show w = (w.1, (fun j' => if j' = 95 then w.2.1 95 else w.2.1 j'), w.2.2)
  rw [e]
theorem clampE {v : Int32} {most : Nat} : mxI 0 (mnI (nI most) v) = if 0 ≤ v then (if v ≤ nI most then v else if 0 < nI most then nI most else 0) else (if 0 < nI most ∧ nI most < v then nI most else 0) := by
  unfold mxI mnI
  by_cases h1 : (0 : Int32) ≤ v
  · rw [if_pos h1]
    by_cases h2 : v < nI most
    · rw [if_pos h2, if_pos (fa_of_lt h2).1]
      split
      · rfl
      · rename_i q
        rcases fa_three 0 v with e | e | e
        · exact absurd e q
        · exact e
        · exact absurd h1 (fa_of_lt e).2.1
    · rw [if_neg h2]
      by_cases h3 : v ≤ nI most
      · have e : v = nI most := by
          rcases fa_three v (nI most) with e | e | e
          · exact absurd e h2
          · exact e
          · exact absurd h3 (fa_of_lt e).2.1
        rw [if_pos h3, e]
        rw [e] at h1
        split
        · rfl
        · rename_i q
          rcases fa_three 0 (nI most) with e | e | e
          · exact absurd e q
          · exact e
          · exact absurd h1 (fa_of_lt e).2.1
      · rw [if_neg h3]
  · rw [if_neg h1]
    have h1' := fa_of_nle h1
    by_cases h2 : v < nI most
    · rw [if_pos h2, if_neg (fa_of_lt h1').2.2.1, if_neg (fun q => (fa_of_lt h2).2.2.1 q.2)]
    · rw [if_neg h2]
      have h3 := fa_of_nlt h2
      have h4 : nI most < 0 := by
        rw [fa_lt] at h1' ⊢
        rw [fa_le] at h3
        omega
      rw [if_neg (fa_of_lt h4).2.2.1, if_neg (fun q => (fa_of_lt h4).2.2.1 q.1)]
section
variable {b : Nat} {w : WD}
theorem byLaw_mk {n : Nat} (hn : n ≤ 16) {kd : Nat → Nat} {Wd Td : Nat → Cds} (hK : lawK n kd Wd Td) (hM : lawM (w.1 77 23) (w.2.1 91) (w.2.1 92) (w.2.1 93) (w.2.1 94) (w.2.1 90) n kd Wd Td) {tT : Nat → Bool} {vW : Nat → Int32} (hS : says (w.2.1 96) n kd Wd Td tT vW) {K : Nat} (hKK : K < 120) {most : Nat} (hm : 0 < most) (hm2 : most < 2 ^ 31) : ∃ w', FX12_byLaw (mk b w) (b + 77) (nI K) (nI most) = some (worV kd tT (fun j => if kd j = 120 then 1 else vW j) n K most, mk b w') ∧ LwM w w' := by
  obtain ⟨hru, hr⟩ := hM
  have e := lpb_ex (body := fun (s1 : Int32 × HP) => (gI [12] 23 s1.2 (b + 77)).bind (fun v3 => if v3 ≤ s1.1 then some (Sum.inl (Sum.inr s1.2)) else (gR [12] 31 s1.2 (b + 77)).bind (fun v4 => (rdN 0 s1.2 v4 s1.1).bind (fun v5 => if v5 = nI K then (gR [12] 33 s1.2 (b + 77)).bind (fun v6 => (rdN 0 s1.2 v6 s1.1).bind (fun v7 => (gR [12] 34 s1.2 (b + 77)).bind (fun v8 => (rdN 0 s1.2 v8 s1.1).bind (fun v9 => (rc [12] s1.2 (b + 77) (FX12_comesTo s1.2 (b + 77) v7 v9)).bind (fun w10 => if w10.1 = (1 : Int32) then (gR [12] 32 w10.2 (b + 77)).bind (fun v11 => (rdN 0 w10.2 v11 s1.1).bind (fun v12 => (gR [12] 33 w10.2 (b + 77)).bind (fun v13 => (rdN 0 w10.2 v13 s1.1).bind (fun v14 => (rc [12] w10.2 (b + 77) (FX12_comesTo w10.2 (b + 77) v12 v14)).bind (fun w15 => if 0 ≤ w15.1 then if w15.1 ≤ nI most then some (Sum.inl (Sum.inl (w15.1, w15.2))) else some (Sum.inl (Sum.inl (nI most, w15.2))) else some (Sum.inl (Sum.inl ((0 : Int32), w15.2)))))))) else vl (s1.1 + (1 : Int32)) (fun x16 => some (Sum.inr (x16, w10.2)))))))) else vl (s1.1 + (1 : Int32)) (fun x17 => some (Sum.inr (x17, s1.2)))))))
    (kf := lk (P := Int32 × HP) (fun r => r) (fun (y2 : HP) => some ((0 : Int32), y2))) (N := FU) (s0 := ((0 : Int32), mk b w))
    (fun k s => ∃ j w', j ≤ n ∧ k = n - j ∧ s = (nI j, mk b w') ∧ LwM w w' ∧ ∀ i, i < j → sp kd tT K i = false)
    (fun x => ∃ w', LwM w w' ∧ ((x = .inr (mk b w') ∧ ∀ i, i < n → sp kd tT K i = false) ∨ ∃ j, j < n ∧ sp kd tT K j = true ∧ (∀ i, i < j → sp kd tT K i = false) ∧ x = .inl (mxI 0 (mnI (nI most) (if kd j = 120 then 1 else vW j)), mk b w')))
    (fun z => ∃ w', LwM w w' ∧ z = (worV kd tT (fun j => if kd j = 120 then 1 else vW j) n K most, mk b w')) n (by unfold FU; omega)
    ⟨0, w, Nat.zero_le _, rfl, rfl, LwM_self w, fun i hi => absurd hi (Nat.not_lt_zero i)⟩ ?_ ?_
  · obtain ⟨z, e1, w', e2, rfl⟩ := e
    exact ⟨w', e1, e2⟩
  · rintro k s ⟨j, w', hj, rfl, rfl, hw', hno⟩
    obtain ⟨g, rfl⟩ := hw'
    dsimp only
    rw [gI_12_77_23, Option.bind_some]
    have hru' : (uA w 95 g).1 77 23 = nI n := hru
    rw [hru']
    rcases Nat.lt_or_ge j n with hjn | hjn
    · obtain ⟨r1, p, r2, r3, r4, r5, r6, r7⟩ := hr j hjn
      obtain ⟨⟨r, s1, s2⟩, s3⟩ := hS j hjn
      have hkd : kd j < 200 := by
        have := (hK j hjn).1
        omega
      have q1 : rdN 0 (mk b (uA w 95 g)) (b + 91) (nI j) = some (nI (kd j)) := by rw [rdN_mk (t := 0) (n := 16) (by decide +kernel) (by decide) b _ (by omega)]; exact congrArg some r1
      have q3 : ∀ g, rdN 0 (mk b (uA w 95 g)) (b + 93) (nI j) = some (nI (p + (Wd j).length)) := fun g => by rw [rdN_mk (t := 0) (n := 16) (by decide +kernel) (by decide) b _ (by omega)]; exact congrArg some r4
      have q4 : rdN 0 (mk b (uA w 95 g)) (b + 94) (nI j) = some (nI (p + (Wd j).length + (Td j).length)) := by rw [rdN_mk (t := 0) (n := 16) (by decide +kernel) (by decide) b _ (by omega)]; exact congrArg some r6
      have q2 : ∀ g, rdN 0 (mk b (uA w 95 g)) (b + 92) (nI j) = some (nI p) := fun g => by rw [rdN_mk (t := 0) (n := 16) (by decide +kernel) (by decide) b _ (by omega)]; exact congrArg some r2
      rw [if_neg (nI_ge hjn (by omega)), gR_12_77_31, Option.bind_some, q1, Option.bind_some]
      by_cases hk : kd j = K
      · obtain ⟨g1, e1⟩ := com_mk (b := b) (w := uA w 95 g) (r := r) r7 r5 rfl s1
        rw [uA_uA] at e1
        rw [if_pos (by rw [hk]), gR_12_77_33, Option.bind_some, q3, Option.bind_some, gR_12_77_34, Option.bind_some, q4, Option.bind_some, rc_12_77, e1, Option.bind_some]
        dsimp only
        rw [s2]
        cases ht : tT j
        · right
          rw [if_neg (by decide), vl_eq, nI_1]
          refine ⟨_, n - (j + 1), rfl, by omega, j + 1, _, by omega, rfl, rfl, ⟨g1, rfl⟩, fun i hi => ?_⟩
          rcases Nat.lt_or_ge i j with hij | hij
          · exact hno i hij
          · have : i = j := by omega
            subst this
            unfold sp
            rw [ht, Bool.and_false]
        · left
          have hsp : sp kd tT K j = true := by
            unfold sp
            rw [ht, decide_eq_true hk]; rfl
          have hx : kd j ≠ 120 := by omega
          obtain ⟨r', t1, t2⟩ := s3 hx
          obtain ⟨g2, e2⟩ := com_mk (b := b) (w := uA w 95 g1) (r := r') (by omega : p + (Wd j).length < 260) r3 rfl t1
          rw [uA_uA] at e2
          rw [if_pos (by decide), gR_12_77_32, Option.bind_some, q2, Option.bind_some, gR_12_77_33, Option.bind_some, q3, Option.bind_some, rc_12_77, e2, Option.bind_some]
          dsimp only
          rw [t2]
          have hc : mxI 0 (mnI (nI most) (if kd j = 120 then 1 else vW j)) = if 0 ≤ vW j then (if vW j ≤ nI most then vW j else nI most) else 0 := by
            rw [if_neg hx, clampE, if_pos (Llt hm hm2 : (0 : Int32) < nI most)]
            by_cases h0 : 0 ≤ vW j
            · rw [if_pos h0, if_pos h0]
            · rw [if_neg h0, if_neg h0, if_neg]
              rintro ⟨a1, a2⟩
              exact h0 (by rw [fa_le]; rw [fa_lt] at a1 a2; omega)
          by_cases c1 : 0 ≤ vW j
          · rw [if_pos c1] at hc ⊢
            by_cases c2 : vW j ≤ nI most
            · rw [if_pos c2] at hc ⊢
              exact ⟨_, rfl, _, ⟨g2, rfl⟩, Or.inr ⟨j, hjn, hsp, hno, by rw [hc]⟩⟩
            · rw [if_neg c2] at hc ⊢
              exact ⟨_, rfl, _, ⟨g2, rfl⟩, Or.inr ⟨j, hjn, hsp, hno, by rw [hc]⟩⟩
          · rw [if_neg c1] at hc ⊢
            exact ⟨_, rfl, _, ⟨g2, rfl⟩, Or.inr ⟨j, hjn, hsp, hno, by rw [hc]⟩⟩
      · right
        rw [if_neg (fun q => hk (nI_inj (by omega) (by omega) q)), vl_eq, nI_1]
        refine ⟨_, n - (j + 1), rfl, by omega, j + 1, _, by omega, rfl, rfl, ⟨g, rfl⟩, fun i hi => ?_⟩
        rcases Nat.lt_or_ge i j with hij | hij
        · exact hno i hij
        · have : i = j := by omega
          subst this
          unfold sp
          rw [decide_eq_false hk, Bool.false_and]
    · left
      have : j = n := by omega
      subst this
      rw [if_pos (Int32.le_refl _)]
      exact ⟨_, rfl, _, ⟨g, rfl⟩, Or.inl ⟨rfl, hno⟩⟩
  · rintro x ⟨w', hw', ⟨rfl, hno⟩ | ⟨j, hj, hsp, hno, rfl⟩⟩
    · refine ⟨_, rfl, w', hw', ?_⟩
      unfold worV
      rw [none_is hno]
      rfl
    · refine ⟨_, rfl, w', hw', ?_⟩
      unfold worV
      obtain ⟨q1, q2⟩ := frst_is hj hsp hno
      rw [q1, q2, if_pos rfl]
theorem balks_mk {n : Nat} (hn : n ≤ 16) {kd : Nat → Nat} {Wd Td : Nat → Cds} (hK : lawK n kd Wd Td) (hM : lawM (w.1 77 23) (w.2.1 91) (w.2.1 92) (w.2.1 93) (w.2.1 94) (w.2.1 90) n kd Wd Td) {tT : Nat → Bool} {vW : Nat → Int32} (hS : says (w.2.1 96) n kd Wd Td tT vW) : ∃ w', FX12_balks (mk b w) (b + 77) = some (if ex (sp kd tT 120) n then 1 else 0, mk b w') ∧ LwM w w' := by
  obtain ⟨hru, hr⟩ := hM
  have e := lpb_ex (body := fun (s1 : Int32 × HP) => (gI [12] 23 s1.2 (b + 77)).bind (fun v3 => if v3 ≤ s1.1 then some (Sum.inl (Sum.inr s1.2)) else (gR [12] 31 s1.2 (b + 77)).bind (fun v4 => (rdN 0 s1.2 v4 s1.1).bind (fun v5 => if v5 = (120 : Int32) then (gR [12] 33 s1.2 (b + 77)).bind (fun v6 => (rdN 0 s1.2 v6 s1.1).bind (fun v7 => (gR [12] 34 s1.2 (b + 77)).bind (fun v8 => (rdN 0 s1.2 v8 s1.1).bind (fun v9 => (rc [12] s1.2 (b + 77) (FX12_comesTo s1.2 (b + 77) v7 v9)).bind (fun w10 => if w10.1 = (1 : Int32) then some (Sum.inl (Sum.inl ((1 : Int32), w10.2))) else vl (s1.1 + (1 : Int32)) (fun x11 => some (Sum.inr (x11, w10.2)))))))) else vl (s1.1 + (1 : Int32)) (fun x12 => some (Sum.inr (x12, s1.2)))))))
    (kf := lk (P := Int32 × HP) (fun r => r) (fun (y2 : HP) => some ((0 : Int32), y2))) (N := FU) (s0 := ((0 : Int32), mk b w))
    (fun k s => ∃ j w', j ≤ n ∧ k = n - j ∧ s = (nI j, mk b w') ∧ LwM w w' ∧ ∀ i, i < j → sp kd tT 120 i = false)
    (fun x => ∃ w', LwM w w' ∧ ((x = .inr (mk b w') ∧ ∀ i, i < n → sp kd tT 120 i = false) ∨ ∃ j, j < n ∧ sp kd tT 120 j = true ∧ (∀ i, i < j → sp kd tT 120 i = false) ∧ x = .inl (1, mk b w')))
    (fun z => ∃ w', LwM w w' ∧ z = (if ex (sp kd tT 120) n then 1 else 0, mk b w')) n (by unfold FU; omega)
    ⟨0, w, Nat.zero_le _, rfl, rfl, LwM_self w, fun i hi => absurd hi (Nat.not_lt_zero i)⟩ ?_ ?_
  · obtain ⟨z, e1, w', e2, rfl⟩ := e
    exact ⟨w', e1, e2⟩
  · rintro k s ⟨j, w', hj, rfl, rfl, hw', hno⟩
    obtain ⟨g, rfl⟩ := hw'
    dsimp only
    rw [gI_12_77_23, Option.bind_some]
    have hru' : (uA w 95 g).1 77 23 = nI n := hru
    rw [hru']
    rcases Nat.lt_or_ge j n with hjn | hjn
    · obtain ⟨r1, p, r2, r3, r4, r5, r6, r7⟩ := hr j hjn
      obtain ⟨⟨r, s1, s2⟩, s3⟩ := hS j hjn
      have hkd : kd j < 200 := by
        have := (hK j hjn).1
        omega
      have q1 : rdN 0 (mk b (uA w 95 g)) (b + 91) (nI j) = some (nI (kd j)) := by rw [rdN_mk (t := 0) (n := 16) (by decide +kernel) (by decide) b _ (by omega)]; exact congrArg some r1
      have q3 : rdN 0 (mk b (uA w 95 g)) (b + 93) (nI j) = some (nI (p + (Wd j).length)) := by rw [rdN_mk (t := 0) (n := 16) (by decide +kernel) (by decide) b _ (by omega)]; exact congrArg some r4
      have q4 : rdN 0 (mk b (uA w 95 g)) (b + 94) (nI j) = some (nI (p + (Wd j).length + (Td j).length)) := by rw [rdN_mk (t := 0) (n := 16) (by decide +kernel) (by decide) b _ (by omega)]; exact congrArg some r6
      rw [if_neg (nI_ge hjn (by omega)), gR_12_77_31, Option.bind_some, q1, Option.bind_some]
      by_cases hk : kd j = 120
      · obtain ⟨g1, e1⟩ := com_mk (b := b) (w := uA w 95 g) (r := r) r7 r5 rfl s1
        rw [uA_uA] at e1
        rw [if_pos (by rw [hk]; rfl), gR_12_77_33, Option.bind_some, q3, Option.bind_some, gR_12_77_34, Option.bind_some, q4, Option.bind_some, rc_12_77, e1, Option.bind_some]
        dsimp only
        rw [s2]
        cases ht : tT j
        · right
          rw [if_neg (by decide), vl_eq, nI_1]
          refine ⟨_, n - (j + 1), rfl, by omega, j + 1, _, by omega, rfl, rfl, ⟨g1, rfl⟩, fun i hi => ?_⟩
          rcases Nat.lt_or_ge i j with hij | hij
          · exact hno i hij
          · have : i = j := by omega
            subst this
            unfold sp
            rw [ht, Bool.and_false]
        · left
          have hsp : sp kd tT 120 j = true := by
            unfold sp
            rw [ht, decide_eq_true hk]; rfl
          rw [if_pos (by decide)]
          exact ⟨_, rfl, _, ⟨g1, rfl⟩, Or.inr ⟨j, hjn, hsp, hno, rfl⟩⟩
      · right
        rw [if_neg (fun q => hk (nI_inj (by omega) (by omega) (q.trans (fa_lit 120)))), vl_eq, nI_1]
        refine ⟨_, n - (j + 1), rfl, by omega, j + 1, _, by omega, rfl, rfl, ⟨g, rfl⟩, fun i hi => ?_⟩
        rcases Nat.lt_or_ge i j with hij | hij
        · exact hno i hij
        · have : i = j := by omega
          subst this
          unfold sp
          rw [decide_eq_false hk, Bool.false_and]
    · left
      have : j = n := by omega
      subst this
      rw [if_pos (Int32.le_refl _)]
      exact ⟨_, rfl, _, ⟨g, rfl⟩, Or.inl ⟨rfl, hno⟩⟩
  · rintro x ⟨w', hw', ⟨rfl, hno⟩ | ⟨j, hj, hsp, hno, rfl⟩⟩
    · refine ⟨_, rfl, w', hw', ?_⟩
      rw [none_is hno]
      rfl
    · refine ⟨_, rfl, w', hw', ?_⟩
      obtain ⟨q1, q2⟩ := frst_is hj hsp hno
      rw [q1, if_pos rfl]
end
