/-! the law as rules: what both programs hold of it -/
def Wx (kd : Nat → Nat) (Wd : Nat → Cds) (j : Nat) : Cds := if kd j = 120 then [(0, 1)] else Wd j
def endC (cs : Nat → Int32) (z p : Nat) (m : Cds) : Prop := layd cC cs p m ∧ p + m.length < z ∧ cs (p + m.length) = -41
def lawC (ru sz : Int32) (ks ws ts cs : Nat → Int32) (n : Nat) (kd : Nat → Nat) (Wd Td : Nat → Cds) : Prop :=
  n ≤ 16 ∧ ru = nI n ∧ ∃ z, z ≤ 240 ∧ sz = nI z ∧ ∀ j, j < n → ks j = nI (kd j) ∧ (∃ p, ws j = nI p ∧ endC cs z p (Wx kd Wd j)) ∧ ∃ p, ts j = nI p ∧ endC cs z p (Td j)
def lawM (cl : Int32) (ko fr hf tt cs : Nat → Int32) (n : Nat) (kd : Nat → Nat) (Wd Td : Nat → Cds) : Prop :=
  cl = nI n ∧ ∀ j, j < n → ko j = nI (kd j) ∧ ∃ p, fr j = nI p ∧ layd cM cs p (Wd j) ∧ hf j = nI (p + (Wd j).length) ∧ layd cM cs (p + (Wd j).length) (Td j) ∧ tt j = nI (p + (Wd j).length + (Td j).length) ∧ p + (Wd j).length + (Td j).length < 260
def lawK (n : Nat) (kd : Nat → Nat) (Wd Td : Nat → Cds) : Prop :=
  ∀ j, j < n → (kd j = 100 ∨ kd j = 103 ∨ kd j = 120) ∧ (kd j ≠ 120 → ∀ f, ∃ r, gon f (Wd j) 0 [] r) ∧ ∀ f, ∃ r, gon f (Td j) 0 [] r ∧ (r = none ∨ r = some 0 ∨ r = some 1)
def RLaw (w : WD) : Prop := ∃ n kd Wd Td, lawK n kd Wd Td ∧ lawC (w.1 w.2.2.2.1 4) (w.1 w.2.2.2.1 9) (w.2.1 (w.2.2.2.1 + 1)) (w.2.1 (w.2.2.2.1 + 2)) (w.2.1 (w.2.2.2.1 + 3)) (w.2.1 (w.2.2.2.1 + 4)) n kd Wd Td ∧ lawM (w.1 77 23) (w.2.1 91) (w.2.1 92) (w.2.1 93) (w.2.1 94) (w.2.1 90) n kd Wd Td ∧ LW w.2.2.2.1
theorem RLaw_LOK : LOK RLaw := by
  rintro w w' s ⟨n, kd, Wd, Td, h1, h2, h3, h4⟩
  refine ⟨n, kd, Wd, Td, h1, ?_, ?_, by rw [s.2.2.2]; exact h4⟩
  · rw [s.2.2.2]
    rcases h4 with e | e
    · rw [e] at h2 ⊢
      rw [s.1 35 4 rfl, s.1 35 9 rfl, s.2.1 (35 + 1) rfl, s.2.1 (35 + 2) rfl, s.2.1 (35 + 3) rfl, s.2.1 (35 + 4) rfl]
      exact h2
    · rw [e] at h2 ⊢
      rw [s.1 70 4 rfl, s.1 70 9 rfl, s.2.1 (70 + 1) rfl, s.2.1 (70 + 2) rfl, s.2.1 (70 + 3) rfl, s.2.1 (70 + 4) rfl]
      exact h2
  · rw [s.1 77 23 rfl, s.2.1 90 rfl, s.2.1 91 rfl, s.2.1 92 rfl, s.2.1 93 rfl, s.2.1 94 rfl]
    exact h3
theorem RLaw_count {w : WD} (h : RLaw w) : w.1 w.2.2.2.1 4 = w.1 77 23 := by
  obtain ⟨n, kd, Wd, Td, h1, h2, h3, h4⟩ := h
  rw [h2.2.1, h3.1]
theorem gon_congr {f f' : Nat → Int32} (hf : ∀ i, i < 8 → f i = f' i) : ∀ (m : Cds) (s : Nat) (st : List Int32) (r : Option Int32), gon f m s st r → gon f' m s st r
  | [], _, _, _, h => h
  | _ :: l, s + 1, st, r, h => gon_congr hf l s st r h
  | c :: l, 0, st, r, h => by
    have ih := gon_congr hf l
    rcases h with ⟨k, h1, h2, h3⟩ | ⟨k, h1, h2, h3⟩ | ⟨k1, k2, k3, x, y, st', e, h3⟩ | ⟨k, k2, x, st', e, h3⟩ | ⟨k, h1, x, st', e, h3⟩ | ⟨k, h1, x, st', e, h3⟩
    · exact Or.inl ⟨k, h1, h2, ih _ _ _ h3⟩
    · exact Or.inr (Or.inl ⟨k, h1, h2, by rw [← hf _ h1]; exact ih _ _ _ h3⟩)
    · refine Or.inr (Or.inr (Or.inl ⟨k1, k2, k3, x, y, st', e, ?_⟩))
      rcases h3 with h3 | ⟨z, h3, h4⟩
      · exact Or.inl h3
      · exact Or.inr ⟨z, h3, ih _ _ _ h4⟩
    · exact Or.inr (Or.inr (Or.inr (Or.inl ⟨k, k2, x, st', e, ih _ _ _ h3⟩)))
    · refine Or.inr (Or.inr (Or.inr (Or.inr (Or.inl ⟨k, h1, x, st', e, ?_⟩))))
      rcases h3 with ⟨a, h3⟩ | ⟨a, h3⟩
      · exact Or.inl ⟨a, ih _ _ _ h3⟩
      · exact Or.inr ⟨a, ih _ _ _ h3⟩
    · refine Or.inr (Or.inr (Or.inr (Or.inr (Or.inr ⟨k, h1, x, st', e, ?_⟩))))
      rcases h3 with ⟨a, h3⟩ | ⟨a, h3⟩
      · exact Or.inl ⟨a, ih _ _ _ h3⟩
      · exact Or.inr ⟨a, ih _ _ _ h3⟩
/-- what the law says of eight values: whether a rule's test holds, what its sum comes to -/
def says (f : Nat → Int32) (n : Nat) (kd : Nat → Nat) (Wd Td : Nat → Cds) (tT : Nat → Bool) (vW : Nat → Int32) : Prop :=
  ∀ j, j < n → (∃ r, gon f (Td j) 0 [] r ∧ r.getD 0 = if tT j then 1 else 0) ∧ (kd j ≠ 120 → ∃ r, gon f (Wd j) 0 [] r ∧ r.getD 0 = vW j)
theorem says_ex {n : Nat} {kd : Nat → Nat} {Wd Td : Nat → Cds} (h : lawK n kd Wd Td) (f : Nat → Int32) : ∃ tT vW, says f n kd Wd Td tT vW := by
  have c1 : ∀ j, ∃ t : Bool, j < n → ∃ r, gon f (Td j) 0 [] r ∧ r.getD 0 = if t then 1 else 0 := by
    intro j
    by_cases hj : j < n
    · obtain ⟨r, e1, e2⟩ := (h j hj).2.2 f
      rcases e2 with rfl | rfl | rfl
      · exact ⟨false, fun _ => ⟨_, e1, rfl⟩⟩
      · exact ⟨false, fun _ => ⟨_, e1, rfl⟩⟩
      · exact ⟨true, fun _ => ⟨_, e1, rfl⟩⟩
    · exact ⟨false, fun q => absurd q hj⟩
  have c2 : ∀ j, ∃ v : Int32, j < n → kd j ≠ 120 → ∃ r, gon f (Wd j) 0 [] r ∧ r.getD 0 = v := by
    intro j
    by_cases hj : j < n
    · by_cases hk : kd j = 120
      · exact ⟨0, fun _ q => absurd hk q⟩
      · obtain ⟨r, e1⟩ := (h j hj).2.1 hk f
        exact ⟨r.getD 0, fun _ _ => ⟨r, e1, rfl⟩⟩
    · exact ⟨0, fun q => absurd q hj⟩
  obtain ⟨tT, h1⟩ := Classical.axiomOfChoice c1
  obtain ⟨vW, h2⟩ := Classical.axiomOfChoice c2
  exact ⟨tT, vW, fun j hj => ⟨h1 j hj, h2 j hj⟩⟩
theorem says_congr {f f' : Nat → Int32} (hf : ∀ i, i < 8 → f i = f' i) {n : Nat} {kd : Nat → Nat} {Wd Td : Nat → Cds} {tT : Nat → Bool} {vW : Nat → Int32} (h : says f n kd Wd Td tT vW) : says f' n kd Wd Td tT vW := by
  intro j hj
  obtain ⟨⟨r, e1, e2⟩, h2⟩ := h j hj
  refine ⟨⟨r, gon_congr hf _ _ _ _ e1, e2⟩, fun hk => ?_⟩
  obtain ⟨r, e1, e2⟩ := h2 hk
  exact ⟨r, gon_congr hf _ _ _ _ e1, e2⟩
/-- the rule that speaks -/
def sp (kd : Nat → Nat) (tT : Nat → Bool) (K j : Nat) : Bool := decide (kd j = K) && tT j
def worV (kd : Nat → Nat) (tT : Nat → Bool) (vW : Nat → Int32) (n K most : Nat) : Int32 := if ex (sp kd tT K) n then mxI 0 (mnI (nI most) (vW (fa_first (sp kd tT K) n))) else 0
def LwS (w : WD) (o : Nat) (w' : WD) : Prop := ∃ g z, w' = lawS w o g z
theorem lawS_lawS (w : WD) (o : Nat) (g g' : Nat → Int32) (z z' : Int32) : lawS (lawS w o g z) o g' z' = lawS w o g' z' := by
  rw [← lawS_uA (w := w) (o := o) (g := g) (z := z') g', ← lawS_uI (w := w) (o := o) (g := g) (z := z) z']
  rfl
theorem LwS_step {w : WD} {o : Nat} {w' : WD} (h : LwS w o w') (g : Nat → Int32) (z : Int32) : LwS w o (lawS w' o g z) := by
  obtain ⟨g', z', rfl⟩ := h
  exact ⟨g, z, lawS_lawS _ _ _ _ _ _⟩
theorem LwS_self (w : WD) (o : Nat) : LwS w o w := by
  refine ⟨w.2.1 (o + 6), w.1 o 12, ?_⟩
  rw [← lawS_eq]
  have e : (fun j' k' => if j' = o ∧ k' = 12 then w.1 o 12 else w.1 j' k') = w.1 := by
    funext j' k'
    split
    · rename_i e; rw [e.1, e.2]
    · rfl
  show w = ((fun j' k' => if j' = o ∧ k' = 12 then w.1 o 12 else w.1 j' k'), w.2)
  rw [e]
theorem frst_is {p : Nat → Bool} {n j : Nat} (hj : j < n) (h1 : p j = true) (h2 : ∀ i, i < j → p i = false) : ex p n = true ∧ fa_first p n = j := by
  have e : ex p n = true := (ex_iff _ _).mpr ⟨j, hj, h1⟩
  refine ⟨e, ?_⟩
  have q := (ex_first p n).mpr e
  have q1 := fa_first_yes p n q
  rcases Nat.lt_trichotomy (fa_first p n) j with g | g | g
  · rw [h2 _ g] at q1; cases q1
  · exact g
  · rw [fa_first_no p n j g] at h1; cases h1
theorem none_is {p : Nat → Bool} {n : Nat} (h2 : ∀ i, i < n → p i = false) : ex p n = false := by
  rw [← Bool.not_eq_true]
  intro q
  obtain ⟨i, hi, e⟩ := (ex_iff _ _).mp q
  rw [h2 i hi] at e
  cases e
section
variable {b : Nat} {w : WD} {o : Nat}
theorem gon_one (f : Nat → Int32) : gon f [(0, 1)] 0 [] (some 1) := Or.inl ⟨rfl, by decide, by decide, 1, rfl, rfl⟩
theorem worth_mk (ho : LW o) {n : Nat} {kd : Nat → Nat} {Wd Td : Nat → Cds} (hK : lawK n kd Wd Td) (hC : lawC (w.1 o 4) (w.1 o 9) (w.2.1 (o + 1)) (w.2.1 (o + 2)) (w.2.1 (o + 3)) (w.2.1 (o + 4)) n kd Wd Td) {tT : Nat → Bool} {vW : Nat → Int32} (hS : says (w.2.1 (o + 5)) n kd Wd Td tT vW) {K : Nat} (hKK : K < 200) (most : Nat) : ∃ w', FX2_worth (mk b w) (b + o) (nI K) (nI most) = some (worV kd tT (fun j => if kd j = 120 then 1 else vW j) n K most, mk b w') ∧ LwS w o w' := by
  obtain ⟨hn, hru, sz, h240, hsz, hr⟩ := hC
  have e := lpb_ex (body := fun (s1 : Int32 × HP) => (gI [2] 4 s1.2 (b + o)).bind (fun v3 => if v3 ≤ s1.1 then some (Sum.inl (Sum.inr s1.2)) else if (16 : Int32) ≤ s1.1 then some (Sum.inl (Sum.inr s1.2)) else (gR [2] 5 s1.2 (b + o)).bind (fun v4 => (rdN 0 s1.2 v4 s1.1).bind (fun v5 => if v5 = nI K then (gR [2] 7 s1.2 (b + o)).bind (fun v6 => (rdN 0 s1.2 v6 s1.1).bind (fun v7 => (rc [2] s1.2 (b + o) (FX2_run s1.2 (b + o) v7)).bind (fun w8 => if w8.1 = 0 then vl (s1.1 + (1 : Int32)) (fun x9 => some (Sum.inr (x9, w8.2))) else (gR [2] 6 w8.2 (b + o)).bind (fun v10 => (rdN 0 w8.2 v10 s1.1).bind (fun v11 => (rc [2] w8.2 (b + o) (FX2_run w8.2 (b + o) v11)).bind (fun w12 => some (Sum.inl (Sum.inl ((mxI (0 : Int32) (mnI (nI most) w12.1)), w12.2))))))))) else vl (s1.1 + (1 : Int32)) (fun x13 => some (Sum.inr (x13, s1.2)))))))
    (kf := lk (P := Int32 × HP) (fun r => r) (fun (y2 : HP) => some ((0 : Int32), y2))) (N := FU) (s0 := ((0 : Int32), mk b w))
    (fun k s => ∃ j w', j ≤ n ∧ k = n - j ∧ s = (nI j, mk b w') ∧ LwS w o w' ∧ ∀ i, i < j → sp kd tT K i = false)
    (fun x => ∃ w', LwS w o w' ∧ ((x = .inr (mk b w') ∧ ∀ i, i < n → sp kd tT K i = false) ∨ ∃ j, j < n ∧ sp kd tT K j = true ∧ (∀ i, i < j → sp kd tT K i = false) ∧ x = .inl (mxI 0 (mnI (nI most) (if kd j = 120 then 1 else vW j)), mk b w')))
    (fun z => ∃ w', LwS w o w' ∧ z = (worV kd tT (fun j => if kd j = 120 then 1 else vW j) n K most, mk b w')) n (by unfold FU; omega)
    ⟨0, w, Nat.zero_le _, rfl, rfl, LwS_self w o, fun i hi => absurd hi (Nat.not_lt_zero i)⟩ ?_ ?_
  · obtain ⟨z, e1, w', e2, rfl⟩ := e
    exact ⟨w', e1, e2⟩
  · rintro k s ⟨j, w', hj, rfl, rfl, hw', hno⟩
    obtain ⟨g, z, rfl⟩ := hw'
    dsimp only
    rw [gI_2_o_4 b _ ho, Option.bind_some, lawS_I (by decide), hru]
    rcases Nat.lt_or_ge j n with hjn | hjn
    · obtain ⟨r1, ⟨p, r2, r3, r4, r5⟩, q, r6, r7, r8, r9⟩ := hr j hjn
      obtain ⟨⟨r, s1, s2⟩, s3⟩ := hS j hjn
      have hkd : kd j < 200 := by
        have := (hK j hjn).1
        omega
      rw [if_neg (nI_ge hjn (by omega)), if_neg (show ¬ (16 : Int32) ≤ nI j from nI_ge (a := j) (b := 16) (by omega) (by decide)), gR_2_o_5 b _ ho, Option.bind_some, rdN_mk (okL1 ho) (by decide) b _ (by omega), Option.bind_some, lawS_A (by omega), r1]
      by_cases hk : kd j = K
      · rw [if_pos (by rw [hk]), gR_2_o_7 b _ ho, Option.bind_some, rdN_mk (okL3 ho) (by decide) b _ (by omega), Option.bind_some, lawS_A (by omega), r6, rc_2_o b _ ho]
        obtain ⟨g1, z1, e1⟩ := run_mk (b := b) (w := lawS w o g z) ho (by rw [lawS_I (by decide)]; exact hsz) h240 (m := Td j) (p := q) (r := r) (by rw [lawS_A (by omega)]; exact r7) r8 (by rw [lawS_A (by omega)]; exact r9) (by rw [lawS_A (by omega)]; exact s1)
        rw [lawS_lawS] at e1
        rw [e1, Option.bind_some]
        dsimp only
        rw [s2]
        cases ht : tT j
        · right
          rw [if_pos (by decide), vl_eq, nI_1]
          refine ⟨_, n - (j + 1), rfl, by omega, j + 1, _, by omega, rfl, rfl, ⟨g1, z1, rfl⟩, fun i hi => ?_⟩
          rcases Nat.lt_or_ge i j with hij | hij
          · exact hno i hij
          · have : i = j := by omega
            subst this
            unfold sp
            rw [ht, Bool.and_false]
        · left
          have hsp : sp kd tT K j = true := by
            unfold sp
            rw [ht, decide_eq_true hk]; rfl
          rw [if_neg (by decide), gR_2_o_6 b _ ho, Option.bind_some, rdN_mk (okL2 ho) (by decide) b _ (by omega), Option.bind_some, lawS_A (by omega), r2, rc_2_o b _ ho]
          have hx : ∃ r, gon (w.2.1 (o + 5)) (Wx kd Wd j) 0 [] r ∧ r.getD 0 = if kd j = 120 then 1 else vW j := by
            by_cases hx : kd j = 120
            · rw [Wx, if_pos hx, if_pos hx]
              exact ⟨_, gon_one _, rfl⟩
            · rw [Wx, if_neg hx, if_neg hx]
              exact s3 hx
          obtain ⟨r', t1, t2⟩ := hx
          obtain ⟨g2, z2, e2⟩ := run_mk (b := b) (w := lawS w o g1 z1) ho (by rw [lawS_I (by decide)]; exact hsz) h240 (m := Wx kd Wd j) (p := p) (r := r') (by rw [lawS_A (by omega)]; exact r3) r4 (by rw [lawS_A (by omega)]; exact r5) (by rw [lawS_A (by omega)]; exact t1)
          rw [lawS_lawS] at e2
          rw [e2, Option.bind_some]
          dsimp only
          rw [t2]
          exact ⟨_, rfl, _, ⟨g2, z2, rfl⟩, Or.inr ⟨j, hjn, hsp, hno, rfl⟩⟩
      · right
        rw [if_neg (fun q => hk (nI_inj (by omega) (by omega) q)), vl_eq, nI_1]
        refine ⟨_, n - (j + 1), rfl, by omega, j + 1, _, by omega, rfl, rfl, ⟨g, z, rfl⟩, fun i hi => ?_⟩
        rcases Nat.lt_or_ge i j with hij | hij
        · exact hno i hij
        · have : i = j := by omega
          subst this
          unfold sp
          rw [decide_eq_false hk, Bool.false_and]
    · left
      have : j = n := by omega
      subst this
      rw [if_pos (Int32.le_refl _)]
      exact ⟨_, rfl, _, ⟨g, z, rfl⟩, Or.inl ⟨rfl, hno⟩⟩
  · rintro x ⟨w', hw', ⟨rfl, hno⟩ | ⟨j, hj, hsp, hno, rfl⟩⟩
    · refine ⟨_, rfl, w', hw', ?_⟩
      unfold worV
      rw [none_is hno]
      rfl
    · refine ⟨_, rfl, w', hw', ?_⟩
      unfold worV
      obtain ⟨q1, q2⟩ := frst_is hj hsp hno
      rw [q1, q2, if_pos rfl]
end
