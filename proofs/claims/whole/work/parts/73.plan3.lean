/-! the rest of a plan -/
def plR2 (hp5 : HP) (p0 p1 : Nat) (p2 v14 : Int32) : Option HP := (gI [6] 0 hp5 p1).bind (fun v15 => vl (v15 ^^^ v14) (fun x16 => (gR [5] 0 hp5 p0).bind (fun v17 => (FJ6_bitCount_0f7a4 x16).bind (fun v18 => (gR [5] 11 hp5 p0).bind (fun v19 => (rc [3] hp5 v19 (FX3_of hp5 v19 x16)).bind (fun v20 => (rc [2] hp5 v17 (FX2_look hp5 v17 p2 v18 v20 p1)).bind (fun w21 => (gR [5] 0 w21 p0).bind (fun v22 => (rc [2] w21 v22 (FX2_worth w21 v22 (120 : Int32) (1 : Int32))).bind (fun w23 => if w23.1 = 0 then (gR [5] 0 w23.2 p0).bind (fun v24 => (rc [2] w23.2 v24 (FX2_worth w23.2 v24 (100 : Int32) (999 : Int32))).bind (fun w25 => (sI [5] 1 w25.2 p0 w25.1).bind (fun hp26 => (gR [5] 0 hp26 p0).bind (fun v27 => (rc [2] hp26 v27 (FX2_worth hp26 v27 (103 : Int32) (99 : Int32))).bind (fun w28 => (sI [5] 5 w28.2 p0 w28.1).bind (fun hp29 => (sI [5] 2 hp29 p0 v14).bind (fun hp30 => (FJ6_bitCount_0f7a4 x16).bind (fun v31 => (sI [5] 3 hp30 p0 v31).bind (fun hp32 => (gR [5] 11 hp32 p0).bind (fun v33 => (rc [3] hp32 v33 (FX3_of hp32 v33 x16)).bind (fun v34 => (sI [5] 4 hp32 p0 v34).bind (fun hp35 => some hp35)))))))))))) else (sI [5] 1 w23.2 p0 (-3 : Int32)).bind (fun hp36 => some hp36))))))))))
def plR1 (hp5 : HP) (p0 p1 : Nat) (p2 : Int32) : Option HP := (gI [6] 4 hp5 p1).bind (fun v7 => if ((v7 >>> (p2 &&& 31)) &&& (1 : Int32)) = 0 then (gR [5] 11 hp5 p0).bind (fun v8 => (gR [5] 10 hp5 p0).bind (fun v9 => (gR [5] 9 hp5 p0).bind (fun v10 => (gR [0] 0 hp5 v10).bind (fun v11 => (rdA 4 hp5 v11 (p2 &&& (7 : Int32))).bind (fun v12 => (gI [6] 0 hp5 p1).bind (fun v13 => (rc [3] hp5 v8 (FX3_nearest hp5 v8 v9 v12 v13)).bind (fun v14 => if 0 ≤ v14 then plR2 hp5 p0 p1 p2 v14 else (sI [5] 1 hp5 p0 (-2 : Int32)).bind (fun hp37 => some hp37)))))))) else (sI [5] 1 hp5 p0 (-4 : Int32)).bind (fun hp38 => some hp38))
def teR2 (hp3 : HP) (p0 : Nat) (p1 v8 : Int32) : Option (Int32 × HP) := (gI [12] 7 hp3 p0).bind (fun v9 => (rc [12] hp3 p0 (FX12_feels hp3 p0 p1 (v8 ^^^ v9))).bind (fun w10 => (rc [12] w10 p0 (FX12_balks w10 p0)).bind (fun w11 => if w11.1 = 0 then (sI [12] 45 w11.2 p0 v8).bind (fun hp12 => (rc [12] hp12 p0 (FX12_byLaw hp12 p0 (100 : Int32) (999 : Int32))).bind (fun w13 => (sI [12] 46 w13.2 p0 w13.1).bind (fun hp14 => (rc [12] hp14 p0 (FX12_byLaw hp14 p0 (103 : Int32) (99 : Int32))).bind (fun w15 => (sI [12] 47 w15.2 p0 w15.1).bind (fun hp16 => (gI [12] 46 hp16 p0).bind (fun v17 => some (v17, hp16))))))) else some ((-3 : Int32), w11.2))))
def teR1 (hp3 : HP) (p0 : Nat) (p1 : Int32) : Option (Int32 × HP) := (gI [12] 11 hp3 p0).bind (fun v6 => (FX12_has v6 p1).bind (fun v7 => if v7 = 0 then (rc [12] hp3 p0 (FX12_leadsTo hp3 p0 p1)).bind (fun v8 => if v8 = (-1 : Int32) then some ((-2 : Int32), hp3) else teR2 hp3 p0 p1 v8) else some ((-4 : Int32), hp3)))
theorem and7k : ∀ k, k < 8 → nI k &&& (7 : Int32) = nI k := by decide +kernel
section
variable {b : Nat} {w : WD}
theorem plan_go {sv : Nat → Int32} {d : Nat} (ed : sv 1 = nI d) (hd : d < 8641) (hf : sv 5 = 0 ∨ sv 5 = 1) (hov : ¬ (sv 5 = 1 ∨ sv 1 = 8640)) {w1 : WD} {j : Nat} (hj : SJ j) (hsv : ∀ i, i < 6 → w1.1 j i = sv i) (k : Int32) : FX5_plan (mk b w1) (b + 34) (b + j) k = plR1 (mk b (pl5 w1 (sv 0))) (b + 34) (b + j) k := by
  unfold FX5_plan
  refine bS (gI_mk (okSt hj (by decide)) b w1) ?_
  rw [hsv 0 (by decide)]
  refine bS (sI_5_34_2 b _ _) ?_
  refine bS (sI_5_34_3 b _ _) ?_
  refine bS (sI_5_34_4 b _ _) ?_
  refine bS (sI_5_34_5 b _ _) ?_
  show (rc [6] (mk b (pl5 w1 (sv 0))) (b + j) (FX6_isOver (mk b (pl5 w1 (sv 0))) (b + j))).bind _ = _
  have hno : ¬ (sv 5 = 1 ∨ d = 8640) := fun q => hov (q.elim Or.inl (fun e => Or.inr (by rw [ed, e]; rfl)))
  rw [rc_mk (okStO hj), over_mk (d := d) hj (by rw [pl5_j _ _ hj, hsv 1 (by decide)]; exact ed) (by omega) (by rw [pl5_j _ _ hj, hsv 5 (by decide)]; exact hf), pl5_j _ _ hj, hsv 5 (by decide), if_neg hno, Option.bind_some, if_pos rfl]
  rfl
theorem tell_go {sv : Nat → Int32} (hov : ¬ (sv 5 = 1 ∨ sv 1 = 8640)) {w2 : WD} (hsv : ∀ i, i < 6 → w2.1 77 (7 + i) = sv i) (k : Int32) : FX12_tells (mk b w2) (b + 77) k = teR1 (mk b (pl3 w2 (sv 0))) (b + 77) k := by
  unfold FX12_tells
  refine bS (gI_12_77_7 b _) ?_
  have q0 : w2.1 77 7 = sv 0 := hsv 0 (by decide)
  have q5 : (pl3 w2 (sv 0)).1 77 12 = sv 5 := hsv 5 (by decide)
  have q1 : (pl3 w2 (sv 0)).1 77 8 = sv 1 := hsv 1 (by decide)
  rw [q0]
  refine bS (sI_12_77_45 b _ _) ?_
  refine bS (sI_12_77_47 b _ _) ?_
  show (gI [12] 12 (mk b (pl3 w2 (sv 0))) (b + 77)).bind _ = _
  refine bS (gI_12_77_12 b _) ?_
  rw [q5, if_neg (fun q => hov (Or.inl q))]
  show (gI [12] 8 (mk b (pl3 w2 (sv 0))) (b + 77)).bind _ = _
  refine bS (gI_12_77_8 b _) ?_
  rw [q1, if_neg (fun q => hov (Or.inr q))]
  rfl
theorem plR1_spent {j k : Nat} (hj : SJ j) (hk : k < 8) (hs : bt (w.1 j 4) k = true) : plR1 (mk b w) (b + 34) (b + j) (nI k) = some (mk b (uI w 34 1 (-4))) := by
  unfold plR1
  refine bS (gI_mk (okSt hj (by decide)) b w) ?_
  rw [bit_at _ (by omega), hs, if_neg (by decide)]
  exact bS (sI_5_34_1 b _ _) rfl
theorem plR1_go {j k s0 : Nat} (hj : SJ j) (hk : k < 8) (hs : bt (w.1 j 4) k = false) (h0 : w.1 j 0 = nI s0) {x : Int32} (hx : FX3_nearest (mk b w) (b + 25) (b + 30) (b + (7 + k)) (nI s0) = some x) : plR1 (mk b w) (b + 34) (b + j) (nI k) = if 0 ≤ x then plR2 (mk b w) (b + 34) (b + j) (nI k) x else some (mk b (uI w 34 1 (-2))) := by
  unfold plR1
  refine bS (gI_mk (okSt hj (by decide)) b w) ?_
  rw [bit_at _ (by omega), hs, if_pos (by decide)]
  refine bS (gR_5_34_11 b _) ?_
  refine bS (gR_5_34_10 b _) ?_
  refine bS (gR_5_34_9 b _) ?_
  refine bS (gR_0_5_0 b _) ?_
  rw [and7k k hk]
  refine bS (rdA_mk (t := 4) (j := 6) (n := 8) (by decide +kernel) (by decide) b w hk) ?_
  refine bS (gI_mk (okSt hj (by decide)) b w) ?_
  rw [h0, rc_3_25]
  refine bS hx ?_
  by_cases e : 0 ≤ x
  · rw [if_pos e, if_pos e]
  · rw [if_neg e, if_neg e]
    exact bS (sI_5_34_1 b _ _) rfl
theorem teR1_spent {k : Nat} (hk : k < 8) (hs : bt (w.1 77 11) k = true) : teR1 (mk b w) (b + 77) (nI k) = some (-4, mk b w) := by
  unfold teR1
  refine bS (gI_12_77_11 b _) ?_
  refine bS (has_eq _ (by omega)) ?_
  rw [hs]
  rfl
theorem teR1_go {k : Nat} (hk : k < 8) (hs : bt (w.1 77 11) k = false) {x : Int32} (hx : FX12_leadsTo (mk b w) (b + 77) (nI k) = some x) : teR1 (mk b w) (b + 77) (nI k) = if x = -1 then some (-2, mk b w) else teR2 (mk b w) (b + 77) (nI k) x := by
  unfold teR1
  refine bS (gI_12_77_11 b _) ?_
  refine bS (has_eq _ (by omega)) ?_
  rw [hs, if_pos (by decide), rc_12_77]
  exact bS hx rfl
/-- the law asked, in the class -/
theorem plR2_mk {o j k s0 t : Nat} (ho : LW o) (hw : w.2.2.2.1 = o) (hj : SJ j) (h0 : w.1 j 0 = nI s0) (hs0 : s0 < 1024) (ht : t < 1024) (hP : R_price w) {n : Nat} {kd : Nat → Nat} {Wd Td : Nat → Cds} (hK : lawK n kd Wd Td) (hC : lawC (w.1 o 4) (w.1 o 9) (w.2.1 (o + 1)) (w.2.1 (o + 2)) (w.2.1 (o + 3)) (w.2.1 (o + 4)) n kd Wd Td) {tT : Nat → Bool} {vW : Nat → Int32} (hS : says (lwF (nI k) (nI (pc (t ^^^ s0))) (nI (prS (w.2.1 78) (t ^^^ s0))) (nI (pc s0)) (w.1 j)) n kd Wd Td tT vW) :
    (ex (sp kd tT 120) n = true → ∃ w', plR2 (mk b w) (b + 34) (b + j) (nI k) (nI t) = some (mk b (uI w' 34 1 (-3))) ∧ simP fPI fPA aL w w' ∧ ∀ i, w'.1 34 i = w.1 34 i) ∧
    (ex (sp kd tT 120) n = false → ∃ w', plR2 (mk b w) (b + 34) (b + j) (nI k) (nI t) = some (mk b (uI (uI (uI (uI w' 34 5 (worV kd tT (fun j => if kd j = 120 then 1 else vW j) n 103 99)) 34 2 (nI t)) 34 3 (nI (pc (t ^^^ s0)))) 34 4 (nI (prS (w.2.1 78) (t ^^^ s0))))) ∧ simP fPI fPA aL w w' ∧ w'.1 34 1 = worV kd tT (fun j => if kd j = 120 then 1 else vW j) n 100 999) := by
  have hf12 : fPI o 12 = false := by rcases ho with rfl | rfl <;> rfl
  have hf5 : fPA (o + 5) = false := by rcases ho with rfl | rfl <;> rfl
  have hf6 : fPA (o + 6) = false := by rcases ho with rfl | rfl <;> rfl
  have ho34 : o ≠ 34 := by rcases ho with rfl | rfl <;> decide
  have exor : nI s0 ^^^ nI t = nI (t ^^^ s0) := by rw [fb_xorI, Nat.xor_comm]
  have hx : t ^^^ s0 < 1024 := Nat.xor_lt_two_pow (n := 10) ht hs0
  obtain ⟨F, l1, l2⟩ := look_mk (b := b) (w := w) ho hj h0 hs0 (nI k) (nI (pc (t ^^^ s0))) (nI (prS (w.2.1 78) (t ^^^ s0)))
  have sF : simP fPI fPA aL w (uA w (o + 5) F) := sP_uA w F hf5
  have eF : (uA w (o + 5) F).2.1 (o + 5) = F := uA_at w _ _
  have hC6 := lawC_of ho (env_L (frP_env sF)) hC
  have hS6 : says ((uA w (o + 5) F).2.1 (o + 5)) n kd Wd Td tT vW := by rw [eF]; exact says_congr (fun i hi => (l2 i hi).symm) hS
  obtain ⟨w7, m1, m2⟩ := worth_mk (b := b) ho hK hC6 hS6 (K := 120) (by decide) 1
  have s7 : simP fPI fPA aL w w7 := sP_trans sF (LwS_sim m2 hf12 hf6)
  have pre : plR2 (mk b w) (b + 34) (b + j) (nI k) (nI t) = if (if ex (sp kd tT 120) n then (1 : Int32) else 0) = 0 then (rc [2] (mk b w7) (b + o) (FX2_worth (mk b w7) (b + o) (100 : Int32) (999 : Int32))).bind (fun w25 => (sI [5] 1 w25.2 (b + 34) w25.1).bind (fun hp26 => (gR [5] 0 hp26 (b + 34)).bind (fun v27 => (rc [2] hp26 v27 (FX2_worth hp26 v27 (103 : Int32) (99 : Int32))).bind (fun w28 => (sI [5] 5 w28.2 (b + 34) w28.1).bind (fun hp29 => (sI [5] 2 hp29 (b + 34) (nI t)).bind (fun hp30 => (FJ6_bitCount_0f7a4 (nI (t ^^^ s0))).bind (fun v31 => (sI [5] 3 hp30 (b + 34) v31).bind (fun hp32 => (gR [5] 11 hp32 (b + 34)).bind (fun v33 => (rc [3] hp32 v33 (FX3_of hp32 v33 (nI (t ^^^ s0)))).bind (fun v34 => (sI [5] 4 hp32 (b + 34) v34).bind (fun hp35 => some hp35))))))))))) else (sI [5] 1 (mk b w7) (b + 34) (-3 : Int32)).bind (fun hp36 => some hp36) := by
    unfold plR2
    refine bS (gI_mk (okSt hj (by decide)) b w) ?_
    rw [h0, vl_eq, exor]
    refine bS ((gR_law b w).trans (by rw [hw])) ?_
    refine bS (bc_small _ hx) ?_
    refine bS (gR_5_34_11 b _) ?_
    rw [rc_3_25]
    refine bS (of_mk hP hx) ?_
    rw [rc_2_o b _ ho]
    refine bS l1 ?_
    refine bS ((gR_law b _).trans (by rw [show (uA w (o + 5) F).2.2.2.1 = o from hw])) ?_
    rw [rc_2_o b _ ho]
    refine bS m1 ?_
    dsimp only
    rw [worV_x]
    cases ex (sp kd tT 120) n
    · rw [if_pos (by decide), if_pos (by decide)]
      exact bS ((gR_law b _).trans (by rw [s7.2.2.2, hw])) rfl
    · rfl
  refine ⟨fun he => ⟨w7, ?_, s7, fun i => ?_⟩, fun he => ?_⟩
  · rw [pre, he, if_neg (by decide)]
    exact bS (sI_5_34_1 b _ _) rfl
  · obtain ⟨g, z, rfl⟩ := m2
    unfold lawS
    exact uI_ne _ _ (fun q => ho34 q.1.symm)
  · rw [pre, he, if_pos (by decide), rc_2_o b _ ho]
    have hC7 := lawC_of ho (env_L (frP_env s7)) hC
    have e7 : w7.2.1 (o + 5) = F := by
      obtain ⟨g, z, rfl⟩ := m2
      rw [lawS_A (by omega), eF]
    have hS7 : says (w7.2.1 (o + 5)) n kd Wd Td tT vW := by rw [e7, ← eF]; exact hS6
    obtain ⟨w8, n1, n2⟩ := worth_mk (b := b) ho hK hC7 hS7 (K := 100) (by decide) 999
    have s8 : simP fPI fPA aL w w8 := sP_trans s7 (LwS_sim n2 hf12 hf6)
    have e8 : w8.2.1 (o + 5) = F := by
      obtain ⟨g, z, rfl⟩ := n2
      rw [lawS_A (by omega), e7]
    have s9 : simP fPI fPA aL w (uI w8 34 1 (worV kd tT (fun j => if kd j = 120 then 1 else vW j) n 100 999)) := sP_trans s8 (sP_uI _ _ rfl)
    have hC9 := lawC_of ho (env_L (frP_env s9)) hC
    have hS9 : says ((uI w8 34 1 (worV kd tT (fun j => if kd j = 120 then 1 else vW j) n 100 999)).2.1 (o + 5)) n kd Wd Td tT vW := by rw [uI_A, e8, ← eF]; exact hS6
    obtain ⟨w10, r1, r2⟩ := worth_mk (b := b) ho hK hC9 hS9 (K := 103) (by decide) 99
    have s10 : simP fPI fPA aL w w10 := sP_trans s9 (LwS_sim r2 hf12 hf6)
    refine ⟨w10, ?_, s10, ?_⟩
    · refine bS n1 ?_
      dsimp only
      refine bS (sI_5_34_1 b _ _) ?_
      refine bS ((gR_law b _).trans (by rw [s9.2.2.2, hw])) ?_
      rw [rc_2_o b _ ho]
      refine bS r1 ?_
      dsimp only
      refine bS (sI_5_34_5 b _ _) ?_
      refine bS (sI_5_34_2 b _ _) ?_
      refine bS (bc_small _ hx) ?_
      refine bS (sI_5_34_3 b _ _) ?_
      refine bS (gR_5_34_11 b _) ?_
      rw [rc_3_25]
      have hP' : R_price (uI (uI (uI w10 34 5 (worV kd tT (fun j => if kd j = 120 then 1 else vW j) n 103 99)) 34 2 (nI t)) 34 3 (nI (pc (t ^^^ s0)))) := env_price hP (frP_env (sP_trans (sP_trans (sP_trans s10 (sP_uI _ _ rfl)) (sP_uI _ _ rfl)) (sP_uI _ _ rfl)))
      refine bS (of_mk hP' hx) ?_
      have e78 : (uI (uI (uI w10 34 5 (worV kd tT (fun j => if kd j = 120 then 1 else vW j) n 103 99)) 34 2 (nI t)) 34 3 (nI (pc (t ^^^ s0)))).2.1 78 = w.2.1 78 := s10.2.1 78 rfl
      rw [e78]
      exact bS (sI_5_34_4 b _ _) rfl
    · obtain ⟨g, z, rfl⟩ := r2
      unfold lawS
      rw [uA_I, uI_ne _ _ (fun q => ho34 q.1.symm)]
      rfl
/-- the law asked, in the reference -/
theorem teR2_mk {k s0 t : Nat} (h0 : w.1 77 7 = nI s0) (hP : R_price w) {n : Nat} (hn : n ≤ 16) {kd : Nat → Nat} {Wd Td : Nat → Cds} (hK : lawK n kd Wd Td) (hM : lawM (w.1 77 23) (w.2.1 91) (w.2.1 92) (w.2.1 93) (w.2.1 94) (w.2.1 90) n kd Wd Td) {tT : Nat → Bool} {vW : Nat → Int32} (hS : says (lwF (nI k) (nI (pc (t ^^^ s0))) (nI (prS (w.2.1 78) (t ^^^ s0))) (nI (pc s0)) (fun i => w.1 77 (7 + i))) n kd Wd Td tT vW) :
    (ex (sp kd tT 120) n = true → ∃ w', teR2 (mk b w) (b + 77) (nI k) (nI t) = some (-3, mk b w') ∧ frT w w' ∧ ∀ i, w'.1 77 i = w.1 77 i) ∧
    (ex (sp kd tT 120) n = false → ∃ w', teR2 (mk b w) (b + 77) (nI k) (nI t) = some (worV kd tT (fun j => if kd j = 120 then 1 else vW j) n 100 999, mk b (uI w' 77 47 (worV kd tT (fun j => if kd j = 120 then 1 else vW j) n 103 99))) ∧ frT w w' ∧ w'.1 77 45 = nI t ∧ w'.1 77 46 = worV kd tT (fun j => if kd j = 120 then 1 else vW j) n 100 999) := by
  obtain ⟨F, l1, l2⟩ := feels_mk (b := b) (w := w) (m := t ^^^ s0) hP.2.1 h0 (nI k)
  have lsm : ∀ {w w' : WD}, LwM w w' → frT w w' := fun h => by obtain ⟨g, rfl⟩ := h; exact sP_uA _ g rfl
  have sF : frT w (uA w 96 F) := sP_uA w F rfl
  have hS6 : says ((uA w 96 F).2.1 96) n kd Wd Td tT vW := by
    show says F n kd Wd Td tT vW
    exact says_congr (fun i hi => (l2 i hi).symm) hS
  have hM6 := lawM_of (env_L (frT_env sF)) hM
  obtain ⟨w7, m1, m2⟩ := balks_mk (b := b) hn hK hM6 hS6
  have s7 : frT w w7 := sP_trans sF (lsm m2)
  have f7 : w7.2.1 96 = F ∧ w7.1 = w.1 := by obtain ⟨g, rfl⟩ := m2; exact ⟨rfl, rfl⟩
  have pre : teR2 (mk b w) (b + 77) (nI k) (nI t) = if (if ex (sp kd tT 120) n then (1 : Int32) else 0) = 0 then (sI [12] 45 (mk b w7) (b + 77) (nI t)).bind (fun hp12 => (rc [12] hp12 (b + 77) (FX12_byLaw hp12 (b + 77) (100 : Int32) (999 : Int32))).bind (fun w13 => (sI [12] 46 w13.2 (b + 77) w13.1).bind (fun hp14 => (rc [12] hp14 (b + 77) (FX12_byLaw hp14 (b + 77) (103 : Int32) (99 : Int32))).bind (fun w15 => (sI [12] 47 w15.2 (b + 77) w15.1).bind (fun hp16 => (gI [12] 46 hp16 (b + 77)).bind (fun v17 => some (v17, hp16))))))) else some (-3, mk b w7) := by
    unfold teR2
    refine bS (gI_12_77_7 b _) ?_
    rw [h0, fb_xorI, rc_12_77]
    refine bS l1 ?_
    rw [rc_12_77]
    refine bS m1 ?_
    rfl
  refine ⟨fun he => ⟨w7, ?_, s7, fun i => by rw [f7.2]⟩, fun he => ?_⟩
  · rw [pre, he, if_neg (by decide)]
  · rw [pre, he, if_pos (by decide)]
    have s8 : frT w (uI w7 77 45 (nI t)) := sP_trans s7 (sP_uI _ _ rfl)
    have hM8 := lawM_of (env_L (frT_env s8)) hM
    have hS8 : says ((uI w7 77 45 (nI t)).2.1 96) n kd Wd Td tT vW := by
      show says (w7.2.1 96) n kd Wd Td tT vW
      rw [f7.1]
      exact hS6
    obtain ⟨w9, n1, n2⟩ := byLaw_mk (b := b) hn hK hM8 hS8 (K := 100) (by decide) (most := 999) (by decide) (by decide)
    have s9 : frT w w9 := sP_trans s8 (lsm n2)
    have f9 : w9.2.1 96 = F ∧ w9.1 = (uI w7 77 45 (nI t)).1 := by
      obtain ⟨g, rfl⟩ := n2
      exact ⟨f7.1, rfl⟩
    have s10 : frT w (uI w9 77 46 (worV kd tT (fun j => if kd j = 120 then 1 else vW j) n 100 999)) := sP_trans s9 (sP_uI _ _ rfl)
    have hM10 := lawM_of (env_L (frT_env s10)) hM
    have hS10 : says ((uI w9 77 46 (worV kd tT (fun j => if kd j = 120 then 1 else vW j) n 100 999)).2.1 96) n kd Wd Td tT vW := by
      show says (w9.2.1 96) n kd Wd Td tT vW
      rw [f9.1]
      exact hS6
    obtain ⟨w11, r1, r2⟩ := byLaw_mk (b := b) hn hK hM10 hS10 (K := 103) (by decide) (most := 99) (by decide) (by decide)
    have f11 : w11.1 = (uI w9 77 46 (worV kd tT (fun j => if kd j = 120 then 1 else vW j) n 100 999)).1 := by
      obtain ⟨g, rfl⟩ := r2
      rfl
    refine ⟨w11, ?_, sP_trans s10 (lsm r2), by rw [f11, uI_ne _ _ (by decide), f9.2]; rfl, by rw [f11]; rfl⟩
    refine bS (sI_12_77_45 b _ _) ?_
    rw [rc_12_77]
    refine bS n1 ?_
    dsimp only
    refine bS (sI_12_77_46 b _ _) ?_
    rw [rc_12_77]
    refine bS r1 ?_
    dsimp only
    refine bS (sI_12_77_47 b _ _) ?_
    refine bS (gI_12_77_46 b _) ?_
    have e46 : (uI w11 77 47 (worV kd tT (fun j => if kd j = 120 then 1 else vW j) n 103 99)).1 77 46 = worV kd tT (fun j => if kd j = 120 then 1 else vW j) n 100 999 := by
      rw [uI_ne _ _ (by decide), f11]
      rfl
    rw [e46]
end
