/-! call: questions -/
def qW (w : WD) (a : Nat × Nat) (i : Nat) : Nat := fb_ct (fun s => lf w a.1 a.2 s && s.testBit i) 1024
def qA (w : WD) (a : Nat × Nat) : Nat := fb_ct (lf w a.1 a.2) 1024
def qS (w : WD) (a : Nat × Nat) : Nat × Nat := if nq (lf w a.1 a.2) a.1 = -2 then a else (a.1 ||| 2 ^ (nq (lf w a.1 a.2) a.1).toNatClampNeg, if decide (qA w a - qW w a (nq (lf w a.1 a.2) a.1).toNatClampNeg < qW w a (nq (lf w a.1 a.2) a.1).toNatClampNeg) then a.2 ||| 2 ^ (nq (lf w a.1 a.2) a.1).toNatClampNeg else a.2)
def qit (w : WD) (a : Nat × Nat) : Nat → Nat × Nat
  | 0 => a
  | k + 1 => qS w (qit w a k)
theorem qit_fix {w : WD} {a : Nat × Nat} {k : Nat} (h : qS w (qit w a k) = qit w a k) : ∀ d, qit w a (k + d) = qit w a k
  | 0 => rfl
  | d + 1 => by
    show qS w (qit w a (k + d)) = _
    rw [qit_fix h d, h]
theorem qit_w {w w' : WD} {a : Nat × Nat} (h : qS w' = qS w) : ∀ n, qit w' a n = qit w a n
  | 0 => rfl
  | n + 1 => by
    show qS w' (qit w' a n) = qS w (qit w a n)
    rw [qit_w h n, h]
def qok (a : Nat × Nat) : Prop := a.1 < 1024 ∧ a.2 < 1024 ∧ ∀ i, a.1.testBit i = false → a.2.testBit i = false
theorem qS_ok {w : WD} {a : Nat × Nat} (h : qok a) : qok (qS w a) := by
  unfold qS
  rcases nq_or (lf w a.1 a.2) a.1 with e | ⟨i, hi, e1, e2⟩
  · rw [if_pos e]; exact h
  · rw [e2, if_neg (nI_nm2 (by omega)), nI_clamp (by omega)]
    refine ⟨or_lt h.1 hi, ?_, fun k hk => ?_⟩
    · show (if _ then a.2 ||| 2 ^ i else a.2) < 1024
      split
      · exact or_lt h.2.1 hi
      · exact h.2.1
    · have hk : (a.1 ||| 2 ^ i).testBit k = false := hk
      rw [fb_bit_set, Bool.or_eq_false_iff, decide_eq_false_iff_not] at hk
      show (if _ then a.2 ||| 2 ^ i else a.2).testBit k = false
      split
      · rw [fb_bit_set, h.2.2 k hk.1, decide_eq_false hk.2]; rfl
      · exact h.2.2 k hk.1
theorem qit_ok {w : WD} {a : Nat × Nat} (h : qok a) : ∀ k, qok (qit w a k)
  | 0 => h
  | k + 1 => qS_ok (qit_ok h k)
theorem or0 (g : Nat) : nI g ||| (0 : Int32) = nI g := by rw [show (0 : Int32) = nI 0 from rfl, fa_or, Nat.or_zero]
section
variable {RL : WD → Prop} {b : Nat} {w : WD}
theorem left_with (w : WD) {f g i : Nat} (hf : f < 1024) (hi : i < 10) (hfi : f.testBit i = false) (hgi : g.testBit i = false) : fb_ct (lf w (f ||| 2 ^ i) (g ||| 2 ^ i)) 1024 = fb_ct (fun s => lf w f g s && s.testBit i) 1024 := fb_ct_cong (fun s _ => by
  have := lf_add w (s := s) true hf hi hfi hgi
  rw [if_pos rfl] at this
  rw [this]
  cases s.testBit i <;> rfl)
theorem qm_loop (h : bo (w.2.1 81) 1024) {a0 : Nat × Nat} (h0 : qok a0) {n : Nat} (hn : n ≤ 10) : ∃ x, lp (fun (s5 : Int32 × Int32 × Int32) => if nI n ≤ s5.2.2 then some (Sum.inl (s5.1, s5.2.1)) else (rc [12] (mk b w) (b + 77) (FX12_nextFact (mk b w) (b + 77) s5.1 s5.2.1)).bind (fun v8 => if v8 = (-2 : Int32) then some (Sum.inl (s5.1, s5.2.1)) else (rc [12] (mk b w) (b + 77) (FX12_leftBy (mk b w) (b + 77) s5.1 s5.2.1)).bind (fun v9 => (rc [12] (mk b w) (b + 77) (FX12_leftBy (mk b w) (b + 77) (s5.1 ||| ((1 : Int32) <<< (v8 &&& 31))) (s5.2.1 ||| ((1 : Int32) <<< (v8 &&& 31))))).bind (fun v10 => vl (s5.1 ||| ((1 : Int32) <<< (v8 &&& 31))) (fun x11 => if v10 ≤ (v9 - v10) then vl (s5.2.1 ||| (0 : Int32)) (fun x12 => vl (s5.2.2 + (1 : Int32)) (fun x13 => some (Sum.inr (x11, x12, x13)))) else vl (s5.2.1 ||| ((1 : Int32) <<< (v8 &&& 31))) (fun x14 => vl (s5.2.2 + (1 : Int32)) (fun x15 => some (Sum.inr (x11, x14, x15))))))))) FU (nI a0.1, nI a0.2, (0 : Int32)) = some x ∧ x = (nI (qit w a0 n).1, nI (qit w a0 n).2) := by
  refine lp_ex (fun m s => ∃ k, k ≤ n ∧ m = n - k ∧ s = (nI (qit w a0 k).1, nI (qit w a0 k).2, nI k)) (fun x => x = (nI (qit w a0 n).1, nI (qit w a0 n).2)) ?_ n _ ⟨0, Nat.zero_le n, rfl, rfl⟩ _ (Nat.lt_of_le_of_lt hn (by decide))
  rintro m s ⟨k, hk, rfl, rfl⟩
  try dsimp only
  by_cases e : k = n
  · subst e
    left
    rw [if_pos (nI_le (Nat.le_refl k) (by omega))]
    exact ⟨_, rfl, rfl⟩
  · rw [if_neg (nI_ge (by omega) (by omega))]
    have ok := qit_ok (w := w) h0 k
    have st : qit w a0 (k + 1) = qS w (qit w a0 k) := rfl
    generalize hA : qit w a0 k = A at *
    rw [rc_12_77, nextFact_mk h ok.1 ok.2.1, Option.bind_some]
    rcases nq_or (lf w A.1 A.2) A.1 with q | ⟨i, hi, q1, q2⟩
    · left
      rw [if_pos q]
      refine ⟨_, rfl, ?_⟩
      have fx : qS w (qit w a0 k) = qit w a0 k := by rw [hA]; unfold qS; rw [if_pos q]
      have := qit_fix fx (n - k)
      rw [show k + (n - k) = n by omega] at this
      rw [this, hA]
    · right
      have hg := ok.2.2 i q1
      have c1 := fb_ct_le (fun s => lf w A.1 A.2 s && s.testBit i) 1024
      have c2 := fb_ct_le (lf w A.1 A.2) 1024
      have c3 : fb_ct (fun s => lf w A.1 A.2 s && s.testBit i) 1024 ≤ fb_ct (lf w A.1 A.2) 1024 := fb_ct_sub (fun s _ q => by cases g : lf w A.1 A.2 s with
        | true => rfl
        | false => rw [g] at q; cases q)
      have nx : qS w A = (A.1 ||| 2 ^ i, if decide (qA w A - qW w A i < qW w A i) then A.2 ||| 2 ^ i else A.2) := by
        unfold qS
        rw [q2, if_neg (nI_nm2 (by omega)), nI_clamp (by omega)]
      rw [q2, if_neg (nI_nm2 (by omega)), rc_12_77, leftBy_mk h ok.1 ok.2.1, Option.bind_some, shl1 i (by omega), fa_or, fa_or, rc_12_77, leftBy_mk h (or_lt ok.1 hi) (or_lt ok.2.1 hi), Option.bind_some, left_with w ok.1 hi q1 hg, pk_sub c3, vl_eq]
      simp only [vl_eq, or0, nI_1]
      by_cases q3 : qA w A - qW w A i < qW w A i
      · refine ⟨(nI (A.1 ||| 2 ^ i), nI (A.2 ||| 2 ^ i), nI (k + 1)), n - (k + 1), ?_, by omega, k + 1, by omega, rfl, ?_⟩
        · rw [if_neg]
          exact nI_ge (a := qA w A - qW w A i) (b := qW w A i) q3 (by show fb_ct _ 1024 < _; omega)
        · rw [st, nx, decide_eq_true q3]
          rfl
      · refine ⟨(nI (A.1 ||| 2 ^ i), nI A.2, nI (k + 1)), n - (k + 1), ?_, by omega, k + 1, by omega, rfl, ?_⟩
        · rw [if_pos]
          exact nI_le (a := qW w A i) (b := qA w A - qW w A i) (by omega) (by show fb_ct _ 1024 - fb_ct _ 1024 < _; omega)
        · rw [st, nx, decide_eq_false q3]
          rfl
theorem qc_loop {a0 : Nat × Nat} (h0 : qok a0) {n : Nat} (hn : n ≤ 10) {t0 : Nat → Int64} (ht0 : ∀ s, s < 1024 → tb t0 s = lf w a0.1 a0.2 s) : ∃ x, lp (fun (s4 : Int32 × Int32 × HP) => if nI n ≤ s4.2.1 then some (Sum.inl s4.2.2) else (rc [11] s4.2.2 (b + 0) (FX11_nextQuestion s4.2.2 (b + 0) s4.1)).bind (fun v8 => if 0 ≤ v8 then (gR [11] 7 s4.2.2 (b + 0)).bind (fun v9 => (FX7_sizeWith s4.2.2 v9 v8).bind (fun v10 => (gR [11] 7 s4.2.2 (b + 0)).bind (fun v11 => (gR [11] 7 s4.2.2 (b + 0)).bind (fun v12 => (FX7_size s4.2.2 v12).bind (fun v13 => jn (A := Int32) (fun a14 => (FX7_narrow s4.2.2 v11 v8 a14).bind (fun w16 => vl (s4.1 ||| ((1 : Int32) <<< (v8 &&& 31))) (fun x17 => vl (s4.2.1 + (1 : Int32)) (fun x18 => some (Sum.inr (x17, x18, w16)))))) (fun J15 => if v10 ≤ (v13 - v10) then J15 (0 : Int32) else J15 (1 : Int32))))))) else some (Sum.inl s4.2.2))) FU (nI a0.1, (0 : Int32), mk b (uL w 32 t0)) = some x ∧ ∃ t, x = mk b (uL w 32 t) ∧ ∀ s, s < 1024 → tb t s = lf w (qit w a0 n).1 (qit w a0 n).2 s := by
  refine lp_ex (fun m s => ∃ k t, k ≤ n ∧ m = n - k ∧ s = (nI (qit w a0 k).1, nI k, mk b (uL w 32 t)) ∧ ∀ s, s < 1024 → tb t s = lf w (qit w a0 k).1 (qit w a0 k).2 s) (fun x => ∃ t, x = mk b (uL w 32 t) ∧ ∀ s, s < 1024 → tb t s = lf w (qit w a0 n).1 (qit w a0 n).2 s) ?_ n _ ⟨0, t0, Nat.zero_le n, rfl, rfl, ht0⟩ _ (Nat.lt_of_le_of_lt hn (by decide))
  rintro m s ⟨k, t, hk, rfl, rfl, ht⟩
  try dsimp only
  by_cases e : k = n
  · subst e
    left
    rw [if_pos (nI_le (Nat.le_refl k) (by omega))]
    exact ⟨_, rfl, t, rfl, ht⟩
  · rw [if_neg (nI_ge (by omega) (by omega))]
    have ok := qit_ok (w := w) h0 k
    have st : qit w a0 (k + 1) = qS w (qit w a0 k) := rfl
    generalize hA : qit w a0 k = A at *
    have ht' : ∀ s, s < 1024 → tb ((uL w 32 t).2.2.1 32) s = lf w A.1 A.2 s := fun s hs => by rw [uL_at]; exact ht s hs
    rw [rc_11_0, nextQ_mk ht', Option.bind_some]
    rcases nq_or (lf w A.1 A.2) A.1 with q | ⟨i, hi, q1, q2⟩
    · left
      rw [q, if_neg (by decide)]
      refine ⟨_, rfl, t, rfl, ?_⟩
      have fx : qS w (qit w a0 k) = qit w a0 k := by rw [hA]; unfold qS; rw [if_pos q]
      have := qit_fix fx (n - k)
      rw [show k + (n - k) = n by omega] at this
      rw [this, hA]
      exact ht
    · right
      have hg := ok.2.2 i q1
      have cA : fb_ct (tb ((uL w 32 t).2.2.1 32)) 1024 = qA w A := fb_ct_cong ht'
      have cB : fb_ct (fun s => tb ((uL w 32 t).2.2.1 32) s && s.testBit i) 1024 = qW w A i := fb_ct_cong (fun s hs => by rw [ht' s hs])
      have c1 : qW w A i ≤ 1024 := fb_ct_le _ 1024
      have c2 : qA w A ≤ 1024 := fb_ct_le _ 1024
      have c3 : qW w A i ≤ qA w A := fb_ct_sub (fun s _ q => by cases g : lf w A.1 A.2 s with
        | true => rfl
        | false => rw [g] at q; cases q)
      have nx : qS w A = (A.1 ||| 2 ^ i, if decide (qA w A - qW w A i < qW w A i) then A.2 ||| 2 ^ i else A.2) := by
        unfold qS
        rw [q2, if_neg (nI_nm2 (by omega)), nI_clamp (by omega)]
      obtain ⟨t2, e2, e3⟩ := narrow_mk (b := b) (w := uL w 32 t) okCh hi (decide (qA w A - qW w A i < qW w A i))
      rw [uL_uL] at e2
      rw [q2, if_pos (nI_pos' (by omega)), gR_11_0_7, Option.bind_some, sizeW_mk okCh hi, Option.bind_some, Option.bind_some, Option.bind_some, size_mk okCh, Option.bind_some, cA, cB, pk_sub c3, jn_eq, shl1 i (by omega), fa_or]
      refine ⟨(nI (A.1 ||| 2 ^ i), nI (k + 1), mk b (uL w 32 t2)), n - (k + 1), ?_, by omega, k + 1, t2, by omega, rfl, ?_, fun s hs => ?_⟩
      · by_cases q3 : qA w A - qW w A i < qW w A i
        · rw [decide_eq_true q3, if_pos rfl] at e2
          rw [if_neg (nI_ge q3 (by omega))]
          try dsimp only
          rw [e2, Option.bind_some, vl_eq, vl_eq, nI_1]
        · rw [decide_eq_false q3, if_neg (by decide)] at e2
          rw [if_pos (nI_le (by omega) (by omega))]
          try dsimp only
          rw [e2, Option.bind_some, vl_eq, vl_eq, nI_1]
      · rw [st, nx]
      · rw [e3 s hs, ht' s hs, st, nx]
        exact (lf_add w (decide (qA w A - qW w A i < qW w A i)) ok.1 hi q1 hg).symm
theorem op_questions (hRL : LOK RL) (h : Rel RL w) (x y z : Int32) : OPc b w (fun hp => FX11_questions hp (b + 0) x y z) (fun hp => FX12_questions hp (b + 77) x y z) := by
  by_cases ex1 : ∃ k, k < 1024 ∧ x = nI k
  · obtain ⟨f, hf, rfl⟩ := ex1
    by_cases ey : ∃ k, k < 1024 ∧ y = nI k
    · obtain ⟨g, hg, rfl⟩ := ey
      by_cases ez : ∃ k, k < 11 ∧ z = nI k
      · obtain ⟨n, hn, rfl⟩ := ez
        obtain ⟨t, e1, e2⟩ := gatherA_mk (b := b) (g := g) h hf
        have h0 : qok (f, g &&& f) := ⟨hf, Nat.lt_of_le_of_lt Nat.and_le_left hg, fun i hi => by
          show (g &&& f).testBit i = false
          rw [Nat.testBit_and, show f.testBit i = false from hi, Bool.and_false]⟩
        have e3 : ∀ s, s < 1024 → tb t s = lf w (f, g &&& f).1 (f, g &&& f).2 s := fun s hs => by
          rw [e2 s hs]
          unfold lf
          congr 1
          rw [decide_eq_decide, agree_iff _ _ _ hf, agree_iff _ _ _ hf]
          have : ∀ i, f.testBit i = true → (g &&& f).testBit i = g.testBit i := fun i q => by rw [Nat.testBit_and, q, Bool.and_true]
          exact ⟨fun q i hi hb => by rw [q i hi hb, this i hb], fun q i hi hb => by rw [q i hi hb, this i hb]⟩
        obtain ⟨X, l1, t2, rfl, l2⟩ := qc_loop (b := b) h0 (show n ≤ 10 by omega) e3
        have hb' : bo ((uL w 32 t2).2.1 81) 1024 := h.b81
        have hS : qS (uL w 32 t2) = qS w := by
          funext a
          rfl
        have hq : qit (uL w 32 t2) (f, g &&& f) n = qit w (f, g &&& f) n := qit_w hS n
        obtain ⟨Y, l3, rfl⟩ := qm_loop (b := b) (w := uL w 32 t2) hb' h0 (show n ≤ 10 by omega)
        have okn := qit_ok (w := w) h0 n
        refine ⟨nI (fb_ct (lf w (qit w (f, g &&& f) n).1 (qit w (f, g &&& f) n).2) 1024), uL w 32 t2, ?_, ?_, sP_uL w _ rfl⟩
        · try dsimp only
          unfold FX11_questions
          rw [areF_y hf, areF_y hg, Option.bind_some, Option.bind_some, if_neg n10, if_neg n10, wh_y hn, rc_11_0, e1, Option.bind_some]
          refine (congrArg (fun o => Option.bind o _) l1).trans ?_
          rw [Option.bind_some, gR_11_0_7, Option.bind_some, size_mk okCh, Option.bind_some, uL_at, fb_ct_cong l2]
        · try dsimp only
          unfold FX12_questions
          rw [in_y (n := 1023) hf, in_y (n := 1023) hg, in_y hn, Option.bind_some, Option.bind_some, Option.bind_some, if_neg n10, if_neg n10, if_neg n10, vl_eq, fa_and]
          refine (congrArg (fun o => Option.bind o _) l3).trans ?_
          rw [hq, Option.bind_some, rc_12_77, leftBy_mk hb' okn.1 okn.2.1]
          rfl
      · refine ⟨-1, w, ?_, ?_, sP_refl w⟩
        · try dsimp only
          unfold FX11_questions
          rw [areF_y hf, areF_y hg, Option.bind_some, Option.bind_some, if_neg n10, if_neg n10, wh_n ez]
        · try dsimp only
          unfold FX12_questions
          rw [in_y (n := 1023) hf, in_y (n := 1023) hg, in_n ez]
          rfl
    · refine ⟨-1, w, ?_, ?_, sP_refl w⟩
      · try dsimp only
        unfold FX11_questions
        rw [areF_y hf, areF_n ey]
        rfl
      · try dsimp only
        unfold FX12_questions
        rw [in_y (n := 1023) hf, in_n ey]
        rfl
  · refine ⟨-1, w, ?_, ?_, sP_refl w⟩
    · try dsimp only
      unfold FX11_questions
      rw [areF_n ex1]
      rfl
    · try dsimp only
      unfold FX12_questions
      rw [in_n ex1]
      rfl
end
