/-! the reference reads a formula from its beginning -/
section
variable {b : Nat} {w0 : WD} {len : Nat} {ch : Nat → Nat}
theorem top_m (hX : TX (w0.2.1 83) len ch) (hl : len ≤ 100) {W : WD} (h : FS w0 W len 0 1 0 [] []) : ∃ ans W', (lp (frB (b + 77)) FU ((1 : Int32), mk b W)).bind (frK (b + 77)) = some (ans, mk b W') ∧ frY w0 W' ∧ (match pTop ch with
    | .inl z => ans = flt z
    | .inr x => ans = 0 ∧ W'.1 77 40 = nI x.2.length ∧ layF (W'.2.1 97) 0 x.2) := by
  have fl : ∀ z, FailR b w0 W z → ∃ W', (lp (frB (b + 77)) FU ((1 : Int32), mk b W)).bind (frK (b + 77)) = some (flt z, mk b W') ∧ frY w0 W' := by
    rintro z ⟨m, W', l, f, g⟩
    exact ⟨W', g FU (Nat.le_trans (show m ≤ 102 by omega) (by decide)), f⟩
  have f := for_m hX hl (pie_m (b := b) hX hl 6) W 0 [] [] h (Nat.zero_le len) (Nat.le_refl 0) trivial trivial trivial trivial rfl
  unfold pTop
  revert f
  cases pFor ch 6 0 with
  | inl z =>
    intro g
    obtain ⟨W', q1, q2⟩ := fl z g
    exact ⟨_, W', q1, q2, rfl⟩
  | inr z =>
    rintro ⟨W1, L', s', r1, r2, r3, r4, r5, r6, r7, r8, r9⟩
    dsimp only
    have e1 : (lpop 32 L' s').1 = z.2.2 := by rw [r3]; rfl
    have e2 : (lpop 32 L' s').2 = [] := by rw [r3]
    by_cases c : ch z.1 = 256
    · rw [if_pos c]
      have hz : z.1 = len := by
        rcases Nat.lt_or_ge z.1 len with q | q
        · have := (hX.1 z.1 q).1
          omega
        · omega
      rw [hz] at r2 r4
      obtain ⟨W2, q1, q2⟩ := end_0 (b := b) r2 hl (by omega) r5
      obtain ⟨m, l, rr⟩ := r1
      have hm : m ≤ 100 := by
        rw [atN_FS r2 hl] at l
        omega
      obtain ⟨M, hM, hM1⟩ : ∃ M, FU = M + m ∧ 1 ≤ M := ⟨FU - m, by
        have : 200 ≤ FU := by decide
        omega, by
        have : 200 ≤ FU := by decide
        omega⟩
      refine ⟨0, W2, ?_, q1.1, rfl, ?_, ?_⟩
      · rw [hM, rr, q2 M hM1, e2]
        rfl
      · rw [← e1]
        exact q1.2.2.2.2.2.1
      · rw [← e1]
        exact q1.2.2.2.2.2.2.2.1
    · rw [if_neg c]
      have hzl : z.1 < len := by
        rcases Nat.lt_or_ge z.1 len with q | q
        · exact q
        · exact absurd (hX.2 z.1 q) c
      have bad : FailR b w0 W1 (1, z.1) := by
        by_cases c41 : ch z.1 = 41
        · obtain ⟨W', q1, q2, q3⟩ := sgn_close0 (b := b) hX hl r2 hzl r4 r5 c41 e2
          exact fail_of r2 (by omega) (frB_sign r2 hzl hl q1) q2 q3
        · by_cases c44 : ch z.1 = 44
          · obtain ⟨W', q1, q2, q3⟩ := sgn_comma0 (b := b) hX hl r2 hzl r4 r5 c44 (fun x s2 ex => by rw [e2] at ex; cases ex)
            exact fail_of r2 (by omega) (frB_sign r2 hzl hl q1) q2 q3
          · have q1 := sgn_bad (b := b) hX hl r2 hzl c41 c44 r7 r8 r9
            exact fail_of r2 (by omega) (frB_sign r2 hzl hl q1) rfl (FS_17 r2 _).1
      obtain ⟨W', q1, q2⟩ := fl _ (Reach_fail r1 bad)
      exact ⟨_, W', q1, q2, rfl⟩
theorem readF_m {w : WD} (hX : TX (w.2.1 83) len ch) (hl : len ≤ 100) : ∃ ans W', FX12_readsFormula (mk b w) (b + 77) (nI len) = some (ans, mk b W') ∧ frY (uI (uI w 77 16 (nI len)) 77 14 0) W' ∧ (match pTop ch with
    | .inl z => ans = flt z
    | .inr x => ans = 0 ∧ W'.1 77 40 = nI x.2.length ∧ layF (W'.2.1 97) 0 x.2) := by
  obtain ⟨w0, hw0⟩ : ∃ w0, w0 = uI (uI w 77 16 (nI len)) 77 14 0 := ⟨_, rfl⟩
  obtain ⟨W, hW⟩ : ∃ W, W = uI (uI (uI (uI (uI (uI (uI w 77 15 0) 77 16 (nI len)) 77 40 0) 77 41 0) 77 42 0) 77 43 1) 77 14 0 := ⟨_, rfl⟩
  have hX0 : TX (w0.2.1 83) len ch := by rw [hw0]; exact hX
  have h : FS w0 W len 0 1 0 [] [] := by
    rw [hW, hw0]
    refine ⟨⟨fun j k e => ?_, fun _ _ => rfl, rfl⟩, rfl, rfl, rfl, rfl, rfl, rfl, trivial, trivial⟩
    show (if j = 77 ∧ k = 14 then 0 else if j = 77 ∧ k = 43 then 1 else if j = 77 ∧ k = 42 then 0 else if j = 77 ∧ k = 41 then 0 else if j = 77 ∧ k = 40 then 0 else if j = 77 ∧ k = 16 then nI len else if j = 77 ∧ k = 15 then 0 else w.1 j k) = (if j = 77 ∧ k = 14 then 0 else if j = 77 ∧ k = 16 then nI len else w.1 j k)
    by_cases q : j = 77 ∧ (k = 15 ∨ k = 40 ∨ k = 41 ∨ k = 42 ∨ k = 43)
    · exfalso
      obtain ⟨rfl, q⟩ := q
      rcases q with rfl | rfl | rfl | rfl | rfl <;> exact absurd e (by decide)
    · by_cases q1 : j = 77 ∧ k = 14
      · rw [if_pos q1, if_pos q1]
      · rw [if_neg q1, if_neg q1, if_neg (fun y => q ⟨y.1, by omega⟩), if_neg (fun y => q ⟨y.1, by omega⟩), if_neg (fun y => q ⟨y.1, by omega⟩), if_neg (fun y => q ⟨y.1, by omega⟩)]
        by_cases q2 : j = 77 ∧ k = 16
        · rw [if_pos q2, if_pos q2]
        · rw [if_neg q2, if_neg q2, if_neg (fun y => q ⟨y.1, by omega⟩)]
  have start : FX12_readsFormula (mk b w) (b + 77) (nI len) = (lp (frB (b + 77)) FU ((1 : Int32), mk b W)).bind (frK (b + 77)) := by
    unfold FX12_readsFormula
    rw [sI_12_77_15, Option.bind_some, sI_12_77_16, Option.bind_some, sI_12_77_40, Option.bind_some, sI_12_77_41, Option.bind_some, sI_12_77_42, Option.bind_some, sZ_mk (j := 77) (k := 43) (by decide +kernel) b _ (Or.inr rfl), Option.bind_some, sI_12_77_14, Option.bind_some, hW]
    rfl
  rw [start, ← hw0]
  exact top_m hX0 hl h
end
