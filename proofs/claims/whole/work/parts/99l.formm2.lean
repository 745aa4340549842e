/-! the reference lays what waits -/
def lpop (p : Nat) : List Nat → List (Nat × Nat) → List Nat × List (Nat × Nat)
  | L, [] => (L, [])
  | L, x :: s => if 30 ≤ x.1 ∧ x.1 ≤ p then lpop p (L ++ [x.1]) s else (L, x :: s)
def epop : List Nat → List (Nat × Nat) → List Nat × List (Nat × Nat)
  | L, [] => (L, [])
  | L, x :: s => if x.1 = 33 then epop (L ++ [33]) s else (L, x :: s)
def isB (x : Nat) : Bool := decide (30 ≤ x) && decide (x ≤ 32)
def dep : List (Nat × Nat) → Nat
  | [] => 0
  | x :: s => (if isB x.1 then 0 else 1) + dep s
def sgn : List (Nat × Nat) → Prop
  | [] => True
  | x :: s => x.1 < 200 ∧ sgn s
theorem lpop_len (p : Nat) : ∀ (s : List (Nat × Nat)) (L : List Nat), (lpop p L s).1.length + (lpop p L s).2.length = L.length + s.length
  | [], L => rfl
  | x :: s, L => by
    unfold lpop
    split
    · rw [lpop_len p s, List.length_append, List.length_cons]
      show L.length + 1 + s.length = L.length + (s.length + 1)
      omega
    · rfl
theorem epop_len : ∀ (s : List (Nat × Nat)) (L : List Nat), (epop L s).1.length + (epop L s).2.length = L.length + s.length
  | [], L => rfl
  | x :: s, L => by
    unfold epop
    split
    · rw [epop_len s, List.length_append, List.length_cons]
      show L.length + 1 + s.length = L.length + (s.length + 1)
      omega
    · rfl
theorem lpop_sgn (p : Nat) : ∀ (s : List (Nat × Nat)) (L : List Nat), sgn s → sgn (lpop p L s).2
  | [], L, h => h
  | x :: s, L, h => by
    unfold lpop
    split
    · exact lpop_sgn p s _ h.2
    · exact h
theorem epop_sgn : ∀ (s : List (Nat × Nat)) (L : List Nat), sgn s → sgn (epop L s).2
  | [], L, h => h
  | x :: s, L, h => by
    unfold epop
    split
    · exact epop_sgn s _ h.2
    · exact h
theorem lpop_dep {p : Nat} (hp : p ≤ 32) : ∀ (s : List (Nat × Nat)) (L : List Nat), dep (lpop p L s).2 = dep s
  | [], L => rfl
  | x :: s, L => by
    unfold lpop
    split
    · rename_i q
      rw [lpop_dep hp s]
      show dep s = (if isB x.1 then 0 else 1) + dep s
      have : isB x.1 = true := by
        unfold isB
        rw [decide_eq_true q.1, decide_eq_true (show x.1 ≤ 32 by omega)]
        rfl
      rw [if_pos this]
      omega
    · rfl
def ltB (p0 : Nat) (p1 : Int32) : HP → Option (HP ⊕ HP) := (fun (s1 : HP) => (rc [12] s1 p0 (FX12_lastSign s1 p0)).bind (fun v3 => (FX12_in v3 (30 : Int32) p1).bind (fun v4 => if v4 = 0 then some (Sum.inl s1) else (rc [12] s1 p0 (FX12_laysLast s1 p0)).bind (fun w5 => some (Sum.inr w5)))))
def etB (p0 : Nat) : HP → Option (HP ⊕ HP) := (fun (s1 : HP) => (rc [12] s1 p0 (FX12_lastSign s1 p0)).bind (fun v4 => if v4 = (33 : Int32) then (rc [12] s1 p0 (FX12_laysLast s1 p0)).bind (fun w5 => (gI [12] 42 w5 p0).bind (fun v6 => (sI [12] 42 w5 p0 (v6 - (1 : Int32))).bind (fun hp7 => some (Sum.inr hp7)))) else some (Sum.inl s1)))
section
variable {b : Nat} {w0 : WD} {len a : Nat} {z : Int32}
theorem ltB_lp {p : Nat} (hp : p ≤ 99) {d : Nat} : ∀ (s : List (Nat × Nat)) (L : List Nat) (W : WD), FS w0 W len a z d L s → L.length + s.length ≤ 100 → sgn s → ∀ N, s.length < N → ∃ W', lp (ltB (b + 77) (nI p)) N (mk b W) = some (mk b W') ∧ FS w0 W' len a z d (lpop p L s).1 (lpop p L s).2
  | [], L, W, h, hl, hs, N, hN => by
    obtain ⟨M, rfl⟩ : ∃ M, N = M + 1 := ⟨N - 1, by have : 0 < N := hN; omega⟩
    refine ⟨W, lp_out ?_, h⟩
    unfold ltB
    rw [rc_12_77, sf_last h (Nat.zero_le _), Option.bind_some, show lastOf [] = -1 from rfl]
    have : FX12_in (-1) 30 (nI p) = some 0 := in_no (a := 30) (c := p) (fun ⟨k, h1, h2, h3⟩ => nI_nm1 (n := k) (by omega) h3.symm) (by decide) (by omega)
    rw [this, Option.bind_some, if_pos rfl]
  | x :: s, L, W, h, hl, hs, N, hN => by
    rw [List.length_cons] at hl hN
    obtain ⟨M, rfl⟩ : ∃ M, N = M + 1 := ⟨N - 1, by omega⟩
    by_cases q : 30 ≤ x.1 ∧ x.1 ≤ p
    · obtain ⟨W1, r1, r2⟩ := sf_layLast (b := b) h (by omega) (by omega)
      have step : ltB (b + 77) (nI p) (mk b W) = some (.inr (mk b W1)) := by
        unfold ltB
        rw [rc_12_77, sf_last h (by rw [List.length_cons]; omega), Option.bind_some, show lastOf (x :: s) = nI x.1 from rfl]
        have : FX12_in (nI x.1) 30 (nI p) = some 1 := in_yes (a := 30) (c := p) q.1 q.2 (by omega)
        rw [this, Option.bind_some, if_neg (by decide), rc_12_77, r1, Option.bind_some]
      have e : lpop p L (x :: s) = lpop p (L ++ [x.1]) s := by
        show (if 30 ≤ x.1 ∧ x.1 ≤ p then _ else _) = _
        rw [if_pos q]
      rw [lp_one step, e]
      exact ltB_lp hp s _ W1 r2 (by rw [List.length_append]; show L.length + 1 + s.length ≤ 100; omega) hs.2 M (by omega)
    · have e : lpop p L (x :: s) = (L, x :: s) := by
        show (if 30 ≤ x.1 ∧ x.1 ≤ p then _ else _) = _
        rw [if_neg q]
      rw [e]
      refine ⟨W, lp_out ?_, h⟩
      unfold ltB
      rw [rc_12_77, sf_last h (by rw [List.length_cons]; omega), Option.bind_some, show lastOf (x :: s) = nI x.1 from rfl]
      have : FX12_in (nI x.1) 30 (nI p) = some 0 := in_no (a := 30) (c := p) (fun ⟨k, h1, h2, h3⟩ => q (by
        have := nI_inj (a := x.1) (b := k) (by have := hs.1; omega) (by omega) h3
        omega)) (by decide) (by omega)
      rw [this, Option.bind_some, if_pos rfl]
theorem sf_laysTo {p : Nat} (hp : p ≤ 99) {d : Nat} {s : List (Nat × Nat)} {L : List Nat} {W : WD} (h : FS w0 W len a z d L s) (hl : L.length + s.length ≤ 100) (hs : sgn s) : ∃ W', FX12_laysTo (mk b W) (b + 77) (nI p) = some (mk b W') ∧ FS w0 W' len a z d (lpop p L s).1 (lpop p L s).2 := by
  obtain ⟨W', r1, r2⟩ := ltB_lp (b := b) hp s L W h hl hs FU (Nat.lt_of_le_of_lt (show s.length ≤ 100 by omega) (by decide))
  refine ⟨W', ?_, r2⟩
  unfold FX12_laysTo
  exact bS r1 rfl
theorem etB_lp : ∀ (s : List (Nat × Nat)) (L : List Nat) (W : WD), FS w0 W len a z (dep s) L s → L.length + s.length ≤ 100 → sgn s → ∀ N, s.length < N → ∃ W', lp (etB (b + 77)) N (mk b W) = some (mk b W') ∧ FS w0 W' len a z (dep (epop L s).2) (epop L s).1 (epop L s).2
  | [], L, W, h, hl, hs, N, hN => by
    obtain ⟨M, rfl⟩ : ∃ M, N = M + 1 := ⟨N - 1, by have : 0 < N := hN; omega⟩
    refine ⟨W, lp_out ?_, h⟩
    unfold etB
    rw [rc_12_77, sf_last h (Nat.zero_le _), Option.bind_some, show lastOf [] = -1 from rfl]
    rw [if_neg (by decide)]
  | x :: s, L, W, h, hl, hs, N, hN => by
    rw [List.length_cons] at hl hN
    obtain ⟨M, rfl⟩ : ∃ M, N = M + 1 := ⟨N - 1, by omega⟩
    by_cases q : x.1 = 33
    · obtain ⟨W1, r1, r2⟩ := sf_layLast (b := b) h (by omega) (by omega)
      have ed : dep (x :: s) = dep s + 1 := by
        show (if isB x.1 then 0 else 1) + dep s = _
        rw [q]
        show 1 + dep s = _
        omega
      have r3 := FS_42 r2 (dep s)
      have step : etB (b + 77) (mk b W) = some (.inr (mk b (uI W1 77 42 (nI (dep s))))) := by
        unfold etB
        rw [rc_12_77, sf_last h (by rw [List.length_cons]; omega), Option.bind_some, show lastOf (x :: s) = nI x.1 from rfl]
        rw [q, if_pos (show nI 33 = (33 : Int32) from rfl), rc_12_77, r1, Option.bind_some, gI_12_77_42, Option.bind_some, r2.2.2.2.2.1, ed, nI_s1, sI_12_77_42, Option.bind_some]
      have e : epop L (x :: s) = epop (L ++ [33]) s := by
        show (if x.1 = 33 then _ else _) = _
        rw [if_pos q]
      rw [lp_one step, e]
      rw [q] at r3
      exact etB_lp s _ _ r3 (by rw [List.length_append]; show L.length + 1 + s.length ≤ 100; omega) hs.2 M (by omega)
    · have e : epop L (x :: s) = (L, x :: s) := by
        show (if x.1 = 33 then _ else _) = _
        rw [if_neg q]
      rw [e]
      refine ⟨W, lp_out ?_, h⟩
      unfold etB
      rw [rc_12_77, sf_last h (by rw [List.length_cons]; omega), Option.bind_some, show lastOf (x :: s) = nI x.1 from rfl]
      rw [if_neg (show ¬ nI x.1 = (33 : Int32) from fun y => q (nI_inj (a := x.1) (b := 33) (by have := hs.1; omega) (by omega) y))]
theorem sf_ends {s : List (Nat × Nat)} {L : List Nat} {W : WD} (h : FS w0 W len a z (dep s) L s) (hl : L.length + s.length ≤ 100) (hs : sgn s) : ∃ W', FX12_endsTruth (mk b W) (b + 77) = some (mk b W') ∧ FS w0 W' len a 0 (dep (epop L s).2) (epop L s).1 (epop L s).2 := by
  obtain ⟨W', r1, r2⟩ := etB_lp (b := b) s L W h hl hs FU (Nat.lt_of_le_of_lt (show s.length ≤ 100 by omega) (by decide))
  refine ⟨_, ?_, FS_43 r2 0⟩
  unfold FX12_endsTruth
  refine bS r1 ?_
  rw [sZ_mk (j := 77) (k := 43) (by decide +kernel) b _ (Or.inl rfl), Option.bind_some]
theorem sf_opens {d : Nat} {s : List (Nat × Nat)} {L : List Nat} {W : WD} (h : FS w0 W len a z d L s) (hd : d ≤ 6) : FX12_opensOne (mk b W) (b + 77) = some (if d = 6 then (0, mk b (uI W 77 17 (flt (5, a)))) else (1, mk b (uI W 77 42 (nI (d + 1))))) := by
  unfold FX12_opensOne
  rw [gI_12_77_42, Option.bind_some, h.2.2.2.2.1]
  by_cases q : d = 6
  · rw [q, if_pos (show nI 6 = (6 : Int32) from rfl), if_pos rfl, gI_12_77_15, Option.bind_some, h.2.2.1, rc_12_77]
    refine bS (sf_wrong 5 a) ?_
    unfold bz
    rw [if_pos (Or.inl rfl)]
  · rw [if_neg (show ¬ nI d = (6 : Int32) from fun y => q (nI_inj (a := d) (b := 6) (by omega) (by omega) y)), if_neg q, Option.bind_some, nI_1, sI_12_77_42, Option.bind_some]
end
