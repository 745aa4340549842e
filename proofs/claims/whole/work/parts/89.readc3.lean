/-! the class reads sums -/
def sgw (k : Nat) : Int32 := if k = 0 then 0 else nI (sg k)
section
variable {b : Nat} {w0 : WD} {o len : Nat} {ch : Nat → Nat}
theorem cC_op {k : Nat} (h1 : 2 ≤ k) (h2 : k ≤ 10) (i : Nat) : cC i (k, 0) = -(nI (sg k)) := by
  unfold cC
  dsimp only
  rw [if_neg (by omega), if_neg (by omega), if_neg (by omega), if_neg (by omega)]
theorem emit_op {a s s0 : Nat} {g g0 : Nat → Int32} (ho : LW o) {l : Cds} (hs : s = s0 + l.length) (hs2 : s < 240) (hg : ∀ i, i < s0 → g i = g0 i) (hl : layd cC g s0 l) {k : Nat} (h1 : 2 ≤ k) (h2 : k ≤ 10) : ∃ g', FX2_emit (mk b (stW w0 o a s g 0)) (b + o) (-(nI (sg k))) = some (mk b (stW w0 o a (s + 1) g' 0)) ∧ (∀ i, i < s0 → g' i = g0 i) ∧ layd cC g' s0 (l ++ [(k, 0)]) := by
  refine ⟨_, st_emit ho hs2 _, fun i hi => by rw [pk_un (by omega)]; exact hg i hi, ?_⟩
  rw [layd_app]
  refine ⟨layd_cong l s0 (fun i h3 h4 => pk_un (by omega)) hl, ?_⟩
  rw [← hs]
  refine ⟨?_, trivial⟩
  rw [pk_us, cC_op h1 h2]
theorem sgw_mul {x : Nat} (hx : x ≤ 256) : (txv x = (42 : Int32) ∨ txv x = (47 : Int32) ∨ txv x = (37 : Int32)) ↔ mulK x ≠ 0 := by
  have h1 : (txv x = (42 : Int32)) ↔ x = 42 := tq hx (by decide)
  have h2 : (txv x = (47 : Int32)) ↔ x = 47 := tq hx (by decide)
  have h3 : (txv x = (37 : Int32)) ↔ x = 37 := tq hx (by decide)
  rw [h1, h2, h3]
  unfold mulK
  constructor
  · rintro (rfl | rfl | rfl) <;> decide
  · intro h
    by_cases q1 : x = 42
    · exact Or.inl q1
    · by_cases q2 : x = 47
      · exact Or.inr (Or.inl q2)
      · by_cases q3 : x = 37
        · exact Or.inr (Or.inr q3)
        · rw [if_neg q1, if_neg q2, if_neg q3] at h
          exact absurd rfl h
theorem sgw_add {x : Nat} (hx : x ≤ 256) : (txv x = (43 : Int32) ∨ txv x = (45 : Int32)) ↔ addK x ≠ 0 := by
  have h1 : (txv x = (43 : Int32)) ↔ x = 43 := tq hx (by decide)
  have h2 : (txv x = (45 : Int32)) ↔ x = 45 := tq hx (by decide)
  rw [h1, h2]
  unfold addK
  constructor
  · rintro (rfl | rfl) <;> decide
  · intro h
    by_cases q1 : x = 43
    · exact Or.inl q1
    · by_cases q2 : x = 45
      · exact Or.inr q2
      · rw [if_neg q1, if_neg q2] at h
        exact absurd rfl h
theorem mulK_sg {x : Nat} (h : mulK x ≠ 0) : nI (sg (mulK x)) = txv x := by
  unfold mulK at *
  by_cases q1 : x = 42
  · subst q1; rfl
  · by_cases q2 : x = 47
    · subst q2; rfl
    · by_cases q3 : x = 37
      · subst q3; rfl
      · rw [if_neg q1, if_neg q2, if_neg q3] at h
        exact absurd rfl h
theorem addK_sg {x : Nat} (h : addK x ≠ 0) : sgw (addK x) = txv x := by
  unfold addK at *
  by_cases q1 : x = 43
  · subst q1; rfl
  · by_cases q2 : x = 45
    · subst q2; rfl
    · rw [if_neg q1, if_neg q2] at h
      exact absurd rfl h
theorem sgw_0 {k : Nat} (hk : k = 0 ∨ k = 2 ∨ k = 3) : (sgw k = 0) ↔ k = 0 := by
  rcases hk with rfl | rfl | rfl <;> decide
def sumBd (rF : HP → Nat → Int32 → Option HP) (p0 : Nat) (p1 : Int32) : Int32 × Int32 × HP → Option ((Int32 × HP) ⊕ (Int32 × Int32 × HP)) := (fun (s2 : Int32 × Int32 × HP) => (gI [2] 1 s2.2.2 p0).bind (fun v5 => if v5 ≤ s2.2.1 then some (Sum.inl (s2.1, s2.2.2)) else (gI [2] 3 s2.2.2 p0).bind (fun v6 => if v6 = 0 then (rc [2] s2.2.2 p0 (FX4_here s2.2.2 p0)).bind (fun v7 => jn (A := Unit) (fun a8 => (gI [2] 2 s2.2.2 p0).bind (fun v10 => (sI [2] 2 s2.2.2 p0 (v10 + (1 : Int32))).bind (fun hp11 => (rc [2] hp11 p0 (rF hp11 p0 p1)).bind (fun w12 => (rc [2] w12 p0 (FX2_emit w12 p0 (-v7))).bind (fun w13 => vl (s2.2.1 + (1 : Int32)) (fun x14 => some (Sum.inr (s2.1, x14, w13)))))))) (fun J9 => if v7 = (42 : Int32) then J9 () else if v7 = (47 : Int32) then J9 () else if v7 = (37 : Int32) then J9 () else jn (A := Unit) (fun a15 => (gI [2] 2 s2.2.2 p0).bind (fun v17 => (sI [2] 2 s2.2.2 p0 (v17 + (1 : Int32))).bind (fun hp18 => jn (A := HP) (fun a19 => (rc [2] a19 p0 (rF a19 p0 p1)).bind (fun w21 => vl (s2.2.1 + (1 : Int32)) (fun x22 => some (Sum.inr (v7, x22, w21))))) (fun J20 => if s2.1 = 0 then J20 hp18 else (rc [2] hp18 p0 (FX2_emit hp18 p0 (-s2.1))).bind (fun w23 => J20 w23))))) (fun J16 => if v7 = (43 : Int32) then J16 () else if v7 = (45 : Int32) then J16 () else some (Sum.inl (s2.1, s2.2.2))))) else some (Sum.inl (s2.1, s2.2.2)))))
theorem sum_body (rS rF : HP → Nat → Int32 → Option HP) (hp : HP) (p0 : Nat) (p1 : Int32) : FBX2_readSum rS rF hp p0 p1 = (rc [2] hp p0 (rF hp p0 p1)).bind (fun w1 => (lp (sumBd rF p0 p1) FU ((0 : Int32), (0 : Int32), w1)).bind (fun (y3 : Int32 × HP) => if y3.1 = 0 then some y3.2 else (rc [2] y3.2 p0 (FX2_emit y3.2 p0 (-y3.1))).bind (fun w4 => some w4))) := rfl
theorem sumBd_fault (hT : TxC w0 o len ch) {a s : Nat} {g : Nat → Int32} {f : Int32} (hf : f ≠ 0) (rF : HP → Nat → Int32 → Option HP) (d wt t : Int32) : sumBd rF (b + o) d (wt, t, mk b (stW w0 o a s g f)) = some (.inl (wt, mk b (stW w0 o a s g f))) := by
  have ho := hT.1
  unfold sumBd
  dsimp only
  rw [gI_2_o_1 b _ ho, Option.bind_some]
  split
  · rfl
  · rw [gI_2_o_3 b _ ho, Option.bind_some, stW_3, if_neg hf]
theorem sumBd_stop (hT : TxC w0 o len ch) {a s t : Nat} {g : Nat → Int32} (ha : a ≤ len) (ht : t < 300) (h1 : mulK (ch a) = 0) (h2 : addK (ch a) = 0) (rF : HP → Nat → Int32 → Option HP) (d wt : Int32) : sumBd rF (b + o) d (wt, nI t, mk b (stW w0 o a s g 0)) = some (.inl (wt, mk b (stW w0 o a s g 0))) := by
  have ho := hT.1
  have hx := chr_le hT.2.2.2 a
  have n1 : ¬ (txv (ch a) = (42 : Int32) ∨ txv (ch a) = (47 : Int32) ∨ txv (ch a) = (37 : Int32)) := fun z => (sgw_mul hx).mp z h1
  have n2 : ¬ (txv (ch a) = (43 : Int32) ∨ txv (ch a) = (45 : Int32)) := fun z => (sgw_add hx).mp z h2
  unfold sumBd
  dsimp only
  rw [gI_2_o_1 b _ ho, Option.bind_some]
  split
  · rfl
  · rw [gI_2_o_3 b _ ho, Option.bind_some, stW_3, if_pos rfl, rc_2_o b _ ho, st_here hT ha, Option.bind_some, jn_eq, if_neg (fun z => n1 (Or.inl z)), if_neg (fun z => n1 (Or.inr (Or.inl z))), if_neg (fun z => n1 (Or.inr (Or.inr z))), jn_eq, if_neg (fun z => n2 (Or.inl z)), if_neg (fun z => n2 (Or.inr z))]
theorem sumBd_mul (hT : TxC w0 o len ch) {a s t : Nat} {g : Nat → Int32} (ha : a ≤ len) (ht : t < len) (h1 : mulK (ch a) ≠ 0) (rF : HP → Nat → Int32 → Option HP) (d wt : Int32) : sumBd rF (b + o) d (wt, nI t, mk b (stW w0 o a s g 0)) = (rF (mk b (stW w0 o (a + 1) s g 0)) (b + o) d).bind (fun w12 => (rc [2] w12 (b + o) (FX2_emit w12 (b + o) (-(nI (sg (mulK (ch a))))))).bind (fun w13 => some (.inr (wt, nI (t + 1), w13)))) := by
  have ho := hT.1
  have hlen := hT.2.2.1
  have hx := chr_le hT.2.2.2 a
  unfold sumBd
  dsimp only
  rw [gI_2_o_1 b _ ho, Option.bind_some, stW_I (by omega), hT.2.1, if_neg (nI_ge ht (by omega)), gI_2_o_3 b _ ho, Option.bind_some, stW_3, if_pos rfl, rc_2_o b _ ho, st_here hT ha, Option.bind_some, jn_eq]
  dsimp only
  rw [gI_2_o_2 b _ ho, Option.bind_some, stW_2, nI_1, sI_2_o_2 b _ ho, Option.bind_some, stW_u2, rc_2_o b _ ho]
  rcases (sgw_mul hx).mpr h1 with e | e | e
  · rw [mulK_sg h1, if_pos e, ← nI_1]
    rfl
  · rw [mulK_sg h1, if_neg (by rw [e]; decide), if_pos e, ← nI_1]
    rfl
  · rw [mulK_sg h1, if_neg (by rw [e]; decide), if_neg (by rw [e]; decide), if_pos e, ← nI_1]
    rfl
theorem sumBd_add (hT : TxC w0 o len ch) {a s t : Nat} {g : Nat → Int32} (ha : a ≤ len) (ht : t < len) (h1 : mulK (ch a) = 0) (h2 : addK (ch a) ≠ 0) (rF : HP → Nat → Int32 → Option HP) (d wt : Int32) : sumBd rF (b + o) d (wt, nI t, mk b (stW w0 o a s g 0)) = (if wt = 0 then some (mk b (stW w0 o (a + 1) s g 0)) else FX2_emit (mk b (stW w0 o (a + 1) s g 0)) (b + o) (-wt)).bind (fun a19 => (rc [2] a19 (b + o) (rF a19 (b + o) d)).bind (fun w21 => some (.inr (sgw (addK (ch a)), nI (t + 1), w21)))) := by
  have ho := hT.1
  have hlen := hT.2.2.1
  have hx := chr_le hT.2.2.2 a
  have n1 : ¬ (txv (ch a) = (42 : Int32) ∨ txv (ch a) = (47 : Int32) ∨ txv (ch a) = (37 : Int32)) := fun z => (sgw_mul hx).mp z h1
  unfold sumBd
  dsimp only
  rw [gI_2_o_1 b _ ho, Option.bind_some, stW_I (by omega), hT.2.1, if_neg (nI_ge ht (by omega)), gI_2_o_3 b _ ho, Option.bind_some, stW_3, if_pos rfl, rc_2_o b _ ho, st_here hT ha, Option.bind_some, jn_eq, if_neg (fun z => n1 (Or.inl z)), if_neg (fun z => n1 (Or.inr (Or.inl z))), if_neg (fun z => n1 (Or.inr (Or.inr z))), jn_eq]
  dsimp only
  rw [gI_2_o_2 b _ ho, Option.bind_some, stW_2, nI_1, sI_2_o_2 b _ ho, Option.bind_some, stW_u2, jn_eq, rc_2_o b _ ho, nI_1, addK_sg h2]
  have fin : (if wt = 0 then (fun a19 => (rc [2] a19 (b + o) (rF a19 (b + o) d)).bind (fun w21 => vl (nI (t + 1)) (fun x22 => some (Sum.inr (α := Int32 × HP) (txv (ch a), x22, w21))))) (mk b (stW w0 o (a + 1) s g 0)) else (FX2_emit (mk b (stW w0 o (a + 1) s g 0)) (b + o) (-wt)).bind (fun w23 => (fun a19 => (rc [2] a19 (b + o) (rF a19 (b + o) d)).bind (fun w21 => vl (nI (t + 1)) (fun x22 => some (Sum.inr (α := Int32 × HP) (txv (ch a), x22, w21))))) w23)) = (if wt = 0 then some (mk b (stW w0 o (a + 1) s g 0)) else FX2_emit (mk b (stW w0 o (a + 1) s g 0)) (b + o) (-wt)).bind (fun a19 => (rc [2] a19 (b + o) (rF a19 (b + o) d)).bind (fun w21 => some (Sum.inr (txv (ch a), nI (t + 1), w21)))) := by
    by_cases q : wt = 0
    · rw [if_pos q, if_pos q]
      rfl
    · rw [if_neg q, if_neg q]
      rfl
  rcases (sgw_add hx).mpr h2 with e | e
  · rw [if_pos e]
    exact fin
  · rw [if_neg (by rw [e]; decide), if_pos e]
    exact fin
theorem sum_c (hT : TxC w0 o len ch) {d : Nat} {rS rF : HP → Nat → Int32 → Option HP} {fac : Nat → PR} (hsp : SpC b w0 o len rF d fac) (hfn : ∀ a, a ≤ len → fine len a (fac a)) : SpC b w0 o len (FBX2_readSum rS rF) d (pSumB ch fac) := by
  have ho := hT.1
  have hlen := hT.2.2.1
  intro a s g f ha hs
  rw [sum_body, rc_2_o b _ ho]
  constructor
  · intro hf
    obtain ⟨a1, s1, g1, e1, p1, p2⟩ := (hsp a s g f ha hs).1 hf
    rw [e1, Option.bind_some, show FU = 999999 + 1 from rfl, lp_out (sumBd_fault hT hf rF _ _ _), Option.bind_some, if_pos rfl]
    exact ⟨_, _, _, rfl, p1, p2⟩
  · intro hf hsa
    subst hf
    obtain ⟨a1, s1, g1, f1, e1, p1⟩ := (hsp a s g 0 ha hs).2 rfl hsa
    rw [e1, Option.bind_some]
    have hfine := hfn a ha
    have lem := lpb_ex (body := sumBd rF (b + o) (nI d))
      (kf := fun (y3 : Int32 × HP) => if y3.1 = 0 then some y3.2 else (rc [2] y3.2 (b + o) (FX2_emit y3.2 (b + o) (-y3.1))).bind (fun w4 => some w4)) (N := FU) (s0 := ((0 : Int32), (0 : Int32), mk b (stW w0 o a1 s1 g1 f1)))
      (fun q s2 => (∃ wt t a' s' g' z, s2 = (wt, t, mk b (stW w0 o a' s' g' (flt z))) ∧ a' ≤ len ∧ s' ≤ 240 ∧ flt z ≠ 0 ∧ pSumB ch fac a = .inl z) ∨ ∃ t n a' acc k s' g', q = len + 1 - a' ∧ s2 = (sgw k, nI t, mk b (stW w0 o a' s' g' 0)) ∧ (k = 0 ∨ k = 2 ∨ k = 3) ∧ pSumL ch fac n a' acc k = pSumB ch fac a ∧ s' = s + acc.length ∧ (∀ i, i < s → g' i = g i) ∧ layd cC g' s acc ∧ len < a' + n ∧ (t < a' ∧ a < a') ∧ a' ≤ len ∧ acc.length + (wl k).length ≤ a' - a)
      (fun x => (∃ wt a' s' g' z, x = (wt, mk b (stW w0 o a' s' g' (flt z))) ∧ a' ≤ len ∧ s' ≤ 240 ∧ pSumB ch fac a = .inl z) ∨ ∃ a' acc k s' g', x = (sgw k, mk b (stW w0 o a' s' g' 0)) ∧ (k = 0 ∨ k = 2 ∨ k = 3) ∧ pSumB ch fac a = .inr (a', acc ++ wl k) ∧ s' = s + acc.length ∧ (∀ i, i < s → g' i = g i) ∧ layd cC g' s acc ∧ (a < a' ∧ a' ≤ len) ∧ acc.length + (wl k).length ≤ a' - a)
      (fun r => ∃ a' s' g' f', r = mk b (stW w0 o a' s' g' f') ∧ PoC len s g (pSumB ch fac a) a' s' g' f') (len + 1 - a1) (by unfold FU; omega) ?_ ?_ ?_
    · obtain ⟨r, q1, a', s', g', f', rfl, q2⟩ := lem
      exact ⟨a', s', g', f', q1, q2⟩
    · cases hp : fac a with
      | inl z =>
        rw [hp] at p1
        obtain ⟨r1, r2, rfl⟩ := p1
        refine Or.inl ⟨0, 0, a1, s1, g1, z, rfl, r1, r2, flt_of hfine hlen hp, ?_⟩
        unfold pSumB
        rw [hp]
      | inr z =>
        rw [hp] at p1 hfine
        obtain ⟨r1, r2, r3, r4, r5⟩ := p1
        obtain ⟨v1, v2, v3⟩ := hfine
        subst r3
        refine Or.inr ⟨0, 300, a1, z.2, 0, s1, g1, rfl, rfl, Or.inl rfl, ?_, r2, r4, r5, by omega, ⟨by omega, by omega⟩, by omega, ?_⟩
        · unfold pSumB
          rw [hp, r1]
        · show z.2.length + 0 ≤ a1 - a
          omega
    · rintro q s2 (⟨wt, t, a', s', g', z, rfl, h1, h2, h3, h4⟩ | ⟨t, n, a', acc, k, s', g', rfl, rfl, hk, hp, hs', hg', hl', hn, ⟨ht, haa⟩, ha', hac⟩)
      · exact Or.inl ⟨_, sumBd_fault hT h3 rF _ _ _, Or.inl ⟨wt, a', s', g', z, rfl, h1, h2, h4⟩⟩
      · obtain ⟨n, rfl⟩ : ∃ m, n = m + 1 := ⟨n - 1, by omega⟩
        have hwl := wl_len k
        by_cases hm : mulK (ch a') ≠ 0
        · right
          have hin : a' < len := by
            rcases Nat.lt_or_ge a' len with z | z
            · exact z
            · rw [hT.2.2.2.2 a' z] at hm
              exact absurd rfl hm
          obtain ⟨m1, m2⟩ := mulK_in hm
          have hpu : pSumL ch fac (n + 1) a' acc k = (match fac (a' + 1) with
              | .inl z => .inl z
              | .inr (a'', l) => pSumL ch fac n a'' (acc ++ l ++ [(mulK (ch a'), 0)]) k) := by
            conv => lhs; unfold pSumL
            rw [if_pos hm]
            cases fac (a' + 1) <;> rfl
          rw [hpu] at hp
          obtain ⟨a2, s2, g2, f2, e2, p2⟩ := (hsp (a' + 1) s' g' 0 hin (by omega)).2 rfl (by omega)
          have hfine2 := hfn (a' + 1) hin
          have hb := sumBd_mul (b := b) (s := s') (g := g') hT ha' (show t < len by omega) hm rF (nI d) (sgw k)
          rw [e2, Option.bind_some, rc_2_o b _ ho] at hb
          cases hfa : fac (a' + 1) with
          | inl z =>
            rw [hfa] at p2 hp
            obtain ⟨r1, r2, rfl⟩ := p2
            obtain ⟨s3, g3, e3, e4⟩ := st_emit' (b := b) (w0 := w0) (a := a2) (s := s2) (g := g2) (f := flt z) ho r2 (-(nI (sg (mulK (ch a')))))
            rw [e3, Option.bind_some] at hb
            exact ⟨_, 0, hb, by omega, Or.inl ⟨_, _, a2, s3, g3, z, rfl, r1, e4, flt_of hfine2 hlen hfa, hp.symm⟩⟩
          | inr z =>
            rw [hfa] at p2 hp hfine2
            obtain ⟨r1, r2, r3, r4, r5⟩ := p2
            obtain ⟨v1, v2, v3⟩ := hfine2
            subst r3
            have hl2 : layd cC g2 s (acc ++ z.2) := by
              rw [layd_app]
              refine ⟨layd_cong acc s (fun i h3 h4 => r4 i (by omega)) hl', ?_⟩
              rw [← hs']
              exact r5
            obtain ⟨g3, e3, e4, e5⟩ := emit_op (b := b) (w0 := w0) (a := a2) (s := s2) (s0 := s) (g := g2) (g0 := g) ho (l := acc ++ z.2) (by rw [List.length_append]; omega) (by omega) (fun i hi => by rw [r4 i (by omega)]; exact hg' i hi) hl2 (k := mulK (ch a')) (by omega) (by omega)
            rw [e3, Option.bind_some] at hb
            refine ⟨_, len + 1 - a2, hb, by omega, Or.inr ⟨t + 1, n, a2, acc ++ z.2 ++ [(mulK (ch a'), 0)], k, s2 + 1, g3, rfl, rfl, hk, ?_, ?_, e4, e5, by omega, ⟨by omega, by omega⟩, by omega, ?_⟩⟩
            · rw [← hp, r1]
            · rw [List.length_append, List.length_append]
              show s2 + 1 = s + (acc.length + z.2.length + 1)
              omega
            · rw [List.length_append, List.length_append]
              show acc.length + z.2.length + 1 + (wl k).length ≤ a2 - a
              omega
        · have hm0 : mulK (ch a') = 0 := Classical.not_not.mp hm
          by_cases hd2 : addK (ch a') ≠ 0
          · right
            have hin : a' < len := by
              rcases Nat.lt_or_ge a' len with z | z
              · exact z
              · rw [hT.2.2.2.2 a' z] at hd2
                exact absurd rfl hd2
            have hpu : pSumL ch fac (n + 1) a' acc k = (match fac (a' + 1) with
                | .inl z => .inl z
                | .inr (a'', l) => pSumL ch fac n a'' (acc ++ wl k ++ l) (addK (ch a'))) := by
              conv => lhs; unfold pSumL
              rw [if_neg hm, if_pos hd2]
              cases fac (a' + 1) <;> rfl
            rw [hpu] at hp
            have hb := sumBd_add (b := b) (s := s') (g := g') hT ha' (show t < len by omega) hm0 hd2 rF (nI d) (sgw k)
            have em : ∃ g3, (if sgw k = 0 then some (mk b (stW w0 o (a' + 1) s' g' 0)) else FX2_emit (mk b (stW w0 o (a' + 1) s' g' 0)) (b + o) (-(sgw k))) = some (mk b (stW w0 o (a' + 1) (s' + (wl k).length) g3 0)) ∧ (∀ i, i < s → g3 i = g i) ∧ layd cC g3 s (acc ++ wl k) := by
              by_cases k0 : k = 0
              · rw [if_pos ((sgw_0 hk).mpr k0), k0]
                refine ⟨g', rfl, hg', ?_⟩
                show layd cC g' s (acc ++ [])
                rw [List.append_nil]
                exact hl'
              · rw [if_neg (fun z => k0 ((sgw_0 hk).mp z))]
                rw [if_neg k0] at hwl
                obtain ⟨g3, e3, e4, e5⟩ := emit_op (b := b) (w0 := w0) (a := a' + 1) (s := s') (s0 := s) (g := g') (g0 := g) ho (l := acc) hs' (by omega) hg' hl' (k := k) (by omega) (by omega)
                have ew : wl k = [(k, 0)] := if_neg k0
                have es : sgw k = nI (sg k) := if_neg k0
                rw [es, ew]
                exact ⟨g3, e3, e4, e5⟩
            obtain ⟨g3, em1, em2, em3⟩ := em
            rw [em1, Option.bind_some, rc_2_o b _ ho] at hb
            obtain ⟨a2, s2, g2, f2, e2, p2⟩ := (hsp (a' + 1) (s' + (wl k).length) g3 0 hin (by omega)).2 rfl (by omega)
            have hfine2 := hfn (a' + 1) hin
            rw [e2, Option.bind_some] at hb
            cases hfa : fac (a' + 1) with
            | inl z =>
              rw [hfa] at p2 hp
              obtain ⟨r1, r2, rfl⟩ := p2
              exact ⟨_, 0, hb, by omega, Or.inl ⟨_, _, a2, s2, g2, z, rfl, r1, r2, flt_of hfine2 hlen hfa, hp.symm⟩⟩
            | inr z =>
              rw [hfa] at p2 hp hfine2
              obtain ⟨r1, r2, r3, r4, r5⟩ := p2
              obtain ⟨v1, v2, v3⟩ := hfine2
              subst r3
              have hwl2 := wl_len (addK (ch a'))
              rw [if_neg hd2] at hwl2
              refine ⟨_, len + 1 - a2, hb, by omega, Or.inr ⟨t + 1, n, a2, acc ++ wl k ++ z.2, addK (ch a'), s2, g2, rfl, rfl, Or.inr (addK_in hd2), ?_, ?_, fun i hi => ?_, ?_, by omega, ⟨by omega, by omega⟩, by omega, ?_⟩⟩
              · rw [← hp, r1]
              · rw [List.length_append, List.length_append]
                omega
              · rw [r4 i (by omega)]
                exact em2 i hi
              · rw [layd_app]
                refine ⟨layd_cong _ s (fun i h3 h4 => r4 i (by rw [List.length_append] at h4; omega)) em3, ?_⟩
                rw [List.length_append, ← Nat.add_assoc, ← hs']
                exact r5
              · rw [List.length_append, List.length_append]
                omega
          · left
            have hd0 : addK (ch a') = 0 := Classical.not_not.mp hd2
            refine ⟨_, sumBd_stop hT ha' (show t < 300 by omega) hm0 hd0 rF _ _, Or.inr ⟨a', acc, k, s', g', rfl, hk, ?_, hs', hg', hl', ⟨haa, ha'⟩, hac⟩⟩
            rw [← hp]
            conv => lhs; unfold pSumL
            rw [if_neg hm, if_neg hd2]
    · rintro x (⟨wt, a', s', g', z, rfl, h1, h2, h4⟩ | ⟨a', acc, k, s', g', rfl, hk, hp, hs', hg', hl', ⟨haa, ha'⟩, hac⟩)
      · dsimp only
        by_cases q : wt = 0
        · rw [if_pos q]
          refine ⟨_, rfl, a', s', g', flt z, rfl, ?_⟩
          rw [h4]
          exact ⟨h1, h2, rfl⟩
        · rw [if_neg q, rc_2_o b _ ho]
          obtain ⟨s3, g3, e1, e2⟩ := st_emit' (b := b) (w0 := w0) (a := a') (s := s') (g := g') (f := flt z) ho h2 (-wt)
          refine ⟨_, bS e1 rfl, a', s3, g3, flt z, rfl, ?_⟩
          rw [h4]
          exact ⟨h1, e2, rfl⟩
      · dsimp only
        have hwl := wl_len k
        by_cases k0 : k = 0
        · rw [if_pos ((sgw_0 hk).mpr k0)]
          refine ⟨_, rfl, a', s', g', 0, rfl, ?_⟩
          rw [hp, k0]
          show a' = a' ∧ s' = s + (acc ++ []).length ∧ (0 : Int32) = 0 ∧ (∀ i, i < s → g' i = g i) ∧ layd cC g' s (acc ++ [])
          rw [List.append_nil]
          exact ⟨rfl, hs', rfl, hg', hl'⟩
        · rw [if_neg (fun z => k0 ((sgw_0 hk).mp z)), rc_2_o b _ ho]
          rw [if_neg k0] at hwl
          obtain ⟨g3, e3, e4, e5⟩ := emit_op (b := b) (w0 := w0) (a := a') (s := s') (s0 := s) (g := g') (g0 := g) ho (l := acc) hs' (by omega) hg' hl' (k := k) (by omega) (by omega)
          have ew : wl k = [(k, 0)] := if_neg k0
          have es : sgw k = nI (sg k) := if_neg k0
          rw [es]
          refine ⟨_, bS e3 rfl, a', s' + 1, g3, 0, rfl, ?_⟩
          rw [hp, ew]
          refine ⟨rfl, ?_, rfl, e4, e5⟩
          show s' + 1 = s + (acc ++ [(k, 0)]).length
          rw [List.length_append]
          show s' + 1 = s + (acc.length + 1)
          omega
/-- sums and factors, however deep -/
theorem sums_c (hT : TxC w0 o len ch) : ∀ (e d N : Nat), d + e = 6 → 2 * e + 2 ≤ N → SpC b w0 o len (FX2_readSum N) d (pSum ch e) := by
  have hfi := hT.2.2.2.2
  intro e
  induction e with
  | zero =>
    intro d N hd hN
    obtain ⟨N, rfl⟩ : ∃ m, N = m + 2 := ⟨N - 2, by omega⟩
    show SpC b w0 o len (FBX2_readSum (FGSU (N + 1)).1 (FBX2_readFactor (FGSU N).1 (FGSU N).2)) d (pSumB ch (pFacs ch 0))
    refine sum_c hT ?_ (fun a ha => pFacs_fine hfi 0 a ha)
    exact fac_c (N := N) (e := 0) hT hd (inner := none) (fun _ => rfl) (fun q => absurd rfl q)
  | succ e ih =>
    intro d N hd hN
    obtain ⟨N, rfl⟩ : ∃ m, N = m + 2 := ⟨N - 2, by omega⟩
    show SpC b w0 o len (FBX2_readSum (FGSU (N + 1)).1 (FBX2_readFactor (FGSU N).1 (FGSU N).2)) d (pSumB ch (pFacs ch (e + 1)))
    refine sum_c hT ?_ (fun a ha => pFacs_fine hfi (e + 1) a ha)
    exact fac_c (N := N) (e := e + 1) hT hd (inner := some (pSumB ch (pFacs ch e))) (fun q => by omega) (fun _ => ⟨_, rfl, ih (d + 1) N (by omega) (by omega), fun a ha => pSum_fine hfi e ha⟩)
end
