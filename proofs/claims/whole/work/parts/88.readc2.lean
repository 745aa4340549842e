/-! the class reads numbers, factors, sums -/
section
variable {b : Nat} {w0 : WD} {o len : Nat} {ch : Nat → Nat}
theorem dg_c (hx : ∀ a, ch a ≤ 256) (a : Nat) : (txv (ch a) < (48 : Int32) → dg (ch a) = false) ∧ (¬ txv (ch a) < (48 : Int32) → (txv (ch a) ≤ (57 : Int32) ↔ dg (ch a) = true)) := by
  have h1 := tlt (x := ch a) (c := 48) (hx a) (by decide) (by decide)
  have h2 := tle (x := ch a) (c := 57) (hx a) (by decide)
  refine ⟨fun q => ?_, fun q => ?_⟩
  · have q := h1.mp q
    unfold dg
    rw [Bool.and_eq_false_iff, decide_eq_false_iff_not, decide_eq_false_iff_not]
    omega
  · have q : ¬ (ch a < 48 ∨ ch a = 256) := fun z => q (h1.mpr z)
    unfold dg
    rw [Bool.and_eq_true, decide_eq_true_eq, decide_eq_true_eq]
    constructor
    · intro z
      have := h2.mp z
      omega
    · intro z
      exact h2.mpr (Or.inl z.2)
theorem num_c (hT : TxC w0 o len ch) {a s : Nat} {g : Nat → Int32} (ha : a ≤ len) (hs : s ≤ a) (hd : dg (ch a) = true) : ∃ a' s' g' f', FX2_readNumber (mk b (stW w0 o a s g 0)) (b + o) = some (mk b (stW w0 o a' s' g' f')) ∧ PoC len s g (pNum ch 5 a 0) a' s' g' f' := by
  have ho := hT.1
  have hx := chr_le hT.2.2.2
  have hl : a < len := dg_in hT.2.2.2.2 hd
  have hlen := hT.2.2.1
  unfold FX2_readNumber
  have lem := lpb_ex (body := fun (s1 : Int32 × Int32 × HP) => if (5 : Int32) < s1.2.1 then some (Sum.inl (s1.1, s1.2.2)) else (rc [2] s1.2.2 (b + o) (FX4_here s1.2.2 (b + o))).bind (fun v4 => if v4 < (48 : Int32) then some (Sum.inl (s1.1, s1.2.2)) else if v4 ≤ (57 : Int32) then if s1.2.1 = (5 : Int32) then (rc [2] s1.2.2 (b + o) (FX4_fail s1.2.2 (b + o) (2 : Int32))).bind (fun w5 => some (Sum.inl (s1.1, w5))) else vl (((s1.1 * (10 : Int32)) + v4) - (48 : Int32)) (fun x6 => (gI [2] 2 s1.2.2 (b + o)).bind (fun v7 => (sI [2] 2 s1.2.2 (b + o) (v7 + (1 : Int32))).bind (fun hp8 => vl (s1.2.1 + (1 : Int32)) (fun x9 => some (Sum.inr (x6, x9, hp8)))))) else some (Sum.inl (s1.1, s1.2.2))))
    (kf := fun (y2 : Int32 × HP) => (rc [2] y2.2 (b + o) (FX2_emit y2.2 (b + o) y2.1)).bind (fun w3 => some w3)) (N := FU) (s0 := ((0 : Int32), (0 : Int32), mk b (stW w0 o a s g 0)))
    (fun q s1 => ∃ k v, q = k ∧ k ≤ 5 ∧ s1 = (nI v, nI (5 - k), mk b (stW w0 o (a + (5 - k)) s g 0)) ∧ a + (5 - k) ≤ len ∧ (k = 5 → True) ∧ pNum ch k (a + (5 - k)) v = pNum ch 5 a 0)
    (fun x => ∃ v a' f', x = (nI v, mk b (stW w0 o a' s g f')) ∧ a' ≤ len ∧ ((f' = 0 ∧ a < a' ∧ pNum ch 5 a 0 = .inr (a', [(0, v)])) ∨ ∃ z, f' = flt z ∧ pNum ch 5 a 0 = .inl z))
    (fun r => ∃ a' s' g' f', r = mk b (stW w0 o a' s' g' f') ∧ PoC len s g (pNum ch 5 a 0) a' s' g' f') 5 (by decide)
    ⟨5, 0, rfl, Nat.le_refl _, rfl, ha, fun _ => trivial, rfl⟩ ?_ ?_
  · obtain ⟨r, q1, a', s', g', f', rfl, q2⟩ := lem
    exact ⟨a', s', g', f', q1, q2⟩
  · rintro q s1 ⟨k, v, rfl, hk, rfl, hal, _, hp⟩
    dsimp only
    rw [if_neg (show ¬ (5 : Int32) < nI (5 - q) from nI_nlt (a := 5) (by omega) (by decide)), rc_2_o b _ ho, st_here hT hal, Option.bind_some]
    obtain ⟨d1, d2⟩ := dg_c hx (a + (5 - q))
    by_cases c1 : txv (ch (a + (5 - q))) < (48 : Int32)
    · left
      have hd0 := d1 c1
      have hq : q ≠ 5 := fun e => by rw [e, Nat.sub_self, Nat.add_zero, hd] at hd0; cases hd0
      rw [if_pos c1]
      refine ⟨_, rfl, v, a + (5 - q), 0, rfl, hal, Or.inl ⟨rfl, by omega, ?_⟩⟩
      rw [← hp]
      cases q with
      | zero => unfold pNum; rw [hd0]; rfl
      | succ q => unfold pNum; rw [hd0]; rfl
    · rw [if_neg c1]
      by_cases c2 : txv (ch (a + (5 - q))) ≤ (57 : Int32)
      · have hd1 := (d2 c1).mp c2
        have hlt := dg_in hT.2.2.2.2 hd1
        have etx : txv (ch (a + (5 - q))) = nI (ch (a + (5 - q))) := by
          unfold txv
          rw [if_neg]
          intro e
          rw [e] at hd1
          cases hd1
        have h48 : 48 ≤ ch (a + (5 - q)) := by
          unfold dg at hd1
          rw [Bool.and_eq_true, decide_eq_true_eq] at hd1
          exact hd1.1
        rw [if_pos c2]
        cases q with
        | zero =>
          left
          rw [if_pos (by decide), rc_2_o b _ ho]
          have e := st_fail (b := b) (w0 := w0) (a := a + (5 - 0)) (s := s) (g := g) (f := 0) ho 2
          rw [if_pos rfl] at e
          have e : FX4_fail (mk b (stW w0 o (a + (5 - 0)) s g 0)) (b + o) (2 : Int32) = some (mk b (stW w0 o (a + (5 - 0)) s g (flt (2, a + (5 - 0))))) := e
          rw [e, Option.bind_some]
          refine ⟨_, rfl, v, _, _, rfl, hal, Or.inr ⟨(2, a + (5 - 0)), rfl, ?_⟩⟩
          rw [← hp]
          unfold pNum
          rw [hd1]
          rfl
        | succ q =>
          right
          have hne : ¬ nI (5 - (q + 1)) = (5 : Int32) := fun e => absurd (nI_inj (a := 5 - (q + 1)) (b := 5) (by omega) (by decide) e) (by omega)
          rw [if_neg hne, vl_eq, gI_2_o_2 b _ ho, Option.bind_some, stW_2, nI_1, sI_2_o_2 b _ ho, Option.bind_some, stW_u2, vl_eq, nI_1, etx]
          refine ⟨_, q, rfl, Nat.lt_succ_self q, q, 10 * v + (ch (a + (5 - (q + 1))) - 48), rfl, by omega, ?_, by omega, fun _ => trivial, ?_⟩
          · have e1 : nI v * (10 : Int32) + nI (ch (a + (5 - (q + 1)))) - 48 = nI (10 * v + (ch (a + (5 - (q + 1))) - 48)) := by
              rw [fa_lit 10, fa_lit 48, pk_mul, nI_add, pk_sub (by omega)]
              congr 1
              omega
            rw [e1, show a + (5 - (q + 1)) + 1 = a + (5 - q) by omega, show 5 - (q + 1) + 1 = 5 - q by omega]
          · rw [← hp]
            show _ = (if dg (ch (a + (5 - (q + 1)))) then pNum ch q (a + (5 - (q + 1)) + 1) (10 * v + (ch (a + (5 - (q + 1))) - 48)) else .inr (a + (5 - (q + 1)), [(0, v)]))
            rw [hd1, if_pos rfl, show a + (5 - (q + 1)) + 1 = a + (5 - q) by omega]
      · left
        have hd0 : dg (ch (a + (5 - q))) = false := by
          rw [← Bool.not_eq_true]
          exact fun z => c2 ((d2 c1).mpr z)
        have hq : q ≠ 5 := fun e => by rw [e, Nat.sub_self, Nat.add_zero, hd] at hd0; cases hd0
        rw [if_neg c2]
        refine ⟨_, rfl, v, a + (5 - q), 0, rfl, hal, Or.inl ⟨rfl, by omega, ?_⟩⟩
        rw [← hp]
        cases q with
        | zero => unfold pNum; rw [hd0]; rfl
        | succ q => unfold pNum; rw [hd0]; rfl
  · rintro x ⟨v, a', f', rfl, ha', hcase⟩
    dsimp only
    rw [rc_2_o b _ ho]
    rcases hcase with ⟨rfl, hlt, hp⟩ | ⟨z, rfl, hp⟩
    · refine ⟨_, bS (st_emit ho (by omega) _) rfl, a', s + 1, _, 0, rfl, ?_⟩
      rw [hp]
      refine ⟨rfl, rfl, rfl, fun i hi => pk_un (by omega), ?_⟩
      refine ⟨?_, trivial⟩
      rw [pk_us]
      rfl
    · obtain ⟨s', g', e1, e2⟩ := st_emit' (b := b) (w0 := w0) (a := a') (s := s) (g := g) (f := flt z) ho (by omega) (nI v)
      refine ⟨_, bS e1 rfl, a', s', g', flt z, rfl, ?_⟩
      rw [hp]
      exact ⟨ha', e2, rfl⟩
theorem num_j (hT : TxC w0 o len ch) {a s : Nat} {g : Nat → Int32} {f : Int32} (ha : a ≤ len) (hs : s ≤ 240) (hf : f ≠ 0) : ∃ a' s' g', FX2_readNumber (mk b (stW w0 o a s g f)) (b + o) = some (mk b (stW w0 o a' s' g' f)) ∧ a' ≤ len ∧ s' ≤ 240 := by
  have ho := hT.1
  have hx := chr_le hT.2.2.2
  unfold FX2_readNumber
  have lem := lpb_ex (body := fun (s1 : Int32 × Int32 × HP) => if (5 : Int32) < s1.2.1 then some (Sum.inl (s1.1, s1.2.2)) else (rc [2] s1.2.2 (b + o) (FX4_here s1.2.2 (b + o))).bind (fun v4 => if v4 < (48 : Int32) then some (Sum.inl (s1.1, s1.2.2)) else if v4 ≤ (57 : Int32) then if s1.2.1 = (5 : Int32) then (rc [2] s1.2.2 (b + o) (FX4_fail s1.2.2 (b + o) (2 : Int32))).bind (fun w5 => some (Sum.inl (s1.1, w5))) else vl (((s1.1 * (10 : Int32)) + v4) - (48 : Int32)) (fun x6 => (gI [2] 2 s1.2.2 (b + o)).bind (fun v7 => (sI [2] 2 s1.2.2 (b + o) (v7 + (1 : Int32))).bind (fun hp8 => vl (s1.2.1 + (1 : Int32)) (fun x9 => some (Sum.inr (x6, x9, hp8)))))) else some (Sum.inl (s1.1, s1.2.2))))
    (kf := fun (y2 : Int32 × HP) => (rc [2] y2.2 (b + o) (FX2_emit y2.2 (b + o) y2.1)).bind (fun w3 => some w3)) (N := FU) (s0 := ((0 : Int32), (0 : Int32), mk b (stW w0 o a s g f)))
    (fun q s1 => ∃ k v a', q = k ∧ k ≤ 5 ∧ s1 = (v, nI (5 - k), mk b (stW w0 o a' s g f)) ∧ a' ≤ len)
    (fun x => ∃ v a', x = (v, mk b (stW w0 o a' s g f)) ∧ a' ≤ len)
    (fun r => ∃ a' s' g', r = mk b (stW w0 o a' s' g' f) ∧ a' ≤ len ∧ s' ≤ 240) 5 (by decide)
    ⟨5, 0, a, rfl, Nat.le_refl _, rfl, ha⟩ ?_ ?_
  · obtain ⟨r, q1, a', s', g', rfl, q2, q3⟩ := lem
    exact ⟨a', s', g', q1, q2, q3⟩
  · rintro q s1 ⟨k, v, a', rfl, hk, rfl, hal⟩
    dsimp only
    rw [if_neg (show ¬ (5 : Int32) < nI (5 - q) from nI_nlt (a := 5) (by omega) (by decide)), rc_2_o b _ ho, st_here hT hal, Option.bind_some]
    obtain ⟨d1, d2⟩ := dg_c hx a'
    by_cases c1 : txv (ch a') < (48 : Int32)
    · rw [if_pos c1]
      exact Or.inl ⟨_, rfl, _, _, rfl, hal⟩
    · rw [if_neg c1]
      by_cases c2 : txv (ch a') ≤ (57 : Int32)
      · have hlt := dg_in hT.2.2.2.2 ((d2 c1).mp c2)
        rw [if_pos c2]
        cases q with
        | zero =>
          left
          have e := st_fail (b := b) (w0 := w0) (a := a') (s := s) (g := g) (f := f) ho 2
          rw [if_neg hf] at e
          have e : FX4_fail (mk b (stW w0 o a' s g f)) (b + o) (2 : Int32) = some (mk b (stW w0 o a' s g f)) := e
          rw [if_pos (by decide), rc_2_o b _ ho, e, Option.bind_some]
          exact ⟨_, rfl, _, _, rfl, hal⟩
        | succ q =>
          right
          have hne : ¬ nI (5 - (q + 1)) = (5 : Int32) := fun e => absurd (nI_inj (a := 5 - (q + 1)) (b := 5) (by omega) (by decide) e) (by omega)
          rw [if_neg hne, vl_eq, gI_2_o_2 b _ ho, Option.bind_some, stW_2, nI_1, sI_2_o_2 b _ ho, Option.bind_some, stW_u2, vl_eq, nI_1]
          exact ⟨_, q, rfl, Nat.lt_succ_self q, q, _, a' + 1, rfl, by omega, by rw [show 5 - (q + 1) + 1 = 5 - q by omega], hlt⟩
      · rw [if_neg c2]
        exact Or.inl ⟨_, rfl, _, _, rfl, hal⟩
  · rintro x ⟨v, a', rfl, ha'⟩
    dsimp only
    rw [rc_2_o b _ ho]
    obtain ⟨s', g', e1, e2⟩ := st_emit' (b := b) (w0 := w0) (a := a') (s := s) (g := g) (f := f) ho hs v
    exact ⟨_, bS e1 rfl, a', s', g', rfl, ha', e2⟩
theorem ltr_c : ∀ x, x < 257 → (if txv x < (97 : Int32) then some (-1 : Int32) else FJ0_indexOf_0f7a4 (fun _ => none) (((txv x).toUInt32 % 65536).toInt32)) = some (if ltr x < 8 then nI (ltr x) else -1) := by decide +kernel
theorem ltr_hp (hp : HP) (x : Int32) : FJ0_indexOf_0f7a4 hp x = FJ0_indexOf_0f7a4 (fun _ => none) x := rfl
theorem flt_n {n p : Nat} (h1 : 1 ≤ n) (h2 : n ≤ 5) (h3 : p ≤ 260) : flt (n, p) ≠ 0 := flt_ne h1 h2 h3
theorem flt_of {pr : PR} {a : Nat} (h : fine len a pr) (hl : len ≤ 240) {z : Nat × Nat} (e : pr = .inl z) : flt z ≠ 0 := by
  rw [e] at h
  exact flt_ne h.1 h.2.1 (by have := h.2.2; omega)
theorem fac_c (hT : TxC w0 o len ch) {N e d : Nat} (hd : d + e = 6) {rS rF : HP → Nat → Int32 → Option HP} {inner : Option (Nat → PR)} (hin : e = 0 → inner = none) (hin2 : e ≠ 0 → ∃ f, inner = some f ∧ SpC b w0 o len rS (d + 1) f ∧ ∀ a, a ≤ len → fine len a (f a)) : SpC b w0 o len (FBX2_readFactor rS rF) d (pFacB ch inner) := by
  have ho := hT.1
  have hx := chr_le hT.2.2.2
  have hlen := hT.2.2.1
  intro a s g f ha hs
  have hc := hx a
  -- the letter's place
  have hlt := ltr_c (ch a) (by omega)
  have pre : FBX2_readFactor rS rF (mk b (stW w0 o a s g f)) (b + o) (nI d) = if ch a = 91 then (FX4_open (mk b (stW w0 o a s g f)) (b + o) (nI d)).bind (fun w4 => (gI [2] 3 w4 (b + o)).bind (fun v5 => if v5 = 0 then (rc [2] w4 (b + o) (rS w4 (b + o) (nI d + (1 : Int32)))).bind (fun w6 => (rc [2] w6 (b + o) (FX4_expect w6 (b + o) (93 : Int32))).bind (fun w7 => some w7)) else some w4)) else if dg (ch a) then FX2_readNumber (mk b (stW w0 o a s g f)) (b + o) else if ltr (ch a) < 8 then FX2_emit (mk b (stW w0 o (a + 1) s g f)) (b + o) (nI (100000 + ltr (ch a))) else some (mk b (stW w0 o a s g (if f = 0 then flt (1, a) else f))) := by
    unfold FBX2_readFactor
    rw [rc_2_o b _ ho, st_here hT ha, Option.bind_some, jn_eq]
    have J : ∀ v : Int32, v = (if ltr (ch a) < 8 then nI (ltr (ch a)) else -1) → (fun a2 => if txv (ch a) = (91 : Int32) then (rc [2] (mk b (stW w0 o a s g f)) (b + o) (FX4_open (mk b (stW w0 o a s g f)) (b + o) (nI d))).bind (fun w4 => (gI [2] 3 w4 (b + o)).bind (fun v5 => if v5 = 0 then (rc [2] w4 (b + o) (rS w4 (b + o) (nI d + (1 : Int32)))).bind (fun w6 => (rc [2] w6 (b + o) (FX4_expect w6 (b + o) (93 : Int32))).bind (fun w7 => some w7)) else some w4)) else jn (A := Unit) (fun a8 => if a2 < 0 then (rc [2] (mk b (stW w0 o a s g f)) (b + o) (FX4_fail (mk b (stW w0 o a s g f)) (b + o) (1 : Int32))).bind (fun w10 => some w10) else (gI [2] 2 (mk b (stW w0 o a s g f)) (b + o)).bind (fun v11 => (sI [2] 2 (mk b (stW w0 o a s g f)) (b + o) (v11 + (1 : Int32))).bind (fun hp12 => (rc [2] hp12 (b + o) (FX2_emit hp12 (b + o) ((100000 : Int32) + a2))).bind (fun w13 => some w13)))) (fun J9 => if txv (ch a) < (48 : Int32) then J9 () else if (57 : Int32) < txv (ch a) then J9 () else (rc [2] (mk b (stW w0 o a s g f)) (b + o) (FX2_readNumber (mk b (stW w0 o a s g f)) (b + o))).bind (fun w14 => some w14))) v = if ch a = 91 then (FX4_open (mk b (stW w0 o a s g f)) (b + o) (nI d)).bind (fun w4 => (gI [2] 3 w4 (b + o)).bind (fun v5 => if v5 = 0 then (rc [2] w4 (b + o) (rS w4 (b + o) (nI d + (1 : Int32)))).bind (fun w6 => (rc [2] w6 (b + o) (FX4_expect w6 (b + o) (93 : Int32))).bind (fun w7 => some w7)) else some w4)) else if dg (ch a) then FX2_readNumber (mk b (stW w0 o a s g f)) (b + o) else if ltr (ch a) < 8 then FX2_emit (mk b (stW w0 o (a + 1) s g f)) (b + o) (nI (100000 + ltr (ch a))) else some (mk b (stW w0 o a s g (if f = 0 then flt (1, a) else f))) := by
      intro v hv
      dsimp only
      have bs : ∀ (O : Option HP), O.bind (fun w => some w) = O := fun O => by cases O <;> rfl
      have t91 : (txv (ch a) = (91 : Int32)) ↔ ch a = 91 := tq hc (by decide)
      by_cases h91 : ch a = 91
      · rw [if_pos (t91.mpr h91), if_pos h91, rc_2_o b _ ho]
      · rw [if_neg (fun z => h91 (t91.mp z)), if_neg h91, jn_eq]
        obtain ⟨d1, d2⟩ := dg_c hx a
        have last : (if v < 0 then (rc [2] (mk b (stW w0 o a s g f)) (b + o) (FX4_fail (mk b (stW w0 o a s g f)) (b + o) (1 : Int32))).bind (fun w10 => some w10) else (gI [2] 2 (mk b (stW w0 o a s g f)) (b + o)).bind (fun v11 => (sI [2] 2 (mk b (stW w0 o a s g f)) (b + o) (v11 + (1 : Int32))).bind (fun hp12 => (rc [2] hp12 (b + o) (FX2_emit hp12 (b + o) ((100000 : Int32) + v))).bind (fun w13 => some w13)))) = if ltr (ch a) < 8 then FX2_emit (mk b (stW w0 o (a + 1) s g f)) (b + o) (nI (100000 + ltr (ch a))) else some (mk b (stW w0 o a s g (if f = 0 then flt (1, a) else f))) := by
          by_cases hl : ltr (ch a) < 8
          · rw [if_pos hl] at hv ⊢
            rw [hv, if_neg (nI_pos (by omega)), gI_2_o_2 b _ ho, Option.bind_some, stW_2, nI_1, sI_2_o_2 b _ ho, Option.bind_some, stW_u2, rc_2_o b _ ho, bs, fa_lit 100000, nI_add]
          · rw [if_neg hl] at hv ⊢
            rw [hv, if_pos (by decide), rc_2_o b _ ho, bs]
            exact st_fail ho 1
        by_cases c1 : txv (ch a) < (48 : Int32)
        · rw [if_pos c1, d1 c1, if_neg (show ¬ false = true by decide)]
          exact last
        · rw [if_neg c1]
          by_cases c2 : txv (ch a) ≤ (57 : Int32)
          · rw [if_neg (fun z => (fa_of_lt z).2.1 c2), (d2 c1).mp c2, if_pos rfl, rc_2_o b _ ho, bs]
          · have hd0 : dg (ch a) = false := by
              rw [← Bool.not_eq_true]
              exact fun z => c2 ((d2 c1).mpr z)
            rw [if_pos (fa_of_nle c2), hd0, if_neg (show ¬ false = true by decide)]
            exact last
    by_cases c97 : txv (ch a) < (97 : Int32)
    · rw [if_pos c97] at hlt ⊢
      exact J _ (Option.some.inj hlt)
    · rw [if_neg c97] at hlt ⊢
      rw [ltr_hp, hlt, Option.bind_some]
      exact J _ rfl
  unfold pFacB
  constructor
  · intro hf
    rw [pre]
    by_cases h91 : ch a = 91
    · have hl := at_in hT.2.2.2.2 h91 (by decide)
      rw [if_pos h91, st_open ho d (by omega), Option.bind_some]
      by_cases h6 : d < 6
      · rw [if_pos h6, gI_2_o_3 b _ ho, Option.bind_some, stW_3, if_neg hf]
        exact ⟨_, _, _, rfl, hl, hs⟩
      · rw [if_neg h6, gI_2_o_3 b _ ho, Option.bind_some, stW_3, if_neg (by rw [if_neg hf]; exact hf), if_neg hf]
        exact ⟨_, _, _, rfl, ha, hs⟩
    · rw [if_neg h91]
      cases hdg : dg (ch a)
      · rw [if_neg (by decide)]
        by_cases hl : ltr (ch a) < 8
        · rw [if_pos hl]
          have : a < len := by
            rcases Nat.lt_or_ge a len with q | q
            · exact q
            · rw [hT.2.2.2.2 a q] at hl
              exact absurd hl (by decide)
          obtain ⟨s', g', e1, e2⟩ := st_emit' (b := b) (w0 := w0) (a := a + 1) (s := s) (g := g) (f := f) ho hs (nI (100000 + ltr (ch a)))
          exact ⟨_, _, _, e1, this, e2⟩
        · rw [if_neg hl, if_neg hf]
          exact ⟨_, _, _, rfl, ha, hs⟩
      · rw [if_pos rfl]
        exact num_j hT ha hs hf
  · intro hf hsa
    subst hf
    rw [pre]
    by_cases h91 : ch a = 91
    · have hl := at_in hT.2.2.2.2 h91 (by decide)
      rw [if_pos h91, if_pos h91, st_open ho d (by omega), Option.bind_some]
      by_cases h6 : d < 6
      · obtain ⟨fi, hfi, hsp, hfn⟩ := hin2 (by omega)
        rw [hfi, if_pos h6, gI_2_o_3 b _ ho, Option.bind_some, stW_3, if_pos rfl, rc_2_o b _ ho, nI_1]
        obtain ⟨a1, s1, g1, f1, e1, e2⟩ := (hsp (a + 1) s g 0 hl hs).2 rfl (by omega)
        rw [e1, Option.bind_some, rc_2_o b _ ho]
        have hfine := hfn (a + 1) hl
        dsimp only
        cases hp : fi (a + 1) with
        | inl z =>
          rw [hp] at e2
          obtain ⟨p1, p2, rfl⟩ := e2
          have hne := flt_of hfine hlen hp
          have ex := st_expect (b := b) (s := s1) (g := g1) (f := flt z) hT p1 (c := 93) (by decide)
          have ex : FX4_expect (mk b (stW w0 o a1 s1 g1 (flt z))) (b + o) (93 : Int32) = some (mk b (if ch a1 = 93 then stW w0 o (a1 + 1) s1 g1 (flt z) else stW w0 o a1 s1 g1 (if flt z = 0 then flt (1, a1) else flt z))) := ex
          rw [ex, Option.bind_some]
          by_cases h93 : ch a1 = 93
          · rw [if_pos h93]
            exact ⟨_, _, _, _, rfl, at_in hT.2.2.2.2 h93 (by decide), p2, rfl⟩
          · rw [if_neg h93, if_neg hne]
            exact ⟨_, _, _, _, rfl, p1, p2, rfl⟩
        | inr z =>
          rw [hp] at e2 hfine
          obtain ⟨p1, p2, p3, p4, p5⟩ := e2
          obtain ⟨f1', f2', f3'⟩ := hfine
          subst p3
          have ha1 : a1 ≤ len := by omega
          have ex := st_expect (b := b) (s := s1) (g := g1) (f := 0) hT ha1 (c := 93) (by decide)
          have ex : FX4_expect (mk b (stW w0 o a1 s1 g1 0)) (b + o) (93 : Int32) = some (mk b (if ch a1 = 93 then stW w0 o (a1 + 1) s1 g1 0 else stW w0 o a1 s1 g1 (if (0 : Int32) = 0 then flt (1, a1) else 0))) := ex
          rw [ex, Option.bind_some]
          dsimp only
          by_cases h93 : ch a1 = 93
          · rw [if_pos h93, if_pos (by rw [← p1]; exact h93)]
            exact ⟨_, _, _, _, rfl, by rw [p1], p2, rfl, p4, p5⟩
          · rw [if_neg h93, if_pos rfl, if_neg (by rw [← p1]; exact h93)]
            exact ⟨_, _, _, _, rfl, ha1, by omega, by rw [p1]⟩
      · rw [hin (by omega), if_neg h6, gI_2_o_3 b _ ho, Option.bind_some, stW_3, if_pos rfl, if_neg (flt_n (n := 5) (by decide) (by decide) (by omega))]
        exact ⟨_, _, _, _, rfl, ha, hs, rfl⟩
    · rw [if_neg h91, if_neg h91]
      cases hdg : dg (ch a)
      · rw [if_neg (show ¬ false = true by decide), if_neg (show ¬ false = true by decide)]
        by_cases hl : ltr (ch a) < 8
        · rw [if_pos hl, if_pos hl]
          have : a < len := by
            rcases Nat.lt_or_ge a len with q | q
            · exact q
            · rw [hT.2.2.2.2 a q] at hl
              exact absurd hl (by decide)
          exact ⟨_, _, _, _, st_emit ho (by omega) _, rfl, rfl, rfl, fun i hi => pk_un (by omega), by
            refine ⟨?_, trivial⟩
            rw [pk_us]
            rfl⟩
        · rw [if_neg hl, if_neg hl, if_pos rfl]
          exact ⟨_, _, _, _, rfl, ha, hs, rfl⟩
      · rw [if_pos rfl, if_pos rfl]
        exact num_c hT ha hsa hdg
end
