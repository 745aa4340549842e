/-! the reference reads what follows a piece of a formula -/
section
variable {b : Nat} {w0 W : WD} {len a : Nat} {ch : Nat → Nat} {L : List Nat} {s : List (Nat × Nat)} {d : Nat} {z : Int32}
theorem bz_0 {X : Type} (o : Option X) : bz 0 o = o := by
  unfold bz
  rw [if_pos (Or.inl rfl)]
theorem bz_1 {X : Type} (o : Option X) : bz 1 o = o := by
  unfold bz
  rw [if_pos (Or.inr rfl)]
theorem sgn_bin (hX : TX (w0.2.1 83) len ch) (hl : len ≤ 100) (h : FS w0 W len a z d L s) (ha : a < len) (hLs : L.length + s.length ≤ a) (hs : sgn s) {p : Nat} (hp : (ch a = 38 ∧ p = 30) ∨ (ch a = 94 ∧ p = 31) ∨ (ch a = 124 ∧ p = 32)) : ∃ W', FX12_readsSign (mk b W) (b + 77) = some (1, mk b W') ∧ FS w0 W' len (a + 1) 1 d (lpop p L s).1 ((p, 1) :: (lpop p L s).2) := by
  have hx := chm_le hX a
  have t41 : (txv (ch a) = (41 : Int32)) ↔ ch a = 41 := tq hx (by decide)
  have t44 : (txv (ch a) = (44 : Int32)) ↔ ch a = 44 := tq hx (by decide)
  have t38 : (txv (ch a) = (38 : Int32)) ↔ ch a = 38 := tq hx (by decide)
  have t94 : (txv (ch a) = (94 : Int32)) ↔ ch a = 94 := tq hx (by decide)
  have t124 : (txv (ch a) = (124 : Int32)) ↔ ch a = 124 := tq hx (by decide)
  have hlen := lpop_len p s L
  obtain ⟨W1, r1, r2⟩ := sf_laysTo (b := b) (p := p) (by omega) h (by omega) hs
  obtain ⟨W2, r3, r4⟩ := sf_waits (b := b) r2 (by omega) p
  have r5 := FS_43 (FS_15 r4 (a + 1)) 1
  refine ⟨_, ?_, r5⟩
  have go : ∀ (x : Int32), x = nI p → (if x = (-1 : Int32) then (gI [12] 15 (mk b W) (b + 77)).bind (fun v6 => (rc [12] (mk b W) (b + 77) (FX12_wrongAt (mk b W) (b + 77) (1 : Int32) v6)).bind (fun w7 => bz w7.1 (some (w7.1, w7.2)))) else (rc [12] (mk b W) (b + 77) (FX12_laysTo (mk b W) (b + 77) x)).bind (fun w8 => (rc [12] w8 (b + 77) (FX12_waitsFor w8 (b + 77) x)).bind (fun w9 => (gI [12] 15 w9 (b + 77)).bind (fun v10 => (sI [12] 15 w9 (b + 77) (v10 + (1 : Int32))).bind (fun hp11 => (sZ [12] 43 hp11 (b + 77) (1 : Int32)).bind (fun hp12 => some ((1 : Int32), hp12))))))) = some (1, mk b (uI (uI W2 77 15 (nI (a + 1))) 77 43 1)) := by
    intro x hx
    subst hx
    rw [if_neg (nI_nm1 (by omega)), rc_12_77, r1, Option.bind_some, rc_12_77, r3, Option.bind_some, gI_12_77_15, Option.bind_some, r4.2.2.1, nI_1, sI_12_77_15, Option.bind_some, sZ_mk (j := 77) (k := 43) (by decide +kernel) b _ (Or.inr rfl), Option.bind_some]
  unfold FX12_readsSign
  rw [rc_12_77, sf_here hX hl h (by omega), Option.bind_some, if_neg (fun y => by have := t41.mp y; omega), if_neg (fun y => by have := t44.mp y; omega), jn_eq]
  rcases hp with ⟨c, rfl⟩ | ⟨c, rfl⟩ | ⟨c, rfl⟩
  · rw [if_pos (t38.mpr c)]
    exact go _ rfl
  · rw [if_neg (fun y => by have := t38.mp y; omega), if_pos (t94.mpr c)]
    exact go _ rfl
  · rw [if_neg (fun y => by have := t38.mp y; omega), if_neg (fun y => by have := t94.mp y; omega), if_pos (t124.mpr c)]
    exact go _ rfl
theorem sgn_bad (hX : TX (w0.2.1 83) len ch) (hl : len ≤ 100) (h : FS w0 W len a z d L s) (ha : a < len) (h1 : ch a ≠ 41) (h2 : ch a ≠ 44) (h3 : ch a ≠ 38) (h4 : ch a ≠ 94) (h5 : ch a ≠ 124) : FX12_readsSign (mk b W) (b + 77) = some (0, mk b (uI W 77 17 (flt (1, a)))) := by
  have hx := chm_le hX a
  have t41 : (txv (ch a) = (41 : Int32)) ↔ ch a = 41 := tq hx (by decide)
  have t44 : (txv (ch a) = (44 : Int32)) ↔ ch a = 44 := tq hx (by decide)
  have t38 : (txv (ch a) = (38 : Int32)) ↔ ch a = 38 := tq hx (by decide)
  have t94 : (txv (ch a) = (94 : Int32)) ↔ ch a = 94 := tq hx (by decide)
  have t124 : (txv (ch a) = (124 : Int32)) ↔ ch a = 124 := tq hx (by decide)
  unfold FX12_readsSign
  rw [rc_12_77, sf_here hX hl h (by omega), Option.bind_some, if_neg (fun y => h1 (t41.mp y)), if_neg (fun y => h2 (t44.mp y)), jn_eq, if_neg (fun y => h3 (t38.mp y)), if_neg (fun y => h4 (t94.mp y)), if_neg (fun y => h5 (t124.mp y))]
  dsimp only
  rw [if_pos rfl, gI_12_77_15, Option.bind_some, h.2.2.1, rc_12_77]
  exact bS (sf_wrong 1 a) (bz_0 _)
theorem sgn_close (hX : TX (w0.2.1 83) len ch) (hl : len ≤ 100) (h : FS w0 W len a z (dep s) L s) (ha : a < len) (hLs : L.length + s.length ≤ a) (hs : sgn s) (hc : ch a = 41) {x : Nat × Nat} {s2 : List (Nat × Nat)} (e : (lpop 32 L s).2 = x :: s2) (hx9 : 90 ≤ x.1) (hx2 : x.2 ≤ 11) : ∃ W', FX12_readsSign (mk b W) (b + 77) = some (1, mk b W') ∧ FS w0 W' len (a + 1) 0 (dep (epop (if x.1 < 100 then (lpop 32 L s).1 else (lpop 32 L s).1 ++ [100 * x.2 + x.1]) s2).2) (epop (if x.1 < 100 then (lpop 32 L s).1 else (lpop 32 L s).1 ++ [100 * x.2 + x.1]) s2).1 (epop (if x.1 < 100 then (lpop 32 L s).1 else (lpop 32 L s).1 ++ [100 * x.2 + x.1]) s2).2 := by
  have hx := chm_le hX a
  have t41 : (txv (ch a) = (41 : Int32)) ↔ ch a = 41 := tq hx (by decide)
  have hlen := lpop_len 32 s L
  have hsg := lpop_sgn 32 s L hs
  have hdp := lpop_dep (p := 32) (by decide) s L
  obtain ⟨W1, r1, r2⟩ := sf_laysTo (b := b) (p := 32) (by decide) h (by omega) hs
  rw [e] at r2 hlen hsg hdp
  rw [List.length_cons] at hlen
  have hx200 := hsg.1
  have hdx : dep s = dep s2 + 1 := by
    rw [← hdp]
    show (if isB x.1 then 0 else 1) + dep s2 = _
    have : isB x.1 = false := by
      unfold isB
      rw [decide_eq_false (show ¬ x.1 ≤ 32 by omega), Bool.and_false]
    rw [this]
    show 1 + dep s2 = _
    omega
  have hk := r2.2.2.2.2.2.2.2.2
  have r3 := FS_42 (FS_pop r2) (dep s2)
  have e41 : W1.1 77 41 = nI (s2.length + 1) := r2.2.2.2.2.2.2.1
  have tail : ∀ (W3 : WD) (L2 : List Nat), FS w0 W3 len a z (dep s2) L2 s2 → L2.length + s2.length ≤ 100 → ∃ W', (gI [12] 15 (mk b W3) (b + 77)).bind (fun v11 => (sI [12] 15 (mk b W3) (b + 77) (v11 + (1 : Int32))).bind (fun hp12 => (rc [12] hp12 (b + 77) (FX12_endsTruth hp12 (b + 77))).bind (fun w13 => some ((1 : Int32), w13)))) = some (1, mk b W') ∧ FS w0 W' len (a + 1) 0 (dep (epop L2 s2).2) (epop L2 s2).1 (epop L2 s2).2 := by
    intro W3 L2 h3 h4
    obtain ⟨W', q1, q2⟩ := sf_ends (b := b) (FS_15 h3 (a + 1)) h4 hsg.2
    refine ⟨W', ?_, q2⟩
    rw [gI_12_77_15, Option.bind_some, h3.2.2.1, nI_1, sI_12_77_15, Option.bind_some, rc_12_77, q1, Option.bind_some]
  have start : ∀ (W' : WD), ((if nI x.1 < (100 : Int32) then (gI [12] 15 (mk b (uI (uI W1 77 41 (nI s2.length)) 77 42 (nI (dep s2)))) (b + 77)).bind (fun v11 => (sI [12] 15 (mk b (uI (uI W1 77 41 (nI s2.length)) 77 42 (nI (dep s2)))) (b + 77) (v11 + (1 : Int32))).bind (fun hp12 => (rc [12] hp12 (b + 77) (FX12_endsTruth hp12 (b + 77))).bind (fun w13 => some ((1 : Int32), w13)))) else (gR [12] 39 (mk b (uI (uI W1 77 41 (nI s2.length)) 77 42 (nI (dep s2)))) (b + 77)).bind (fun v14 => (gI [12] 41 (mk b (uI (uI W1 77 41 (nI s2.length)) 77 42 (nI (dep s2)))) (b + 77)).bind (fun v15 => (rdN 0 (mk b (uI (uI W1 77 41 (nI s2.length)) 77 42 (nI (dep s2)))) v14 v15).bind (fun v16 => (rc [12] (mk b (uI (uI W1 77 41 (nI s2.length)) 77 42 (nI (dep s2)))) (b + 77) (FX12_lays (mk b (uI (uI W1 77 41 (nI s2.length)) 77 42 (nI (dep s2)))) (b + 77) (((100 : Int32) * v16) + nI x.1))).bind (fun w17 => (gI [12] 15 w17 (b + 77)).bind (fun v11 => (sI [12] 15 w17 (b + 77) (v11 + (1 : Int32))).bind (fun hp12 => (rc [12] hp12 (b + 77) (FX12_endsTruth hp12 (b + 77))).bind (fun w13 => some ((1 : Int32), w13)))))))))) = some (1, mk b W') → FX12_readsSign (mk b W) (b + 77) = some (1, mk b W') := by
    intro W' hz
    unfold FX12_readsSign
    rw [rc_12_77, sf_here hX hl h (by omega), Option.bind_some, if_pos (t41.mpr hc), rc_12_77]
    refine bS (a := (1, mk b W')) ?_ (bz_1 _)
    have r1 : FX12_laysTo (mk b W) (b + 77) (32 : Int32) = some (mk b W1) := r1
    unfold FX12_closes
    rw [rc_12_77, r1, Option.bind_some, rc_12_77, sf_last r2 (by rw [List.length_cons]; omega), Option.bind_some, show lastOf (x :: s2) = nI x.1 from rfl, if_neg (nI_nm1 (by omega)), gI_12_77_41, Option.bind_some, e41, nI_s1, sI_12_77_41, Option.bind_some, gI_12_77_42, Option.bind_some]
    show (sI [12] 42 _ _ (W1.1 77 42 - 1)).bind _ = _
    rw [r2.2.2.2.2.1, hdx, nI_s1, sI_12_77_42, Option.bind_some, jn_eq]
    exact hz
  by_cases q : x.1 < 100
  · rw [if_pos q]
    obtain ⟨W', q1, q2⟩ := tail _ _ r3 (by omega)
    refine ⟨W', start W' ?_, q2⟩
    rw [if_pos (show nI x.1 < (100 : Int32) from nI_lt (a := x.1) (b := 100) q (by decide))]
    exact q1
  · rw [if_neg q]
    obtain ⟨W3, q0, q3⟩ := sf_lays (b := b) r3 (by omega) (100 * x.2 + x.1)
    obtain ⟨W', q1, q2⟩ := tail _ _ q3 (by rw [List.length_append]; show (lpop 32 L s).1.length + 1 + s2.length ≤ 100; omega)
    refine ⟨W', start W' ?_, q2⟩
    have ec : ((100 : Int32) * nI x.2) + nI x.1 = nI (100 * x.2 + x.1) := by
      have := (by decide +kernel : ∀ t, t < 12 → (100 : Int32) * nI t = nI (100 * t)) x.2 (by omega)
      rw [this, nI_add]
    rw [if_neg (show ¬ nI x.1 < (100 : Int32) from nI_nlt (a := x.1) (b := 100) (by omega) (by omega)), gR_12_77_39, Option.bind_some, gI_12_77_41, Option.bind_some]
    show (rdN 0 _ _ (nI s2.length)).bind _ = _
    rw [rdN_mk (t := 0) (j := 99) (n := 100) (by decide +kernel) (by decide) b _ (by omega), Option.bind_some]
    show (rc [12] _ _ (FX12_lays _ _ (((100 : Int32) * W1.2.1 99 s2.length) + nI x.1))).bind _ = _
    rw [hk.2.1, ec, rc_12_77, q0, Option.bind_some]
    exact q1
theorem sgn_close0 (hX : TX (w0.2.1 83) len ch) (hl : len ≤ 100) (h : FS w0 W len a z d L s) (ha : a < len) (hLs : L.length + s.length ≤ a) (hs : sgn s) (hc : ch a = 41) (e : (lpop 32 L s).2 = []) : ∃ W', FX12_readsSign (mk b W) (b + 77) = some (0, mk b W') ∧ W'.1 77 17 = flt (1, a) ∧ frY w0 W' := by
  have hx := chm_le hX a
  have t41 : (txv (ch a) = (41 : Int32)) ↔ ch a = 41 := tq hx (by decide)
  obtain ⟨W1, r1, r2⟩ := sf_laysTo (b := b) (p := 32) (by decide) h (by omega) hs
  rw [e] at r2
  have r1 : FX12_laysTo (mk b W) (b + 77) (32 : Int32) = some (mk b W1) := r1
  refine ⟨uI W1 77 17 (flt (1, a)), ?_, rfl, (FS_17 r2 _).1⟩
  unfold FX12_readsSign
  rw [rc_12_77, sf_here hX hl h (by omega), Option.bind_some, if_pos (t41.mpr hc), rc_12_77]
  refine bS (a := (0, mk b (uI W1 77 17 (flt (1, a))))) ?_ (bz_0 _)
  unfold FX12_closes
  rw [rc_12_77, r1, Option.bind_some, rc_12_77, sf_last r2 (Nat.zero_le _), Option.bind_some, show lastOf [] = -1 from rfl, if_pos rfl, gI_12_77_15, Option.bind_some, r2.2.2.1, rc_12_77]
  exact bS (sf_wrong 1 a) (bz_0 _)
theorem sgn_comma (hX : TX (w0.2.1 83) len ch) (hl : len ≤ 100) (h : FS w0 W len a z d L s) (ha : a < len) (hLs : L.length + s.length ≤ a) (hs : sgn s) (hc : ch a = 44) {x : Nat × Nat} {s2 : List (Nat × Nat)} (e : (lpop 32 L s).2 = x :: s2) (hx9 : 100 ≤ x.1) : ∃ W', FX12_readsSign (mk b W) (b + 77) = some (1, mk b W') ∧ FS w0 W' len (a + 1) 1 d (lpop 32 L s).1 ((x.1, x.2 + 1) :: s2) := by
  have hx := chm_le hX a
  have t41 : (txv (ch a) = (41 : Int32)) ↔ ch a = 41 := tq hx (by decide)
  have t44 : (txv (ch a) = (44 : Int32)) ↔ ch a = 44 := tq hx (by decide)
  have hlen := lpop_len 32 s L
  have hsg := lpop_sgn 32 s L hs
  obtain ⟨W1, r1, r2⟩ := sf_laysTo (b := b) (p := 32) (by decide) h (by omega) hs
  rw [e] at r2 hlen hsg
  rw [List.length_cons] at hlen
  have hx200 := hsg.1
  have r1 : FX12_laysTo (mk b W) (b + 77) (32 : Int32) = some (mk b W1) := r1
  have hk := r2.2.2.2.2.2.2.2.2
  have e41 : W1.1 77 41 = nI (s2.length + 1) := r2.2.2.2.2.2.2.1
  have r3 := FS_43 (FS_15 (FS_many r2 (x.2 + 1)) (a + 1)) 1
  refine ⟨_, ?_, r3⟩
  unfold FX12_readsSign
  rw [rc_12_77, sf_here hX hl h (by omega), Option.bind_some, if_neg (fun y => by have := t41.mp y; omega), if_pos (t44.mpr hc), rc_12_77]
  refine bS (a := (1, mk b (uI (uI (uA W1 99 (upd (W1.2.1 99) s2.length (nI (x.2 + 1)))) 77 15 (nI (a + 1))) 77 43 1))) ?_ (bz_1 _)
  unfold FX12_goesOn
  rw [rc_12_77, r1, Option.bind_some, rc_12_77, sf_last r2 (by rw [List.length_cons]; omega), Option.bind_some, show lastOf (x :: s2) = nI x.1 from rfl, if_pos (show (100 : Int32) ≤ nI x.1 from nI_le (a := 100) (b := x.1) hx9 (by omega)), gR_12_77_39, Option.bind_some, gI_12_77_41, Option.bind_some, Option.bind_some, Option.bind_some, e41, nI_s1, rdN_mk (t := 0) (j := 99) (n := 100) (by decide +kernel) (by decide) b _ (by omega), Option.bind_some, hk.2.1, nI_1, wrI_mk (j := 99) (n := 100) (by decide +kernel) b _ (by omega), Option.bind_some, gI_12_77_15, Option.bind_some]
  show (sI [12] 15 _ _ (W1.1 77 15 + 1)).bind _ = _
  rw [r2.2.2.1, nI_1, sI_12_77_15, Option.bind_some, sZ_mk (j := 77) (k := 43) (by decide +kernel) b _ (Or.inr rfl), Option.bind_some]
theorem sgn_comma0 (hX : TX (w0.2.1 83) len ch) (hl : len ≤ 100) (h : FS w0 W len a z d L s) (ha : a < len) (hLs : L.length + s.length ≤ a) (hs : sgn s) (hc : ch a = 44) (e : ∀ x s2, (lpop 32 L s).2 = x :: s2 → x.1 < 100) : ∃ W', FX12_readsSign (mk b W) (b + 77) = some (0, mk b W') ∧ W'.1 77 17 = flt (1, a) ∧ frY w0 W' := by
  have hx := chm_le hX a
  have t41 : (txv (ch a) = (41 : Int32)) ↔ ch a = 41 := tq hx (by decide)
  have t44 : (txv (ch a) = (44 : Int32)) ↔ ch a = 44 := tq hx (by decide)
  have hlen := lpop_len 32 s L
  obtain ⟨W1, r1, r2⟩ := sf_laysTo (b := b) (p := 32) (by decide) h (by omega) hs
  have r1 : FX12_laysTo (mk b W) (b + 77) (32 : Int32) = some (mk b W1) := r1
  refine ⟨uI W1 77 17 (flt (1, a)), ?_, rfl, (FS_17 r2 _).1⟩
  have n100 : ¬ (100 : Int32) ≤ lastOf (lpop 32 L s).2 := by
    cases hq : (lpop 32 L s).2 with
    | nil => decide
    | cons x s2 => exact nI_ge (a := x.1) (b := 100) (e x s2 hq) (by decide)
  unfold FX12_readsSign
  rw [rc_12_77, sf_here hX hl h (by omega), Option.bind_some, if_neg (fun y => by have := t41.mp y; omega), if_pos (t44.mpr hc), rc_12_77]
  refine bS (a := (0, mk b (uI W1 77 17 (flt (1, a))))) ?_ (bz_0 _)
  unfold FX12_goesOn
  rw [rc_12_77, r1, Option.bind_some, rc_12_77, sf_last r2 (by omega), Option.bind_some, if_neg n100, gI_12_77_15, Option.bind_some, r2.2.2.1, rc_12_77]
  exact bS (sf_wrong 1 a) (bz_0 _)
end
