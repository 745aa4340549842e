/-! the reference reads sums -/
def facBM (p0 : Nat) : HP → Option (((Int32 × HP) ⊕ HP) ⊕ HP) := (fun (s1 : HP) => (rc [12] s1 p0 (FX12_here s1 p0)).bind (fun v14 => if v14 = (91 : Int32) then (rc [12] s1 p0 (FX12_opens s1 p0 (14 : Int32))).bind (fun w15 => if w15.1 = 0 then some (Sum.inl (Sum.inl ((0 : Int32), w15.2))) else some (Sum.inr w15.2)) else some (Sum.inl (Sum.inr s1))))
def facRM (p0 : Nat) (y2 : HP) : Option (Int32 × HP) := (rc [12] y2 p0 (FX12_isDigit y2 p0)).bind (fun v3 => if v3 = 0 then (rc [12] y2 p0 (FX12_here y2 p0)).bind (fun v4 => (FX12_factOf v4).bind (fun v5 => if v5 = (-1 : Int32) then (gI [12] 15 y2 p0).bind (fun v6 => (rc [12] y2 p0 (FX12_wrongAt y2 p0 (1 : Int32) v6)).bind (fun w7 => bz w7.1 (some (w7.1, w7.2)))) else (rc [12] y2 p0 (FX12_notes y2 p0 (1 : Int32) v5)).bind (fun w8 => (gI [12] 15 w8 p0).bind (fun v9 => (sI [12] 15 w8 p0 (v9 + (1 : Int32))).bind (fun hp10 => some ((1 : Int32), hp10)))))) else (rc [12] y2 p0 (FX12_readsNumber y2 p0)).bind (fun w11 => if w11.1 = 0 then some ((0 : Int32), w11.2) else (gI [12] 18 w11.2 p0).bind (fun v12 => (rc [12] w11.2 p0 (FX12_notes w11.2 p0 (0 : Int32) v12)).bind (fun w13 => some ((1 : Int32), w13)))))
def rfN (p0 N : Nat) (hp : HP) : Option (Int32 × HP) := (lp (facBM p0) N hp).bind (lk (P := Int32 × HP) (fun r => r) (facRM p0))
theorem fac_bodyM (hp : HP) (p0 : Nat) : FX12_readsFactor hp p0 = rfN p0 FU hp := rfl
def sumM (p0 : Nat) (v1 : Int32) : HP → Option (((Int32 × HP) ⊕ HP) ⊕ HP) := (fun (s3 : HP) => (rc [12] s3 p0 (FX12_here s3 p0)).bind (fun v5 => (FX12_sumSign v5).bind (fun v6 => if v6 = (-1 : Int32) then (rc [12] s3 p0 (FX12_here s3 p0)).bind (fun v7 => jn (A := Unit) (fun a8 => (rc [12] s3 p0 (FX12_hasOpenSum s3 p0 v1)).bind (fun v10 => if v10 = 0 then (rc [12] s3 p0 (FX12_closesSums s3 p0 (1 : Int32))).bind (fun w11 => some (Sum.inl (Sum.inl ((1 : Int32), w11)))) else (gI [12] 15 s3 p0).bind (fun v12 => (rc [12] s3 p0 (FX12_wrongAt s3 p0 (1 : Int32) v12)).bind (fun w13 => bz w13.1 (some (Sum.inl (Sum.inl (w13.1, w13.2)))))))) (fun J9 => if v7 = (93 : Int32) then (rc [12] s3 p0 (FX12_hasOpenSum s3 p0 v1)).bind (fun v14 => if v14 = 0 then J9 () else (rc [12] s3 p0 (FX12_closesSums s3 p0 (1 : Int32))).bind (fun w15 => (gI [12] 21 w15 p0).bind (fun v16 => (sI [12] 21 w15 p0 (v16 - (1 : Int32))).bind (fun hp17 => (gI [12] 19 hp17 p0).bind (fun v18 => (sI [12] 19 hp17 p0 (v18 - (1 : Int32))).bind (fun hp19 => (gI [12] 15 hp19 p0).bind (fun v20 => (sI [12] 15 hp19 p0 (v20 + (1 : Int32))).bind (fun hp21 => some (Sum.inr hp21))))))))) else J9 ())) else jn (A := Int32) (fun a22 => (rc [12] s3 p0 (FX12_closesSums s3 p0 a22)).bind (fun w24 => (gR [12] 25 w24 p0).bind (fun v25 => (gI [12] 21 w24 p0).bind (fun v26 => (wrI w24 v25 v26 ((1048576 : Int32) * v6)).bind (fun hp27 => (gI [12] 21 hp27 p0).bind (fun v28 => (sI [12] 21 hp27 p0 (v28 + (1 : Int32))).bind (fun hp29 => (gI [12] 15 hp29 p0).bind (fun v30 => (sI [12] 15 hp29 p0 (v30 + (1 : Int32))).bind (fun hp31 => (rc [12] hp31 p0 (FX12_readsFactor hp31 p0)).bind (fun w32 => if w32.1 = 0 then some (Sum.inl (Sum.inl ((0 : Int32), w32.2))) else some (Sum.inr w32.2))))))))))) (fun J23 => if (4 : Int32) ≤ v6 then J23 (0 : Int32) else J23 (1 : Int32)))))
theorem sum_bodyM (hp : HP) (p0 : Nat) : FX12_readsSum hp p0 = (gI [12] 21 hp p0).bind (fun v1 => (rc [12] hp p0 (FX12_readsFactor hp p0)).bind (fun w2 => if w2.1 = 0 then some ((0 : Int32), w2.2) else (lp (sumM p0 v1) FU w2.2).bind (lk (P := Int32 × HP) (fun r => r) (fun (y4 : HP) => none)))) := rfl
/-- on from a factor -/
def contS (p0 : Nat) (v1 : Int32) (N : Nat) (x : Option (Int32 × HP)) : Option ((Int32 × HP) ⊕ HP) := x.bind (fun y => if y.1 = 0 then some (.inl ((0 : Int32), y.2)) else lp (sumM p0 v1) N y.2)
section
variable {b : Nat} {w0 : WD} {a d c n len : Nat} {f v : Int32} {g h : Nat → Int32} {ch : Nat → Nat}
theorem hos_yes {base j : Nat} (h1 : base ≤ j) (h2 : j < n) (hn : n < 260) (hj : h j = nI (1048576 * 14)) : FX12_hasOpenSum (mk b (smW w0 a f v d c n g h)) (b + 77) (nI base) = some 1 := by
  unfold FX12_hasOpenSum
  have lem := lpb_ex (body := fun (s1 : Int32) => (gI [12] 21 (mk b (smW w0 a f v d c n g h)) (b + 77)).bind (fun v3 => if v3 ≤ s1 then some (Sum.inl (Sum.inr ())) else (gR [12] 25 (mk b (smW w0 a f v d c n g h)) (b + 77)).bind (fun v4 => (rdN 0 (mk b (smW w0 a f v d c n g h)) v4 s1).bind (fun v5 => (dvI v5 (1048576 : Int32)).bind (fun v6 => if v6 = (14 : Int32) then some (Sum.inl (Sum.inl (1 : Int32))) else vl (s1 + (1 : Int32)) (fun x7 => some (Sum.inr x7)))))))
    (kf := lk (P := Int32) (fun r => r) (fun (y2 : Unit) => some (0 : Int32))) (N := FU) (s0 := nI base)
    (fun q s1 => ∃ i, i ≤ j ∧ base ≤ i ∧ q = j - i ∧ s1 = nI i) (fun x => x = .inl 1) (fun z => z = 1) (j - base) (by unfold FU; omega) ⟨base, h1, Nat.le_refl _, rfl, rfl⟩ ?_ ?_
  · obtain ⟨r, q1, rfl⟩ := lem
    exact q1
  · rintro q s1 ⟨i, hi, hbi, rfl, rfl⟩
    rw [gI_12_77_21, Option.bind_some, sm_21, if_neg (nI_ge (show i < n by omega) (by omega)), gR_12_77_25, Option.bind_some, rdN_mk (t := 0) (j := 85) (n := 260) (by decide +kernel) (by decide) b _ (by omega), Option.bind_some, sm_85, dv_n _ (by decide), Option.bind_some]
    by_cases e : h i / 1048576 = (14 : Int32)
    · rw [if_pos e]
      exact Or.inl ⟨_, rfl, rfl⟩
    · rw [if_neg e, vl_eq, nI_1]
      have hne : i ≠ j := by
        intro z
        apply e
        have := dv_w (k := 14) (x := 0) (by decide) (by decide)
        rw [z, hj]
        exact Option.some.inj ((dv_n _ (by decide)).symm.trans this)
      exact Or.inr ⟨_, j - (i + 1), rfl, by omega, i + 1, by omega, by omega, rfl, rfl⟩
  · rintro x rfl
    exact ⟨_, rfl, rfl⟩
theorem hos_no {base : Nat} (h1 : base ≤ n) (hn : n < 260) (hall : ∀ i, base ≤ i → i < n → ∃ k, k ≤ 13 ∧ h i = nI (1048576 * k)) : FX12_hasOpenSum (mk b (smW w0 a f v d c n g h)) (b + 77) (nI base) = some 0 := by
  unfold FX12_hasOpenSum
  have lem := lpb_ex (body := fun (s1 : Int32) => (gI [12] 21 (mk b (smW w0 a f v d c n g h)) (b + 77)).bind (fun v3 => if v3 ≤ s1 then some (Sum.inl (Sum.inr ())) else (gR [12] 25 (mk b (smW w0 a f v d c n g h)) (b + 77)).bind (fun v4 => (rdN 0 (mk b (smW w0 a f v d c n g h)) v4 s1).bind (fun v5 => (dvI v5 (1048576 : Int32)).bind (fun v6 => if v6 = (14 : Int32) then some (Sum.inl (Sum.inl (1 : Int32))) else vl (s1 + (1 : Int32)) (fun x7 => some (Sum.inr x7)))))))
    (kf := lk (P := Int32) (fun r => r) (fun (y2 : Unit) => some (0 : Int32))) (N := FU) (s0 := nI base)
    (fun q s1 => ∃ i, i ≤ n ∧ base ≤ i ∧ q = n - i ∧ s1 = nI i) (fun x => x = .inr ()) (fun z => z = 0) (n - base) (by unfold FU; omega) ⟨base, h1, Nat.le_refl _, rfl, rfl⟩ ?_ ?_
  · obtain ⟨r, q1, rfl⟩ := lem
    exact q1
  · rintro q s1 ⟨i, hi, hbi, rfl, rfl⟩
    rw [gI_12_77_21, Option.bind_some, sm_21]
    rcases Nat.lt_or_ge i n with y | y
    · obtain ⟨k, k1, k2⟩ := hall i hbi y
      have e := dv_w (k := k) (x := 0) (by omega) (by decide)
      rw [Nat.add_zero, ← k2] at e
      have k14 : ¬ nI k = (14 : Int32) := fun z => absurd (nI_inj (a := k) (b := 14) (by omega) (by decide) z) (by omega)
      rw [if_neg (nI_ge y (by omega)), gR_12_77_25, Option.bind_some, rdN_mk (t := 0) (j := 85) (n := 260) (by decide +kernel) (by decide) b _ (by omega), Option.bind_some, sm_85, e, Option.bind_some, if_neg k14, vl_eq, nI_1]
      exact Or.inr ⟨_, n - (i + 1), rfl, by omega, i + 1, by omega, by omega, rfl, rfl⟩
    · have : i = n := by omega
      rw [this, if_pos (Int32.le_refl _)]
      exact Or.inl ⟨_, rfl, rfl⟩
  · rintro x rfl
    exact ⟨_, rfl, rfl⟩
theorem sign_m : ∀ x, x < 257 → FX12_sumSign (txv x) = some (if mulK x ≠ 0 then nI (mulK x) else if addK x ≠ 0 then nI (addK x) else -1) := by decide +kernel
theorem rf_open (hT : TxM w0 len ch) (ha : a ≤ len) (h91 : ch a = 91) (hn : n < 260) (hd : d ≤ 6) (M : Nat) : rfN (b + 77) (M + 1) (mk b (smW w0 a f v d c n g h)) = if d = 6 then some (0, mk b (smW w0 a (flt (5, a)) v d c n g h)) else rfN (b + 77) M (mk b (smW w0 (a + 1) f v (d + 1) c (n + 1) g (upd h n (nI (1048576 * 14))))) := by
  have t91 : (txv (ch a) = (91 : Int32)) ↔ ch a = 91 := tq (chm_le hT.2.2 a) (by decide)
  have e := sm_opens (b := b) (w0 := w0) (a := a) (f := f) (v := v) (c := c) (g := g) (h := h) hn hd 14
  have e : FX12_opens (mk b (smW w0 a f v d c n g h)) (b + 77) (14 : Int32) = if d = 6 then some (0, mk b (smW w0 a (flt (5, a)) v d c n g h)) else some (1, mk b (smW w0 (a + 1) f v (d + 1) c (n + 1) g (upd h n (nI (1048576 * 14))))) := e
  have hb : facBM (b + 77) (mk b (smW w0 a f v d c n g h)) = if d = 6 then some (.inl (.inl (0, mk b (smW w0 a (flt (5, a)) v d c n g h)))) else some (.inr (mk b (smW w0 (a + 1) f v (d + 1) c (n + 1) g (upd h n (nI (1048576 * 14)))))) := by
    unfold facBM
    rw [rc_12_77, sm_here hT ha, Option.bind_some, if_pos (t91.mpr h91), rc_12_77, e]
    by_cases q : d = 6
    · rw [if_pos q, if_pos q]
      rfl
    · rw [if_neg q, if_neg q]
      rfl
  unfold rfN
  by_cases q : d = 6
  · rw [if_pos q] at hb ⊢
    rw [lp_out hb]
    rfl
  · rw [if_neg q] at hb ⊢
    rw [lp_one hb]
theorem rf_atom (hT : TxM w0 len ch) (ha : a ≤ len) (h91 : ch a ≠ 91) (hc : c < 260) (M : Nat) : ∃ r a' f' v' c' g', rfN (b + 77) (M + 1) (mk b (smW w0 a f v d c n g h)) = some (r, mk b (smW w0 a' f' v' d c' n g' h)) ∧ ((∃ x, pFacB ch none a = .inr (a', [x]) ∧ r = 1 ∧ c' = c + 1 ∧ (∀ i, i < c → g' i = g i) ∧ g' c = cM c x) ∨ ∃ z, pFacB ch none a = .inl z ∧ r = 0 ∧ f' = flt z) := by
  have hx := chm_le hT.2.2 a
  have t91 : (txv (ch a) = (91 : Int32)) ↔ ch a = 91 := tq hx (by decide)
  have hb : facBM (b + 77) (mk b (smW w0 a f v d c n g h)) = some (.inl (.inr (mk b (smW w0 a f v d c n g h)))) := by
    unfold facBM
    rw [rc_12_77, sm_here hT ha, Option.bind_some, if_neg (fun z => h91 (t91.mp z))]
  have hr : rfN (b + 77) (M + 1) (mk b (smW w0 a f v d c n g h)) = facRM (b + 77) (mk b (smW w0 a f v d c n g h)) := by
    unfold rfN
    rw [lp_out hb]
    rfl
  rw [hr]
  unfold facRM pFacB
  rw [if_neg h91, rc_12_77, sm_dig hT ha, Option.bind_some]
  cases hd : dg (ch a) with
  | true =>
    rw [if_neg (by decide), if_pos rfl, rc_12_77]
    obtain ⟨r, a', f', v', e1, e2⟩ := num_m (b := b) (w0 := w0) (f := f) (v := v) (d := d) (c := c) (n := n) (g := g) (h := h) hT ha
    rw [e1, Option.bind_some]
    rcases e2 with ⟨x, p1, rfl, rfl, p2⟩ | ⟨z, p1, rfl, rfl⟩
    · dsimp only
      rw [if_neg (by decide), gI_12_77_18, Option.bind_some, sm_18, rc_12_77]
      have e := sm_notes (b := b) (w0 := w0) (a := a') (f := f') (v := nI x) (d := d) (n := n) (g := g) (h := h) hc 0 x
      have e : FX12_notes (mk b (smW w0 a' f' (nI x) d c n g h)) (b + 77) (0 : Int32) (nI x) = some (mk b (smW w0 a' f' (nI x) d (c + 1) n (upd g c (nI (1048576 * 0 + x))) h)) := e
      rw [e, Option.bind_some]
      refine ⟨_, _, _, _, _, _, rfl, Or.inl ⟨(0, x), p1, rfl, rfl, fun i hi => pk_un (by omega), ?_⟩⟩
      rw [pk_us]
      rfl
    · dsimp only
      rw [if_pos rfl]
      exact ⟨_, _, _, _, _, _, rfl, Or.inr ⟨z, p1, rfl, rfl⟩⟩
  | false =>
    rw [if_pos (by decide), if_neg (show ¬ false = true by decide), rc_12_77, sm_here hT ha, Option.bind_some, fact_m (ch a) (by omega), Option.bind_some]
    by_cases hl : ltr (ch a) < 8
    · rw [if_pos hl, if_pos hl, if_neg (nI_nm1 (by omega)), rc_12_77]
      have e := sm_notes (b := b) (w0 := w0) (a := a) (f := f) (v := v) (d := d) (n := n) (g := g) (h := h) hc 1 (ltr (ch a))
      have e : FX12_notes (mk b (smW w0 a f v d c n g h)) (b + 77) (1 : Int32) (nI (ltr (ch a))) = some (mk b (smW w0 a f v d (c + 1) n (upd g c (nI (1048576 * 1 + ltr (ch a)))) h)) := e
      rw [e, Option.bind_some, gI_12_77_15, Option.bind_some, sm_15, nI_1, sI_12_77_15, Option.bind_some, sm_u15]
      refine ⟨_, _, _, _, _, _, rfl, Or.inl ⟨(1, ltr (ch a)), rfl, rfl, rfl, fun i hi => pk_un (by omega), ?_⟩⟩
      rw [pk_us]
      rfl
    · rw [if_neg hl, if_neg hl, if_pos rfl, gI_12_77_15, Option.bind_some, sm_15, rc_12_77]
      have e := sm_wrong (b := b) (w0 := w0) (a := a) (f := f) (v := v) (d := d) (c := c) (n := n) (g := g) (h := h) 1 a
      have e : FX12_wrongAt (mk b (smW w0 a f v d c n g h)) (b + 77) (1 : Int32) (nI a) = some (0, mk b (smW w0 a (flt (1, a)) v d c n g h)) := e
      rw [e, Option.bind_some]
      unfold bz
      rw [if_pos (Or.inl rfl)]
      exact ⟨_, _, _, _, _, _, rfl, Or.inr ⟨(1, a), rfl, rfl, rfl⟩⟩
/-- a sign read -/
theorem sum_sign (hT : TxM w0 len ch) (ha : a ≤ len) {base n0 k m c0 : Nat} {l : Cds} (hb : bar h n0) (hp : pend h n0 k m) (hn : n0 + 3 < 260) (hc : c = c0 + l.length) (hc2 : c + 3 < 260) (hl : layd cM g c0 l) (hs : mulK (ch a) ≠ 0 ∨ addK (ch a) ≠ 0) : ∃ g' n', (∀ N, lp (sumM (b + 77) (nI base)) (N + 1) (mk b (smW w0 a f v d c (n0 + (wl k).length + (wl m).length) g h)) = contS (b + 77) (nI base) N (rfN (b + 77) FU (mk b (smW w0 (a + 1) f v d (c0 + (l ++ wl m ++ (if mulK (ch a) ≠ 0 then [] else wl k)).length) (n' + 1) g' (upd h n' (nI (1048576 * (if mulK (ch a) ≠ 0 then mulK (ch a) else addK (ch a))))))))) ∧ n' = n0 + (if mulK (ch a) ≠ 0 then (wl k).length else 0) ∧ (∀ i, i < c0 → g' i = g i) ∧ layd cM g' c0 (l ++ wl m ++ (if mulK (ch a) ≠ 0 then [] else wl k)) := by
  have hx := chm_le hT.2.2 a
  have kl : (wl k).length ≤ 1 := by rw [wl_len]; split <;> omega
  have fin : ∀ (K c' n' : Nat) (g' : Nat → Int32) (al : Int32), n' < 260 → FX12_closesSums (mk b (smW w0 a f v d c (n0 + (wl k).length + (wl m).length) g h)) (b + 77) al = some (mk b (smW w0 a f v d c' n' g' h)) → (rc [12] (mk b (smW w0 a f v d c (n0 + (wl k).length + (wl m).length) g h)) (b + 77) (FX12_closesSums (mk b (smW w0 a f v d c (n0 + (wl k).length + (wl m).length) g h)) (b + 77) al)).bind (fun w24 => (gR [12] 25 w24 (b + 77)).bind (fun v25 => (gI [12] 21 w24 (b + 77)).bind (fun v26 => (wrI w24 v25 v26 ((1048576 : Int32) * nI K)).bind (fun hp27 => (gI [12] 21 hp27 (b + 77)).bind (fun v28 => (sI [12] 21 hp27 (b + 77) (v28 + (1 : Int32))).bind (fun hp29 => (gI [12] 15 hp29 (b + 77)).bind (fun v30 => (sI [12] 15 hp29 (b + 77) (v30 + (1 : Int32))).bind (fun hp31 => (rc [12] hp31 (b + 77) (FX12_readsFactor hp31 (b + 77))).bind (fun w32 => if w32.1 = 0 then some (Sum.inl (Sum.inl ((0 : Int32), w32.2))) else some (Sum.inr (α := (Int32 × HP) ⊕ HP) w32.2)))))))))) = (rfN (b + 77) FU (mk b (smW w0 (a + 1) f v d c' (n' + 1) g' (upd h n' (nI (1048576 * K)))))).bind (fun w32 => if w32.1 = 0 then some (Sum.inl (Sum.inl ((0 : Int32), w32.2))) else some (Sum.inr (α := (Int32 × HP) ⊕ HP) w32.2)) := by
    intro K c' n' g' al hn' e
    rw [rc_12_77, e, Option.bind_some, gR_12_77_25, Option.bind_some, gI_12_77_21, Option.bind_some, sm_21, wrI_mk (j := 85) (n := 260) (by decide +kernel) b _ hn', Option.bind_some, sm_85, sm_uH, gI_12_77_21, Option.bind_some, sm_21, nI_1, sI_12_77_21, Option.bind_some, sm_u21, gI_12_77_15, Option.bind_some, sm_15, nI_1, sI_12_77_15, Option.bind_some, sm_u15, rc_12_77, fac_bodyM, fa_lit 1048576, pk_mul]
  have wrap : ∀ (N : Nat) (x : Option (Int32 × HP)), sumM (b + 77) (nI base) (mk b (smW w0 a f v d c (n0 + (wl k).length + (wl m).length) g h)) = x.bind (fun w32 => if w32.1 = 0 then some (Sum.inl (Sum.inl ((0 : Int32), w32.2))) else some (Sum.inr (α := (Int32 × HP) ⊕ HP) w32.2)) → lp (sumM (b + 77) (nI base)) (N + 1) (mk b (smW w0 a f v d c (n0 + (wl k).length + (wl m).length) g h)) = contS (b + 77) (nI base) N x := by
    intro N x hx
    unfold lp contS
    rw [hx]
    cases x with
    | none => rfl
    | some y =>
      rw [Option.bind_some, Option.bind_some]
      by_cases q : y.1 = 0
      · rw [if_pos q, if_pos q]
        rfl
      · rw [if_neg q, if_neg q]
        rfl
  by_cases hm : mulK (ch a) ≠ 0
  · obtain ⟨m1, m2⟩ := mulK_in hm
    obtain ⟨g', e1, e2, e3⟩ := clos_mul (b := b) (w0 := w0) (a := a) (f := f) (v := v) (d := d) hb hp (by omega) hc (by omega) hl
    refine ⟨g', n0 + (wl k).length, fun N => ?_, by rw [if_pos hm], e2, by rw [if_pos hm, List.append_nil]; exact e3⟩
    apply wrap
    unfold sumM
    rw [rc_12_77, sm_here hT ha, Option.bind_some, sign_m (ch a) (by omega), if_pos hm, Option.bind_some, if_neg (nI_nm1 (by omega)), jn_eq, if_pos (show (4 : Int32) ≤ nI (mulK (ch a)) from nI_le (a := 4) m1 (by omega))]
    dsimp only
    rw [fin _ _ _ g' 0 (by omega) e1, if_pos hm, if_pos hm, List.append_nil, List.length_append, hc, Nat.add_assoc]
  · have hm0 : mulK (ch a) = 0 := Classical.not_not.mp hm
    have ha2 : addK (ch a) ≠ 0 := by
      rcases hs with z | z
      · exact absurd z hm
      · exact z
    have hk2 := addK_in ha2
    obtain ⟨g', e1, e2, e3⟩ := clos_all (b := b) (w0 := w0) (a := a) (f := f) (v := v) (d := d) hb hp (by omega) hc (by omega) hl
    refine ⟨g', n0, fun N => ?_, by rw [if_neg hm]; rfl, e2, by rw [if_neg hm]; exact e3⟩
    apply wrap
    unfold sumM
    rw [rc_12_77, sm_here hT ha, Option.bind_some, sign_m (ch a) (by omega), if_neg hm, if_pos ha2, Option.bind_some, if_neg (nI_nm1 (by omega)), jn_eq, if_neg (show ¬ (4 : Int32) ≤ nI (addK (ch a)) from nI_ge (b := 4) (by omega) (by decide))]
    dsimp only
    rw [fin _ _ _ g' 1 (by omega) e1, if_neg hm, if_neg hm, List.length_append, List.length_append, hc, Nat.add_assoc, Nat.add_assoc]
    rw [Nat.add_assoc]
end
