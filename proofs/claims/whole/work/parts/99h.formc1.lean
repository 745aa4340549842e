/-! the class reads a formula -/
def fzW (w0 : WD) (a : Nat) (f : Int32) : WD := uI (uI w0 3 2 (nI a)) 3 3 f
def TxF (w0 : WD) (len : Nat) (ch : Nat → Nat) : Prop := w0.1 3 1 = nI len ∧ len ≤ 100 ∧ TX (w0.2.1 2) len ch
section
variable {b : Nat} {w0 : WD} {len : Nat} {ch : Nat → Nat} {a : Nat} {f : Int32}
theorem fz_2 : (fzW w0 a f).1 3 2 = nI a := rfl
theorem fz_3 : (fzW w0 a f).1 3 3 = f := rfl
theorem fz_1 : (fzW w0 a f).1 3 1 = w0.1 3 1 := rfl
theorem fz_5 : (fzW w0 a f).1 3 5 = w0.1 3 5 := rfl
theorem fz_A (j : Nat) : (fzW w0 a f).2.1 j = w0.2.1 j := rfl
theorem fz_u2 (a' : Nat) : uI (fzW w0 a f) 3 2 (nI a') = fzW w0 a' f := by
  unfold fzW
  rw [uI_swap _ (by decide), uI_uI]
theorem fz_u3 (f' : Int32) : uI (fzW w0 a f) 3 3 f' = fzW w0 a f' := by
  unfold fzW
  rw [uI_uI]
theorem fz_here (hT : TxF w0 len ch) (ha : a ≤ len) : FX4_here (mk b (fzW w0 a f)) (b + 3) = some (txv (ch a)) := by
  obtain ⟨h1, h2, h3⟩ := hT
  unfold FX4_here FX8_at
  rw [gI_1_2_3_2, Option.bind_some, gI_1_2_3_1, Option.bind_some, fz_2, fz_1, h1]
  rcases Nat.lt_or_ge a len with q | q
  · obtain ⟨c1, c2⟩ := h3.1 a q
    rw [if_neg (nI_ge q (by omega)), gR_1_2_3_0, Option.bind_some, Option.bind_some, rc_8_1, if_neg (nI_pos (by omega)), if_neg (show ¬ (260 : Int32) ≤ nI a from nI_ge (a := a) (b := 260) (by omega) (by decide)), gR_8_1_0, Option.bind_some, rdN_mk (t := 1) (j := 2) (n := 260) (by decide +kernel) (by decide) b _ (by omega), Option.bind_some, Option.bind_some, fz_A, c2]
    unfold txv
    rw [if_neg (by omega)]
  · have : a = len := by omega
    rw [this, if_pos (Int32.le_refl _), h3.2 len (Nat.le_refl _)]
    rfl
theorem fz_fail (n : Nat) : FX4_fail (mk b (fzW w0 a f)) (b + 3) (nI n) = some (mk b (fzW w0 a (if f = 0 then flt (n, a) else f))) := by
  unfold FX4_fail
  rw [gI_1_2_3_3, Option.bind_some, fz_3]
  by_cases q : f = 0
  · rw [if_pos q, if_pos q, gI_1_2_3_2, Option.bind_some, fz_2, sI_1_2_3_3, Option.bind_some, fz_u3]
    rfl
  · rw [if_neg q, if_neg q]
theorem fz_open (d : Nat) (hd : d < 100) : FX4_open (mk b (fzW w0 a f)) (b + 3) (nI d) = some (mk b (if d < 6 then fzW w0 (a + 1) f else fzW w0 a (if f = 0 then flt (5, a) else f))) := by
  unfold FX4_open
  by_cases q : d < 6
  · rw [if_pos (show nI d < (6 : Int32) from nI_lt (a := d) (b := 6) q (by decide)), if_pos q, gI_1_2_3_2, Option.bind_some, fz_2, nI_1, sI_1_2_3_2, Option.bind_some, fz_u2]
  · rw [if_neg (show ¬ nI d < (6 : Int32) from nI_nlt (a := d) (b := 6) (by omega) (by omega)), if_neg q, rc_1_2_3]
    exact bS (fz_fail 5) rfl
theorem fch_le (hT : TxF w0 len ch) (a : Nat) : ch a ≤ 256 := chr_le hT.2.2 a
theorem fz_expect (hT : TxF w0 len ch) (ha : a ≤ len) {c : Nat} (hc : c < 256) : FX4_expect (mk b (fzW w0 a f)) (b + 3) (nI c) = some (mk b (if ch a = c then fzW w0 (a + 1) f else fzW w0 a (if f = 0 then flt (1, a) else f))) := by
  unfold FX4_expect
  rw [rc_1_2_3, fz_here hT ha, Option.bind_some]
  by_cases q : ch a = c
  · rw [if_pos ((tq (fch_le hT a) hc).mpr q), if_pos q, gI_1_2_3_2, Option.bind_some, fz_2, nI_1, sI_1_2_3_2, Option.bind_some, fz_u2]
  · rw [if_neg (fun z => q ((tq (fch_le hT a) hc).mp z)), if_neg q, rc_1_2_3]
    exact bS (fz_fail 1) rfl
theorem fcan {x : Nat} (hx : x ≤ 256) : FX1_canBegin (txv x) = some (if cB x then 1 else 0) := by
  exact (by decide +kernel : ∀ x, x < 257 → FX1_canBegin (txv x) = some (if cB x then 1 else 0)) x (by omega)
end
/-- how a piece of a formula leaves the class -/
def PoF (len v : Nat) (r : FR) (x : Int64) (a' : Nat) (f' : Int32) : Prop := match r with
  | .inl z => f' = flt z ∧ a' ≤ len ∧ flt z ≠ 0
  | .inr z => f' = 0 ∧ a' = z.1 ∧ ∀ q, q < 64 → lb x q = z.2.1 (64 * v + q)
def SpF (b : Nat) (w0 : WD) (len v : Nat) (F : HP → Nat → Int32 → Option (Int64 × HP)) (d : Nat) (pr : Nat → FR) : Prop := ∀ a, a ≤ len → ∃ x a' f', F (mk b (fzW w0 a 0)) (b + 3) (nI d) = some (x, mk b (fzW w0 a' f')) ∧ PoF len v (pr a) x a' f'
def vO (o : Option FV) (st : Nat) : Bool := match o with
  | none => false
  | some y => y.1 st
theorem fO_val (o o2 : Option FV) (x : FV) (st : Nat) : (fO o o2 x).1 st = xor (vO o st) ((fA o2 x).1 st) := by
  cases o with
  | none => exact (Bool.false_xor _).symm
  | some y => rfl
theorem fS_val (o o2 o3 : Option FV) (x : FV) (st : Nat) : (fS o o2 o3 x).1 st = (vO o st || xor (vO o2 st) ((fA o3 x).1 st)) := by
  rw [← fO_val]
  cases o with
  | none => exact (Bool.false_or _).symm
  | some y => rfl
def forB (rP : HP → Nat → Int32 → Option (Int64 × HP)) (p0 : Nat) (p1 : Int32) : Int64 × Int64 × Int64 × Int32 × HP → Option ((Int64 × Int64 × Int64 × HP) ⊕ (Int64 × Int64 × Int64 × Int32 × HP)) := (fun (s2 : Int64 × Int64 × Int64 × Int32 × HP) => (gI [1] 1 s2.2.2.2.2 p0).bind (fun v4 => if v4 ≤ s2.2.2.2.1 then some (Sum.inl (s2.1, s2.2.1, s2.2.2.1, s2.2.2.2.2)) else (gI [1] 3 s2.2.2.2.2 p0).bind (fun v5 => if v5 = 0 then (rc [1] s2.2.2.2.2 p0 (FX4_here s2.2.2.2.2 p0)).bind (fun v6 => jn (A := Unit) (fun a7 => (gI [1] 2 s2.2.2.2.2 p0).bind (fun v9 => (sI [1] 2 s2.2.2.2.2 p0 (v9 + (1 : Int32))).bind (fun hp10 => (rc [1] hp10 p0 (rP hp10 p0 p1)).bind (fun w11 => if v6 = (38 : Int32) then vl (s2.2.2.1 &&& w11.1) (fun x12 => vl (s2.2.2.2.1 + (1 : Int32)) (fun x13 => some (Sum.inr (s2.1, s2.2.1, x12, x13, w11.2)))) else vl (s2.2.1 ^^^ s2.2.2.1) (fun x14 => if v6 = (124 : Int32) then vl (s2.1 ||| x14) (fun x15 => vl (s2.2.2.2.1 + (1 : Int32)) (fun x16 => some (Sum.inr (x15, (0 : Int64), w11.1, x16, w11.2)))) else vl (s2.2.2.2.1 + (1 : Int32)) (fun x17 => some (Sum.inr (s2.1, x14, w11.1, x17, w11.2)))))))) (fun J8 => if v6 = (38 : Int32) then J8 () else if v6 = (94 : Int32) then J8 () else if v6 = (124 : Int32) then J8 () else some (Sum.inl (s2.1, s2.2.1, s2.2.2.1, s2.2.2.2.2)))) else some (Sum.inl (s2.1, s2.2.1, s2.2.2.1, s2.2.2.2.2)))))
section
variable {b : Nat} {w0 : WD} {len v : Nat} {ch : Nat → Nat}
theorem forB_end (hT : TxF w0 len ch) {rP : HP → Nat → Int32 → Option (Int64 × HP)} {d : Nat} {x1 x2 x3 : Int64} {turn a : Nat} {f : Int32} (hf : f ≠ 0) : forB rP (b + 3) (nI d) (x1, x2, x3, nI turn, mk b (fzW w0 a f)) = some (.inl (x1, x2, x3, mk b (fzW w0 a f))) := by
  unfold forB
  dsimp only
  rw [gI_1_3_1, Option.bind_some]
  split
  · rfl
  · rw [gI_1_3_3, Option.bind_some, fz_3, if_neg hf]
theorem forB_go (hT : TxF w0 len ch) {rP : HP → Nat → Int32 → Option (Int64 × HP)} {d : Nat} {x1 x2 x3 : Int64} {turn a : Nat} (ha : a ≤ len) (ht : turn ≤ a) (hs : ch a = 38 ∨ ch a = 94 ∨ ch a = 124) {y : Int64} {w' : WD} (hp : rP (mk b (fzW w0 (a + 1) 0)) (b + 3) (nI d) = some (y, mk b w')) : forB rP (b + 3) (nI d) (x1, x2, x3, nI turn, mk b (fzW w0 a 0)) = some (.inr (if ch a = 38 then (x1, x2, x3 &&& y, nI (turn + 1), mk b w') else if ch a = 124 then (x1 ||| (x2 ^^^ x3), 0, y, nI (turn + 1), mk b w') else (x1, x2 ^^^ x3, y, nI (turn + 1), mk b w'))) := by
  have hlen := hT.2.1
  have hx := fch_le hT a
  have hal : a < len := by
    rcases Nat.lt_or_ge a len with q | q
    · exact q
    · rw [hT.2.2.2 a q] at hs
      omega
  have t38 : (txv (ch a) = (38 : Int32)) ↔ ch a = 38 := tq hx (by decide)
  have t94 : (txv (ch a) = (94 : Int32)) ↔ ch a = 94 := tq hx (by decide)
  have t124 : (txv (ch a) = (124 : Int32)) ↔ ch a = 124 := tq hx (by decide)
  unfold forB
  dsimp only
  rw [gI_1_3_1, Option.bind_some, fz_1, hT.1, if_neg (nI_ge (show turn < len by omega) (by omega)), gI_1_3_3, Option.bind_some, fz_3, if_pos rfl, rc_1_3, fz_here hT ha, Option.bind_some, jn_eq]
  have go : ∀ (Z : Option ((Int64 × Int64 × Int64 × HP) ⊕ (Int64 × Int64 × Int64 × Int32 × HP))) (kf : Int64 × HP → Option ((Int64 × Int64 × Int64 × HP) ⊕ (Int64 × Int64 × Int64 × Int32 × HP))), kf (y, mk b w') = Z → (gI [1] 2 (mk b (fzW w0 a 0)) (b + 3)).bind (fun v9 => (sI [1] 2 (mk b (fzW w0 a 0)) (b + 3) (v9 + (1 : Int32))).bind (fun hp10 => (rc [1] hp10 (b + 3) (rP hp10 (b + 3) (nI d))).bind kf)) = Z := by
    intro Z kf hz
    rw [gI_1_3_2, Option.bind_some, fz_2, nI_1, sI_1_3_2, Option.bind_some, fz_u2, rc_1_3, hp, Option.bind_some]
    exact hz
  rcases hs with e | e | e
  · rw [if_pos (t38.mpr e), if_pos e]
    refine go _ _ ?_
    rw [if_pos (t38.mpr e)]
    simp only [vl_eq, nI_1]
  · rw [if_neg (fun z => by have := t38.mp z; omega), if_pos (t94.mpr e), if_neg (by omega), if_neg (by omega)]
    refine go _ _ ?_
    rw [if_neg (fun z => by have := t38.mp z; omega)]
    simp only [vl_eq, nI_1]
    rw [if_neg (fun z => by have := t124.mp z; omega)]
  · rw [if_neg (fun z => by have := t38.mp z; omega), if_neg (fun z => by have := t94.mp z; omega), if_pos (t124.mpr e), if_neg (by omega), if_pos e]
    refine go _ _ ?_
    rw [if_neg (fun z => by have := t38.mp z; omega)]
    simp only [vl_eq, nI_1]
    rw [if_pos (t124.mpr e)]
theorem forB_stop (hT : TxF w0 len ch) {rP : HP → Nat → Int32 → Option (Int64 × HP)} {d : Nat} {x1 x2 x3 : Int64} {turn a : Nat} (ha : a ≤ len) (h1 : ch a ≠ 38) (h2 : ch a ≠ 94) (h3 : ch a ≠ 124) : forB rP (b + 3) (nI d) (x1, x2, x3, nI turn, mk b (fzW w0 a 0)) = some (.inl (x1, x2, x3, mk b (fzW w0 a 0))) := by
  have hx := fch_le hT a
  have t38 : (txv (ch a) = (38 : Int32)) ↔ ch a = 38 := tq hx (by decide)
  have t94 : (txv (ch a) = (94 : Int32)) ↔ ch a = 94 := tq hx (by decide)
  have t124 : (txv (ch a) = (124 : Int32)) ↔ ch a = 124 := tq hx (by decide)
  unfold forB
  dsimp only
  rw [gI_1_3_1, Option.bind_some]
  split
  · rfl
  · rw [gI_1_3_3, Option.bind_some, fz_3, if_pos rfl, rc_1_3, fz_here hT ha, Option.bind_some, jn_eq, if_neg (fun z => h1 (t38.mp z)), if_neg (fun z => h2 (t94.mp z)), if_neg (fun z => h3 (t124.mp z))]
theorem forB_lp (hT : TxF w0 len ch) {rP : HP → Nat → Int32 → Option (Int64 × HP)} {d : Nat} {pie : Nat → FR} (hP : SpF b w0 len v rP d pie) (hfi : ∀ a, a ≤ len → ffine len a (pie a)) : ∀ (n a turn : Nat) (oS oO oA : Option FV) (C : FV) (x1 x2 x3 : Int64), a ≤ len → len < a + n → turn ≤ a → (∀ q, q < 64 → lb x1 q = vO oS (64 * v + q)) → (∀ q, q < 64 → lb x2 q = vO oO (64 * v + q)) → (∀ q, q < 64 → lb x3 q = (fA oA C).1 (64 * v + q)) → ∀ N, n + 1 < N → ∃ y1 y2 y3 a' f', lp (forB rP (b + 3) (nI d)) N (x1, x2, x3, nI turn, mk b (fzW w0 a 0)) = some (y1, y2, y3, mk b (fzW w0 a' f')) ∧ PoF len v (pForL ch pie n a oS oO oA C) (y1 ||| (y2 ^^^ y3)) a' f'
  | 0, a, turn, oS, oO, oA, C, x1, x2, x3, ha, hn, ht, e1, e2, e3, N, hN => by omega
  | n + 1, a, turn, oS, oO, oA, C, x1, x2, x3, ha, hn, ht, e1, e2, e3, N, hN => by
    obtain ⟨M, rfl⟩ : ∃ M, N = M + 1 := ⟨N - 1, by omega⟩
    have hlen := hT.2.1
    by_cases hs : ch a = 38 ∨ ch a = 94 ∨ ch a = 124
    · have hal : a < len := by
        rcases Nat.lt_or_ge a len with q | q
        · exact q
        · rw [hT.2.2.2 a q] at hs
          omega
      obtain ⟨y, a1, f1, p1, p2⟩ := hP (a + 1) hal
      have step := forB_go (b := b) (d := d) (x1 := x1) (x2 := x2) (x3 := x3) hT ha ht hs p1
      have hfp := hfi (a + 1) hal
      rw [lp_one step]
      cases hpi : pie (a + 1) with
      | inl z =>
        rw [hpi] at p2
        obtain ⟨q1, q2, q3⟩ := p2
        obtain ⟨M', rfl⟩ : ∃ M', M = M' + 1 := ⟨M - 1, by omega⟩
        have hfz : f1 ≠ 0 := by rw [q1]; exact q3
        have fin : PoF len v (pForL ch pie (n + 1) a oS oO oA C) = PoF len v (.inl z) := by
          unfold pForL
          rw [hpi]
          dsimp only
          rcases hs with e | e | e
          · rw [if_pos e]
          · rw [if_neg (by omega), if_pos e]
          · rw [if_neg (by omega), if_neg (by omega), if_pos e]
        rw [fin]
        by_cases c1 : ch a = 38
        · rw [if_pos c1, lp_out (forB_end hT hfz)]
          exact ⟨_, _, _, _, _, rfl, q1, q2, q3⟩
        · rw [if_neg c1]
          by_cases c2 : ch a = 124
          · rw [if_pos c2, lp_out (forB_end hT hfz)]
            exact ⟨_, _, _, _, _, rfl, q1, q2, q3⟩
          · rw [if_neg c2, lp_out (forB_end hT hfz)]
            exact ⟨_, _, _, _, _, rfl, q1, q2, q3⟩
      | inr z =>
        rw [hpi] at p2 hfp
        obtain ⟨q1, q2, q3⟩ := p2
        obtain ⟨g1, g2, g3⟩ := hfp
        subst q1
        subst q2
        rcases hs with c | c | c
        · have fin : pForL ch pie (n + 1) a oS oO oA C = pForL ch pie n z.1 oS oO (some (fA oA C)) z.2 := by
            show (if ch a = 38 then _ else _) = _
            rw [if_pos c, hpi]
          rw [if_pos c, fin]
          exact forB_lp hT hP hfi n z.1 (turn + 1) oS oO _ z.2 _ _ _ g2 (by omega) (by omega) e1 e2 (fun q hq => by rw [lb_and, e3 q hq, q3 q hq]; rfl) M (by omega)
        · have fin : pForL ch pie (n + 1) a oS oO oA C = pForL ch pie n z.1 oS (some (fO oO oA C)) none z.2 := by
            show (if ch a = 38 then _ else if ch a = 94 then _ else _) = _
            rw [if_neg (by omega), if_pos c, hpi]
          rw [if_neg (by omega), if_neg (by omega), fin]
          exact forB_lp hT hP hfi n z.1 (turn + 1) oS _ none z.2 _ _ _ g2 (by omega) (by omega) e1 (fun q hq => by rw [lb_xor, e2 q hq, e3 q hq]; exact (fO_val oO oA C _).symm) q3 M (by omega)
        · have fin : pForL ch pie (n + 1) a oS oO oA C = pForL ch pie n z.1 (some (fS oS oO oA C)) none none z.2 := by
            show (if ch a = 38 then _ else if ch a = 94 then _ else if ch a = 124 then _ else _) = _
            rw [if_neg (by omega), if_neg (by omega), if_pos c, hpi]
          rw [if_neg (by omega), if_pos c, fin]
          exact forB_lp hT hP hfi n z.1 (turn + 1) _ none none z.2 _ _ _ g2 (by omega) (by omega) (fun q hq => by rw [lb_or, lb_xor, e1 q hq, e2 q hq, e3 q hq]; exact (fS_val oS oO oA C _).symm) (fun q hq => lb_0 q) q3 M (by omega)
    · have c1 : ch a ≠ 38 := fun z => hs (Or.inl z)
      have c2 : ch a ≠ 94 := fun z => hs (Or.inr (Or.inl z))
      have c3 : ch a ≠ 124 := fun z => hs (Or.inr (Or.inr z))
      rw [lp_out (forB_stop hT ha c1 c2 c3)]
      have fin : pForL ch pie (n + 1) a oS oO oA C = .inr (a, fS oS oO oA C) := by
        show (if ch a = 38 then _ else if ch a = 94 then _ else if ch a = 124 then _ else _) = _
        rw [if_neg c1, if_neg c2, if_neg c3]
      rw [fin]
      refine ⟨_, _, _, _, _, rfl, rfl, rfl, fun q hq => ?_⟩
      rw [lb_or, lb_xor, e1 q hq, e2 q hq, e3 q hq]
      exact (fS_val oS oO oA C _).symm
theorem form_c (hT : TxF w0 len ch) {rP rF : HP → Nat → Int32 → Option (Int64 × HP)} {rM : HP → Nat → Int32 → Int32 → Option (Int64 × HP)} {d : Nat} {pie : Nat → FR} (hP : SpF b w0 len v rP d pie) (hfi : ∀ a, a ≤ len → ffine len a (pie a)) : SpF b w0 len v (FBX1_formula rF rP rM) d (pForB ch pie) := by
  intro a ha
  have hlen := hT.2.1
  obtain ⟨y, a1, f1, p1, p2⟩ := hP a ha
  have hfp := hfi a ha
  have start : FBX1_formula rF rP rM (mk b (fzW w0 a 0)) (b + 3) (nI d) = (lp (forB rP (b + 3) (nI d)) FU ((0 : Int64), (0 : Int64), y, nI 0, mk b (fzW w0 a1 f1))).bind (fun (y3 : Int64 × Int64 × Int64 × HP) => some ((y3.1 ||| (y3.2.1 ^^^ y3.2.2.1)), y3.2.2.2)) := by
    unfold FBX1_formula
    rw [rc_1_3, p1, Option.bind_some]
    rfl
  rw [start]
  unfold pForB
  cases hpi : pie a with
  | inl z =>
    rw [hpi] at p2
    obtain ⟨q1, q2, q3⟩ := p2
    have hfz : f1 ≠ 0 := by rw [q1]; exact q3
    have : lp (forB rP (b + 3) (nI d)) FU ((0 : Int64), (0 : Int64), y, nI 0, mk b (fzW w0 a1 f1)) = some ((0 : Int64), (0 : Int64), y, mk b (fzW w0 a1 f1)) := lp_out (N := FU - 1) (forB_end hT hfz)
    rw [this, Option.bind_some]
    exact ⟨_, _, _, rfl, q1, q2, q3⟩
  | inr z =>
    rw [hpi] at p2 hfp
    obtain ⟨q1, q2, q3⟩ := p2
    obtain ⟨g1, g2, g3⟩ := hfp
    subst q1
    subst q2
    obtain ⟨y1, y2, y3, a', f', r1, r2⟩ := forB_lp hT hP hfi 300 z.1 0 none none none z.2 0 0 y g2 (by omega) (by omega) (fun q hq => lb_0 q) (fun q hq => lb_0 q) q3 FU (by decide)
    rw [r1, Option.bind_some]
    exact ⟨_, _, _, rfl, r2⟩
end
