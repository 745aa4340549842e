/-! the class counts formulas -/
def cnt4 (o t f e : Bool) : Nat := o.toNat + 2 * t.toNat + 4 * f.toNat + 8 * e.toNat
theorem addF : ∀ o t f e h : Bool, cnt4 o t f e ≤ 9 → cnt4 (xor o h) (xor t (o && h)) (xor f (t && (o && h))) (xor e (f && (t && (o && h)))) = cnt4 o t f e + h.toNat := by decide
def cS1 (bit c : Bool) (p : Bool × Bool) : Bool × Bool := if bit then (p.1 && c, p.2) else (p.1 && !c, p.2 || (p.1 && c))
def cSt (bit : Bool) (c : Int64) (p : Int64 × Int64) : Int64 × Int64 := if bit then (p.1 &&& c, p.2) else (p.1 &&& (c ^^^ (-1 : Int64)), p.2 ||| (p.1 &&& c))
theorem cmp4 : ∀ k, k < 10 → ∀ o t f e : Bool, ((cS1 (k.testBit 0) o (cS1 (k.testBit 1) t (cS1 (k.testBit 2) f (cS1 (k.testBit 3) e (true, false))))).2 || (cS1 (k.testBit 0) o (cS1 (k.testBit 1) t (cS1 (k.testBit 2) f (cS1 (k.testBit 3) e (true, false))))).1) = decide (k ≤ cnt4 o t f e) := by decide +kernel
theorem cSt_lb (bit : Bool) (c : Int64) (p : Int64 × Int64) {q : Nat} (hq : q < 64) : (lb (cSt bit c p).1 q, lb (cSt bit c p).2 q) = cS1 bit (lb c q) (lb p.1 q, lb p.2 q) := by
  cases bit with
  | false =>
    show (lb (p.1 &&& (c ^^^ (-1 : Int64))) q, lb (p.2 ||| (p.1 &&& c)) q) = _
    rw [lb_and, lb_not _ hq, lb_or, lb_and]
    rfl
  | true =>
    show (lb (p.1 &&& c) q, lb p.2 q) = _
    rw [lb_and]
    rfl
def cmpB (p1 : Int32) (y3 : Int64 × Int64 × Int64 × Int64 × HP) : Int64 × Int64 × Int32 → Option ((Int64 × Int64) ⊕ (Int64 × Int64 × Int32)) := (fun (s5 : Int64 × Int64 × Int32) => if s5.2.2 < 0 then some (Sum.inl (s5.1, s5.2.1)) else jn (A := Int64) (fun a7 => if ((p1 >>> (s5.2.2 &&& 31)) &&& (1 : Int32)) = 0 then vl (s5.2.1 ||| (s5.1 &&& a7)) (fun x9 => vl (s5.1 &&& (a7 ^^^ (-1 : Int64))) (fun x10 => vl (s5.2.2 + (-1 : Int32)) (fun x11 => some (Sum.inr (x10, x9, x11))))) else vl (s5.1 &&& a7) (fun x12 => vl (s5.2.2 + (-1 : Int32)) (fun x13 => some (Sum.inr (x12, s5.2.1, x13))))) (fun J8 => if s5.2.2 = (3 : Int32) then J8 y3.2.2.2.1 else if s5.2.2 = (2 : Int32) then J8 y3.2.2.1 else if s5.2.2 = (1 : Int32) then J8 y3.2.1 else J8 y3.1))
theorem cmp_3 {k : Nat} (hk : k < 10) (o t f e : Int64) (hp : HP) (p : Int64 × Int64) : cmpB (nI k) (o, t, f, e, hp) (p.1, p.2, 3) = some (.inr ((cSt (k.testBit 3) e p).1, (cSt (k.testBit 3) e p).2, 2)) := by
  have key : ((nI k >>> ((3 : Int32) &&& 31)) &&& (1 : Int32) = 0) ↔ k.testBit 3 = false := (by decide +kernel : ∀ k, k < 10 → (((nI k >>> ((3 : Int32) &&& 31)) &&& (1 : Int32) = 0) ↔ k.testBit 3 = false)) k hk
  unfold cmpB
  dsimp only
  rw [if_neg (by decide), jn_eq, if_pos rfl]
  simp only [vl_eq]
  cases hb : k.testBit 3 with
  | false => rw [if_pos (key.mpr hb)]; rfl
  | true => rw [if_neg (fun z => by rw [key.mp z] at hb; cases hb)]; rfl
theorem cmp_2 {k : Nat} (hk : k < 10) (o t f e : Int64) (hp : HP) (p : Int64 × Int64) : cmpB (nI k) (o, t, f, e, hp) (p.1, p.2, 2) = some (.inr ((cSt (k.testBit 2) f p).1, (cSt (k.testBit 2) f p).2, 1)) := by
  have key : ((nI k >>> ((2 : Int32) &&& 31)) &&& (1 : Int32) = 0) ↔ k.testBit 2 = false := (by decide +kernel : ∀ k, k < 10 → (((nI k >>> ((2 : Int32) &&& 31)) &&& (1 : Int32) = 0) ↔ k.testBit 2 = false)) k hk
  unfold cmpB
  dsimp only
  rw [if_neg (by decide), jn_eq, if_neg (by decide), if_pos rfl]
  simp only [vl_eq]
  cases hb : k.testBit 2 with
  | false => rw [if_pos (key.mpr hb)]; rfl
  | true => rw [if_neg (fun z => by rw [key.mp z] at hb; cases hb)]; rfl
theorem cmp_1 {k : Nat} (hk : k < 10) (o t f e : Int64) (hp : HP) (p : Int64 × Int64) : cmpB (nI k) (o, t, f, e, hp) (p.1, p.2, 1) = some (.inr ((cSt (k.testBit 1) t p).1, (cSt (k.testBit 1) t p).2, 0)) := by
  have key : ((nI k >>> ((1 : Int32) &&& 31)) &&& (1 : Int32) = 0) ↔ k.testBit 1 = false := (by decide +kernel : ∀ k, k < 10 → (((nI k >>> ((1 : Int32) &&& 31)) &&& (1 : Int32) = 0) ↔ k.testBit 1 = false)) k hk
  unfold cmpB
  dsimp only
  rw [if_neg (by decide), jn_eq, if_neg (by decide), if_neg (by decide), if_pos rfl]
  simp only [vl_eq]
  cases hb : k.testBit 1 with
  | false => rw [if_pos (key.mpr hb)]; rfl
  | true => rw [if_neg (fun z => by rw [key.mp z] at hb; cases hb)]; rfl
theorem cmp_0 {k : Nat} (hk : k < 10) (o t f e : Int64) (hp : HP) (p : Int64 × Int64) : cmpB (nI k) (o, t, f, e, hp) (p.1, p.2, 0) = some (.inr ((cSt (k.testBit 0) o p).1, (cSt (k.testBit 0) o p).2, -1)) := by
  have key : ((nI k >>> ((0 : Int32) &&& 31)) &&& (1 : Int32) = 0) ↔ k.testBit 0 = false := (by decide +kernel : ∀ k, k < 10 → (((nI k >>> ((0 : Int32) &&& 31)) &&& (1 : Int32) = 0) ↔ k.testBit 0 = false)) k hk
  unfold cmpB
  dsimp only
  rw [if_neg (by decide), jn_eq, if_neg (by decide), if_neg (by decide), if_neg (by decide)]
  simp only [vl_eq]
  cases hb : k.testBit 0 with
  | false => rw [if_pos (key.mpr hb)]; rfl
  | true => rw [if_neg (fun z => by rw [key.mp z] at hb; cases hb)]; rfl
theorem cmp_lp {k : Nat} (hk : k < 10) (o t f e : Int64) (hp : HP) (M : Nat) : ∃ p : Int64 × Int64, lp (cmpB (nI k) (o, t, f, e, hp)) (M + 5) ((-1 : Int64), (0 : Int64), (3 : Int32)) = some p ∧ ∀ q, q < 64 → lb (p.2 ||| p.1) q = decide (k ≤ cnt4 (lb o q) (lb t q) (lb f q) (lb e q)) := by
  refine ⟨_, by
    rw [lp_one (cmp_3 hk o t f e hp (-1, 0)), lp_one (cmp_2 hk o t f e hp _), lp_one (cmp_1 hk o t f e hp _), lp_one (cmp_0 hk o t f e hp _)]
    exact lp_out rfl, fun q hq => ?_⟩
  have h3 := cSt_lb (k.testBit 3) e (-1, 0) hq
  have h2 := cSt_lb (k.testBit 2) f (cSt (k.testBit 3) e (-1, 0)) hq
  have h1 := cSt_lb (k.testBit 1) t (cSt (k.testBit 2) f (cSt (k.testBit 3) e (-1, 0))) hq
  have h0 := cSt_lb (k.testBit 0) o (cSt (k.testBit 1) t (cSt (k.testBit 2) f (cSt (k.testBit 3) e (-1, 0)))) hq
  have e0 : (lb (-1 : Int64) q, lb (0 : Int64) q) = (true, false) := by rw [lb_m1 q hq, lb_0]
  have e0 : (lb ((-1 : Int64), (0 : Int64)).1 q, lb ((-1 : Int64), (0 : Int64)).2 q) = (true, false) := e0
  rw [e0] at h3
  rw [h3] at h2
  rw [h2] at h1
  rw [h1] at h0
  rw [lb_or, ← cmp4 k hk]
  rw [← h0]
def manB (rF : HP → Nat → Int32 → Option (Int64 × HP)) (p0 : Nat) (p1 : Int32) : Int64 × Int64 × Int64 × Int64 × Int32 × HP → Option ((Int64 × Int64 × Int64 × Int64 × HP) ⊕ (Int64 × Int64 × Int64 × Int64 × Int32 × HP)) := (fun (s2 : Int64 × Int64 × Int64 × Int64 × Int32 × HP) => if (10 : Int32) < s2.2.2.2.2.1 then some (Sum.inl (s2.1, s2.2.1, s2.2.2.1, s2.2.2.2.1, s2.2.2.2.2.2)) else (gI [1] 3 s2.2.2.2.2.2 p0).bind (fun v14 => if v14 = 0 then (rc [1] s2.2.2.2.2.2 p0 (rF s2.2.2.2.2.2 p0 p1)).bind (fun w15 => vl (s2.1 &&& w15.1) (fun x16 => vl (s2.1 ^^^ w15.1) (fun x17 => vl (s2.2.1 &&& x16) (fun x18 => vl (s2.2.1 ^^^ x16) (fun x19 => vl (s2.2.2.2.1 ^^^ (s2.2.2.1 &&& x18)) (fun x20 => vl (s2.2.2.1 ^^^ x18) (fun x21 => (rc [1] w15.2 p0 (FX4_here w15.2 p0)).bind (fun v22 => if v22 = (44 : Int32) then (gI [1] 2 w15.2 p0).bind (fun v23 => (sI [1] 2 w15.2 p0 (v23 + (1 : Int32))).bind (fun hp14 => if s2.2.2.2.2.1 = (10 : Int32) then (rc [1] hp14 p0 (FX4_here hp14 p0)).bind (fun v25 => (FX1_canBegin v25).bind (fun v26 => jn (A := Int32) (fun a27 => (rc [1] hp14 p0 (FX4_fail hp14 p0 a27)).bind (fun w29 => vl (s2.2.2.2.2.1 + (1 : Int32)) (fun x30 => some (Sum.inr (x17, x19, x21, x20, x30, w29))))) (fun J28 => if v26 = 0 then J28 (1 : Int32) else J28 (4 : Int32)))) else vl (s2.2.2.2.2.1 + (1 : Int32)) (fun x31 => some (Sum.inr (x17, x19, x21, x20, x31, hp14))))) else some (Sum.inl (x17, x19, x21, x20, w15.2)))))))))) else some (Sum.inl (s2.1, s2.2.1, s2.2.2.1, s2.2.2.2.1, s2.2.2.2.2.2))))
section
variable {b : Nat} {w0 : WD} {len v : Nat} {ch : Nat → Nat}
theorem manB_end {rF : HP → Nat → Int32 → Option (Int64 × HP)} {d : Nat} {o t f4 e : Int64} {turn : Int32} {a : Nat} {f : Int32} (hf : f ≠ 0) : manB rF (b + 3) (nI d) (o, t, f4, e, turn, mk b (fzW w0 a f)) = some (.inl (o, t, f4, e, mk b (fzW w0 a f))) := by
  unfold manB
  dsimp only
  split
  · rfl
  · rw [gI_1_3_3, Option.bind_some, fz_3, if_neg hf]
def ad1 (o h : Int64) : Int64 := o ^^^ h
def ad2 (o t h : Int64) : Int64 := t ^^^ (o &&& h)
def ad4 (o t f h : Int64) : Int64 := f ^^^ (t &&& (o &&& h))
def ad8 (o t f e h : Int64) : Int64 := e ^^^ (f &&& (t &&& (o &&& h)))
theorem manB_step (hT : TxF w0 len ch) {rF : HP → Nat → Int32 → Option (Int64 × HP)} {d : Nat} {o t f4 e : Int64} {n a : Nat} (hn : n < 10) {y : Int64} {a1 : Nat} {f1 : Int32} (h1 : a1 ≤ len) (hp : rF (mk b (fzW w0 a 0)) (b + 3) (nI d) = some (y, mk b (fzW w0 a1 f1))) : manB rF (b + 3) (nI d) (o, t, f4, e, nI (n + 1), mk b (fzW w0 a 0)) = if ch a1 = 44 then (if n = 9 then some (.inr (ad1 o y, ad2 o t y, ad4 o t f4 y, ad8 o t f4 e y, nI (n + 2), mk b (fzW w0 (a1 + 1) (if f1 = 0 then flt (if cB (ch (a1 + 1)) then 4 else 1, a1 + 1) else f1)))) else some (.inr (ad1 o y, ad2 o t y, ad4 o t f4 y, ad8 o t f4 e y, nI (n + 2), mk b (fzW w0 (a1 + 1) f1)))) else some (.inl (ad1 o y, ad2 o t y, ad4 o t f4 y, ad8 o t f4 e y, mk b (fzW w0 a1 f1))) := by
  have hx := fch_le hT a1
  have t44 : (txv (ch a1) = (44 : Int32)) ↔ ch a1 = 44 := tq hx (by decide)
  unfold manB
  dsimp only
  rw [if_neg (show ¬ (10 : Int32) < nI (n + 1) from nI_nlt (a := 10) (b := n + 1) (by omega) (by omega)), gI_1_3_3, Option.bind_some, fz_3, if_pos rfl, rc_1_3, hp, Option.bind_some]
  simp only [vl_eq]
  rw [rc_1_3, fz_here hT h1, Option.bind_some]
  by_cases c1 : ch a1 = 44
  · have hal : a1 < len := at_in hT.2.2.2 c1 (by decide)
    rw [if_pos (t44.mpr c1), if_pos c1, gI_1_3_2, Option.bind_some, fz_2, nI_1, sI_1_3_2, Option.bind_some, fz_u2]
    by_cases c2 : n = 9
    · have e10 : nI (n + 1) = (10 : Int32) := by rw [c2]; rfl
      rw [if_pos e10, if_pos c2, rc_1_3, fz_here hT (show a1 + 1 ≤ len from hal), Option.bind_some, fcan (fch_le hT (a1 + 1)), Option.bind_some, jn_eq]
      cases hc : cB (ch (a1 + 1)) with
      | true =>
        rw [if_pos rfl, if_neg (by decide)]
        dsimp only
        rw [rc_1_3]
        refine bS (fz_fail 4) ?_
        rw [nI_1]
        rfl
      | false =>
        rw [if_pos (show (if false = true then (1 : Int32) else 0) = 0 by decide)]
        dsimp only
        rw [rc_1_3]
        refine bS (fz_fail 1) ?_
        rw [nI_1]
        rfl
    · have e10 : ¬ nI (n + 1) = (10 : Int32) := fun z => c2 (by have := nI_inj (a := n + 1) (b := 10) (by omega) (by omega) z; omega)
      rw [if_neg e10, if_neg c2, nI_1]
      rfl
  · rw [if_neg (fun z => c1 (t44.mp z)), if_neg c1]
    rfl

theorem man_cnt {o t f4 e y : Int64} {q c : Nat} {x : Bool} (h : c = cnt4 (lb o q) (lb t q) (lb f4 q) (lb e q)) (hc : c ≤ 9) (hx : lb y q = x) : c + x.toNat = cnt4 (lb (ad1 o y) q) (lb (ad2 o t y) q) (lb (ad4 o t f4 y) q) (lb (ad8 o t f4 e y) q) := by
  unfold ad1 ad2 ad4 ad8
  simp only [lb_xor, lb_and]
  rw [hx, addF _ _ _ _ _ (by omega), h]
theorem manB_lp (hT : TxF w0 len ch) {rF : HP → Nat → Int32 → Option (Int64 × HP)} {d : Nat} {fo : Nat → FR} (hF : SpF b w0 len v rF d fo) (hfi : ∀ a, a ≤ len → ffine len a (fo a)) (k : Nat) : ∀ (n a m : Nat) (c : Nat → Nat) (l : List Nat) (o t f4 e : Int64), a ≤ len → m + n = 10 → m ≤ 9 → (∀ q, q < 64 → c (64 * v + q) = cnt4 (lb o q) (lb t q) (lb f4 q) (lb e q) ∧ c (64 * v + q) ≤ m) → ∀ N, n + 1 < N → ∃ y1 y2 y3 y4 a' f', lp (manB rF (b + 3) (nI d)) N (o, t, f4, e, nI (m + 1), mk b (fzW w0 a 0)) = some (y1, y2, y3, y4, mk b (fzW w0 a' f')) ∧ a' ≤ len ∧ ((∃ z, pManL ch fo k n a m c l = .inl z ∧ f' = flt z ∧ flt z ≠ 0) ∨ (f' = 0 ∧ ∃ (c' : Nat → Nat) (l' : List Nat), pManL ch fo k n a m c l = (if ch a' = 41 then .inr (a' + 1, (fun st => decide (k ≤ c' st), l')) else .inl (1, a')) ∧ ∀ q, q < 64 → c' (64 * v + q) = cnt4 (lb y1 q) (lb y2 q) (lb y3 q) (lb y4 q)))
  | 0, a, m, c, l, o, t, f4, e, ha, hm, hm2, hc, N, hN => by omega
  | n + 1, a, m, c, l, o, t, f4, e, ha, hm, hm2, hc, N, hN => by
    have hlen := hT.2.1
    obtain ⟨M, rfl⟩ : ∃ M, N = M + 1 := ⟨N - 1, by omega⟩
    obtain ⟨M', rfl⟩ : ∃ M', M = M' + 1 := ⟨M - 1, by omega⟩
    obtain ⟨y, a1, f1, p1, p2⟩ := hF a ha
    have hfp := hfi a ha
    have h1 : a1 ≤ len := by
      cases hpi : fo a with
      | inl z => rw [hpi] at p2; exact p2.2.1
      | inr z => rw [hpi] at p2 hfp; rw [p2.2.1]; exact hfp.2.1
    have step := manB_step (b := b) (d := d) (o := o) (t := t) (f4 := f4) (e := e) (n := m) hT (by omega) h1 p1
    cases hpi : fo a with
    | inl z =>
      rw [hpi] at p2
      obtain ⟨q1, q2, q3⟩ := p2
      have hfz : f1 ≠ 0 := by rw [q1]; exact q3
      have fin : pManL ch fo k (n + 1) a m c l = .inl z := by
        unfold pManL
        rw [hpi]
      by_cases c1 : ch a1 = 44
      · have hal : a1 < len := at_in hT.2.2.2 c1 (by decide)
        rw [if_pos c1] at step
        by_cases c2 : m = 9
        · rw [if_pos c2, if_neg hfz] at step
          rw [lp_one step, lp_out (manB_end hfz)]
          exact ⟨_, _, _, _, _, _, rfl, hal, Or.inl ⟨z, fin, q1, q3⟩⟩
        · rw [if_neg c2] at step
          rw [lp_one step, lp_out (manB_end hfz)]
          exact ⟨_, _, _, _, _, _, rfl, hal, Or.inl ⟨z, fin, q1, q3⟩⟩
      · rw [if_neg c1] at step
        rw [lp_out step]
        exact ⟨_, _, _, _, _, _, rfl, h1, Or.inl ⟨z, fin, q1, q3⟩⟩
    | inr z =>
      rw [hpi] at p2
      obtain ⟨q1, q2, q3⟩ := p2
      subst q1
      subst q2
      have cn : ∀ q, q < 64 → c (64 * v + q) + (z.2.1 (64 * v + q)).toNat = cnt4 (lb (ad1 o y) q) (lb (ad2 o t y) q) (lb (ad4 o t f4 y) q) (lb (ad8 o t f4 e y) q) := fun q hq => man_cnt (hc q hq).1 (by have := (hc q hq).2; omega) (q3 q hq)
      by_cases c1 : ch z.1 = 44
      · have hal : z.1 < len := at_in hT.2.2.2 c1 (by decide)
        rw [if_pos c1] at step
        by_cases c2 : m = 9
        · rw [if_pos c2, if_pos rfl] at step
          have ne : flt (if cB (ch (z.1 + 1)) then 4 else 1, z.1 + 1) ≠ 0 := by
            cases cB (ch (z.1 + 1)) with
            | true => exact flt_n (by decide) (by decide) (by omega)
            | false => exact flt_n (by decide) (by decide) (by omega)
          rw [lp_one step, lp_out (manB_end ne)]
          refine ⟨_, _, _, _, _, _, rfl, hal, Or.inl ⟨_, ?_, rfl, ne⟩⟩
          unfold pManL
          rw [hpi]
          dsimp only
          rw [if_pos c1, if_pos c2]
          cases cB (ch (z.1 + 1)) <;> rfl
        · rw [if_neg c2] at step
          rw [lp_one step]
          have fin : pManL ch fo k (n + 1) a m c l = pManL ch fo k n (z.1 + 1) (m + 1) (fun st => c st + (z.2.1 st).toNat) (l ++ z.2.2) := by
            show (match fo a with
              | .inl z => _
              | .inr (a', x) => _) = _
            rw [hpi]
            dsimp only
            rw [if_pos c1, if_neg c2]
          rw [fin]
          exact manB_lp hT hF hfi k n (z.1 + 1) (m + 1) _ _ _ _ _ _ hal (by omega) (by omega) (fun q hq => ⟨cn q hq, by
            have h1 := (hc q hq).2
            have h2 : (z.2.1 (64 * v + q)).toNat ≤ 1 := Bool.toNat_le _
            show c (64 * v + q) + (z.2.1 (64 * v + q)).toNat ≤ m + 1
            omega⟩) (M' + 1) (by omega)
      · rw [if_neg c1] at step
        rw [lp_out step]
        refine ⟨_, _, _, _, _, _, rfl, h1, Or.inr ⟨rfl, fun st => c st + (z.2.1 st).toNat, l ++ z.2.2 ++ [100 * (m + 1) + 100 + k], ?_, cn⟩⟩
        unfold pManL
        rw [hpi]
        dsimp only
        rw [if_neg c1]
theorem many_c (hT : TxF w0 len ch) {rP rF : HP → Nat → Int32 → Option (Int64 × HP)} {rM : HP → Nat → Int32 → Int32 → Option (Int64 × HP)} {d k : Nat} (hk : k < 10) {fo : Nat → FR} (hF : SpF b w0 len v rF d fo) (hfi : ∀ a, a ≤ len → ffine len a (fo a)) : SpF b w0 len v (fun hp p0 d => FBX1_soMany rF rP rM hp p0 (nI k) d) d (fun a => if ch a = 40 then pManL ch fo k 10 (a + 1) 0 (fun _ => 0) [] else .inl (1, a)) := by
  intro a ha
  have hlen := hT.2.1
  dsimp only
  have start : ∀ w1, FX4_expect (mk b (fzW w0 a 0)) (b + 3) (40 : Int32) = some (mk b w1) → ∀ o t f4 e w2, lp (manB rF (b + 3) (nI d)) FU ((0 : Int64), (0 : Int64), (0 : Int64), (0 : Int64), nI (0 + 1), mk b w1) = some (o, t, f4, e, mk b w2) → ∀ w3, FX4_expect (mk b w2) (b + 3) (41 : Int32) = some (mk b w3) → ∃ x, FBX1_soMany rF rP rM (mk b (fzW w0 a 0)) (b + 3) (nI k) (nI d) = some (x, mk b w3) ∧ ∀ q, q < 64 → lb x q = decide (k ≤ cnt4 (lb o q) (lb t q) (lb f4 q) (lb e q)) := by
    intro w1 h1 o t f4 e w2 h2 w3 h3
    obtain ⟨p, c1, c2⟩ := cmp_lp hk o t f4 e (mk b w2) (FU - 5)
    refine ⟨p.2 ||| p.1, ?_, c2⟩
    unfold FBX1_soMany
    rw [rc_1_3, h1, Option.bind_some]
    refine bS h2 ?_
    dsimp only
    rw [rc_1_3, h3, Option.bind_some]
    exact bS c1 rfl
  have x40 := fz_expect (b := b) (f := 0) hT ha (c := 40) (by decide)
  by_cases c40 : ch a = 40
  · rw [if_pos c40] at x40 ⊢
    have hal : a < len := at_in hT.2.2.2 c40 (by decide)
    obtain ⟨o, t, f4, e, a', f', r1, r2, r3⟩ := manB_lp hT hF hfi k 10 (a + 1) 0 (fun _ => 0) [] 0 0 0 0 hal rfl (by decide) (fun q hq => ⟨by rw [lb_0]; rfl, Nat.le_refl 0⟩) FU (by decide)
    have x41 := fz_expect (b := b) (f := f') hT r2 (c := 41) (by decide)
    obtain ⟨x, s1, s2⟩ := start _ x40 o t f4 e _ r1 _ x41
    rcases r3 with ⟨z, z1, z2, z3⟩ | ⟨z0, c', l', z1, z2⟩
    · have hfz : f' ≠ 0 := by rw [z2]; exact z3
      rw [z1]
      rw [if_neg hfz] at s1
      by_cases c41 : ch a' = 41
      · rw [if_pos c41] at s1
        exact ⟨_, _, _, s1, z2, at_in hT.2.2.2 c41 (by decide), z3⟩
      · rw [if_neg c41] at s1
        exact ⟨_, _, _, s1, z2, r2, z3⟩
    · subst z0
      rw [z1]
      rw [if_pos rfl] at s1
      by_cases c41 : ch a' = 41
      · rw [if_pos c41] at s1 ⊢
        exact ⟨_, _, _, s1, rfl, rfl, fun q hq => by rw [s2 q hq, ← z2 q hq]⟩
      · rw [if_neg c41] at s1 ⊢
        exact ⟨_, _, _, s1, rfl, r2, flt_n (by decide) (by decide) (by omega)⟩
  · rw [if_neg c40] at x40 ⊢
    rw [if_pos rfl] at x40
    have ne : flt (1, a) ≠ 0 := flt_n (by decide) (by decide) (by omega)
    have x41 := fz_expect (b := b) (f := flt (1, a)) hT ha (c := 41) (by decide)
    obtain ⟨x, s1, s2⟩ := start _ x40 0 0 0 0 _ (lp_out (N := FU - 1) (manB_end ne)) _ x41
    rw [if_neg ne] at s1
    by_cases c41 : ch a = 41
    · rw [if_pos c41] at s1
      exact ⟨_, _, _, s1, rfl, at_in hT.2.2.2 c41 (by decide), ne⟩
    · rw [if_neg c41] at s1
      exact ⟨_, _, _, s1, rfl, ha, ne⟩
end
