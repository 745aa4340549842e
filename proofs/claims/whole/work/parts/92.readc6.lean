/-! the class reads rules -/
def ruW (w0 : WD) (o : Nat) (k t u : Nat → Int32) (r : Nat) : WD := uI (uA (uA (uA w0 (o + 1) k) (o + 2) t) (o + 3) u) o 4 (nI r)
theorem uA_swap (w : WD) {i j : Nat} (h : i ≠ j) (f g : Nat → Int32) : uA (uA w i f) j g = uA (uA w j g) i f := by
  have e : (fun j' => if j' = j then g else (uA w i f).2.1 j') = (fun j' => if j' = i then f else (uA w j g).2.1 j') := by
    funext j'
    show (if j' = j then g else if j' = i then f else w.2.1 j') = (if j' = i then f else if j' = j then g else w.2.1 j')
    by_cases h1 : j' = j
    · rw [if_pos h1, if_neg (by omega), if_pos h1]
    · rw [if_neg h1, if_neg h1]
  show (w.1, (fun j' => if j' = j then g else (uA w i f).2.1 j'), w.2.2) = (w.1, (fun j' => if j' = i then f else (uA w j g).2.1 j'), w.2.2)
  rw [e]
theorem uI_swap (w : WD) {i k j m : Nat} (h : ¬ (i = j ∧ k = m)) (x y : Int32) : uI (uI w i k x) j m y = uI (uI w j m y) i k x := by
  have e : (fun j' k' => if j' = j ∧ k' = m then y else (uI w i k x).1 j' k') = (fun j' k' => if j' = i ∧ k' = k then x else (uI w j m y).1 j' k') := by
    funext j' k'
    show (if j' = j ∧ k' = m then y else if j' = i ∧ k' = k then x else w.1 j' k') = (if j' = i ∧ k' = k then x else if j' = j ∧ k' = m then y else w.1 j' k')
    by_cases h1 : j' = j ∧ k' = m
    · rw [if_pos h1, if_neg (fun q => h ⟨q.1.symm.trans h1.1, q.2.symm.trans h1.2⟩), if_pos h1]
    · rw [if_neg h1, if_neg h1]
  show ((fun j' k' => if j' = j ∧ k' = m then y else (uI w i k x).1 j' k'), w.2) = ((fun j' k' => if j' = i ∧ k' = k then x else (uI w j m y).1 j' k'), w.2)
  rw [e]
theorem uI_uI (w : WD) (i k : Nat) (x y : Int32) : uI (uI w i k x) i k y = uI w i k y := by
  have e : (fun j' k' => if j' = i ∧ k' = k then y else (uI w i k x).1 j' k') = (fun j' k' => if j' = i ∧ k' = k then y else w.1 j' k') := by
    funext j' k'
    show (if j' = i ∧ k' = k then y else if j' = i ∧ k' = k then x else w.1 j' k') = _
    by_cases h1 : j' = i ∧ k' = k
    · rw [if_pos h1, if_pos h1]
    · rw [if_neg h1, if_neg h1, if_neg h1]
  show ((fun j' k' => if j' = i ∧ k' = k then y else (uI w i k x).1 j' k'), w.2) = _
  rw [e]
  rfl
theorem stW_arr (W : WD) {o j a s : Nat} {g : Nat → Int32} {f : Int32} (h : j ≠ o + 4) (k : Nat → Int32) : uA (stW W o a s g f) j k = stW (uA W j k) o a s g f := by
  unfold stW
  rw [uA_swap _ (by omega)]
  rfl
theorem stW_fld (W : WD) {o m a s : Nat} {g : Nat → Int32} {f : Int32} (h2 : m ≠ 2) (h3 : m ≠ 3) (h9 : m ≠ 9) (v : Int32) : uI (stW W o a s g f) o m v = stW (uI W o m v) o a s g f := by
  have e : ∀ (X : WD) (G : Nat → Int32), uI (uA X (o + 4) G) o m v = uA (uI X o m v) (o + 4) G := fun _ _ => rfl
  unfold stW
  rw [e, uI_swap (uI (uI W o 2 (nI a)) o 3 f) (i := o) (k := 9) (j := o) (m := m) (by omega) (nI s) v, uI_swap (uI W o 2 (nI a)) (i := o) (k := 3) (j := o) (m := m) (by omega) f v, uI_swap W (i := o) (k := 2) (j := o) (m := m) (by omega) (nI a) v]
section
variable {w0 : WD} {o a s r : Nat} {g k t u : Nat → Int32} {f : Int32}
theorem ru_1 (k' : Nat → Int32) : uA (stW (ruW w0 o k t u r) o a s g f) (o + 1) k' = stW (ruW w0 o k' t u r) o a s g f := by
  rw [stW_arr _ (by omega)]
  congr 1
  show uI (uA (uA (uA (uA w0 (o + 1) k) (o + 2) t) (o + 3) u) (o + 1) k') o 4 (nI r) = ruW w0 o k' t u r
  rw [uA_swap _ (by omega), uA_swap (uA w0 (o + 1) k) (by omega), uA_uA]
  rfl
theorem ru_2 (t' : Nat → Int32) : uA (stW (ruW w0 o k t u r) o a s g f) (o + 2) t' = stW (ruW w0 o k t' u r) o a s g f := by
  rw [stW_arr _ (by omega)]
  congr 1
  show uI (uA (uA (uA (uA w0 (o + 1) k) (o + 2) t) (o + 3) u) (o + 2) t') o 4 (nI r) = ruW w0 o k t' u r
  rw [uA_swap _ (by omega), uA_uA]
  rfl
theorem ru_3 (u' : Nat → Int32) : uA (stW (ruW w0 o k t u r) o a s g f) (o + 3) u' = stW (ruW w0 o k t u' r) o a s g f := by
  rw [stW_arr _ (by omega)]
  congr 1
  show uI (uA (uA (uA (uA w0 (o + 1) k) (o + 2) t) (o + 3) u) (o + 3) u') o 4 (nI r) = ruW w0 o k t u' r
  rw [uA_uA]
  rfl
theorem ru_4 (r' : Nat) : uI (stW (ruW w0 o k t u r) o a s g f) o 4 (nI r') = stW (ruW w0 o k t u r') o a s g f := by
  rw [stW_fld _ (by decide) (by decide) (by decide)]
  congr 1
  unfold ruW
  rw [uI_uI]
theorem ru_at1 : (stW (ruW w0 o k t u r) o a s g f).2.1 (o + 1) = k := by
  rw [stW_A (by omega)]
  show (uA (uA (uA w0 (o + 1) k) (o + 2) t) (o + 3) u).2.1 (o + 1) = k
  rw [uA_ne _ _ (by omega), uA_ne _ _ (by omega), uA_at]
theorem ru_at2 : (stW (ruW w0 o k t u r) o a s g f).2.1 (o + 2) = t := by
  rw [stW_A (by omega)]
  show (uA (uA (uA w0 (o + 1) k) (o + 2) t) (o + 3) u).2.1 (o + 2) = t
  rw [uA_ne _ _ (by omega), uA_at]
theorem ru_at3 : (stW (ruW w0 o k t u r) o a s g f).2.1 (o + 3) = u := by
  rw [stW_A (by omega)]
  show (uA (uA (uA w0 (o + 1) k) (o + 2) t) (o + 3) u).2.1 (o + 3) = u
  rw [uA_at]
theorem ru_n : (stW (ruW w0 o k t u r) o a s g f).1 o 4 = nI r := by
  rw [stW_I (by omega)]
  show (if o = o ∧ 4 = 4 then nI r else _) = _
  rw [if_pos ⟨rfl, rfl⟩]
theorem ru_T {len : Nat} {ch : Nat → Nat} (hT : TxC w0 o len ch) : TxC (ruW w0 o k t u r) o len ch := by
  obtain ⟨ho, h1, h2, h3⟩ := hT
  refine ⟨ho, ?_, h2, ?_⟩
  · show (uI (uA (uA (uA w0 (o + 1) k) (o + 2) t) (o + 3) u) o 4 (nI r)).1 o 1 = nI len
    rw [uI_ne _ _ (by omega)]
    exact h1
  · have e : (ruW w0 o k t u r).2.1 2 = w0.2.1 2 := by
      show (uA (uA (uA w0 (o + 1) k) (o + 2) t) (o + 3) u).2.1 2 = w0.2.1 2
      rw [uA_ne _ _ (by rcases ho with rfl | rfl <;> decide), uA_ne _ _ (by rcases ho with rfl | rfl <;> decide), uA_ne _ _ (by rcases ho with rfl | rfl <;> decide)]
    rw [e]
    exact h3
end
def WxR (r : Rul) : Cds := if r.1 = 120 then [(0, 1)] else r.2.1
/-- how a rule leaves the class's state -/
def PoR (w0 : WD) (o len : Nat) (k t u : Nat → Int32) (r s : Nat) (g : Nat → Int32) (p : (Nat × Nat) ⊕ (Nat × Rul)) (w' : WD) : Prop := match p with
  | .inl z => ∃ a' s' g' k' t' u', w' = stW (ruW w0 o k' t' u' (r + 1)) o a' s' g' (flt z) ∧ a' ≤ len ∧ s' ≤ 240 ∧ flt z ≠ 0
  | .inr z => ∃ s' g', w' = stW (ruW w0 o (upd k r (nI z.2.1)) (upd t r (nI s)) (upd u r (nI (s + (WxR z.2).length + 1))) (r + 1)) o z.1 s' g' 0 ∧ z.1 ≤ len ∧ s' ≤ z.1 ∧ s' = s + (WxR z.2).length + 1 + z.2.2.2.length + 1 ∧ (∀ i, i < s → g' i = g i) ∧ endC g' s' s (WxR z.2) ∧ endC g' s' (s + (WxR z.2).length + 1) z.2.2.2
/-- a rule, once its kind is known and there is room for it -/
def ruleK (hp : HP) (p0 : Nat) (p1 : Int32) (p2 : Int32) : Option (HP) := (gI [2] 2 hp p0).bind (fun v1 => (sI [2] 2 hp p0 (v1 + (1 : Int32))).bind (fun hp2 => (gR [2] 5 hp2 p0).bind (fun v3 => (wrI hp2 v3 p1 p2).bind (fun hp4 => (gR [2] 6 hp4 p0).bind (fun v5 => (gI [2] 9 hp4 p0).bind (fun v6 => (wrI hp4 v5 p1 v6).bind (fun hp7 => (sI [2] 4 hp7 p0 (p1 + (1 : Int32))).bind (fun hp8 => jn (A := HP) (fun a9 => (rc [2] a9 p0 (FX2_emit a9 p0 (-41 : Int32))).bind (fun w11 => (gR [2] 7 w11 p0).bind (fun v12 => (gI [2] 9 w11 p0).bind (fun v13 => (wrI w11 v12 p1 v13).bind (fun hp14 => (rc [2] hp14 p0 (FX4_expect hp14 p0 (40 : Int32))).bind (fun w15 => (rc [2] w15 p0 (FX2_readSome 20 w15 p0 (1 : Int32))).bind (fun w16 => (rc [2] w16 p0 (FX4_expect w16 p0 (41 : Int32))).bind (fun w17 => (rc [2] w17 p0 (FX2_emit w17 p0 (-41 : Int32))).bind (fun w18 => some w18))))))))) (fun J10 => if p2 = (120 : Int32) then (rc [2] hp8 p0 (FX2_emit hp8 p0 (1 : Int32))).bind (fun w19 => J10 w19) else (rc [2] hp8 p0 (FX2_readSum 20 hp8 p0 (0 : Int32))).bind (fun w20 => J10 w20))))))))))
section
variable {b : Nat} {w0 : WD} {o len : Nat} {ch : Nat → Nat}
theorem rule_c (hT : TxC w0 o len ch) {a s r r0 : Nat} {g k t u : Nat → Int32} (ha : a < len) (hs : s ≤ a) (hr : r < 16) (hk : isKd (ch a) = true) : ∃ w', ruleK (mk b (stW (ruW w0 o k t u r0) o a s g 0)) (b + o) (nI r) (txv (ch a)) = some (mk b w') ∧ PoR w0 o len k t u r s g (pRule ch a) w' := by
  have ho := hT.1
  have hx := chr_le hT.2.2.2
  have hlen := hT.2.2.1
  have hfi := hT.2.2.2.2
  have hkd : ch a = 100 ∨ ch a = 103 ∨ ch a = 120 := by
    unfold isKd at hk
    rw [Bool.or_eq_true, Bool.or_eq_true, beq_iff_eq, beq_iff_eq, beq_iff_eq] at hk
    omega
  have etx : txv (ch a) = nI (ch a) := by
    unfold txv
    rw [if_neg (by omega)]
  have t120 : (txv (ch a) = (120 : Int32)) ↔ ch a = 120 := tq (hx a) (by decide)
  unfold ruleK
  rw [gI_2_o_2 b _ ho, Option.bind_some, stW_2, nI_1, sI_2_o_2 b _ ho, Option.bind_some, stW_u2, gR_2_o_5 b _ ho, Option.bind_some, wrI_mk (okL1 ho) b _ hr, Option.bind_some, ru_at1, ru_1, gR_2_o_6 b _ ho, Option.bind_some, gI_2_o_9 b _ ho, Option.bind_some, stW_9, wrI_mk (okL2 ho) b _ hr, Option.bind_some, ru_at2, ru_2, nI_1, sI_2_o_4 b _ ho, Option.bind_some, ru_4, jn_eq]
  generalize hW : ruW w0 o (upd k r (txv (ch a))) (upd t r (nI s)) u (r + 1) = W
  have hTW : TxC W o len ch := by rw [← hW]; exact ru_T hT
  -- behind the sum
  have cont : ∀ (a1 s1 : Nat) (g1 : Nat → Int32) (f1 : Int32), a1 ≤ len → s1 ≤ 240 → ∃ W2, TxC W2 o len ch ∧ ∃ s2 g2, s2 ≤ 240 ∧ (s1 < 240 → s2 = s1 + 1 ∧ g2 = upd g1 s1 (-41) ∧ W2 = ruW w0 o (upd k r (txv (ch a))) (upd t r (nI s)) (upd u r (nI (s1 + 1))) (r + 1)) ∧ (∃ k' t' u', W2 = ruW w0 o k' t' u' (r + 1)) ∧ (rc [2] (mk b (stW W o a1 s1 g1 f1)) (b + o) (FX2_emit (mk b (stW W o a1 s1 g1 f1)) (b + o) (-41 : Int32))).bind (fun w11 => (gR [2] 7 w11 (b + o)).bind (fun v12 => (gI [2] 9 w11 (b + o)).bind (fun v13 => (wrI w11 v12 (nI r) v13).bind (fun hp14 => (rc [2] hp14 (b + o) (FX4_expect hp14 (b + o) (40 : Int32))).bind (fun w15 => (rc [2] w15 (b + o) (FX2_readSome 20 w15 (b + o) (1 : Int32))).bind (fun w16 => (rc [2] w16 (b + o) (FX4_expect w16 (b + o) (41 : Int32))).bind (fun w17 => (rc [2] w17 (b + o) (FX2_emit w17 (b + o) (-41 : Int32))).bind (fun w18 => some w18)))))))) = (FX4_expect (mk b (stW W2 o a1 s2 g2 f1)) (b + o) (40 : Int32)).bind (fun w15 => (rc [2] w15 (b + o) (FX2_readSome 20 w15 (b + o) (1 : Int32))).bind (fun w16 => (rc [2] w16 (b + o) (FX4_expect w16 (b + o) (41 : Int32))).bind (fun w17 => (rc [2] w17 (b + o) (FX2_emit w17 (b + o) (-41 : Int32))).bind (fun w18 => some w18)))) := by
    intro a1 s1 g1 f1 ha1 hs1
    obtain ⟨s2, g2, e1, e2, e3⟩ : ∃ s2 g2, FX2_emit (mk b (stW W o a1 s1 g1 f1)) (b + o) (-41 : Int32) = some (mk b (stW W o a1 s2 g2 f1)) ∧ s2 ≤ 240 ∧ (s1 < 240 → s2 = s1 + 1 ∧ g2 = upd g1 s1 (-41)) := by
      rcases Nat.lt_or_ge s1 240 with q | q
      · exact ⟨_, _, st_emit ho q _, by omega, fun _ => ⟨rfl, rfl⟩⟩
      · obtain ⟨s2, g2, e1, e2⟩ := st_emit' (b := b) (w0 := W) (a := a1) (s := s1) (g := g1) (f := f1) ho hs1 (-41)
        exact ⟨s2, g2, e1, e2, fun z => by omega⟩
    refine ⟨ruW w0 o (upd k r (txv (ch a))) (upd t r (nI s)) (upd u r (nI s2)) (r + 1), ru_T hT, s2, g2, e2, fun z => ⟨(e3 z).1, (e3 z).2, by rw [(e3 z).1]⟩, ⟨_, _, _, rfl⟩, ?_⟩
    rw [rc_2_o b _ ho, e1, Option.bind_some, gR_2_o_7 b _ ho, Option.bind_some, gI_2_o_9 b _ ho, Option.bind_some, stW_9, wrI_mk (okL3 ho) b _ hr, Option.bind_some, ← hW, ru_at3, ru_3, rc_2_o b _ ho]
  -- the whole tail, from a state behind the sum
  have hsom : ∀ W2 : WD, TxC W2 o len ch → SpC b W2 o len (FX2_readSome 20) 1 (pSom ch 5) := fun W2 h2 => tests_c h2 5 1 20 (by decide) (by decide)
  have tl : ∀ (W2 : WD) (a2 s1 : Nat) (g1 : Nat → Int32) (f1 : Int32), TxC W2 o len ch → a2 ≤ len → s1 ≤ 240 → f1 ≠ 0 → ∃ a' s' g', (rc [2] (mk b (stW W2 o a2 s1 g1 f1)) (b + o) (FX2_readSome 20 (mk b (stW W2 o a2 s1 g1 f1)) (b + o) (1 : Int32))).bind (fun w16 => (rc [2] w16 (b + o) (FX4_expect w16 (b + o) (41 : Int32))).bind (fun w17 => (rc [2] w17 (b + o) (FX2_emit w17 (b + o) (-41 : Int32))).bind (fun w18 => some w18))) = some (mk b (stW W2 o a' s' g' f1)) ∧ a' ≤ len ∧ s' ≤ 240 := by
    intro W2 a2 s1 g1 f1 hT2 e3 hs1 hf1
    obtain ⟨a3, s3, g3, e5, e6, e7⟩ := (hsom W2 hT2 a2 s1 g1 f1 e3 hs1).1 hf1
    have e5 : FX2_readSome 20 (mk b (stW W2 o a2 s1 g1 f1)) (b + o) (1 : Int32) = some (mk b (stW W2 o a3 s3 g3 f1)) := e5
    obtain ⟨a4, f4, e8, e9, e10, _⟩ := expect_c (b := b) (s := s3) (g := g3) (f := f1) hT2 e6 (c := 41) (by decide)
    rw [e10 hf1] at e8
    have e8 : FX4_expect (mk b (stW W2 o a3 s3 g3 f1)) (b + o) (41 : Int32) = some (mk b (stW W2 o a4 s3 g3 f1)) := e8
    obtain ⟨s5, g5, e11, e12⟩ := st_emit' (b := b) (w0 := W2) (a := a4) (s := s3) (g := g3) (f := f1) ho e7 (-41)
    rw [rc_2_o b _ ho, e5, Option.bind_some, rc_2_o b _ ho, e8, Option.bind_some, rc_2_o b _ ho, e11]
    exact ⟨_, _, _, rfl, e9, e12⟩
  -- behind a sum that failed
  have bad : ∀ (a1 s1 : Nat) (g1 : Nat → Int32) (z : Nat × Nat), a1 ≤ len → s1 ≤ 240 → flt z ≠ 0 → ∃ w', (rc [2] (mk b (stW W o a1 s1 g1 (flt z))) (b + o) (FX2_emit (mk b (stW W o a1 s1 g1 (flt z))) (b + o) (-41 : Int32))).bind (fun w11 => (gR [2] 7 w11 (b + o)).bind (fun v12 => (gI [2] 9 w11 (b + o)).bind (fun v13 => (wrI w11 v12 (nI r) v13).bind (fun hp14 => (rc [2] hp14 (b + o) (FX4_expect hp14 (b + o) (40 : Int32))).bind (fun w15 => (rc [2] w15 (b + o) (FX2_readSome 20 w15 (b + o) (1 : Int32))).bind (fun w16 => (rc [2] w16 (b + o) (FX4_expect w16 (b + o) (41 : Int32))).bind (fun w17 => (rc [2] w17 (b + o) (FX2_emit w17 (b + o) (-41 : Int32))).bind (fun w18 => some w18)))))))) = some (mk b w') ∧ PoR w0 o len k t u r s g (.inl z) w' := by
    intro a1 s1 g1 z ha1 hs1 hz
    obtain ⟨W2, c1, s2, g2, c2, c3, ⟨k', t', u', c4⟩, c5⟩ := cont a1 s1 g1 (flt z) ha1 hs1
    obtain ⟨a2, f2, e2, e3, e4, _⟩ := expect_c (b := b) (s := s2) (g := g2) (f := flt z) c1 ha1 (c := 40) (by decide)
    rw [e4 hz] at e2
    have e2 : FX4_expect (mk b (stW W2 o a1 s2 g2 (flt z))) (b + o) (40 : Int32) = some (mk b (stW W2 o a2 s2 g2 (flt z))) := e2
    obtain ⟨a', s', g', d1, d2, d3⟩ := tl W2 a2 s2 g2 (flt z) c1 e3 c2 hz
    rw [c5, e2, Option.bind_some, d1]
    exact ⟨_, rfl, a', s', g', k', t', u', by rw [c4], d2, d3, hz⟩
  -- behind a good one
  have good : ∀ (a1 s1 : Nat) (g1 : Nat → Int32) (Wl : Cds) (Wr : Cds), a < a1 → a1 ≤ len → s1 = s + Wl.length → s1 ≤ a1 → (∀ i, i < s → g1 i = g i) → layd cC g1 s Wl → (∀ T, WxR (ch a, Wr, T) = Wl) → ∃ w', (rc [2] (mk b (stW W o a1 s1 g1 0)) (b + o) (FX2_emit (mk b (stW W o a1 s1 g1 0)) (b + o) (-41 : Int32))).bind (fun w11 => (gR [2] 7 w11 (b + o)).bind (fun v12 => (gI [2] 9 w11 (b + o)).bind (fun v13 => (wrI w11 v12 (nI r) v13).bind (fun hp14 => (rc [2] hp14 (b + o) (FX4_expect hp14 (b + o) (40 : Int32))).bind (fun w15 => (rc [2] w15 (b + o) (FX2_readSome 20 w15 (b + o) (1 : Int32))).bind (fun w16 => (rc [2] w16 (b + o) (FX4_expect w16 (b + o) (41 : Int32))).bind (fun w17 => (rc [2] w17 (b + o) (FX2_emit w17 (b + o) (-41 : Int32))).bind (fun w18 => some w18)))))))) = some (mk b w') ∧ PoR w0 o len k t u r s g (if ch a1 = 40 then (match pSom ch 5 (a1 + 1) with
      | .inl z => .inl z
      | .inr (a2, T) => if ch a2 = 41 then .inr (a2 + 1, (ch a, Wr, T)) else .inl (1, a2))
    else .inl (1, a1)) w' := by
    intro a1 s1 g1 Wl Wr haa ha1 hs1 hsa hg1 hl1 hWx
    obtain ⟨W2, c1, s2, g2, c2, c3, ⟨k', t', u', c4⟩, c5⟩ := cont a1 s1 g1 0 ha1 (by omega)
    obtain ⟨a2, f2, e2, e3, _, e4⟩ := expect_c (b := b) (s := s2) (g := g2) (f := 0) c1 ha1 (c := 40) (by decide)
    have e2 : FX4_expect (mk b (stW W2 o a1 s2 g2 0)) (b + o) (40 : Int32) = some (mk b (stW W2 o a2 s2 g2 f2)) := e2
    rw [c5, e2, Option.bind_some]
    rcases e4 rfl with ⟨q1, rfl, rfl⟩ | ⟨q1, rfl⟩
    · have hl : a1 < len := at_in hfi q1 (by decide)
      obtain ⟨x1, x2, x3⟩ := c3 (by omega)
      rw [if_pos q1]
      obtain ⟨a3, s3, g3, f3, e5, p5⟩ := (hsom W2 c1 (a1 + 1) s2 g2 0 hl c2).2 rfl (by omega)
      have e5 : FX2_readSome 20 (mk b (stW W2 o (a1 + 1) s2 g2 0)) (b + o) (1 : Int32) = some (mk b (stW W2 o a3 s3 g3 f3)) := e5
      have hfine := pSom_fine hfi 5 hl
      rw [rc_2_o b _ ho, e5, Option.bind_some, rc_2_o b _ ho]
      cases hp : pSom ch 5 (a1 + 1) with
      | inl z =>
        rw [hp] at p5
        obtain ⟨r1, r2, rfl⟩ := p5
        have hz := flt_of hfine hlen hp
        obtain ⟨a4, f4, e8, e9, e10, _⟩ := expect_c (b := b) (s := s3) (g := g3) (f := flt z) c1 r1 (c := 41) (by decide)
        rw [e10 hz] at e8
        have e8 : FX4_expect (mk b (stW W2 o a3 s3 g3 (flt z))) (b + o) (41 : Int32) = some (mk b (stW W2 o a4 s3 g3 (flt z))) := e8
        obtain ⟨s5, g5, e11, e12⟩ := st_emit' (b := b) (w0 := W2) (a := a4) (s := s3) (g := g3) (f := flt z) ho r2 (-41)
        rw [e8, Option.bind_some, rc_2_o b _ ho, e11]
        exact ⟨_, rfl, a4, s5, g5, k', t', u', by rw [c4], e9, e12, hz⟩
      | inr z =>
        rw [hp] at p5 hfine
        obtain ⟨r1, r2, r3, r4, r5⟩ := p5
        obtain ⟨v1, v2, v3⟩ := hfine
        subst r3
        obtain ⟨a4, f4, e8, e9, _, e10⟩ := expect_c (b := b) (s := s3) (g := g3) (f := 0) c1 (show a3 ≤ len by omega) (c := 41) (by decide)
        have e8 : FX4_expect (mk b (stW W2 o a3 s3 g3 0)) (b + o) (41 : Int32) = some (mk b (stW W2 o a4 s3 g3 f4)) := e8
        rw [e8, Option.bind_some, rc_2_o b _ ho]
        dsimp only
        rcases e10 rfl with ⟨y1, rfl, rfl⟩ | ⟨y1, rfl⟩
        · have hl3 : a3 < len := at_in hfi y1 (by decide)
          rw [if_pos (by rw [← r1]; exact y1), st_emit ho (by omega)]
          refine ⟨_, rfl, s3 + 1, upd g3 s3 (-41), ?_, ?_, ?_, ?_, fun i hi => ?_, ?_, ?_⟩
          · dsimp only
            rw [x3, hWx, ← r1, hs1, etx]
          · show z.1 + 1 ≤ len
            omega
          · show s3 + 1 ≤ z.1 + 1
            omega
          · dsimp only
            rw [hWx]
            omega
          · rw [pk_un (by omega), r4 i (by omega), x2, pk_un (by omega)]
            exact hg1 i hi
          · dsimp only
            rw [hWx]
            refine ⟨layd_cong Wl s (fun i h3 h4 => ?_) hl1, by omega, ?_⟩
            · rw [pk_un (by omega), r4 i (by omega), x2, pk_un (by omega)]
            · rw [← hs1, pk_un (by omega), r4 s1 (by omega), x2, pk_us]
          · dsimp only
            rw [hWx, ← hs1, ← x1]
            refine ⟨layd_cong z.2 s2 (fun i h3 h4 => pk_un (by omega)) r5, by omega, ?_⟩
            rw [← r2, pk_us]
        · rw [if_neg (by rw [← r1]; exact y1)]
          obtain ⟨s5, g5, e11, e12⟩ := st_emit' (b := b) (w0 := W2) (a := a4) (s := s3) (g := g3) (f := flt (1, a3)) ho (by omega) (-41)
          rw [e11]
          exact ⟨_, rfl, a4, s5, g5, k', t', u', by rw [c4, ← r1], e9, e12, by rw [← r1]; exact flt_n (by decide) (by decide) (by omega)⟩
    · rw [if_neg q1]
      have hz : flt (1, a1) ≠ 0 := flt_n (by decide) (by decide) (by omega)
      obtain ⟨a', s', g', d1, d2, d3⟩ := tl W2 a2 s2 g2 (flt (1, a1)) c1 e3 c2 hz
      rw [d1]
      exact ⟨_, rfl, a', s', g', k', t', u', by rw [c4], d2, d3, hz⟩
  unfold pRule
  by_cases h120 : ch a = 120
  · rw [if_pos (t120.mpr h120), if_pos h120, rc_2_o b _ ho]
    have e1 := st_emit (b := b) (w0 := W) (a := a + 1) (s := s) (g := g) (f := 0) ho (by omega) (1 : Int32)
    rw [e1, Option.bind_some]
    exact good (a + 1) (s + 1) (upd g s 1) [(0, 1)] [] (by omega) ha rfl (by omega) (fun i hi => pk_un (by omega)) ⟨by rw [pk_us]; rfl, trivial⟩ (fun T => by unfold WxR; rw [if_pos h120])
  · rw [if_neg (fun z => h120 (t120.mp z)), if_neg h120, rc_2_o b _ ho]
    have hsum : SpC b W o len (FX2_readSum 20) 0 (pSum ch 6) := sums_c hTW 6 0 20 (by decide) (by decide)
    obtain ⟨a1, s1, g1, f1, e1, p1⟩ := (hsum (a + 1) s g 0 ha (by omega)).2 rfl (by omega)
    have e1 : FX2_readSum 20 (mk b (stW W o (a + 1) s g 0)) (b + o) (0 : Int32) = some (mk b (stW W o a1 s1 g1 f1)) := e1
    have hfine := pSum_fine hfi 6 (show a + 1 ≤ len from ha)
    rw [e1, Option.bind_some]
    cases hp : pSum ch 6 (a + 1) with
    | inl z =>
      rw [hp] at p1
      obtain ⟨r1, r2, rfl⟩ := p1
      exact bad a1 s1 g1 z r1 r2 (flt_of hfine hlen hp)
    | inr z =>
      rw [hp] at p1 hfine
      obtain ⟨r1, r2, r3, r4, r5⟩ := p1
      obtain ⟨v1, v2, v3⟩ := hfine
      subst r3
      have := good a1 s1 g1 z.2 z.2 (by omega) (by omega) r2 (by omega) r4 r5 (fun T => by unfold WxR; rw [if_neg h120])
      rw [r1] at this ⊢
      exact this
/-- the class's readRule: the kind, the room, the rule -/
theorem ruleK_at (hT : TxC w0 o len ch) {a s r : Nat} {g k t u : Nat → Int32} (ha : a ≤ len) (hr : r ≤ 16) : FX2_readRule (mk b (stW (ruW w0 o k t u r) o a s g 0)) (b + o) (nI r) = if isKd (ch a) = true then (if r < 16 then ruleK (mk b (stW (ruW w0 o k t u r) o a s g 0)) (b + o) (nI r) (txv (ch a)) else some (mk b (stW (ruW w0 o k t u r) o a s g (flt (4, a))))) else some (mk b (stW (ruW w0 o k t u r) o a s g (flt (1, a)))) := by
  have ho := hT.1
  have hx := chr_le hT.2.2.2 a
  have t100 : (txv (ch a) = (100 : Int32)) ↔ ch a = 100 := tq hx (by decide)
  have t103 : (txv (ch a) = (103 : Int32)) ↔ ch a = 103 := tq hx (by decide)
  have t120 : (txv (ch a) = (120 : Int32)) ↔ ch a = 120 := tq hx (by decide)
  have e1 := st_fail (b := b) (w0 := ruW w0 o k t u r) (a := a) (s := s) (g := g) (f := 0) ho 1
  rw [if_pos rfl] at e1
  have e1 : FX4_fail (mk b (stW (ruW w0 o k t u r) o a s g 0)) (b + o) (1 : Int32) = some (mk b (stW (ruW w0 o k t u r) o a s g (flt (1, a)))) := e1
  have e4 := st_fail (b := b) (w0 := ruW w0 o k t u r) (a := a) (s := s) (g := g) (f := 0) ho 4
  rw [if_pos rfl] at e4
  have e4 : FX4_fail (mk b (stW (ruW w0 o k t u r) o a s g 0)) (b + o) (4 : Int32) = some (mk b (stW (ruW w0 o k t u r) o a s g (flt (4, a)))) := e4
  unfold FX2_readRule
  rw [rc_2_o b _ ho, st_here (ru_T hT) ha, Option.bind_some, jn_eq]
  cases hk : isKd (ch a) with
  | false =>
    have hkd : ch a ≠ 100 ∧ ch a ≠ 103 ∧ ch a ≠ 120 := by
      unfold isKd at hk
      rw [Bool.or_eq_false_iff, Bool.or_eq_false_iff, beq_eq_false_iff_ne, beq_eq_false_iff_ne, beq_eq_false_iff_ne] at hk
      exact ⟨hk.1.1, hk.1.2, hk.2⟩
    rw [if_neg (fun z => hkd.1 (t100.mp z)), if_neg (fun z => hkd.2.1 (t103.mp z)), if_neg (fun z => hkd.2.2 (t120.mp z)), rc_2_o b _ ho, e1, Option.bind_some, if_neg (show ¬ false = true by decide)]
  | true =>
    have hkd : ch a = 100 ∨ ch a = 103 ∨ ch a = 120 := by
      unfold isKd at hk
      rw [Bool.or_eq_true, Bool.or_eq_true, beq_iff_eq, beq_iff_eq, beq_iff_eq] at hk
      omega
    rw [if_pos (show true = true from rfl)]
    have fin : (jn (A := Unit) (fun a4 => (rc [2] (mk b (stW (ruW w0 o k t u r) o a s g 0)) (b + o) (FX4_fail (mk b (stW (ruW w0 o k t u r) o a s g 0)) (b + o) (4 : Int32))).bind (fun w6 => some w6)) (fun J5 => if (nI r) < 0 then J5 () else if (nI r) < (16 : Int32) then (gI [2] 2 (mk b (stW (ruW w0 o k t u r) o a s g 0)) (b + o)).bind (fun v7 => (sI [2] 2 (mk b (stW (ruW w0 o k t u r) o a s g 0)) (b + o) (v7 + (1 : Int32))).bind (fun hp8 => (gR [2] 5 hp8 (b + o)).bind (fun v9 => (wrI hp8 v9 (nI r) (txv (ch a))).bind (fun hp10 => (gR [2] 6 hp10 (b + o)).bind (fun v11 => (gI [2] 9 hp10 (b + o)).bind (fun v12 => (wrI hp10 v11 (nI r) v12).bind (fun hp13 => (sI [2] 4 hp13 (b + o) ((nI r) + (1 : Int32))).bind (fun hp14 => jn (A := HP) (fun a15 => (rc [2] a15 (b + o) (FX2_emit a15 (b + o) (-41 : Int32))).bind (fun w17 => (gR [2] 7 w17 (b + o)).bind (fun v18 => (gI [2] 9 w17 (b + o)).bind (fun v19 => (wrI w17 v18 (nI r) v19).bind (fun hp20 => (rc [2] hp20 (b + o) (FX4_expect hp20 (b + o) (40 : Int32))).bind (fun w21 => (rc [2] w21 (b + o) (FX2_readSome 20 w21 (b + o) (1 : Int32))).bind (fun w22 => (rc [2] w22 (b + o) (FX4_expect w22 (b + o) (41 : Int32))).bind (fun w23 => (rc [2] w23 (b + o) (FX2_emit w23 (b + o) (-41 : Int32))).bind (fun w24 => some w24))))))))) (fun J16 => if (txv (ch a)) = (120 : Int32) then (rc [2] hp14 (b + o) (FX2_emit hp14 (b + o) (1 : Int32))).bind (fun w25 => J16 w25) else (rc [2] hp14 (b + o) (FX2_readSum 20 hp14 (b + o) (0 : Int32))).bind (fun w26 => J16 w26)))))))))) else J5 ())) = if r < 16 then ruleK (mk b (stW (ruW w0 o k t u r) o a s g 0)) (b + o) (nI r) (txv (ch a)) else some (mk b (stW (ruW w0 o k t u r) o a s g (flt (4, a)))) := by
      rw [jn_eq, if_neg (nI_pos (by omega))]
      rcases Nat.lt_or_ge r 16 with q | q
      · rw [if_pos (show nI r < (16 : Int32) from nI_lt (b := 16) q (by decide)), if_pos q]
        rfl
      · rw [if_neg (show ¬ nI r < (16 : Int32) from nI_nlt (b := 16) q (by omega)), if_neg (show ¬ r < 16 by omega), rc_2_o b _ ho, e4, Option.bind_some]
    rcases hkd with e | e | e
    · rw [if_pos (t100.mpr e)]
      exact fin
    · rw [if_neg (fun z => by rw [t100.mp z] at e; cases e), if_pos (t103.mpr e)]
      exact fin
    · rw [if_neg (fun z => by rw [t100.mp z] at e; cases e), if_neg (fun z => by rw [t103.mp z] at e; cases e), if_pos (t120.mpr e)]
      exact fin
end
