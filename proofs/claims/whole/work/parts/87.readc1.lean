/-! the class reads a law: its states -/
def txv (x : Nat) : Int32 := if x = 256 then -1 else nI x
theorem tq {x c : Nat} (hx : x ≤ 256) (hc : c < 256) : txv x = nI c ↔ x = c := by
  unfold txv
  split
  · rename_i e
    constructor
    · intro q
      exact absurd q.symm (nI_nm1 (by omega))
    · intro q
      omega
  · exact ⟨fun q => nI_inj (by omega) (by omega) q, fun q => by rw [q]⟩
theorem tlt {x c : Nat} (hx : x ≤ 256) (hc : 0 < c) (hc2 : c < 256) : txv x < nI c ↔ (x < c ∨ x = 256) := by
  unfold txv
  split
  · rename_i e
    refine ⟨fun _ => Or.inr e, fun _ => ?_⟩
    rw [fa_lt, nI_toInt (by omega)]
    have : (-1 : Int32).toInt = -1 := by decide
    omega
  · rw [nI_ltI (by omega) (by omega)]
    omega
theorem tle {x c : Nat} (hx : x ≤ 256) (hc2 : c < 256) : txv x ≤ nI c ↔ (x ≤ c ∨ x = 256) := by
  unfold txv
  split
  · rename_i e
    refine ⟨fun _ => Or.inr e, fun _ => ?_⟩
    rw [fa_le, nI_toInt (by omega)]
    have : (-1 : Int32).toInt = -1 := by decide
    omega
  · rw [nI_leI (by omega) (by omega)]
    omega
def flt (z : Nat × Nat) : Int32 := -1000 * nI z.1 - nI z.2
theorem flt_ne {z : Nat × Nat} (h1 : 1 ≤ z.1) (h2 : z.1 ≤ 5) (h3 : z.2 ≤ 260) : flt z ≠ 0 := by
  obtain ⟨n, p⟩ := z
  exact (by decide +kernel : ∀ n, n < 6 → 1 ≤ n → ∀ p, p < 261 → (-1000 * nI n - nI p : Int32) ≠ 0) n (by dsimp only at h2; omega) h1 p (by dsimp only at h3; omega)
theorem layd_app (enc : Nat → Nat × Nat → Int32) (g : Nat → Int32) : ∀ (l1 : Cds) (p : Nat) (l2 : Cds), layd enc g p (l1 ++ l2) ↔ layd enc g p l1 ∧ layd enc g (p + l1.length) l2
  | [], p, l2 => by
    show layd enc g p l2 ↔ True ∧ layd enc g (p + 0) l2
    rw [true_and]
    exact Iff.rfl
  | c :: l1, p, l2 => by
    show (g p = enc p c ∧ layd enc g (p + 1) (l1 ++ l2)) ↔ (g p = enc p c ∧ layd enc g (p + 1) l1) ∧ layd enc g (p + (l1.length + 1)) l2
    rw [layd_app enc g l1 (p + 1) l2, show p + 1 + l1.length = p + (l1.length + 1) by omega, and_assoc]
theorem layd_cong {enc : Nat → Nat × Nat → Int32} {g g' : Nat → Int32} : ∀ (l : Cds) (p : Nat), (∀ i, p ≤ i → i < p + l.length → g' i = g i) → layd enc g p l → layd enc g' p l
  | [], _, _, _ => trivial
  | c :: l, p, h, ⟨h1, h2⟩ => by
    rw [List.length_cons] at h
    exact ⟨by rw [h p (Nat.le_refl _) (by omega)]; exact h1, layd_cong l (p + 1) (fun i h3 h4 => h i (by omega) (by omega)) h2⟩
def stW (w0 : WD) (o a s : Nat) (g : Nat → Int32) (f : Int32) : WD := uA (uI (uI (uI w0 o 2 (nI a)) o 3 f) o 9 (nI s)) (o + 4) g
section
variable {w0 : WD} {o a s : Nat} {g : Nat → Int32} {f : Int32}
theorem stW_2 : (stW w0 o a s g f).1 o 2 = nI a := by
  unfold stW
  rw [uA_I, uI_ne _ _ (by omega), uI_ne _ _ (by omega)]
  show (if o = o ∧ 2 = 2 then nI a else _) = _
  rw [if_pos ⟨rfl, rfl⟩]
theorem stW_3 : (stW w0 o a s g f).1 o 3 = f := by
  unfold stW
  rw [uA_I, uI_ne _ _ (by omega)]
  show (if o = o ∧ 3 = 3 then f else _) = _
  rw [if_pos ⟨rfl, rfl⟩]
theorem stW_9 : (stW w0 o a s g f).1 o 9 = nI s := by
  unfold stW
  rw [uA_I]
  show (if o = o ∧ 9 = 9 then nI s else _) = _
  rw [if_pos ⟨rfl, rfl⟩]
theorem stW_I {j k : Nat} (h : j ≠ o ∨ (k ≠ 2 ∧ k ≠ 3 ∧ k ≠ 9)) : (stW w0 o a s g f).1 j k = w0.1 j k := by
  unfold stW
  rw [uA_I, uI_ne _ _ (by omega), uI_ne _ _ (by omega), uI_ne _ _ (by omega)]
theorem stW_c : (stW w0 o a s g f).2.1 (o + 4) = g := uA_at _ _ _
theorem stW_A {j : Nat} (h : j ≠ o + 4) : (stW w0 o a s g f).2.1 j = w0.2.1 j := by
  unfold stW
  rw [uA_ne _ _ h]
  rfl
theorem stW_u2 (a' : Nat) : uI (stW w0 o a s g f) o 2 (nI a') = stW w0 o a' s g f := by
  unfold stW uI uA
  congr 1
  funext j k
  dsimp only
  by_cases h : j = o ∧ k = 2
  · rw [if_pos h, if_neg (by omega), if_neg (by omega), if_pos h]
  · rw [if_neg h]
    by_cases h9 : j = o ∧ k = 9
    · rw [if_pos h9, if_pos h9]
    · rw [if_neg h9, if_neg h9]
      by_cases h3 : j = o ∧ k = 3
      · rw [if_pos h3, if_pos h3]
      · rw [if_neg h3, if_neg h3, if_neg h, if_neg h]
theorem stW_u3 (f' : Int32) : uI (stW w0 o a s g f) o 3 f' = stW w0 o a s g f' := by
  unfold stW uI uA
  congr 1
  funext j k
  dsimp only
  by_cases h : j = o ∧ k = 3
  · rw [if_pos h, if_neg (by omega), if_pos h]
  · rw [if_neg h]
    by_cases h9 : j = o ∧ k = 9
    · rw [if_pos h9, if_pos h9]
    · rw [if_neg h9, if_neg h9, if_neg h, if_neg h]
theorem stW_u9 (s' : Nat) : uI (stW w0 o a s g f) o 9 (nI s') = stW w0 o a s' g f := by
  unfold stW uI uA
  congr 1
  funext j k
  dsimp only
  by_cases h : j = o ∧ k = 9
  · rw [if_pos h, if_pos h]
  · rw [if_neg h, if_neg h, if_neg h]
theorem stW_uA (g' : Nat → Int32) : uA (stW w0 o a s g f) (o + 4) g' = stW w0 o a s g' f := by
  unfold stW
  rw [uA_uA]
end
/-- the text that both read, and where the class holds it -/
def TxC (w0 : WD) (o len : Nat) (ch : Nat → Nat) : Prop := LW o ∧ w0.1 o 1 = nI len ∧ len ≤ 240 ∧ TX (w0.2.1 2) len ch
section
variable {b : Nat} {w0 : WD} {o a s len : Nat} {g : Nat → Int32} {f : Int32} {ch : Nat → Nat}
theorem chr_le (h : TX (w0.2.1 2) len ch) (a : Nat) : ch a ≤ 256 := by
  rcases Nat.lt_or_ge a len with q | q
  · have := (h.1 a q).1
    omega
  · rw [h.2 a q]
    exact Nat.le_refl _
theorem o_ne (ho : LW o) : o ≠ 1 ∧ o + 4 ≠ 2 ∧ o ≠ 34 := by rcases ho with rfl | rfl <;> decide
theorem st_here (hT : TxC w0 o len ch) (ha : a ≤ len) : FX4_here (mk b (stW w0 o a s g f)) (b + o) = some (txv (ch a)) := by
  obtain ⟨ho, h1, h2, h3⟩ := hT
  unfold FX4_here FX8_at
  rw [gI_1_2_o_2 b _ ho, Option.bind_some, gI_1_2_o_1 b _ ho, Option.bind_some, stW_2, stW_I (by omega), h1]
  rcases Nat.lt_or_ge a len with q | q
  · obtain ⟨c1, c2⟩ := h3.1 a q
    have e2 : (stW w0 o a s g f).2.1 2 = w0.2.1 2 := stW_A (by have := (o_ne ho).2.1; omega)
    rw [if_neg (nI_ge q (by omega)), gR_1_2_o_0 b _ ho, Option.bind_some, Option.bind_some, rc_8_1, if_neg (nI_pos (by omega)), if_neg (show ¬ (260 : Int32) ≤ nI a from nI_ge (a := a) (b := 260) (by omega) (by decide)), gR_8_1_0, Option.bind_some, rdN_mk (t := 1) (j := 2) (n := 260) (by decide +kernel) (by decide) b _ (by omega), Option.bind_some, Option.bind_some, e2, c2]
    unfold txv
    rw [if_neg (by omega)]
  · have : a = len := by omega
    rw [this, if_pos (Int32.le_refl _), h3.2 len (Nat.le_refl _)]
    rfl
theorem st_inc (ho : LW o) : (gI [2] 2 (mk b (stW w0 o a s g f)) (b + o)).bind (fun v => sI [2] 2 (mk b (stW w0 o a s g f)) (b + o) (v + (1 : Int32))) = some (mk b (stW w0 o (a + 1) s g f)) := by
  rw [gI_2_o_2 b _ ho, Option.bind_some, stW_2, nI_1, sI_2_o_2 b _ ho, stW_u2]
theorem st_fail (ho : LW o) (n : Nat) : FX4_fail (mk b (stW w0 o a s g f)) (b + o) (nI n) = some (mk b (stW w0 o a s g (if f = 0 then flt (n, a) else f))) := by
  unfold FX4_fail
  rw [gI_1_2_o_3 b _ ho, Option.bind_some, stW_3]
  by_cases q : f = 0
  · rw [if_pos q, if_pos q, gI_1_2_o_2 b _ ho, Option.bind_some, stW_2, sI_1_2_o_3 b _ ho, Option.bind_some, stW_u3]
    rfl
  · rw [if_neg q, if_neg q]
theorem st_open (ho : LW o) (d : Nat) (hd : d < 100) : FX4_open (mk b (stW w0 o a s g f)) (b + o) (nI d) = some (mk b (if d < 6 then stW w0 o (a + 1) s g f else stW w0 o a s g (if f = 0 then flt (5, a) else f))) := by
  unfold FX4_open
  by_cases q : d < 6
  · rw [if_pos (show nI d < (6 : Int32) from nI_lt (a := d) (b := 6) q (by decide)), if_pos q, gI_1_2_o_2 b _ ho, Option.bind_some, stW_2, nI_1, sI_1_2_o_2 b _ ho, Option.bind_some, stW_u2]
  · rw [if_neg (show ¬ nI d < (6 : Int32) from nI_nlt (a := d) (b := 6) (by omega) (by omega)), if_neg q, rc_1_2_o b _ ho]
    exact bS (st_fail ho 5) rfl
theorem st_expect (hT : TxC w0 o len ch) (ha : a ≤ len) {c : Nat} (hc : c < 256) : FX4_expect (mk b (stW w0 o a s g f)) (b + o) (nI c) = some (mk b (if ch a = c then stW w0 o (a + 1) s g f else stW w0 o a s g (if f = 0 then flt (1, a) else f))) := by
  have ho := hT.1
  unfold FX4_expect
  rw [rc_1_2_o b _ ho, st_here hT ha, Option.bind_some]
  by_cases q : ch a = c
  · rw [if_pos ((tq (chr_le hT.2.2.2 a) hc).mpr q), if_pos q, gI_1_2_o_2 b _ ho, Option.bind_some, stW_2, nI_1, sI_1_2_o_2 b _ ho, Option.bind_some, stW_u2]
  · rw [if_neg (fun z => q ((tq (chr_le hT.2.2.2 a) hc).mp z)), if_neg q, rc_1_2_o b _ ho]
    exact bS (st_fail ho 1) rfl
theorem st_emit (ho : LW o) (hs : s < 240) (c : Int32) : FX2_emit (mk b (stW w0 o a s g f)) (b + o) c = some (mk b (stW w0 o a (s + 1) (upd g s c) f)) := by
  unfold FX2_emit
  rw [gI_2_o_9 b _ ho, Option.bind_some, stW_9, if_neg (show ¬ (240 : Int32) ≤ nI s from nI_ge (a := s) (b := 240) hs (by decide)), gR_2_o_8 b _ ho, Option.bind_some, Option.bind_some, wrI_mk (okL4 ho) b _ hs, Option.bind_some, stW_c, stW_uA, gI_2_o_9 b _ ho, Option.bind_some, stW_9, nI_1, sI_2_o_9 b _ ho, Option.bind_some, stW_u9]
theorem st_emit' (ho : LW o) (hs : s ≤ 240) (c : Int32) : ∃ s' g', FX2_emit (mk b (stW w0 o a s g f)) (b + o) c = some (mk b (stW w0 o a s' g' f)) ∧ s' ≤ 240 := by
  rcases Nat.lt_or_ge s 240 with q | q
  · exact ⟨_, _, st_emit ho q c, by omega⟩
  · refine ⟨s, g, ?_, hs⟩
    unfold FX2_emit
    rw [gI_2_o_9 b _ ho, Option.bind_some, stW_9, if_pos (show (240 : Int32) ≤ nI s from nI_le (a := 240) (b := s) q (by omega))]
end
/-- how a piece leaves the class's state -/
def PoC (len s : Nat) (g : Nat → Int32) (r : PR) (a' s' : Nat) (g' : Nat → Int32) (f' : Int32) : Prop := match r with
  | .inl z => a' ≤ len ∧ s' ≤ 240 ∧ f' = flt z
  | .inr z => a' = z.1 ∧ s' = s + z.2.length ∧ f' = 0 ∧ (∀ i, i < s → g' i = g i) ∧ layd cC g' s z.2
def SpC (b : Nat) (w0 : WD) (o len : Nat) (F : HP → Nat → Int32 → Option HP) (d : Nat) (pr : Nat → PR) : Prop := ∀ a s g f, a ≤ len → s ≤ 240 →
  (f ≠ 0 → ∃ a' s' g', F (mk b (stW w0 o a s g f)) (b + o) (nI d) = some (mk b (stW w0 o a' s' g' f)) ∧ a' ≤ len ∧ s' ≤ 240) ∧
  (f = 0 → s ≤ a → ∃ a' s' g' f', F (mk b (stW w0 o a s g f)) (b + o) (nI d) = some (mk b (stW w0 o a' s' g' f')) ∧ PoC len s g (pr a) a' s' g' f')
