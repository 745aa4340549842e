/-! call: likely, the numbers -/
theorem lN_div {a c : Nat} (ha : a < 2 ^ 63) (hc : c < 2 ^ 63) : lN a / lN c = lN (a / c) := by
  apply Int64.toInt_inj.mp
  have hq : a / c ≤ a := Nat.div_le_self a c
  rw [Int64.toInt_div, pf_lI ha, pf_lI hc, pf_lI (by omega), ← Int.ofNat_tdiv]
  generalize a / c = q at *
  exact Int.bmod_eq_of_le (by omega) (by omega)
theorem lN_zero {c : Nat} (hc : c < 2 ^ 63) : lN c = 0 ↔ c = 0 := fb_lN_inj hc (by decide)
theorem dvL_lN {a c : Nat} (ha : a < 2 ^ 63) (hc : c < 2 ^ 63) (h0 : 0 < c) : dvL (lN a) (lN c) = some (lN (a / c)) := by
  unfold dvL
  rw [if_neg (fun q => by have := (lN_zero hc).mp q; omega), lN_div ha hc]
theorem rmL_lN {a c : Nat} (ha : a < 2 ^ 63) (hc : c < 2 ^ 63) (h0 : 0 < c) : rmL (lN a) (lN c) = some (lN (a % c)) := by
  unfold rmL
  rw [if_neg (fun q => by have := (lN_zero hc).mp q; omega), lN_div ha hc, lN_mul]
  have e : lN a = lN (a % c) + lN (a / c * c) := by
    rw [lN_add, Nat.mul_comm, Nat.add_comm, Nat.div_add_mod]
  rw [e]
  exact congrArg some (Int64.add_sub_cancel _ _)
theorem gcd_step (a d : Nat) : Nat.gcd d (a % d) = Nat.gcd a d := by rw [Nat.gcd_comm d, ← Nat.gcd_rec, Nat.gcd_comm]
theorem half_mod {a d : Nat} (h0 : 0 < d) (h : d ≤ a) : 2 * (a % d) < a := by
  have e := Nat.div_add_mod a d
  have q := Nat.div_pos h h0
  have r := Nat.mod_lt a h0
  have : d * 1 ≤ d * (a / d) := Nat.mul_le_mul_left d q
  omega
theorem half_pow {a d k : Nat} (h0 : 0 < d) (h : d ≤ a) (hk : a * d < 2 ^ (k + 1)) : d * (a % d) < 2 ^ k := by
  have h1 := half_mod h0 h
  have h2 : d * (2 * (a % d)) ≤ d * a := Nat.mul_le_mul_left d (by omega)
  have h3 : d * (2 * (a % d)) = 2 * (d * (a % d)) := by rw [Nat.mul_left_comm]
  have h4 : d * a = a * d := Nat.mul_comm d a
  rw [Nat.pow_succ] at hk
  omega
theorem gcd_c {N c : Nat} (h0 : 0 < N) (hN : N < 2 ^ 34) (hc : c ≤ N) : FX11_commonDivisor (lN N) (lN c) = some (lN (Nat.gcd N c)) := by
  have main : ∃ r, FX11_commonDivisor (lN N) (lN c) = some r ∧ r = lN (Nat.gcd N c) := by
    unfold FX11_commonDivisor
    refine lpb_ex (fun k (s : Int64 × Int64 × Int32) => ∃ a d t, s = (lN a, lN d, nI t) ∧ d ≤ a ∧ 0 < a ∧ a < 2 ^ 34 ∧ a * d < 2 ^ k ∧ t + k = 68 ∧ Nat.gcd a d = Nat.gcd N c) (fun x => x = lN (Nat.gcd N c)) _ 68 (by decide) ⟨N, c, 0, rfl, hc, h0, hN, ?_, rfl, rfl⟩ ?_ (fun x hx => ⟨x, rfl, hx⟩)
    · have : N * c < 2 ^ 34 * 2 ^ 34 := Nat.mul_lt_mul'' hN (by omega)
      rw [← Nat.pow_add] at this
      exact this
    · rintro k s ⟨a, d, t, rfl, h1, h2, h3, h4, h5, h6⟩
      try dsimp only
      rw [if_neg (Lnle (show t < 100 by omega))]
      by_cases q : d = 0
      · subst q
        left
        refine ⟨lN a, ?_, ?_⟩
        · rw [if_pos ((lg_eq (lN 0) 0).mpr rfl)]
        · rw [← h6, Nat.gcd_zero_right]
      · right
        have hd : 0 < d := by omega
        rw [if_neg (fun z => q ((lN_zero (by omega)).mp ((lg_eq _ _).mp z))), rmL_lN (by omega) (by omega) hd, Option.bind_some, vl_eq, nI_1]
        have hk : k ≠ 0 := fun z => by
          rw [z] at h4
          have := Nat.mul_pos h2 hd
          omega
        obtain ⟨k, rfl⟩ : ∃ k', k = k' + 1 := ⟨k - 1, by omega⟩
        refine ⟨_, k, rfl, by omega, d, a % d, t + 1, rfl, ?_, hd, by omega, half_pow hd h1 h4, by omega, by rw [gcd_step, h6]⟩
        exact Nat.le_of_lt (Nat.mod_lt a hd)
  obtain ⟨r, e1, rfl⟩ := main
  exact e1
theorem gcd_m {N c : Nat} (h0 : 0 < N) (hN : N < 2 ^ 34) (hc : c ≤ N) : FX12_gcd (lN c) (lN N) = some (lN (Nat.gcd N c)) := by
  have main : ∃ r, FX12_gcd (lN c) (lN N) = some r ∧ r = lN (Nat.gcd N c) := by
    unfold FX12_gcd
    refine lpb_ex (fun k (s : Int64 × Int64) => (k = 69 ∧ s = (lN c, lN N)) ∨ (k ≤ 68 ∧ ∃ a d, s = (lN a, lN d) ∧ d ≤ a ∧ 0 < a ∧ a < 2 ^ 34 ∧ a * d < 2 ^ k ∧ Nat.gcd a d = Nat.gcd N c)) (fun x => x = lN (Nat.gcd N c)) _ 69 (by decide) (Or.inl ⟨rfl, rfl⟩) ?_ (fun x hx => ⟨x, rfl, hx⟩)
    rintro k s (⟨rfl, rfl⟩ | ⟨hk68, a, d, rfl, h1, h2, h3, h4, h6⟩)
    · right
      try dsimp only
      rw [if_neg (fun z => by have := (lN_zero (show N < 2 ^ 63 by omega)).mp ((lg_eq _ _).mp z); omega), rmL_lN (by omega) (by omega) h0, Option.bind_some]
      have hm : c % N < N := Nat.mod_lt c h0
      refine ⟨_, 68, rfl, by decide, Or.inr ⟨Nat.le_refl _, N, c % N, rfl, Nat.le_of_lt hm, h0, hN, ?_, by rw [gcd_step, Nat.gcd_comm]⟩⟩
      have : N * (c % N) < 2 ^ 34 * 2 ^ 34 := Nat.mul_lt_mul'' hN (by omega)
      rw [← Nat.pow_add] at this
      exact this
    · try dsimp only
      by_cases q : d = 0
      · subst q
        left
        refine ⟨lN a, ?_, ?_⟩
        · rw [if_pos ((lg_eq (lN 0) 0).mpr rfl)]
        · rw [← h6, Nat.gcd_zero_right]
      · right
        have hd : 0 < d := by omega
        rw [if_neg (fun z => q ((lN_zero (by omega)).mp ((lg_eq _ _).mp z))), rmL_lN (by omega) (by omega) hd, Option.bind_some]
        have hk : k ≠ 0 := fun z => by
          rw [z] at h4
          have := Nat.mul_pos h2 hd
          omega
        obtain ⟨k, rfl⟩ : ∃ k', k = k' + 1 := ⟨k - 1, by omega⟩
        refine ⟨_, k, rfl, by omega, Or.inr ⟨by omega, d, a % d, rfl, ?_, hd, by omega, half_pow hd h1 h4, by rw [gcd_step, h6]⟩⟩
        exact Nat.le_of_lt (Nat.mod_lt a hd)
  obtain ⟨r, e1, rfl⟩ := main
  exact e1
/-! the chances -/
def ch (p : Nat → Bool) (v : Nat → Nat) : Nat → Nat → Nat
  | 0, st => if p st then 1 else 0
  | n + 1, st => v n * ch p v n (st ||| 2 ^ n) + (10 - v n) * ch p v n st
def wgt (v : Nat → Nat) : Nat → Nat → Nat
  | 0, _ => 1
  | n + 1, s => wgt v n s * (if s.testBit n then v n else 10 - v n)
theorem ch_s (p : Nat → Bool) (v : Nat → Nat) (n st : Nat) : ch p v (n + 1) st = v n * ch p v n (st ||| 2 ^ n) + (10 - v n) * ch p v n st := rfl
theorem wgt_s (v : Nat → Nat) (n s : Nat) : wgt v (n + 1) s = wgt v n s * (if s.testBit n then v n else 10 - v n) := rfl
theorem wgt_cong {v : Nat → Nat} {s s' : Nat} : ∀ (n : Nat), (∀ i, i < n → s.testBit i = s'.testBit i) → wgt v n s = wgt v n s'
  | 0, _ => rfl
  | n + 1, h => by rw [wgt_s, wgt_s, wgt_cong n (fun i hi => h i (by omega)), h n (by omega)]
theorem sm_mul (f : Nat → Nat) (c : Nat) : ∀ n, fb_sm (fun s => f s * c) n = fb_sm f n * c
  | 0 => by rw [show fb_sm f 0 = 0 from rfl, Nat.zero_mul]; rfl
  | n + 1 => by rw [fb_sm_succ, fb_sm_succ, sm_mul f c n, Nat.add_mul]
theorem ch_le {p : Nat → Bool} {v : Nat → Nat} (hv : ∀ i, i < 10 → v i ≤ 10) : ∀ n, n ≤ 10 → ∀ st, ch p v n st ≤ 10 ^ n
  | 0, _, st => by
    show (if p st then 1 else 0) ≤ 1
    cases p st <;> decide
  | n + 1, hn, st => by
    have a1 := Nat.mul_le_mul_left (v n) (ch_le (p := p) hv n (by omega) (st ||| 2 ^ n))
    have a2 := Nat.mul_le_mul_left (10 - v n) (ch_le (p := p) hv n (by omega) st)
    have a3 : v n * 10 ^ n + (10 - v n) * 10 ^ n = 10 * 10 ^ n := by
      rw [← Nat.add_mul]
      have := hv n (by omega)
      rw [show v n + (10 - v n) = 10 by omega]
    rw [ch_s, Nat.pow_succ, Nat.mul_comm (10 ^ n) 10, ← a3]
    omega
theorem ch_sum {p : Nat → Bool} {v : Nat → Nat} : ∀ n st, (∀ i, i < n → st.testBit i = false) → ch p v n st = fb_sm (fun s => if p (st ||| s) then wgt v n s else 0) (2 ^ n)
  | 0, st, _ => by
    show (if p st then 1 else 0) = 0 + (if p (st ||| 0) then 1 else 0)
    rw [Nat.or_zero, Nat.zero_add]
  | n + 1, st, h => by
    have lo : ∀ s, s < 2 ^ n → (if p (st ||| s) then wgt v (n + 1) s else 0) = (if p (st ||| s) then wgt v n s else 0) * (10 - v n) := fun s hs => by
      rw [wgt_s, Nat.testBit_lt_two_pow hs, if_neg (show ¬ false = true by decide)]
      cases p (st ||| s)
      · rw [if_neg (show ¬ false = true by decide), if_neg (show ¬ false = true by decide), Nat.zero_mul]
      · rw [if_pos rfl, if_pos rfl]
    have hi : ∀ s, s < 2 ^ n → (if p (st ||| (2 ^ n + s)) then wgt v (n + 1) (2 ^ n + s) else 0) = (if p (st ||| 2 ^ n ||| s) then wgt v n s else 0) * v n := fun s hs => by
      have e : 2 ^ n + s = 2 ^ n ||| s := by
        have := Nat.two_pow_add_eq_or_of_lt hs 1
        rw [Nat.mul_one] at this
        exact this
      have b1 : (2 ^ n + s).testBit n = true := by rw [e, Nat.testBit_or, Nat.testBit_two_pow, decide_eq_true rfl]; rfl
      have b2 : wgt v n (2 ^ n + s) = wgt v n s := wgt_cong n (fun i hi => by rw [e, Nat.testBit_or, Nat.testBit_two_pow, decide_eq_false (by omega), Bool.false_or])
      rw [wgt_s, b1, if_pos rfl, b2, e, Nat.or_assoc]
      cases p (st ||| (2 ^ n ||| s))
      · rw [if_neg (show ¬ false = true by decide), if_neg (show ¬ false = true by decide), Nat.zero_mul]
      · rw [if_pos rfl, if_pos rfl]
    rw [show 2 ^ (n + 1) = 2 ^ n + 2 ^ n by rw [Nat.pow_succ]; omega, fb_sm_split, fb_sm_cong lo, fb_sm_cong hi, sm_mul, sm_mul, ← ch_sum n st (fun i hi => h i (by omega)), ← ch_sum n (st ||| 2 ^ n) (fun i hi => by rw [Nat.testBit_or, Nat.testBit_two_pow, h i (by omega), decide_eq_false (by omega)]; rfl), ch_s, Nat.add_comm, Nat.mul_comm (v n), Nat.mul_comm (10 - v n)]
