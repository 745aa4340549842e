/-! the reference's counts, firsts and masks -/
theorem ct_minus (p q : Nat → Bool) : ∀ n, fb_ct (fun s => p s && q s) n + fb_ct (fun s => p s && !q s) n = fb_ct p n
  | 0 => rfl
  | n + 1 => by
    have ih := ct_minus p q n
    rw [fb_ct_succ, fb_ct_succ, fb_ct_succ, ← ih]
    cases p n <;> cases q n <;> simp <;> omega
theorem ct_all_iff (p q : Nat → Bool) (n : Nat) : fb_ct (fun s => p s && q s) n = fb_ct p n ↔ al (fun s => !p s || q s) n = true := by
  have h := ct_minus p q n
  rw [al_ct, decide_eq_true_eq]
  have e : fb_ct (fun k => !(!p k || q k)) n = fb_ct (fun s => p s && !q s) n := fb_ct_cong (fun k _ => by cases p k <;> cases q k <;> rfl)
  rw [e]
  omega
theorem ct_none_iff (p q : Nat → Bool) (n : Nat) : fb_ct (fun s => p s && q s) n = 0 ↔ al (fun s => !p s || !q s) n = true := by
  rw [fb_ct_zero, al_iff]
  exact ⟨fun h k hk => by have := h k hk; cases e1 : p k <;> cases e2 : q k <;> simp_all, fun h k hk => by have := h k hk; cases e1 : p k <;> cases e2 : q k <;> simp_all⟩
def lastN (p : Nat → Bool) : Nat → Nat
  | 0 => 0
  | n + 1 => if p n then n else lastN p n
theorem last_is {p : Nat → Bool} : ∀ {n : Nat}, ex p n = true → lastN p n < n ∧ p (lastN p n) = true ∧ ∀ r, lastN p n < r → r < n → p r = false
  | 0, h => by cases h
  | n + 1, h => by
    unfold lastN
    by_cases e : p n = true
    · rw [if_pos e]
      exact ⟨by omega, e, fun r h1 h2 => by omega⟩
    · rw [if_neg e]
      have e' : p n = false := by cases q : p n with
        | true => exact absurd q e
        | false => rfl
      have h' : ex p n = true := by
        have : (ex p n || p n) = true := h
        rw [e', Bool.or_false] at this
        exact this
      obtain ⟨h1, h2, h3⟩ := last_is h'
      refine ⟨by omega, h2, fun r g1 g2 => ?_⟩
      rcases Nat.lt_or_ge r n with q | q
      · exact h3 r g1 q
      · rw [show r = n by omega]; exact e'
theorem first_succ (p : Nat → Bool) (n : Nat) : (ex p n = true → fa_first p (n + 1) = fa_first p n) ∧ (ex p n = false → p n = true → fa_first p (n + 1) = n) := by
  constructor
  · intro h
    have h1 := (ex_first p n).mpr h
    exact first_is (by omega) (fa_first_yes p n h1) (fun r hr => fa_first_no p n r hr)
  · intro h h2
    refine first_is (by omega) h2 (fun r hr => ?_)
    cases e : p r with
    | false => rfl
    | true => rw [(ex_iff p n).mpr ⟨r, hr, e⟩] at h; cases h
theorem al_succ (p : Nat → Bool) (n : Nat) : al p (n + 1) = (al p n && p n) := rfl
theorem ex_succ (p : Nat → Bool) (n : Nat) : ex p (n + 1) = (ex p n || p n) := rfl
theorem and_m {f : Nat → Bool} (n : Nat) : nI (mO f 10) &&& nI n = nI (mO (fun k => f k && n.testBit k) 10) := by
  rw [fa_and]
  congr 1
  refine mO_eq (Nat.lt_of_le_of_lt Nat.and_le_left (mO_lt f 10)) (fun i hi => ?_)
  rw [Nat.testBit_and, mO_bit, decide_eq_true hi, Bool.true_and]
theorem andn_m {f : Nat → Bool} (n : Nat) : nI (mO f 10) &&& (nI n ^^^ (-1 : Int32)) = nI (mO (fun k => f k && !n.testBit k) 10) := by
  refine b_ext (fun i hi => ?_)
  rw [b_and, bt_not _ hi, bt_nI _ hi, bt_nI _ hi, bt_nI _ hi, mO_bit, mO_bit, Bool.and_assoc]
theorem all10 : (1023 : Int32) = nI (mO (fun _ => true) 10) := by decide +kernel
/-- the states of a set: first, last, facts so in all, facts so in none -/
def s4 (p : Nat → Bool) (n : Nat) : Int32 × Int32 × Int32 × Int32 × Int32 := (if ex p n then nI (fa_first p n) else -2, if ex p n then nI (lastN p n) else -2, nI (mO (fun k => al (fun s => !p s || s.testBit k) n) 10), nI (mO (fun k => al (fun s => !p s || !s.testBit k) n) 10), nI n)
theorem nI_nm2 {n : Nat} (h : n < 2 ^ 31) : ¬ nI n = (-2 : Int32) := by
  intro e
  have := congrArg Int32.toInt e
  rw [nI_toInt h] at this
  have q : (-2 : Int32).toInt = -2 := by decide
  omega
theorem nI_nm1 {n : Nat} (h : n < 2 ^ 31) : ¬ nI n = (-1 : Int32) := by
  intro e
  have := congrArg Int32.toInt e
  rw [nI_toInt h] at this
  have q : (-1 : Int32).toInt = -1 := by decide
  omega
section
variable {b : Nat} {w : WD}
theorem rdF (h : bo (w.2.1 81) 1024) {s : Nat} (hs : s < 1024) : rdN 2 (mk b w) (b + 81) (nI s) = some (if WF w s then 1 else 0) := by
  rw [rdN_mk (t := 2) (n := 1024) (by decide +kernel) (by decide) b w hs]
  unfold WF
  rw [← bi_at h hs]
theorem rdO (h : bo (w.2.1 82) 1024) {s : Nat} (hs : s < 1024) : rdN 2 (mk b w) (b + 82) (nI s) = some (if WO w s then 1 else 0) := by
  rw [rdN_mk (t := 2) (n := 1024) (by decide +kernel) (by decide) b w hs]
  unfold WO
  rw [← bi_at h hs]
theorem add0 (a : Int32) : a + (0 : Int32) = a + nI 0 := rfl
theorem add1 (a : Int32) : a + (1 : Int32) = a + nI 1 := rfl
theorem bite {X : Type} (p : Bool) (a c : X) : (if (if p = true then (1 : Int32) else 0) = 0 then a else c) = if p then c else a := by cases p <;> rfl
theorem fitMany_mk (h : bo (w.2.1 81) 1024) : FX12_fitMany (mk b w) (b + 77) = some (nI (fb_ct (WF w) 1024)) := by
  unfold FX12_fitMany
  refine lpb_ct (WF w) 1024 (by decide) (fun s hs a => ?_) (fun a => by rfl) (by rfl)
  dsimp only
  rw [if_neg (Lnle hs), gR_12_77_3, Option.bind_some, rdF h hs, Option.bind_some, bite]
  simp only [vl_eq, nI_1]
  cases WF w s <;> rfl
theorem fitsWith_mk (h : bo (w.2.1 81) 1024) (h2 : bo (w.2.1 79) 8192) {k : Nat} (hk : k < 8) : FX12_fitsWith (mk b w) (b + 77) (nI k) = some (nI (fb_ct (fun s => WF w s && WT w k s) 1024)) := by
  unfold FX12_fitsWith
  refine lpb_ct (fun s => WF w s && WT w k s) 1024 (by decide) (fun s hs a => ?_) (fun a => by rfl) (by rfl)
  dsimp only
  rw [if_neg (Lnle hs), gR_12_77_3, Option.bind_some, rdF h hs, Option.bind_some, bite, rc_12_77, holds_mk h2 hk hs, Option.bind_some, bite]
  simp only [vl_eq, nI_1]
  cases WF w s <;> cases WT w k s <;> rfl
theorem xr {s i : Nat} (hi : i < 10) : nI s ^^^ ((1 : Int32) <<< (nI i &&& 31)) = nI (s ^^^ 2 ^ i) := by rw [shl1 i (by omega), fb_xorI]
theorem xr_lt {s i : Nat} (hs : s < 1024) (hi : i < 10) : s ^^^ 2 ^ i < 1024 := Nat.xor_lt_two_pow (n := 10) hs (p2_lt hi)
theorem neq_b (p q : Bool) : ((if p = true then (1 : Int32) else 0) = if q = true then 1 else 0) ↔ p = q := by cases p <;> cases q <;> decide
theorem fld_set (p : Nat → Bool) (m : Int32) (a : Int32) : ∀ n, fld (fun v (x : Int32) => if p v then x ||| m else x) n a = if ex p n then a ||| m else a
  | 0 => rfl
  | n + 1 => by
    show (if p n then fld _ n a ||| m else fld _ n a) = if (ex p n || p n) = true then a ||| m else a
    rw [fld_set p m a n]
    cases p n <;> cases ex p n
    · rfl
    · rfl
    · rfl
    · show (a ||| m) ||| m = a ||| m
      refine b_ext (fun i _ => ?_)
      rw [b_or, b_or, Bool.or_assoc, Bool.or_self]
theorem onOf_mk (h2 : bo (w.2.1 79) 8192) {k : Nat} (hk : k < 8) : FX12_onOf (mk b w) (b + 77) (nI k) = some (nI (mO (fun i => ex (fun s => WT w k s ^^ WT w k (s ^^^ 2 ^ i)) 1024) 10)) := by
  unfold FX12_onOf
  refine lpb_mO (fun i => ex (fun s => WT w k s ^^ WT w k (s ^^^ 2 ^ i)) 1024) 10 (by decide) (by decide) (fun i hi a => ?_) (fun a => by rfl) (by rfl)
  dsimp only
  rw [if_neg (Lnle hi)]
  refine lpb_fld (fun s (x : Int32) => if WT w k s ^^ WT w k (s ^^^ 2 ^ i) then x ||| ((1 : Int32) <<< (nI i &&& 31)) else x) (fun a => a) 1024 (by decide) (fun s hs a => ?_) (fun a => by rfl) ?_
  · dsimp only
    rw [if_neg (Lnle hs), rc_12_77, holds_mk h2 hk hs, Option.bind_some, xr hi, rc_12_77, holds_mk h2 hk (xr_lt hs hi), Option.bind_some]
    simp only [vl_eq, nI_1, neq_b]
    cases WT w k s <;> cases WT w k (s ^^^ 2 ^ i) <;> rfl
  · rw [fld_set (fun s => WT w k s ^^ WT w k (s ^^^ 2 ^ i)), vl_eq, nI_1]
theorem or_xor {s i : Nat} (h : s.testBit i = false) : s ||| 2 ^ i = s ^^^ 2 ^ i := by
  apply Nat.eq_of_testBit_eq
  intro j
  rw [fb_bit_set, fb_bit_flip]
  by_cases e : j = i
  · subst e
    rw [h, decide_eq_true rfl]
    rfl
  · rw [decide_eq_false e, Bool.or_false, Bool.xor_false]
theorem risingOf_mk (h2 : bo (w.2.1 79) 8192) {k : Nat} (hk : k < 8) : FX12_risingOf (mk b w) (b + 77) (nI k) = some (nI (mO (fun i => ex (fun s => WT w k s ^^ WT w k (s ^^^ 2 ^ i)) 1024 && !ex (fun s => WT w k s && !WT w k (s ^^^ 2 ^ i) && !s.testBit i) 1024) 10)) := by
  unfold FX12_risingOf
  rw [rc_12_77, onOf_mk h2 hk, Option.bind_some]
  refine lpb_fld (fun i (x : Int32) => if ex (fun s => WT w k s && !WT w k (s ^^^ 2 ^ i) && !s.testBit i) 1024 then x &&& (((1 : Int32) <<< (nI i &&& 31)) ^^^ (-1)) else x) (fun a => a) 10 (by decide) (fun i hi a => ?_) (fun a => by rfl) ?_
  · dsimp only
    rw [if_neg (Lnle hi)]
    refine lpb_fld (fun s (x : Int32) => if (WT w k s && !WT w k (s ^^^ 2 ^ i) && !s.testBit i) then x &&& (((1 : Int32) <<< (nI i &&& 31)) ^^^ (-1)) else x) (fun a => a) 1024 (by decide) (fun s hs a => ?_) (fun a => by rfl) ?_
    · dsimp only
      rw [if_neg (Lnle hs), has_eq _ (by omega), Option.bind_some, bt_nI _ (by omega), bite]
      by_cases e : s.testBit i = true
      · rw [if_pos e, vl_eq, nI_1, e]
        cases WT w k s <;> cases WT w k (s ^^^ 2 ^ i) <;> rfl
      · have e' : s.testBit i = false := by cases q : s.testBit i with
          | true => exact absurd q e
          | false => rfl
        rw [if_neg e, rc_12_77, holds_mk h2 hk hs, Option.bind_some, shl1 i (by omega), fa_or, or_xor e', rc_12_77, holds_mk h2 hk (xr_lt hs hi), Option.bind_some, bite, bite, e']
        simp only [vl_eq, nI_1]
        cases WT w k s <;> cases WT w k (s ^^^ 2 ^ i) <;> rfl
    · rw [fld_clr (fun s => WT w k s && !WT w k (s ^^^ 2 ^ i) && !s.testBit i), vl_eq, nI_1]
  · rw [fld_clr10 _ _ (mO_lt _ 10) 10 (Nat.le_refl 10)]
    exact congrArg (fun n => some (nI n)) (mO_cong (fun k hk => by rw [mO_bit, decide_eq_true hk, Bool.true_and, Bool.true_and]))
end
