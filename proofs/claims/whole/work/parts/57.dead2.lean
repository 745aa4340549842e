/-! call: dead, the class, on -/
def nx (c : Nat → Nat → Nat) (s : Nat → Nat) (n S a : Nat) : Nat := (am (fun j => !S.testBit j) (fun j => c a j + rst c s n (S ||| 2 ^ j) (s j)) n).1
/-- the walk of the class: those seen, where it stands, what is paid -/
def wk (c : Nat → Nat → Nat) (s : Nat → Nat) (n a0 : Nat) : Nat → Nat × Nat × Nat
  | 0 => (0, a0, 0)
  | i + 1 => ((wk c s n a0 i).1 ||| 2 ^ nx c s n (wk c s n a0 i).1 (wk c s n a0 i).2.1, s (nx c s n (wk c s n a0 i).1 (wk c s n a0 i).2.1), (wk c s n a0 i).2.2 + c (wk c s n a0 i).2.1 (nx c s n (wk c s n a0 i).1 (wk c s n a0 i).2.1))
theorem wk_s (c : Nat → Nat → Nat) (s : Nat → Nat) (n a0 i : Nat) : wk c s n a0 (i + 1) = ((wk c s n a0 i).1 ||| 2 ^ nx c s n (wk c s n a0 i).1 (wk c s n a0 i).2.1, s (nx c s n (wk c s n a0 i).1 (wk c s n a0 i).2.1), (wk c s n a0 i).2.2 + c (wk c s n a0 i).2.1 (nx c s n (wk c s n a0 i).1 (wk c s n a0 i).2.1)) := rfl
theorem nx_is {c : Nat → Nat → Nat} {s : Nat → Nat} {n S a : Nat} (hn : n ≤ 8) (hc : ∀ a j, c a j ≤ 990) (h : 0 < lft n S) : nx c s n S a < n ∧ S.testBit (nx c s n S a) = false ∧ rst c s n S a = c a (nx c s n S a) + rst c s n (S ||| 2 ^ nx c s n S a) (s (nx c s n S a)) ∧ (∀ j, j < n → S.testBit j = false → rst c s n S a ≤ c a j + rst c s n (S ||| 2 ^ j) (s j)) ∧ ∀ j, j < nx c s n S a → S.testBit j = false → rst c s n S a < c a j + rst c s n (S ||| 2 ^ j) (s j) := by
  rw [rst_is h]
  unfold nx
  rcases am_is (p := fun j => !S.testBit j) (g := fun j => c a j + rst c s n (S ||| 2 ^ j) (s j)) n (fun j hj q => by
    have h1 := lft_or hj (Bool.not_eq_true' _ |>.mp q)
    have h2 := rst_le (s := s) hn hc (lft n (S ||| 2 ^ j)) (S ||| 2 ^ j) (s j) rfl
    have h3 := hc a j
    have h4 := fb_ct_le (fun i => !S.testBit i) n
    unfold lft at h1 h2
    omega) with ⟨_, h2⟩ | ⟨k, h1, h2, h3, h4, h5⟩
  · exfalso
    have z : lft n S = 0 := fb_ct_zero.mpr h2
    omega
  · rw [h3]
    exact ⟨h1, Bool.not_eq_true' _ |>.mp h2, rfl, fun j hj q => h4 j hj (by rw [q]; rfl), fun j hj q => h5 j hj (by rw [q]; rfl)⟩
theorem lft_full {n S : Nat} (hS : S < 2 ^ n) (h : lft n S = 0) : S = 2 ^ n - 1 := by
  apply Nat.eq_of_testBit_eq
  intro i
  rw [Nat.testBit_two_pow_sub_one]
  rcases Nat.lt_or_ge i n with z | z
  · have := (fb_ct_zero.mp h) i z
    rw [Bool.not_eq_false'] at this
    rw [this, decide_eq_true z]
  · rw [Nat.testBit_lt_two_pow (Nat.lt_of_lt_of_le hS (Nat.pow_le_pow_right (by decide) z)), decide_eq_false (by omega)]
theorem lft_all (n : Nat) : lft n (2 ^ n - 1) = 0 := fb_ct_zero.mpr (fun i hi => by rw [Nat.testBit_two_pow_sub_one, decide_eq_true hi]; rfl)
theorem lft_0 (n : Nat) : lft n 0 = n := fb_ct_all.mpr (fun i _ => by rw [Nat.zero_testBit]; rfl)
theorem or_more {S j : Nat} (h : S.testBit j = false) : S < S ||| 2 ^ j := by
  have h1 : S ≤ S ||| 2 ^ j := Nat.left_le_or
  rcases Nat.lt_or_ge S (S ||| 2 ^ j) with z | z
  · exact z
  · have e : S ||| 2 ^ j = S := by omega
    have := congrArg (fun z => Nat.testBit z j) e
    simp only [Nat.testBit_or, Nat.testBit_two_pow, decide_true, Bool.or_true] at this
    rw [h] at this
    cases this
theorem places : ∀ n, n < 9 → mxI (0 : Int32) (mnI (nI n) (8 : Int32)) = nI n ∧ nI (2 ^ n) - (1 : Int32) = nI (2 ^ n - 1) := by decide +kernel
section
variable {RL : WD → Prop} {b : Nat} {w : WD}
theorem wk_ok {c : Nat → Nat → Nat} {s : Nat → Nat} {n a0 : Nat} (hn : n ≤ 8) (hc : ∀ a j, c a j ≤ 990) (hs : ∀ j, j < n → s j < 1024) (ha : a0 < 1024) : ∀ i, i ≤ n → (wk c s n a0 i).1 < 2 ^ n ∧ lft n (wk c s n a0 i).1 + i = n ∧ (wk c s n a0 i).2.1 < 1024 ∧ (wk c s n a0 i).2.2 ≤ 990 * i
  | 0, _ => ⟨Nat.two_pow_pos n, lft_0 n, ha, Nat.le_refl 0⟩
  | i + 1, hi => by
    obtain ⟨h1, h2, h3, h4⟩ := wk_ok hn hc hs ha i (by omega)
    obtain ⟨k1, k2, _⟩ := nx_is (s := s) (a := (wk c s n a0 i).2.1) hn hc (show 0 < lft n (wk c s n a0 i).1 by omega)
    rw [wk_s]
    have e := lft_or k1 k2
    have hcc := hc (wk c s n a0 i).2.1 (nx c s n (wk c s n a0 i).1 (wk c s n a0 i).2.1)
    exact ⟨orS_lt h1 k1, by show lft n (_ ||| _) + _ = n; omega, hs _ k1, by show _ + _ ≤ _; omega⟩
theorem walk_mk (hP : R_price w) {n : Nat} (hn : n ≤ 8) {s : Nat → Nat} (hs : ∀ j, j < n → s j < 1024 ∧ w.2.1 65 j = nI (s j)) {a0 : Nat} (ha : a0 < 1024) {c : Nat → Nat → Nat} (ec : c = fun a j => prS (w.2.1 78) (a ^^^ s j)) (hD : ∀ S, 0 < S → S < 2 ^ n → ∀ l, l < n → w.2.1 67 (S * 8 + l) = nI (rst c s n S (s l))) : ∃ r, FX9_walk (mk b w) (b + 64) (nI a0) (nI n) (b + 25) = some (nI (wk c s n a0 n).2.2, mk b (uA w 66 r)) ∧ ∀ i, i < n → r i = nI (nx c s n (wk c s n a0 i).1 (wk c s n a0 i).2.1) := by
  have hc : ∀ a j, c a j ≤ 990 := fun a j => by rw [ec]; exact prS_le hP.2.1 _
  have main : ∃ z, FX9_walk (mk b w) (b + 64) (nI a0) (nI n) (b + 25) = some z ∧ ∃ r, z = (nI (wk c s n a0 n).2.2, mk b (uA w 66 r)) ∧ ∀ i, i < n → r i = nI (nx c s n (wk c s n a0 i).1 (wk c s n a0 i).2.1) := by
    unfold FX9_walk
    refine lpb_inv (fun i (t : Int32 × Int32 × Int32 × Int32 × HP) => ∃ r, t = (nI (wk c s n a0 i).1, nI (wk c s n a0 i).2.1, nI (wk c s n a0 i).2.2, nI i, mk b (uA w 66 r)) ∧ ∀ j, j < i → r j = nI (nx c s n (wk c s n a0 j).1 (wk c s n a0 j).2.1)) _ n (Nat.lt_of_le_of_lt hn (by decide)) ⟨w.2.1 66, by rw [uA_id]; rfl, fun j hj => absurd hj (Nat.not_lt_zero j)⟩ (fun i hi t hI => ?_) (fun t hI => ?_)
    · obtain ⟨r, rfl, hr⟩ := hI
      try dsimp only
      obtain ⟨h1, h2, h3, h4⟩ := wk_ok (c := c) hn hc (fun j hj => (hs j hj).1) ha i (by omega)
      obtain ⟨k1, k2, _⟩ := nx_is (s := s) (a := (wk c s n a0 i).2.1) hn hc (show 0 < lft n (wk c s n a0 i).1 by omega)
      have nxt := next_mk (b := b) (w := uA w 66 r) (R_price_of hP rfl rfl rfl rfl rfl) hn (s := s) hs h1 h3 (R := fun j => rst c s n ((wk c s n a0 i).1 ||| 2 ^ j) (s j)) (fun j hj q => ⟨hD _ (by have := or_more q; omega) (orS_lt h1 hj) j hj, by
        have := rst_le (s := s) hn hc (lft n ((wk c s n a0 i).1 ||| 2 ^ j)) ((wk c s n a0 i).1 ||| 2 ^ j) (s j) rfl
        have := fb_ct_le (fun i' => !((wk c s n a0 i).1 ||| 2 ^ j).testBit i') n
        unfold lft at *
        omega⟩)
      have en : (am (fun j => !(wk c s n a0 i).1.testBit j) (fun j => prS ((uA w 66 r).2.1 78) ((wk c s n a0 i).2.1 ^^^ s j) + rst c s n ((wk c s n a0 i).1 ||| 2 ^ j) (s j)) n).1 = nx c s n (wk c s n a0 i).1 (wk c s n a0 i).2.1 := by
        unfold nx
        rw [ec]
        rfl
      rw [en] at nxt
      rw [wk_s]
      generalize hJ : nx c s n (wk c s n a0 i).1 (wk c s n a0 i).2.1 = J at *
      generalize hW : wk c s n a0 i = W at *
      have ecj : prS ((uA (uA w 66 r) 66 (upd r i (nI J))).2.1 78) (W.2.1 ^^^ s J) = c W.2.1 J := by rw [ec]; rfl
      rw [if_neg (nI_ge hi (by omega)), if_neg (Lnle (show i < 8 by omega)), rc_9_64, nxt, Option.bind_some, vl_eq, msk7 (show J < 8 by omega), gR_9_64_1, Option.bind_some, wrI_mk (n := 8) (by decide +kernel) b _ (show i < 8 by omega), Option.bind_some, uA_at, gR_9_64_0, Option.bind_some, rdN_mk (t := 0) (n := 8) (by decide +kernel) (by decide) b _ (show J < 8 by omega), Option.bind_some, show (uA (uA w 66 r) 66 (upd r i (nI J))).2.1 65 J = nI (s J) from (hs J k1).2, fb_xorI, rc_3_25, of_mk (w := uA (uA w 66 r) 66 (upd r i (nI J))) (R_price_of hP rfl rfl rfl rfl rfl) (Nat.xor_lt_two_pow (n := 10) h3 (hs J k1).1), ecj, Option.bind_some, vl_eq, Option.bind_some, rdN_mk (t := 0) (n := 8) (by decide +kernel) (by decide) b _ (show J < 8 by omega), Option.bind_some, show (uA (uA w 66 r) 66 (upd r i (nI J))).2.1 65 J = nI (s J) from (hs J k1).2, vl_eq, vl_eq, nI_1, nI_add, shl1 J (by omega), fa_or, uA_uA]
      refine ⟨_, rfl, _, rfl, fun j hj => ?_⟩
      unfold upd
      by_cases q : j = i
      · rw [q, if_pos rfl, hW, hJ]
      · rw [if_neg q]; exact hr j (by omega)
    · obtain ⟨r, rfl, hr⟩ := hI
      try dsimp only
      rw [if_pos (nI_le (Nat.le_refl n) (by omega))]
      exact ⟨_, rfl, _, rfl, r, rfl, hr⟩
  obtain ⟨z, e1, r, rfl, e2⟩ := main
  exact ⟨r, e1, e2⟩
end
