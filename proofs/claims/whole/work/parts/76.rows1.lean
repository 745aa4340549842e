/-! rows of wishes, as codes -/
abbrev SV : Type := Nat → Int32
abbrev TG : Type := SV → Nat → Int32 × Int32 × Int32
def Gok (b : Nat) (w : WD) (G : TG) : Prop := ∀ sv k, okSv sv → k < 8 → Tells b w k sv (G sv k).1 (G sv k).2.1 (G sv k).2.2 ∧ (bt (sv 4) k = true → (G sv k).1 < 0)
theorem G_ex {b : Nat} {w : WD} (h : Rel RLaw w) : ∃ G, Gok b w G := by
  have key : ∀ p : SV × Nat, ∃ r : Int32 × Int32 × Int32, okSv p.1 → p.2 < 8 → Tells b w p.2 p.1 r.1 r.2.1 r.2.2 ∧ (bt (p.1 4) p.2 = true → r.1 < 0) := by
    rintro ⟨sv, k⟩
    by_cases hv : okSv sv
    · by_cases hk : k < 8
      · by_cases ho : sv 5 = 1 ∨ sv 1 = 8640
        · exact ⟨(-5, sv 0, 0), fun _ _ => ⟨tells_over h hk hv ho, fun _ => by show (-5 : Int32) < 0; decide⟩⟩
        · cases hs : bt (sv 4) k
          · obtain ⟨a, tg, sn, hT⟩ := tells_ex (b := b) h hk hv
            refine ⟨(a, tg, sn), fun _ _ => ⟨hT, fun q => ?_⟩⟩
            cases q
          · exact ⟨(-4, sv 0, 0), fun _ _ => ⟨tells_spent h hk hv ho hs, fun _ => by show (-4 : Int32) < 0; decide⟩⟩
      · exact ⟨(0, 0, 0), fun _ q => absurd q hk⟩
    · exact ⟨(0, 0, 0), fun q => absurd q hv⟩
  obtain ⟨F, hF⟩ := Classical.axiomOfChoice key
  exact ⟨fun sv k => F (sv, k), fun sv k hv hk => hF (sv, k) hv hk⟩
def dyN (a : Int32) : Nat := a.toInt.toNat
def stG (G : TG) (sv : SV) (k : Nat) : Option (Nat × SV) := if 0 ≤ (G sv k).1 then some (dyN (G sv k).1, grS sv (G sv k).1 (G sv k).2.1 (G sv k).2.2 k) else none
def VR (G : TG) (sv0 : SV) (who : Nat → Nat) (n : Nat) : Nat → Nat → Option (Nat × SV)
  | 0, _ => some (0, sv0)
  | m + 1, c => (VR G sv0 who n m (c / n)).bind (fun z => (stG G z.2 (who (c % n))).map (fun y => (z.1 + y.1, y.2)))
theorem dyN_nI {d : Nat} (h : d < 2 ^ 31) : dyN (nI d) = d := by
  unfold dyN
  rw [nI_toInt h]
  rfl
section
variable {b : Nat} {w : WD} {G : TG} {sv0 : SV} {who : Nat → Nat} {n : Nat}
theorem stG_ok (hG : Gok b w G) {sv : SV} (hv : okSv sv) {k : Nat} (hk : k < 8) {z : Nat × SV} (h : stG G sv k = some z) : okSv z.2 ∧ z.1 ≤ 999 ∧ (G sv k).1 = nI z.1 ∧ (G sv k).2.2 = (G sv k).2.2 ∧ (∀ i, bt (sv 4) i = true → i < 32 → bt (z.2 4) i = true) ∧ bt (z.2 4) k = true ∧ bt (sv 4) k = false ∧ z.2 = grS sv (G sv k).1 (G sv k).2.1 (G sv k).2.2 k := by
  unfold stG at h
  by_cases hp : 0 ≤ (G sv k).1
  · rw [if_pos hp] at h
    have h := Option.some.inj h
    subst h
    obtain ⟨⟨⟨t, s0, ht, _, _, etg, _⟩, _, hb⟩, hsp⟩ := hG sv k hv hk
    rcases hb with ⟨h1, _⟩ | ⟨d, s, h1, h2, h3, h4⟩
    · rcases h1 with h1 | h1 | h1 | h1 <;> rw [h1] at hp <;> exact absurd hp (by decide)
    · have e : dyN (G sv k).1 = d := by rw [h2, dyN_nI (by omega)]
      dsimp only
      refine ⟨grS_ok hv hk ⟨t, ht, etg⟩ h2 h1 h4 h3, by omega, by rw [e]; exact h2, rfl, fun i hi h32 => ?_, ?_, ?_, rfl⟩
      · show bt (sv 4 ||| ((1 : Int32) <<< (nI k &&& 31))) i = true
        rw [b_or, hi]
        rfl
      · show bt (sv 4 ||| ((1 : Int32) <<< (nI k &&& 31))) k = true
        rw [b_or, bt_pow k (by omega) k (by omega), decide_eq_true rfl, Bool.or_true]
      · cases q : bt (sv 4) k
        · rfl
        · exact absurd hp (fa_of_lt (hsp q)).2.1
  · rw [if_neg hp] at h
    cases h
theorem V_ok (hG : Gok b w G) (hv : okSv sv0) (hn : 0 < n) (hw : ∀ i, i < n → who i < 8) : ∀ (m c : Nat) (z : Nat × SV), VR G sv0 who n m c = some z → okSv z.2 ∧ z.1 ≤ 999 * m ∧ (∀ i, i < 8 → bt (sv0 4) i = true → bt (z.2 4) i = true) ∧ ∀ i, i < m → bt (z.2 4) (who (c / n ^ i % n)) = true
  | 0, c, z, h => by
    have h := Option.some.inj h
    subst h
    exact ⟨hv, Nat.zero_le _, fun _ _ q => q, fun i hi => absurd hi (Nat.not_lt_zero i)⟩
  | m + 1, c, z, h => by
    unfold VR at h
    cases e : VR G sv0 who n m (c / n) with
    | none => rw [e] at h; cases h
    | some y =>
      rw [e, Option.bind_some] at h
      obtain ⟨i1, i2, i0, i3⟩ := V_ok hG hv hn hw m (c / n) y e
      have hk := hw (c % n) (Nat.mod_lt _ hn)
      cases e2 : stG G y.2 (who (c % n)) with
      | none => rw [e2] at h; cases h
      | some x =>
        rw [e2] at h
        have h := Option.some.inj h
        subst h
        obtain ⟨o1, o2, o3, o4, o5, o6, o7, o8⟩ := stG_ok hG i1 hk e2
        refine ⟨o1, ?_, fun i hi q => o5 i (i0 i hi q) (by omega), fun i hi => ?_⟩
        · show y.1 + x.1 ≤ 999 * (m + 1)
          omega
        · show bt (x.2 4) _ = true
          cases i with
          | zero =>
            rw [Nat.pow_zero, Nat.div_one]
            exact o6
          | succ i =>
            have q := i3 i (by omega)
            rw [Nat.div_div_eq_div_mul, ← Nat.pow_succ'] at q
            exact o5 _ q (Nat.lt_of_lt_of_le (hw _ (Nat.mod_lt _ hn)) (by decide))
theorem V_none (m : Nat) : ∀ (e c : Nat), VR G sv0 who n m (c / n ^ e) = none → VR G sv0 who n (m + e) c = none
  | 0, c, h => by rw [Nat.pow_zero, Nat.div_one] at h; exact h
  | e + 1, c, h => by
    have q : VR G sv0 who n (m + e) (c / n) = none := V_none m e (c / n) (by rw [Nat.div_div_eq_div_mul, ← Nat.pow_succ']; exact h)
    show (VR G sv0 who n (m + e) (c / n)).bind _ = none
    rw [q]
    rfl
theorem V_mono (m : Nat) : ∀ (e c : Nat) (y z : Nat × SV), VR G sv0 who n m (c / n ^ e) = some y → VR G sv0 who n (m + e) c = some z → y.1 ≤ z.1
  | 0, c, y, z, h, h2 => by
    rw [Nat.pow_zero, Nat.div_one] at h
    have h2 : VR G sv0 who n m c = some z := h2
    rw [h] at h2
    have := Option.some.inj h2
    rw [this]
    exact Nat.le_refl _
  | e + 1, c, y, z, h, h2 => by
    have h2 : (VR G sv0 who n (m + e) (c / n)).bind (fun z => (stG G z.2 (who (c % n))).map (fun y => (z.1 + y.1, y.2))) = some z := h2
    cases q : VR G sv0 who n (m + e) (c / n) with
    | none => rw [q] at h2; cases h2
    | some x =>
      have i := V_mono m e (c / n) y x (by rw [Nat.div_div_eq_div_mul, ← Nat.pow_succ']; exact h) q
      rw [q, Option.bind_some] at h2
      cases q2 : stG G x.2 (who (c % n)) with
      | none => rw [q2] at h2; cases h2
      | some u =>
        rw [q2] at h2
        have h2 := Option.some.inj h2
        rw [← h2]
        show y.1 ≤ x.1 + u.1
        omega
/-- a wish twice in a row -/
theorem V_twice (hG : Gok b w G) (hv : okSv sv0) (hn : 0 < n) (hw : ∀ i, i < n → who i < 8) {m c i : Nat} (hi : i < m) (h : who (c / n / n ^ i % n) = who (c % n)) : VR G sv0 who n (m + 1) c = none := by
  show (VR G sv0 who n m (c / n)).bind (fun z => (stG G z.2 (who (c % n))).map (fun y => (z.1 + y.1, y.2))) = none
  cases e : VR G sv0 who n m (c / n) with
  | none => rfl
  | some y =>
    obtain ⟨i1, i2, i0, i3⟩ := V_ok hG hv hn hw m (c / n) y e
    have q := i3 i hi
    rw [h] at q
    rw [Option.bind_some]
    cases e2 : stG G y.2 (who (c % n)) with
    | none => rfl
    | some x =>
      have := (stG_ok hG i1 (hw (c % n) (Nat.mod_lt _ hn)) e2).2.2.2.2.2.2.1
      rw [q] at this
      cases this
end
/-! the best of all codes -/
def bst (V : Nat → Option (Nat × SV)) : Nat → Option (Nat × Nat)
  | 0 => none
  | c + 1 => match V c with
    | none => bst V c
    | some z => match bst V c with
      | none => some (z.1, c)
      | some y => if z.1 < y.1 then some (z.1, c) else some y
theorem bst_skip {V : Nat → Option (Nat × SV)} {x : Nat} : ∀ d, (∀ c, x ≤ c → c < x + d → V c = none ∨ ∃ z y, V c = some z ∧ bst V x = some y ∧ y.1 ≤ z.1) → bst V (x + d) = bst V x
  | 0, _ => rfl
  | d + 1, h => by
    have ih := bst_skip d (fun c h1 h2 => h c h1 (by omega))
    show (match V (x + d) with
      | none => bst V (x + d)
      | some z => match bst V (x + d) with
        | none => some (z.1, x + d)
        | some y => if z.1 < y.1 then some (z.1, x + d) else some y) = _
    rcases h (x + d) (by omega) (by omega) with e | ⟨z, y, e1, e2, e3⟩
    · rw [e]
      exact ih
    · rw [e1, ih, e2]
      show (if z.1 < y.1 then some (z.1, x + d) else some y) = some y
      rw [if_neg (by omega)]
theorem bst_lt {V : Nat → Option (Nat × SV)} : ∀ x y, bst V x = some y → y.2 < x ∧ ∃ sv, V y.2 = some (y.1, sv)
  | 0, y, h => by cases h
  | x + 1, y, h => by
    unfold bst at h
    cases e : V x with
    | none =>
      rw [e] at h
      obtain ⟨h1, h2⟩ := bst_lt x y h
      exact ⟨by omega, h2⟩
    | some z =>
      rw [e] at h
      dsimp only at h
      cases e2 : bst V x with
      | none =>
        rw [e2] at h
        have h := Option.some.inj h
        subst h
        exact ⟨Nat.lt_succ_self x, z.2, e⟩
      | some u =>
        rw [e2] at h
        dsimp only at h
        by_cases q : z.1 < u.1
        · rw [if_pos q] at h
          have h := Option.some.inj h
          subst h
          exact ⟨Nat.lt_succ_self x, z.2, e⟩
        · rw [if_neg q] at h
          have h := Option.some.inj h
          subst h
          obtain ⟨h1, h2⟩ := bst_lt x u e2
          exact ⟨by omega, h2⟩
/-- the wishes of a set in their order -/
def whoOk (p : Nat → Bool) (who : Nat → Nat) : Prop := (∀ k, k < 8 → p k = true → who (fb_ct p k) = k) ∧ ∀ i, i < fb_ct p 8 → who i < 8 ∧ p (who i) = true ∧ fb_ct p (who i) = i
theorem who_ex (p : Nat → Bool) : ∃ who, whoOk p who := by
  have key : ∀ i, ∃ k, i < fb_ct p 8 → k < 8 ∧ p k = true ∧ fb_ct p k = i := by
    intro i
    by_cases h : i < fb_ct p 8
    · obtain ⟨k, h1, h2, h3⟩ := fb_ct_kth h
      exact ⟨k, fun _ => ⟨h1, h2, h3⟩⟩
    · exact ⟨0, fun q => absurd q h⟩
  obtain ⟨who, hw⟩ := Classical.axiomOfChoice key
  refine ⟨who, fun k hk hp => ?_, hw⟩
  have hlt : fb_ct p k < fb_ct p 8 := by
    have a1 : fb_ct p (k + 1) = fb_ct p k + 1 := by rw [fb_ct_succ, hp]; rfl
    have a2 := fb_ct_mono p (show k + 1 ≤ 8 by omega)
    omega
  obtain ⟨h1, h2, h3⟩ := hw _ hlt
  exact fb_ct_kth_one h2 hp h3
