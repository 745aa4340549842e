/-! call: word. lv n t: the states where the wish holds whatever the facts below n that are not in t are -/
def lv (p : Nat → Bool) : Nat → Nat → Nat → Bool
  | 0, _, s => p s
  | n + 1, t, s => lv p n t s && (t.testBit n || lv p n t (s ^^^ 2 ^ n))
theorem lv_s (p : Nat → Bool) (n t s : Nat) : lv p (n + 1) t s = (lv p n t s && (t.testBit n || lv p n t (s ^^^ 2 ^ n))) := rfl
theorem lv_cong {p : Nat → Bool} {t t' : Nat} : ∀ (n : Nat), (∀ i, i < n → t.testBit i = t'.testBit i) → ∀ s, lv p n t s = lv p n t' s
  | 0, _, _ => rfl
  | n + 1, h, s => by
    rw [lv_s, lv_s, lv_cong n (fun i hi => h i (by omega)) s, lv_cong n (fun i hi => h i (by omega)) (s ^^^ 2 ^ n), h n (by omega)]
theorem lv_down {p : Nat → Bool} {t s : Nat} {n : Nat} : ∀ (d : Nat), lv p (n + d) t s = true → lv p n t s = true
  | 0, h => h
  | d + 1, h => by
    have h : lv p (n + d + 1) t s = true := h
    rw [lv_s, Bool.and_eq_true] at h
    exact lv_down d h.1
theorem xr_comm (s a c : Nat) : s ^^^ a ^^^ c = s ^^^ c ^^^ a := by rw [Nat.xor_assoc, Nat.xor_comm a c, ← Nat.xor_assoc]
theorem lv_flip {p : Nat → Bool} {i : Nat} (h : ∀ s, s < 1024 → p (s ^^^ 2 ^ i) = p s) : ∀ (n : Nat), n ≤ 10 → ∀ t s, s < 1024 → lv p n t (s ^^^ 2 ^ i) = lv p n t s
  | 0, _, _, s, hs => h s hs
  | n + 1, hn, t, s, hs => by
    rw [lv_s, lv_s, lv_flip h n (by omega) t s hs, xr_comm, lv_flip h n (by omega) t _ (xr_lt hs (by omega))]
def inv (p : Nat → Bool) (on : Nat) : Prop := ∀ i, i < 10 → on.testBit i = false → ∀ s, s < 1024 → p (s ^^^ 2 ^ i) = p s
theorem lv_and {p : Nat → Bool} {on : Nat} (h : inv p on) (t : Nat) : ∀ (n : Nat), n ≤ 10 → ∀ s, s < 1024 → lv p n (t &&& on) s = lv p n t s
  | 0, _, _, _ => rfl
  | n + 1, hn, s, hs => by
    rw [lv_s, lv_s, lv_and h t n (by omega) s hs, lv_and h t n (by omega) _ (xr_lt hs (by omega)), Nat.testBit_and]
    cases g : on.testBit n with
    | true => rw [Bool.and_true]
    | false =>
      rw [lv_flip (h n (by omega) g) n (by omega) t s hs, Bool.and_false, Bool.false_or]
      cases lv p n t s <;> cases t.testBit n <;> rfl
theorem big_bit {a i : Nat} (ha : a < 1024) (z : 10 ≤ i) : a.testBit i = false := Nat.testBit_lt_two_pow (Nat.lt_of_lt_of_le ha (Nat.pow_le_pow_right (n := 2) (i := 10) (by decide) z))
theorem eq_bits {a c : Nat} (ha : a < 1024) (hc : c < 1024) (h : ∀ i, i < 10 → a.testBit i = c.testBit i) : a = c := by
  apply Nat.eq_of_testBit_eq
  intro i
  rcases Nat.lt_or_ge i 10 with z | z
  · exact h i z
  · rw [big_bit ha z, big_bit hc z]
theorem xr_bit (s n i : Nat) : (s ^^^ 2 ^ n).testBit i = (s.testBit i ^^ decide (n = i)) := by rw [Nat.testBit_xor, Nat.testBit_two_pow]
theorem lv_all {p : Nat → Bool} {t : Nat} : ∀ (n : Nat), n ≤ 10 → ∀ s, s < 1024 → (lv p n t s = true ↔ ∀ r, r < 1024 → (∀ i, i < 10 → r.testBit i ≠ s.testBit i → i < n ∧ t.testBit i = false) → p r = true)
  | 0, _, s, hs => by
    constructor
    · intro h r hr q
      have : r = s := eq_bits hr hs (fun i hi => Classical.byContradiction (fun z => absurd (q i hi z).1 (Nat.not_lt_zero i)))
      rw [this]
      exact h
    · intro h
      exact h s hs (fun i _ z => absurd rfl z)
  | n + 1, hn, s, hs => by
    have ih := lv_all (p := p) (t := t) n (by omega)
    rw [lv_s, Bool.and_eq_true, Bool.or_eq_true, ih s hs, ih _ (xr_lt hs (by omega))]
    constructor
    · rintro ⟨h1, h2⟩ r hr q
      by_cases z : r.testBit n = s.testBit n
      · refine h1 r hr (fun i hi y => ?_)
        obtain ⟨q1, q2⟩ := q i hi y
        refine ⟨?_, q2⟩
        by_cases x : i = n
        · rw [x] at y; exact absurd z y
        · omega
      · have q2 := (q n (by omega) z).2
        rcases h2 with h2 | h2
        · rw [h2] at q2; cases q2
        · refine h2 r hr (fun i hi y => ?_)
          rw [xr_bit] at y
          by_cases x : n = i
          · exfalso
            apply y
            rw [decide_eq_true x, Bool.xor_true, ← x]
            cases u : r.testBit n <;> cases v : s.testBit n <;> simp_all
          · rw [decide_eq_false x, Bool.xor_false] at y
            obtain ⟨q1, q2⟩ := q i hi y
            exact ⟨by omega, q2⟩
    · intro h
      refine ⟨fun r hr q => h r hr (fun i hi y => ⟨by have := (q i hi y).1; omega, (q i hi y).2⟩), ?_⟩
      cases g : t.testBit n with
      | true => exact Or.inl rfl
      | false =>
        right
        intro r hr q
        refine h r hr (fun i hi y => ?_)
        by_cases x : n = i
        · exact ⟨by omega, by rw [← x]; exact g⟩
        · obtain ⟨q1, q2⟩ := q i hi (by rw [xr_bit, decide_eq_false x, Bool.xor_false]; exact y)
          exact ⟨by omega, q2⟩
theorem lv_ten {p : Nat → Bool} {m s : Nat} (hs : s < 1024) : lv p 10 m s = true ↔ ∀ r, r < 1024 → r &&& m = s &&& m → p r = true := by
  rw [lv_all 10 (Nat.le_refl 10) s hs]
  constructor
  · intro h r hr q
    refine h r hr (fun i hi y => ⟨hi, ?_⟩)
    have q2 := congrArg (fun z => Nat.testBit z i) q
    simp only [Nat.testBit_and] at q2
    cases g : m.testBit i with
    | false => rfl
    | true => rw [g, Bool.and_true, Bool.and_true] at q2; exact absurd q2 y
  · intro h r hr q
    refine h r hr (Nat.eq_of_testBit_eq (fun i => ?_))
    rw [Nat.testBit_and, Nat.testBit_and]
    rcases Nat.lt_or_ge i 10 with z | z
    · by_cases y : r.testBit i = s.testBit i
      · rw [y]
      · rw [(q i z y).2, Bool.and_false, Bool.and_false]
    · rw [big_bit hr z, big_bit hs z]
def sureP (p : Nat → Bool) (m f : Nat) : Bool := decide (f &&& m = f) && al (fun s => !decide (s &&& m = f) || p s) 1024
theorem sureP_iff {p : Nat → Bool} {m f : Nat} : sureP p m f = true ↔ f &&& m = f ∧ ∀ s, s < 1024 → s &&& m = f → p s = true := by
  unfold sureP
  rw [Bool.and_eq_true, decide_eq_true_iff, al_iff]
  refine ⟨fun h => ⟨h.1, fun s hs q => ?_⟩, fun h => ⟨h.1, fun s hs => ?_⟩⟩
  · have := h.2 s hs
    rw [decide_eq_true q] at this
    exact this
  · by_cases q : s &&& m = f
    · rw [h.2 s hs q, Bool.or_true]
    · rw [decide_eq_false q]; rfl
theorem sure_lv {p : Nat → Bool} {m f : Nat} (hf : f < 1024) (h : sureP p m f = true) : lv p 10 m f = true := by
  obtain ⟨h1, h2⟩ := sureP_iff.mp h
  rw [lv_ten hf, h1]
  exact h2
theorem lv_sure {p : Nat → Bool} {m f : Nat} (hf : f < 1024) (h : lv p 10 m f = true) : sureP p m (f &&& m) = true := by
  rw [lv_ten hf] at h
  exact sureP_iff.mpr ⟨by rw [Nat.and_assoc, Nat.and_self], h⟩
theorem sure_ex (p : Nat → Bool) (m : Nat) : ex (sureP p m) 1024 = ex (lv p 10 m) 1024 := by
  rw [Bool.eq_iff_iff, ex_iff, ex_iff]
  constructor
  · rintro ⟨f, hf, q⟩; exact ⟨f, hf, sure_lv hf q⟩
  · rintro ⟨f, hf, q⟩; exact ⟨f &&& m, Nat.lt_of_le_of_lt Nat.and_le_left hf, lv_sure hf q⟩
theorem sure_first {p : Nat → Bool} {m : Nat} (h : ex (lv p 10 m) 1024 = true) : fa_first (sureP p m) 1024 = fa_first (lv p 10 m) 1024 := by
  have h0 := (ex_first _ _).mpr h
  have h1 := fa_first_yes (lv p 10 m) 1024 h0
  have h2 := fun j hj => fa_first_no (lv p 10 m) 1024 j hj
  generalize fa_first (lv p 10 m) 1024 = f at *
  have h3 := lv_sure h0 h1
  have h4 : f &&& m ≤ f := Nat.and_le_left
  have h5 : f &&& m = f := by
    rcases Nat.lt_or_ge (f &&& m) f with z | z
    · have := h2 _ z
      rw [sure_lv (by omega) h3] at this
      cases this
    · omega
  rw [h5] at h3
  refine first_is h0 h3 (fun r hr => ?_)
  cases z : sureP p m r with
  | false => rfl
  | true =>
    have := h2 r hr
    rw [sure_lv (by omega) z] at this
    cases this
def okm (p : Nat → Bool) (m : Nat) : Bool := ex (lv p 10 m) 1024
theorem okm_and {p : Nat → Bool} {on : Nat} (h : inv p on) (t : Nat) : okm p (t &&& on) = okm p t := ex_cong (fun s hs => lv_and h t 10 (Nat.le_refl 10) s hs)
def bet (a c : Nat) : Prop := pc a < pc c ∨ (pc a = pc c ∧ a < c)
theorem bet_trans {a c d : Nat} (h : bet a c) (h2 : bet c d) : bet a d := by
  unfold bet at *
  omega
theorem pc_sub {a c : Nat} (h : ∀ i, i < 10 → a.testBit i = true → c.testBit i = true) : pc a ≤ pc c := fb_ct_sub h
theorem le_sub {a c : Nat} (ha : a < 1024) (h : ∀ i, i < 10 → a.testBit i = true → c.testBit i = true) : a ≤ c := by
  have : a &&& c = a := by
    apply Nat.eq_of_testBit_eq
    intro i
    rw [Nat.testBit_and]
    rcases Nat.lt_or_ge i 10 with z | z
    · cases g : a.testBit i with
      | false => rfl
      | true => rw [h i z g]; rfl
    · rw [big_bit ha z]; rfl
  rw [← this]
  exact Nat.and_le_right
/-- the best of those seen -/
def best (p : Nat → Bool) (Q : Nat → Prop) (x y : Int32) : Prop := (x = -1 ∧ ∀ t, Q t → okm p t = false) ∨ ∃ m, m < 1024 ∧ x = nI m ∧ y = nI (fa_first (lv p 10 m) 1024) ∧ Q m ∧ okm p m = true ∧ ∀ t, Q t → okm p t = true → ¬ bet t m
theorem best_iff {p : Nat → Bool} {Q Q' : Nat → Prop} {x y : Int32} (h : best p Q x y) (e : ∀ t, Q t ↔ Q' t) : best p Q' x y := by
  have : Q = Q' := funext (fun t => propext (e t))
  rw [← this]
  exact h
/-- those seen that are no better change nothing -/
theorem best_more {p : Nat → Bool} {Q C : Nat → Prop} {x y : Int32} (h : best p Q x y) (e : ∀ t, C t → okm p t = true → ∃ m, x = nI m ∧ m < 1024 ∧ ¬ bet t m) : best p (fun t => Q t ∨ C t) x y := by
  rcases h with ⟨h1, h2⟩ | ⟨m, h1, h2, h3, h4, h5, h6⟩
  · refine Or.inl ⟨h1, fun t q => ?_⟩
    rcases q with q | q
    · exact h2 t q
    · cases z : okm p t with
      | false => rfl
      | true =>
        obtain ⟨m, e1, e2, _⟩ := e t q z
        exfalso
        rw [e1] at h1
        have := congrArg Int32.toInt h1
        rw [nI_toInt (by omega)] at this
        have e : (-1 : Int32).toInt = -1 := by decide
        omega
  · refine Or.inr ⟨m, h1, h2, h3, Or.inl h4, h5, fun t q z => ?_⟩
    rcases q with q | q
    · exact h6 t q z
    · obtain ⟨m', e1, e2, e3⟩ := e t q z
      rw [h2] at e1
      rw [nI_inj (by omega) (by omega) e1]
      exact e3
section
variable {RL : WD → Prop} {b : Nat} {w : WD}
theorem mayBe_mk {p : Nat → Bool} {Q : Nat → Prop} (h : best p Q (w.1 51 0) (w.1 51 1)) {t : Nat} (ht : t < 1024) : (FX10_mayBeBetter (mk b w) (b + 51) (nI t) = some 1 ∧ (w.1 51 0 = -1 ∨ ∃ m, m < 1024 ∧ w.1 51 0 = nI m ∧ bet t m)) ∨ (FX10_mayBeBetter (mk b w) (b + 51) (nI t) = some 0 ∧ ∃ m, m < 1024 ∧ w.1 51 0 = nI m ∧ ¬ bet t m) := by
  unfold FX10_mayBeBetter
  rw [bc_small t ht, Option.bind_some, gI_10_51_0, Option.bind_some]
  rcases h with ⟨h1, _⟩ | ⟨m, h1, h2, _⟩
  · left
    rw [h1, bc_all, Option.bind_some, vl_eq, Option.bind_some, if_pos (by decide)]
    exact ⟨rfl, Or.inl rfl⟩
  · rw [h2, bc_small m h1, Option.bind_some, vl_eq, Option.bind_some, if_neg (nI_pos (by omega)), Option.bind_some]
    have a1 := pc_le t
    have a2 := pc_le m
    have hlt : nI (pc t) - nI (pc m) < 0 ↔ pc t < pc m := by
      rw [fa_lt, Int32.toInt_sub, nI_toInt (by omega), nI_toInt (by omega)]
      have e0 : (0 : Int32).toInt = 0 := by decide
      rw [e0, Int.bmod_eq_of_le (by omega) (by omega)]
      omega
    have heq : nI (pc t) - nI (pc m) = 0 ↔ pc t = pc m := by
      constructor
      · intro q
        have := congrArg Int32.toInt q
        have e0 : (0 : Int32).toInt = 0 := by decide
        rw [Int32.toInt_sub, nI_toInt (by omega), nI_toInt (by omega), e0, Int.bmod_eq_of_le (by omega) (by omega)] at this
        omega
      · intro q; rw [q, Int32.sub_self]
    by_cases c1 : pc t < pc m
    · left
      rw [if_pos (hlt.mpr c1)]
      exact ⟨rfl, Or.inr ⟨m, h1, rfl, Or.inl c1⟩⟩
    · rw [if_neg (fun z => c1 (hlt.mp z))]
      by_cases c2 : pc t = pc m
      · rw [if_pos (heq.mpr c2)]
        by_cases c3 : t < m
        · left
          rw [if_neg (nI_ge c3 (by omega))]
          exact ⟨rfl, Or.inr ⟨m, h1, rfl, Or.inr ⟨c2, c3⟩⟩⟩
        · right
          rw [if_pos (nI_le (by omega) (by omega))]
          exact ⟨rfl, m, h1, rfl, fun z => by unfold bet at z; omega⟩
      · right
        rw [if_neg (fun z => c2 (heq.mp z))]
        exact ⟨rfl, m, h1, rfl, fun z => by unfold bet at z; omega⟩
end
