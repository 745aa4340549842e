/-! call: ladder, the reference -/
def dN (F G : Nat → Bool) (n s : Nat) : Nat := fa_first (fun j => rg F G j s) (n + 1)
def av (d n : Nat) (r u : Bool) : Int32 := if r then nI d else if u then nI (n + 1) else 1000000
def aV (F G : Nat → Bool) (n : Nat) (U : Nat → Bool) (x : Nat) : Int32 := av (dN F G n x) n (rg F G n x) (U x)
theorem av_1 (d n : Nat) (u : Bool) : av d n true u = nI d := rfl
theorem av_2 (d n : Nat) : av d n false true = nI (n + 1) := rfl
theorem av_3 (d n : Nat) : av d n false false = 1000000 := rfl
theorem dN_of {F G : Nat → Bool} {n s : Nat} (h : rg F G n s = true) : dN F G n s ≤ n ∧ rg F G (dN F G n s) s = true ∧ ∀ j, j < dN F G n s → rg F G j s = false := by
  have h1 : fa_first (fun j => rg F G j s) (n + 1) < n + 1 := (ex_first _ _).mpr ((ex_iff _ _).mpr ⟨n, by omega, h⟩)
  exact ⟨by unfold dN; omega, fa_first_yes (fun j => rg F G j s) (n + 1) h1, fun j hj => fa_first_no (fun j => rg F G j s) (n + 1) j hj⟩
theorem dN_is {F G : Nat → Bool} {n m s : Nat} (hm : m ≤ n) (h1 : rg F G m s = true) (h2 : ∀ j, j < m → rg F G j s = false) : dN F G n s = m := first_is (by omega) h1 h2
theorem far_ne {n : Nat} (h : n < 1000000) : ¬ nI n = (1000000 : Int32) := fun q => by
  have q : nI n = nI 1000000 := q
  have := nI_inj (by omega) (by decide) q
  omega
section
variable {RL : WD → Prop} {b : Nat} {w : WD}
theorem lessens_mk {F G : Nat → Bool} (hb : bo (w.2.1 81) 1024) (hF : WF w = F) {n : Nat} (hn : n < 2000) {U : Nat → Bool} (ha : ∀ x, x < 1024 → w.2.1 104 x = aV F G n U x) {s : Nat} (hs : s < 1024) : ∃ a, FX12_lessens (mk b w) (b + 77) (nI s) (nI (n + 1)) = some (if ex (fun x => !rg F G n x && !U x && (F x && ex (fun i => decide (x = s ^^^ 2 ^ i)) 10)) 1024 then 1 else 0, mk b (uA w 104 a)) ∧ ∀ x, x < 1024 → a x = aV F G n (fun x => U x || (F x && ex (fun i => decide (x = s ^^^ 2 ^ i)) 10)) x := by
  have main : ∃ r, FX12_lessens (mk b w) (b + 77) (nI s) (nI (n + 1)) = some r ∧ ∃ a, r = (if ex (fun x => !rg F G n x && !U x && (F x && ex (fun i => decide (x = s ^^^ 2 ^ i)) 10)) 1024 then 1 else 0, mk b (uA w 104 a)) ∧ ∀ x, x < 1024 → a x = aV F G n (fun x => U x || (F x && ex (fun i => decide (x = s ^^^ 2 ^ i)) 10)) x := by
    unfold FX12_lessens
    refine lpb_inv (fun i (t : Int32 × Int32 × HP) => ∃ a, t = (if ex (fun x => !rg F G n x && !U x && (F x && ex (fun i => decide (x = s ^^^ 2 ^ i)) i)) 1024 then 1 else 0, nI i, mk b (uA w 104 a)) ∧ ∀ x, x < 1024 → a x = aV F G n (fun x => U x || (F x && ex (fun i => decide (x = s ^^^ 2 ^ i)) i)) x) _ 10 (by decide) ⟨w.2.1 104, ?_, fun x hx => ?_⟩ (fun i hi t hI => ?_) (fun t hI => ?_)
    · rw [uA_id, if_neg]
      · rfl
      · rw [ex_iff]
        rintro ⟨x, _, q⟩
        rw [show ex (fun i => decide (x = s ^^^ 2 ^ i)) 0 = false from rfl, Bool.and_false, Bool.and_false] at q
        cases q
    · rw [ha x hx]
      unfold aV
      try dsimp only
      rw [show ex (fun i => decide (x = s ^^^ 2 ^ i)) 0 = false from rfl, Bool.and_false, Bool.or_false]
    · obtain ⟨a, rfl, hA⟩ := hI
      try dsimp only
      have hx := xr_lt hs hi
      have hF' : WF (uA w 104 a) = F := by rw [← hF]; rfl
      rw [if_neg (Lnle hi), vl_eq, xr hi, gR_12_77_3, Option.bind_some, rdF (w := uA w 104 a) hb hx, hF', Option.bind_some, bite, gR_12_77_57, Option.bind_some, rdN_mk (t := 0) (n := 1024) (by decide +kernel) (by decide) b _ hx, Option.bind_some, uA_at, hA _ hx]
      have same : ∀ (X : Nat → Bool), (∀ x, x < 1024 → X x = (!rg F G n x && !U x && (F x && ex (fun i => decide (x = s ^^^ 2 ^ i)) i))) → (∀ x, x < 1024 → x ≠ s ^^^ 2 ^ i → (F x && ex (fun i => decide (x = s ^^^ 2 ^ i)) (i + 1)) = (F x && ex (fun i => decide (x = s ^^^ 2 ^ i)) i)) := fun X _ x _ hne => by
        rw [ex_succ, decide_eq_false hne, Bool.or_false]
      have other : ∀ x, x ≠ s ^^^ 2 ^ i → ex (fun i => decide (x = s ^^^ 2 ^ i)) (i + 1) = ex (fun i => decide (x = s ^^^ 2 ^ i)) i := fun x hne => by rw [ex_succ, decide_eq_false hne, Bool.or_false]
      have self : ex (fun j => decide (s ^^^ 2 ^ i = s ^^^ 2 ^ j)) (i + 1) = true := (ex_iff _ _).mpr ⟨i, by omega, decide_eq_true rfl⟩
      -- nothing new here
      have keep : (rg F G n (s ^^^ 2 ^ i) || U (s ^^^ 2 ^ i) || !F (s ^^^ 2 ^ i) || (F (s ^^^ 2 ^ i) && ex (fun j => decide (s ^^^ 2 ^ i = s ^^^ 2 ^ j)) i)) = true → ex (fun x => !rg F G n x && !U x && (F x && ex (fun i => decide (x = s ^^^ 2 ^ i)) (i + 1))) 1024 = ex (fun x => !rg F G n x && !U x && (F x && ex (fun i => decide (x = s ^^^ 2 ^ i)) i)) 1024 ∧ ∀ x, x < 1024 → aV F G n (fun x => U x || (F x && ex (fun i => decide (x = s ^^^ 2 ^ i)) i)) x = aV F G n (fun x => U x || (F x && ex (fun i => decide (x = s ^^^ 2 ^ i)) (i + 1))) x := fun q => by
        refine ⟨ex_cong (fun x _ => ?_), fun x _ => ?_⟩
        · by_cases e : x = s ^^^ 2 ^ i
          · subst e
            rw [self]
            cases h1 : rg F G n (s ^^^ 2 ^ i) <;> cases h2 : U (s ^^^ 2 ^ i) <;> cases h3 : F (s ^^^ 2 ^ i) <;> cases h4 : ex (fun j => decide (s ^^^ 2 ^ i = s ^^^ 2 ^ j)) i <;> simp_all [av_1]
          · rw [other x e]
        · unfold aV
          try dsimp only
          by_cases e : x = s ^^^ 2 ^ i
          · subst e
            rw [self]
            cases h1 : rg F G n (s ^^^ 2 ^ i) <;> cases h2 : U (s ^^^ 2 ^ i) <;> cases h3 : F (s ^^^ 2 ^ i) <;> cases h4 : ex (fun j => decide (s ^^^ 2 ^ i = s ^^^ 2 ^ j)) i <;> simp_all [av_1]
          · rw [other x e]
      cases gF : F (s ^^^ 2 ^ i) with
      | false =>
        rw [if_neg (by decide), vl_eq, nI_1]
        obtain ⟨k1, k2⟩ := keep (by rw [gF]; simp)
        exact ⟨_, rfl, a, by rw [k1], fun x hx => by rw [hA x hx]; exact k2 x hx⟩
      | true =>
        rw [if_pos rfl]
        by_cases q : (rg F G n (s ^^^ 2 ^ i) || U (s ^^^ 2 ^ i) || (F (s ^^^ 2 ^ i) && ex (fun j => decide (s ^^^ 2 ^ i = s ^^^ 2 ^ j)) i)) = true
        · obtain ⟨k1, k2⟩ := keep (by rw [gF] at q ⊢; simp at q ⊢; exact q)
          have hv : ¬ nI (n + 1) < aV F G n (fun x => U x || (F x && ex (fun i => decide (x = s ^^^ 2 ^ i)) i)) (s ^^^ 2 ^ i) := by
            unfold aV
            try dsimp only
            cases h1 : rg F G n (s ^^^ 2 ^ i) with
            | true =>
              rw [av_1]
              have := (dN_of h1).1
              exact nI_nlt (by omega) (by omega)
            | false =>
              rw [h1, Bool.false_or] at q
              rw [q, av_2]
              exact nI_nlt (Nat.le_refl _) (by omega)
          rw [if_neg hv, vl_eq, nI_1]
          exact ⟨_, rfl, a, by rw [k1], fun x hx => by rw [hA x hx]; exact k2 x hx⟩
        · have q' : (rg F G n (s ^^^ 2 ^ i) || U (s ^^^ 2 ^ i) || (F (s ^^^ 2 ^ i) && ex (fun j => decide (s ^^^ 2 ^ i = s ^^^ 2 ^ j)) i)) = false := by
            cases z : (rg F G n (s ^^^ 2 ^ i) || U (s ^^^ 2 ^ i) || (F (s ^^^ 2 ^ i) && ex (fun j => decide (s ^^^ 2 ^ i = s ^^^ 2 ^ j)) i)) with
            | true => exact absurd z q
            | false => rfl
          rw [Bool.or_eq_false_iff, Bool.or_eq_false_iff] at q'
          have hv : nI (n + 1) < aV F G n (fun x => U x || (F x && ex (fun i => decide (x = s ^^^ 2 ^ i)) i)) (s ^^^ 2 ^ i) := by
            unfold aV
            try dsimp only
            rw [q'.1.1, q'.1.2, q'.2, Bool.or_false, av_3]
            exact Rlt (n := 1000000) (by omega)
          have k1 : ex (fun x => !rg F G n x && !U x && (F x && ex (fun i => decide (x = s ^^^ 2 ^ i)) (i + 1))) 1024 = true := (ex_iff _ _).mpr ⟨_, hx, by rw [self, q'.1.1, q'.1.2, gF]; rfl⟩
          rw [if_pos hv, Option.bind_some, wrI_mk (n := 1024) (by decide +kernel) b _ hx, Option.bind_some, vl_eq, nI_1, uA_at, uA_uA, k1]
          refine ⟨_, rfl, _, rfl, fun x hx' => ?_⟩
          unfold upd
          by_cases e : x = s ^^^ 2 ^ i
          · subst e
            rw [if_pos rfl]
            unfold aV
            try dsimp only
            rw [q'.1.1, q'.1.2, self, gF, Bool.false_or, Bool.true_and, av_2]
          · rw [if_neg e, hA x hx']
            unfold aV
            try dsimp only
            rw [other x e]
    · obtain ⟨a, rfl, hA⟩ := hI
      refine ⟨(if ex (fun x => !rg F G n x && !U x && (F x && ex (fun i => decide (x = s ^^^ 2 ^ i)) 10)) 1024 then 1 else 0, mk b (uA w 104 a)), ?_, (if ex (fun x => !rg F G n x && !U x && (F x && ex (fun i => decide (x = s ^^^ 2 ^ i)) 10)) 1024 then 1 else 0, mk b (uA w 104 a)), ?_, a, rfl, hA⟩
      · try dsimp only
        rw [if_pos (by decide)]
      try dsimp only
      unfold bz
      rw [if_pos]
      generalize ex (fun x => !rg F G n x && !U x && (F x && ex (fun i => decide (x = s ^^^ 2 ^ i)) 10)) 1024 = E
      cases E
      · exact Or.inl rfl
      · exact Or.inr rfl
  obtain ⟨r, e1, a, rfl, e2⟩ := main
  exact ⟨a, e1, e2⟩
end
