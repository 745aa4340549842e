/-! how a law is read: the text as signs, 256 behind its end; a piece gives where it ends and its codes, or a fault's number and place -/
abbrev PR : Type := (Nat × Nat) ⊕ (Nat × Cds)
def dg (x : Nat) : Bool := decide (48 ≤ x) && decide (x ≤ 57)
def pNum (ch : Nat → Nat) : Nat → Nat → Nat → PR
  | 0, a, v => if dg (ch a) then .inl (2, a) else .inr (a, [(0, v)])
  | k + 1, a, v => if dg (ch a) then pNum ch k (a + 1) (10 * v + (ch a - 48)) else .inr (a, [(0, v)])
def ltr (x : Nat) : Nat := if x = 119 then 0 else if x = 99 then 1 else if x = 112 then 2 else if x = 115 then 3 else if x = 110 then 4 else if x = 121 then 5 else if x = 109 then 6 else if x = 122 then 7 else 8
def pFacB (ch : Nat → Nat) (inner : Option (Nat → PR)) (a : Nat) : PR :=
  if ch a = 91 then (match inner with
    | none => .inl (5, a)
    | some f => match f (a + 1) with
      | .inl z => .inl z
      | .inr (a', l) => if ch a' = 93 then .inr (a' + 1, l) else .inl (1, a'))
  else if dg (ch a) then pNum ch 5 a 0
  else if ltr (ch a) < 8 then .inr (a + 1, [(1, ltr (ch a))]) else .inl (1, a)
def mulK (x : Nat) : Nat := if x = 42 then 4 else if x = 47 then 5 else if x = 37 then 6 else 0
def addK (x : Nat) : Nat := if x = 43 then 2 else if x = 45 then 3 else 0
def relK (x : Nat) : Nat := if x = 60 then 7 else if x = 62 then 8 else if x = 61 then 9 else 0
def wl (k : Nat) : Cds := if k = 0 then [] else [(k, 0)]
def pSumL (ch : Nat → Nat) (fac : Nat → PR) : Nat → Nat → Cds → Nat → PR
  | 0, a, _, _ => .inl (1, a)
  | n + 1, a, acc, k => if mulK (ch a) ≠ 0 then (match fac (a + 1) with
      | .inl z => .inl z
      | .inr (a', l) => pSumL ch fac n a' (acc ++ l ++ [(mulK (ch a), 0)]) k)
    else if addK (ch a) ≠ 0 then (match fac (a + 1) with
      | .inl z => .inl z
      | .inr (a', l) => pSumL ch fac n a' (acc ++ wl k ++ l) (addK (ch a)))
    else .inr (a, acc ++ wl k)
def pSumB (ch : Nat → Nat) (fac : Nat → PR) (a : Nat) : PR := match fac a with
  | .inl z => .inl z
  | .inr (a', l) => pSumL ch fac 300 a' l 0
def pFacs (ch : Nat → Nat) : Nat → Nat → PR
  | 0, a => pFacB ch none a
  | e + 1, a => pFacB ch (some (pSumB ch (pFacs ch e))) a
def pSum (ch : Nat → Nat) (e a : Nat) : PR := pSumB ch (pFacs ch e) a
def pCmp (ch : Nat → Nat) (sum : Nat → PR) (a : Nat) : PR := match sum a with
  | .inl z => .inl z
  | .inr (a1, l1) => if relK (ch a1) = 0 then .inl (1, a1) else match sum (a1 + 1) with
    | .inl z => .inl z
    | .inr (a2, l2) => .inr (a2, l1 ++ l2 ++ [(relK (ch a1), 0)])
def pTstB (ch : Nat → Nat) (sum : Nat → PR) (inner : Option ((Nat → PR) × (Nat → PR))) (a : Nat) : PR :=
  if ch a = 33 then (match inner with
    | none => .inl (5, a)
    | some f => match f.1 (a + 1) with
      | .inl z => .inl z
      | .inr (a', l) => .inr (a', l ++ [(10, 0)]))
  else if ch a = 40 then (match inner with
    | none => .inl (5, a)
    | some f => match f.2 (a + 1) with
      | .inl z => .inl z
      | .inr (a', l) => if ch a' = 41 then .inr (a' + 1, l) else .inl (1, a'))
  else pCmp ch sum a
def jnd (k : Nat) (o : Option Cds) (C : Cds) : Cds := match o with
  | none => C
  | some B => B ++ (k, C.length) :: C
def pSomL (ch : Nat → Nat) (tst : Nat → PR) : Nat → Nat → Option Cds → Option Cds → Cds → PR
  | 0, a, _, _, _ => .inl (1, a)
  | n + 1, a, oA, oB, C => if ch a = 38 then (match tst (a + 1) with
      | .inl z => .inl z
      | .inr (a', l) => pSomL ch tst n a' oA (some (jnd 11 oB C)) l)
    else if ch a = 124 then (match tst (a + 1) with
      | .inl z => .inl z
      | .inr (a', l) => pSomL ch tst n a' (some (jnd 12 oA (jnd 11 oB C))) none l)
    else .inr (a, jnd 12 oA (jnd 11 oB C))
def pSomB (ch : Nat → Nat) (tst : Nat → PR) (a : Nat) : PR := match tst a with
  | .inl z => .inl z
  | .inr (a', l) => pSomL ch tst 300 a' none none l
def pTsts (ch : Nat → Nat) : Nat → Nat → PR
  | 0, a => pTstB ch (pSum ch 0) none a
  | e + 1, a => pTstB ch (pSum ch (e + 1)) (some (pTsts ch e, pSomB ch (pTsts ch e))) a
def pSom (ch : Nat → Nat) (e a : Nat) : PR := pSomB ch (pTsts ch e) a
abbrev Rul : Type := Nat × Cds × Cds
/-- a rule whose letter stands at a -/
def pRule (ch : Nat → Nat) (a : Nat) : (Nat × Nat) ⊕ (Nat × Rul) := match (if ch a = 120 then (.inr (a + 1, []) : PR) else pSum ch 6 (a + 1)) with
  | .inl z => .inl z
  | .inr (a1, W) => if ch a1 = 40 then (match pSom ch 5 (a1 + 1) with
      | .inl z => .inl z
      | .inr (a2, T) => if ch a2 = 41 then .inr (a2 + 1, (ch a, W, T)) else .inl (1, a2))
    else .inl (1, a1)
def isKd (x : Nat) : Bool := x == 100 || x == 103 || x == 120
def pLaw (ch : Nat → Nat) : Nat → Nat → List Rul → (Nat × Nat) ⊕ List Rul
  | 0, a, _ => if isKd (ch a) then .inl (4, a) else .inl (1, a)
  | k + 1, a, rs => if isKd (ch a) then (match pRule ch a with
      | .inl z => .inl z
      | .inr (a', r) => if ch a' = 256 then .inr (rs ++ [r]) else if ch a' = 59 then pLaw ch k (a' + 1) (rs ++ [r]) else .inl (1, a'))
    else .inl (1, a)
/-! where pieces end -/
def TX (f : Nat → Int32) (len : Nat) (ch : Nat → Nat) : Prop := (∀ a, a < len → ch a < 256 ∧ f a &&& 255 = nI (ch a)) ∧ ∀ a, len ≤ a → ch a = 256
/-- a fault within the text; a piece that ends within it, with no more codes than signs -/
def fine (len a : Nat) (r : PR) : Prop := match r with
  | .inl z => 1 ≤ z.1 ∧ z.1 ≤ 5 ∧ z.2 ≤ len
  | .inr z => a < z.1 ∧ z.1 ≤ len ∧ z.2.length ≤ z.1 - a
theorem fineL {len a n p : Nat} (h : p ≤ len) (h1 : 1 ≤ n := by decide) (h2 : n ≤ 5 := by decide) : fine len a (.inl (n, p)) := ⟨h1, h2, h⟩
section
variable {ch : Nat → Nat} {len : Nat}
theorem at_in (h : ∀ a, len ≤ a → ch a = 256) {a c : Nat} (e : ch a = c) (hc : c ≠ 256) : a < len := by
  rcases Nat.lt_or_ge a len with q | q
  · exact q
  · exact absurd (e.symm.trans (h a q)) hc
theorem dg_in (h : ∀ a, len ≤ a → ch a = 256) {a : Nat} (e : dg (ch a) = true) : a < len := by
  rcases Nat.lt_or_ge a len with q | q
  · exact q
  · rw [h a q] at e
    cases e
theorem pNum_fine (h : ∀ a, len ≤ a → ch a = 256) : ∀ (k a v a0 : Nat), a0 ≤ a → (a = a0 → dg (ch a) = true) → a ≤ len → fine len a0 (pNum ch k a v)
  | 0, a, v, a0, h1, h2, h3 => by
    unfold pNum
    cases e : dg (ch a)
    · have : a0 ≠ a := fun q => by rw [h2 q.symm] at e; cases e
      exact ⟨by omega, h3, by show 1 ≤ a - a0; omega⟩
    · exact fineL h3
  | k + 1, a, v, a0, h1, h2, h3 => by
    unfold pNum
    cases e : dg (ch a)
    · have : a0 ≠ a := fun q => by rw [h2 q.symm] at e; cases e
      exact ⟨by omega, h3, by show 1 ≤ a - a0; omega⟩
    · exact pNum_fine h k (a + 1) _ a0 (by omega) (fun q => by omega) (dg_in h e)
theorem pFacB_fine (h : ∀ a, len ≤ a → ch a = 256) {inner : Option (Nat → PR)} (hi : ∀ f, inner = some f → ∀ a, a ≤ len → fine len a (f a)) {a : Nat} (ha : a ≤ len) : fine len a (pFacB ch inner a) := by
  unfold pFacB
  split
  · rename_i e
    have hl := at_in h e (by decide)
    cases inner with
    | none => exact fineL ha
    | some f =>
      have q := hi f rfl (a + 1) hl
      dsimp only
      cases e2 : f (a + 1) with
      | inl z => rw [e2] at q; exact q
      | inr z =>
        rw [e2] at q
        obtain ⟨a', l⟩ := z
        obtain ⟨q1, q2, q3⟩ := q
        dsimp only at q1 q2 q3 ⊢
        split
        · rename_i e3
          have := at_in h e3 (by decide)
          exact ⟨by show a < a' + 1; omega, this, by show l.length ≤ a' + 1 - a; omega⟩
        · exact fineL q2
  · split
    · rename_i e
      exact pNum_fine h 5 a 0 a (Nat.le_refl _) (fun _ => e) ha
    · split
      · rename_i e
        have : a < len := by
          rcases Nat.lt_or_ge a len with q | q
          · exact q
          · rw [h a q] at e
            exact absurd e (by decide)
        exact ⟨Nat.lt_succ_self a, this, by show 1 ≤ a + 1 - a; omega⟩
      · exact fineL ha
theorem wl_len (k : Nat) : (wl k).length = if k = 0 then 0 else 1 := by
  unfold wl
  split <;> rfl
theorem pSumL_fine (h : ∀ a, len ≤ a → ch a = 256) {fac : Nat → PR} (hf : ∀ a, a ≤ len → fine len a (fac a)) (a0 : Nat) : ∀ (n a : Nat) (acc : Cds) (k : Nat), a0 < a → a ≤ len → acc.length + (wl k).length ≤ a - a0 → fine len a0 (pSumL ch fac n a acc k)
  | 0, a, acc, k, h1, h2, h3 => fineL h2
  | n + 1, a, acc, k, h1, h2, h3 => by
    unfold pSumL
    split
    · rename_i e
      have hl : a < len := by
        rcases Nat.lt_or_ge a len with q | q
        · exact q
        · rw [h a q] at e
          exact absurd rfl e
      have q := hf (a + 1) hl
      cases e2 : fac (a + 1) with
      | inl z => rw [e2] at q; exact q
      | inr z =>
        rw [e2] at q
        obtain ⟨a', l⟩ := z
        obtain ⟨q1, q2, q3⟩ := q
        dsimp only at q1 q2 q3 ⊢
        refine pSumL_fine h hf a0 n a' _ k (by omega) q2 ?_
        rw [List.length_append, List.length_append]
        show acc.length + l.length + 1 + (wl k).length ≤ a' - a0
        omega
    · split
      · rename_i e
        have hl : a < len := by
          rcases Nat.lt_or_ge a len with q | q
          · exact q
          · rw [h a q] at e
            exact absurd rfl e
        have q := hf (a + 1) hl
        cases e2 : fac (a + 1) with
        | inl z => rw [e2] at q; exact q
        | inr z =>
          rw [e2] at q
          obtain ⟨a', l⟩ := z
          obtain ⟨q1, q2, q3⟩ := q
          dsimp only at q1 q2 q3 ⊢
          refine pSumL_fine h hf a0 n a' _ _ (by omega) q2 ?_
          rw [List.length_append, List.length_append]
          have := wl_len (addK (ch a))
          rw [if_neg e] at this
          omega
      · refine ⟨h1, h2, ?_⟩
        show (acc ++ wl k).length ≤ a - a0
        rw [List.length_append]
        exact h3
theorem pSumB_fine (h : ∀ a, len ≤ a → ch a = 256) {fac : Nat → PR} (hf : ∀ a, a ≤ len → fine len a (fac a)) {a : Nat} (ha : a ≤ len) : fine len a (pSumB ch fac a) := by
  unfold pSumB
  have q := hf a ha
  cases e2 : fac a with
  | inl z => rw [e2] at q; exact q
  | inr z =>
    rw [e2] at q
    obtain ⟨a', l⟩ := z
    obtain ⟨q1, q2, q3⟩ := q
    dsimp only at q1 q2 q3 ⊢
    exact pSumL_fine h hf a 300 a' l 0 q1 q2 q3
theorem pFacs_fine (h : ∀ a, len ≤ a → ch a = 256) : ∀ (e a : Nat), a ≤ len → fine len a (pFacs ch e a)
  | 0, a, ha => pFacB_fine h (fun f q => by cases q) ha
  | e + 1, a, ha => pFacB_fine h (fun f q a ha => by
      have q := Option.some.inj q
      subst q
      exact pSumB_fine h (fun a ha => pFacs_fine h e a ha) ha) ha
theorem pSum_fine (h : ∀ a, len ≤ a → ch a = 256) (e : Nat) {a : Nat} (ha : a ≤ len) : fine len a (pSum ch e a) := pSumB_fine h (pFacs_fine h e) ha
theorem pCmp_fine (h : ∀ a, len ≤ a → ch a = 256) {sum : Nat → PR} (hf : ∀ a, a ≤ len → fine len a (sum a)) {a : Nat} (ha : a ≤ len) : fine len a (pCmp ch sum a) := by
  unfold pCmp
  have q := hf a ha
  cases e2 : sum a with
  | inl z => rw [e2] at q; exact q
  | inr z =>
    rw [e2] at q
    obtain ⟨a1, l1⟩ := z
    obtain ⟨q1, q2, q3⟩ := q
    dsimp only at q1 q2 q3 ⊢
    split
    · exact fineL q2
    · rename_i e
      have hl : a1 < len := by
        rcases Nat.lt_or_ge a1 len with q | q
        · exact q
        · rw [h a1 q] at e
          exact absurd rfl e
      have r := hf (a1 + 1) hl
      cases e3 : sum (a1 + 1) with
      | inl z => rw [e3] at r; exact r
      | inr z =>
        rw [e3] at r
        obtain ⟨a2, l2⟩ := z
        obtain ⟨r1, r2, r3⟩ := r
        dsimp only at r1 r2 r3 ⊢
        refine ⟨by show a < a2; omega, r2, ?_⟩
        show (l1 ++ l2 ++ [(relK (ch a1), 0)]).length ≤ a2 - a
        rw [List.length_append, List.length_append]
        show l1.length + l2.length + 1 ≤ a2 - a
        omega
theorem pTstB_fine (h : ∀ a, len ≤ a → ch a = 256) {sum : Nat → PR} (hf : ∀ a, a ≤ len → fine len a (sum a)) {inner : Option ((Nat → PR) × (Nat → PR))} (hi : ∀ f, inner = some f → ∀ a, a ≤ len → fine len a (f.1 a) ∧ fine len a (f.2 a)) {a : Nat} (ha : a ≤ len) : fine len a (pTstB ch sum inner a) := by
  unfold pTstB
  split
  · rename_i e
    have hl := at_in h e (by decide)
    cases inner with
    | none => exact fineL ha
    | some f =>
      have q := (hi f rfl (a + 1) hl).1
      dsimp only
      cases e2 : f.1 (a + 1) with
      | inl z => rw [e2] at q; exact q
      | inr z =>
        rw [e2] at q
        obtain ⟨a', l⟩ := z
        obtain ⟨q1, q2, q3⟩ := q
        dsimp only at q1 q2 q3 ⊢
        refine ⟨by show a < a'; omega, q2, ?_⟩
        show (l ++ [(10, 0)]).length ≤ a' - a
        rw [List.length_append]
        show l.length + 1 ≤ a' - a
        omega
  · split
    · rename_i e
      have hl := at_in h e (by decide)
      cases inner with
      | none => exact fineL ha
      | some f =>
        have q := (hi f rfl (a + 1) hl).2
        dsimp only
        cases e2 : f.2 (a + 1) with
        | inl z => rw [e2] at q; exact q
        | inr z =>
          rw [e2] at q
          obtain ⟨a', l⟩ := z
          obtain ⟨q1, q2, q3⟩ := q
          dsimp only at q1 q2 q3 ⊢
          split
          · rename_i e3
            have := at_in h e3 (by decide)
            exact ⟨by show a < a' + 1; omega, this, by show l.length ≤ a' + 1 - a; omega⟩
          · exact fineL q2
    · exact pCmp_fine h hf ha
theorem jnd_len (k : Nat) (o : Option Cds) (C : Cds) : (jnd k o C).length = (match o with
    | none => 0
    | some B => B.length + 1) + C.length := by
  cases o with
  | none => show C.length = 0 + C.length; omega
  | some B =>
    show (B ++ (k, C.length) :: C).length = B.length + 1 + C.length
    rw [List.length_append, List.length_cons]
    omega
theorem pSomL_fine (h : ∀ a, len ≤ a → ch a = 256) {tst : Nat → PR} (hf : ∀ a, a ≤ len → fine len a (tst a)) (a0 : Nat) : ∀ (n a : Nat) (oA oB : Option Cds) (C : Cds), a0 < a → a ≤ len → (jnd 12 oA (jnd 11 oB C)).length ≤ a - a0 → fine len a0 (pSomL ch tst n a oA oB C)
  | 0, a, oA, oB, C, h1, h2, h3 => fineL h2
  | n + 1, a, oA, oB, C, h1, h2, h3 => by
    unfold pSomL
    rw [jnd_len, jnd_len] at h3
    split
    · rename_i e
      have hl := at_in h e (by decide)
      have q := hf (a + 1) hl
      cases e2 : tst (a + 1) with
      | inl z => rw [e2] at q; exact q
      | inr z =>
        rw [e2] at q
        obtain ⟨a', l⟩ := z
        obtain ⟨q1, q2, q3⟩ := q
        dsimp only at q1 q2 q3 ⊢
        refine pSomL_fine h hf a0 n a' _ _ _ (by omega) q2 ?_
        rw [jnd_len, jnd_len]
        dsimp only
        rw [jnd_len]
        omega
    · split
      · rename_i e
        have hl := at_in h e (by decide)
        have q := hf (a + 1) hl
        cases e2 : tst (a + 1) with
        | inl z => rw [e2] at q; exact q
        | inr z =>
          rw [e2] at q
          obtain ⟨a', l⟩ := z
          obtain ⟨q1, q2, q3⟩ := q
          dsimp only at q1 q2 q3 ⊢
          refine pSomL_fine h hf a0 n a' _ _ _ (by omega) q2 ?_
          rw [jnd_len, jnd_len]
          dsimp only
          rw [jnd_len, jnd_len]
          omega
      · refine ⟨h1, h2, ?_⟩
        show (jnd 12 oA (jnd 11 oB C)).length ≤ a - a0
        rw [jnd_len, jnd_len]
        exact h3
theorem pSomB_fine (h : ∀ a, len ≤ a → ch a = 256) {tst : Nat → PR} (hf : ∀ a, a ≤ len → fine len a (tst a)) {a : Nat} (ha : a ≤ len) : fine len a (pSomB ch tst a) := by
  unfold pSomB
  have q := hf a ha
  cases e2 : tst a with
  | inl z => rw [e2] at q; exact q
  | inr z =>
    rw [e2] at q
    obtain ⟨a', l⟩ := z
    obtain ⟨q1, q2, q3⟩ := q
    dsimp only at q1 q2 q3 ⊢
    exact pSomL_fine h hf a 300 a' none none l q1 q2 q3
theorem pTsts_fine (h : ∀ a, len ≤ a → ch a = 256) : ∀ (e a : Nat), a ≤ len → fine len a (pTsts ch e a)
  | 0, a, ha => pTstB_fine h (fun a ha => pSum_fine h 0 ha) (fun f q => by cases q) ha
  | e + 1, a, ha => pTstB_fine h (fun a ha => pSum_fine h (e + 1) ha) (fun f q a ha => by
      have q := Option.some.inj q
      subst q
      exact ⟨pTsts_fine h e a ha, pSomB_fine h (fun a ha => pTsts_fine h e a ha) ha⟩) ha
theorem pSom_fine (h : ∀ a, len ≤ a → ch a = 256) (e : Nat) {a : Nat} (ha : a ≤ len) : fine len a (pSom ch e a) := pSomB_fine h (pTsts_fine h e) ha
end
