/-! codes that make sense: run from any stack they put one value on it, or are refused -/
def isE (t : Bool) (B : Nat) (l : Cds) : Prop := ∀ (f : Nat → Int32) (l' : Cds) (st : List Int32) (P : Option Int32 → Prop), P none → st.length + B ≤ 31 → (∀ z, (t = true → z = 0 ∨ z = 1) → ∃ r, gon f l' 0 (z :: st) r ∧ P r) → ∃ r, gon f (l ++ l') 0 st r ∧ P r
theorem isE_mono {t : Bool} {B B' : Nat} {l : Cds} (h : isE t B l) (hB : B ≤ B') : isE t B' l := fun f l' st P h0 h1 h2 => h f l' st P h0 (by omega) h2
theorem isE_num {v : Nat} (hv : v < 100000) : isE false 1 [(0, v)] := fun f l' st P h0 h1 h2 => by
  obtain ⟨r, e1, e2⟩ := h2 (nI v) (fun q => by cases q)
  exact ⟨r, Or.inl ⟨rfl, hv, by omega, e1⟩, e2⟩
theorem isE_let {i : Nat} (hi : i < 8) : isE false 1 [(1, i)] := fun f l' st P h0 h1 h2 => by
  obtain ⟨r, e1, e2⟩ := h2 (f i) (fun q => by cases q)
  exact ⟨r, Or.inr (Or.inl ⟨rfl, hi, by omega, e1⟩), e2⟩
theorem reck_b {k : Nat} (h1 : 7 ≤ k) (h2 : k ≤ 9) (x y : Int32) : ∃ z, reck k x y = some z ∧ (z = 0 ∨ z = 1) := by
  have hk : k = 7 ∨ k = 8 ∨ k = 9 := by omega
  rcases hk with rfl | rfl | rfl
  · refine ⟨if y ≤ x then 0 else 1, rfl, ?_⟩
    split
    · exact Or.inl rfl
    · exact Or.inr rfl
  · refine ⟨if x ≤ y then 0 else 1, rfl, ?_⟩
    split
    · exact Or.inl rfl
    · exact Or.inr rfl
  · refine ⟨if x = y then 1 else 0, rfl, ?_⟩
    split
    · exact Or.inr rfl
    · exact Or.inl rfl
theorem isE_op {k B1 B2 B : Nat} {a c : Cds} (h1 : 2 ≤ k) (h2 : k ≤ 9) (t : Bool) (ht : t = true → 7 ≤ k) (ha : isE false B1 a) (hc : isE false B2 c) (hb1 : B1 ≤ B) (hb2 : B2 + 1 ≤ B) : isE t B (a ++ c ++ [(k, 0)]) := by
  intro f l' st P h0 hl hz
  rw [List.append_assoc, List.append_assoc]
  refine ha f _ st P h0 (by omega) (fun x _ => ?_)
  refine hc f _ (x :: st) P h0 (by rw [List.length_cons]; omega) (fun y _ => ?_)
  cases e : reck k x y with
  | none => exact ⟨none, Or.inr (Or.inr (Or.inl ⟨h1, h2, rfl, x, y, st, rfl, Or.inl ⟨e, rfl⟩⟩)), h0⟩
  | some z =>
    obtain ⟨r, e1, e2⟩ := hz z (fun q => by
      obtain ⟨z', e3, e4⟩ := reck_b (ht q) h2 x y
      rw [e] at e3
      rw [Option.some.inj e3]
      exact e4)
    exact ⟨r, Or.inr (Or.inr (Or.inl ⟨h1, h2, rfl, x, y, st, rfl, Or.inr ⟨z, e, e1⟩⟩)), e2⟩
theorem isE_neg {B : Nat} {a : Cds} (ha : isE true B a) : isE true B (a ++ [(10, 0)]) := by
  intro f l' st P h0 hl hz
  rw [List.append_assoc]
  refine ha f _ st P h0 hl (fun x hx => ?_)
  obtain ⟨r, e1, e2⟩ := hz (1 - x) (fun _ => by
    rcases hx rfl with rfl | rfl
    · exact Or.inr rfl
    · exact Or.inl rfl)
  exact ⟨r, Or.inr (Or.inr (Or.inr (Or.inl ⟨rfl, rfl, x, st, rfl, e1⟩))), e2⟩
theorem gon_skip (f : Nat → Int32) (l' : Cds) (st : List Int32) (r : Option Int32) : ∀ c : Cds, gon f (c ++ l') c.length st r = gon f l' 0 st r
  | [] => rfl
  | x :: c => by
    show gon f (x :: (c ++ l')) (c.length + 1) st r = _
    exact gon_skip f l' st r c
theorem isE_jmp {k B1 B2 B : Nat} {a c : Cds} (hk : k = 11 ∨ k = 12) (ha : isE true B1 a) (hc : isE true B2 c) (hb1 : B1 ≤ B) (hb2 : B2 ≤ B) : isE true B (a ++ (k, c.length) :: c) := by
  intro f l' st P h0 hl hz
  rw [List.append_assoc]
  refine ha f _ st P h0 (by omega) (fun x hx => ?_)
  have hlen : c.length ≤ (c ++ l').length := by rw [List.length_append]; omega
  obtain ⟨r1, e1, e2⟩ := hz x hx
  obtain ⟨r2, e3, e4⟩ := hc f l' st P h0 (by omega) hz
  have e1' : gon f (c ++ l') c.length (x :: st) r1 := by rw [gon_skip]; exact e1
  rcases hk with rfl | rfl
  · rcases hx rfl with rfl | rfl
    · exact ⟨r1, Or.inr (Or.inr (Or.inr (Or.inr (Or.inl ⟨rfl, hlen, 0, st, rfl, Or.inl ⟨rfl, e1'⟩⟩)))), e2⟩
    · exact ⟨r2, Or.inr (Or.inr (Or.inr (Or.inr (Or.inl ⟨rfl, hlen, 1, st, rfl, Or.inr ⟨rfl, e3⟩⟩)))), e4⟩
  · rcases hx rfl with rfl | rfl
    · exact ⟨r2, Or.inr (Or.inr (Or.inr (Or.inr (Or.inr ⟨rfl, hlen, 0, st, rfl, Or.inr ⟨rfl, e3⟩⟩)))), e4⟩
    · exact ⟨r1, Or.inr (Or.inr (Or.inr (Or.inr (Or.inr ⟨rfl, hlen, 1, st, rfl, Or.inl ⟨rfl, e1'⟩⟩)))), e2⟩
def ofE (t : Bool) (B : Nat) (r : PR) : Prop := ∀ z, r = .inr z → isE t B z.2
section
variable {ch : Nat → Nat}
theorem pNum_E : ∀ (k a v : Nat), k ≤ 5 → v < 10 ^ (5 - k) → ofE false 1 (pNum ch k a v)
  | 0, a, v, hk, hv, z, e => by
    unfold pNum at e
    split at e
    · cases e
    · have e := Sum.inr.inj e
      subst e
      exact isE_num hv
  | k + 1, a, v, hk, hv, z, e => by
    unfold pNum at e
    split at e
    · rename_i hd
      refine pNum_E k (a + 1) _ (by omega) ?_ z e
      have h1 : 5 - k = 5 - (k + 1) + 1 := by omega
      rw [h1, Nat.pow_succ]
      unfold dg at hd
      rw [Bool.and_eq_true, decide_eq_true_eq, decide_eq_true_eq] at hd
      omega
    · have e := Sum.inr.inj e
      subst e
      refine isE_num (Nat.lt_of_lt_of_le hv ?_)
      exact Nat.le_trans (Nat.pow_le_pow_right (by decide) (show 5 - (k + 1) ≤ 5 by omega)) (by decide)
theorem pFacB_E {B : Nat} (hB : 1 ≤ B) {inner : Option (Nat → PR)} (hi : ∀ f, inner = some f → ∀ a, ofE false B (f a)) (a : Nat) : ofE false B (pFacB ch inner a) := by
  intro z e
  unfold pFacB at e
  split at e
  · cases inner with
    | none => cases e
    | some f =>
      dsimp only at e
      cases e2 : f (a + 1) with
      | inl y => rw [e2] at e; cases e
      | inr y =>
        rw [e2] at e
        dsimp only at e
        split at e
        · have e := Sum.inr.inj e
          subst e
          exact hi f rfl (a + 1) y e2
        · cases e
  · split at e
    · exact isE_mono (pNum_E 5 a 0 (Nat.le_refl _) (by decide) z e) hB
    · split at e
      · rename_i h
        have e := Sum.inr.inj e
        subst e
        exact isE_mono (isE_let h) hB
      · cases e
def sumS (B : Nat) (k : Nat) (acc : Cds) : Prop := (k = 0 ∧ isE false (B + 1) acc) ∨ ((k = 2 ∨ k = 3) ∧ ∃ S T, acc = S ++ T ∧ isE false (B + 2) S ∧ isE false (B + 1) T)
theorem mulK_in {x : Nat} (h : mulK x ≠ 0) : 4 ≤ mulK x ∧ mulK x ≤ 6 := by
  unfold mulK at *
  split
  · decide
  · split
    · decide
    · split
      · decide
      · rename_i h1 h2 h3
        rw [if_neg h1, if_neg h2, if_neg h3] at h
        exact absurd rfl h
theorem addK_in {x : Nat} (h : addK x ≠ 0) : addK x = 2 ∨ addK x = 3 := by
  unfold addK at *
  split
  · exact Or.inl rfl
  · split
    · exact Or.inr rfl
    · rename_i h1 h2
      rw [if_neg h1, if_neg h2] at h
      exact absurd rfl h
theorem relK_in {x : Nat} (h : relK x ≠ 0) : 7 ≤ relK x ∧ relK x ≤ 9 := by
  unfold relK at *
  split
  · decide
  · split
    · decide
    · split
      · decide
      · rename_i h1 h2 h3
        rw [if_neg h1, if_neg h2, if_neg h3] at h
        exact absurd rfl h
theorem sum_end {B k : Nat} {acc : Cds} (h : sumS B k acc) : isE false (B + 2) (acc ++ wl k) := by
  rcases h with ⟨rfl, h⟩ | ⟨hk, S, T, rfl, h1, h2⟩
  · show isE false (B + 2) (acc ++ [])
    rw [List.append_nil]
    exact isE_mono h (by omega)
  · have e : wl k = [(k, 0)] := by rcases hk with rfl | rfl <;> rfl
    rw [e]
    exact isE_op (by omega) (by omega) false (fun q => by cases q) h1 h2 (Nat.le_refl _) (by omega)
theorem pSumL_E {B : Nat} {fac : Nat → PR} (hf : ∀ a, ofE false B (fac a)) : ∀ (n a : Nat) (acc : Cds) (k : Nat), sumS B k acc → ofE false (B + 2) (pSumL ch fac n a acc k)
  | 0, a, acc, k, h, z, e => by cases e
  | n + 1, a, acc, k, h, z, e => by
    unfold pSumL at e
    split at e
    · rename_i hm
      obtain ⟨m1, m2⟩ := mulK_in hm
      cases e2 : fac (a + 1) with
      | inl y => rw [e2] at e; cases e
      | inr y =>
        rw [e2] at e
        have hl := hf (a + 1) y e2
        refine pSumL_E hf n y.1 _ k ?_ z e
        rcases h with ⟨rfl, h⟩ | ⟨hk, S, T, rfl, h1, h2⟩
        · exact Or.inl ⟨rfl, isE_op (by omega) (by omega) false (fun q => by cases q) h hl (Nat.le_refl _) (Nat.le_refl _)⟩
        · exact Or.inr ⟨hk, S, T ++ y.2 ++ [(mulK (ch a), 0)], by simp [List.append_assoc], h1, isE_op (by omega) (by omega) false (fun q => by cases q) h2 hl (Nat.le_refl _) (Nat.le_refl _)⟩
    · split at e
      · rename_i hm
        have hk2 := addK_in hm
        cases e2 : fac (a + 1) with
        | inl y => rw [e2] at e; cases e
        | inr y =>
          rw [e2] at e
          have hl := hf (a + 1) y e2
          refine pSumL_E hf n y.1 _ _ ?_ z e
          exact Or.inr ⟨hk2, acc ++ wl k, y.2, rfl, sum_end h, isE_mono hl (by omega)⟩
      · have e := Sum.inr.inj e
        subst e
        exact sum_end h
theorem pSumB_E {B : Nat} {fac : Nat → PR} (hf : ∀ a, ofE false B (fac a)) (a : Nat) : ofE false (B + 2) (pSumB ch fac a) := by
  intro z e
  unfold pSumB at e
  cases e2 : fac a with
  | inl y => rw [e2] at e; cases e
  | inr y =>
    rw [e2] at e
    exact pSumL_E hf 300 y.1 y.2 0 (Or.inl ⟨rfl, isE_mono (hf a y e2) (by omega)⟩) z e
theorem pFacs_E : ∀ (e a : Nat), ofE false (1 + 2 * e) (pFacs ch e a)
  | 0, a => pFacB_E (by decide) (fun f q => by cases q) a
  | e + 1, a => pFacB_E (by omega) (fun f q a => by
      have q := Option.some.inj q
      subst q
      have := pSumB_E (ch := ch) (fun a => pFacs_E e a) a
      rw [show 1 + 2 * e + 2 = 1 + 2 * (e + 1) by omega] at this
      exact this) a
theorem pSum_E (e a : Nat) : ofE false (3 + 2 * e) (pSum ch e a) := by
  have := pSumB_E (ch := ch) (fac := pFacs ch e) (fun a => pFacs_E e a) a
  rw [show 1 + 2 * e + 2 = 3 + 2 * e by omega] at this
  exact this
theorem pCmp_E {B : Nat} {sum : Nat → PR} (hf : ∀ a, ofE false B (sum a)) (a : Nat) : ofE true (B + 1) (pCmp ch sum a) := by
  intro z e
  unfold pCmp at e
  cases e2 : sum a with
  | inl y => rw [e2] at e; cases e
  | inr y =>
    rw [e2] at e
    dsimp only at e
    split at e
    · cases e
    · rename_i hm
      obtain ⟨m1, m2⟩ := relK_in hm
      cases e3 : sum (y.1 + 1) with
      | inl x => rw [e3] at e; cases e
      | inr x =>
        rw [e3] at e
        have e := Sum.inr.inj e
        subst e
        exact isE_op (by omega) m2 true (fun _ => m1) (hf a y e2) (hf _ x e3) (by omega) (Nat.le_refl _)
theorem pTstB_E {B : Nat} {sum : Nat → PR} (hf : ∀ a, ofE false B (sum a)) (hB : B + 1 ≤ 20) {inner : Option ((Nat → PR) × (Nat → PR))} (hi : ∀ f, inner = some f → ∀ a, ofE true 20 (f.1 a) ∧ ofE true 20 (f.2 a)) (a : Nat) : ofE true 20 (pTstB ch sum inner a) := by
  intro z e
  unfold pTstB at e
  split at e
  · cases inner with
    | none => cases e
    | some f =>
      dsimp only at e
      cases e2 : f.1 (a + 1) with
      | inl y => rw [e2] at e; cases e
      | inr y =>
        rw [e2] at e
        have e := Sum.inr.inj e
        subst e
        exact isE_neg ((hi f rfl (a + 1)).1 y e2)
  · split at e
    · cases inner with
      | none => cases e
      | some f =>
        dsimp only at e
        cases e2 : f.2 (a + 1) with
        | inl y => rw [e2] at e; cases e
        | inr y =>
          rw [e2] at e
          dsimp only at e
          split at e
          · have e := Sum.inr.inj e
            subst e
            exact (hi f rfl (a + 1)).2 y e2
          · cases e
    · exact isE_mono (pCmp_E hf a z e) hB
theorem jnd_E {k : Nat} (hk : k = 11 ∨ k = 12) {o : Option Cds} {C : Cds} (ho : ∀ B, o = some B → isE true 20 B) (hC : isE true 20 C) : isE true 20 (jnd k o C) := by
  cases o with
  | none => exact hC
  | some B => exact isE_jmp hk (ho B rfl) hC (Nat.le_refl _) (Nat.le_refl _)
theorem pSomL_E {tst : Nat → PR} (hf : ∀ a, ofE true 20 (tst a)) : ∀ (n a : Nat) (oA oB : Option Cds) (C : Cds), (∀ B, oA = some B → isE true 20 B) → (∀ B, oB = some B → isE true 20 B) → isE true 20 C → ofE true 20 (pSomL ch tst n a oA oB C)
  | 0, a, oA, oB, C, h1, h2, h3, z, e => by cases e
  | n + 1, a, oA, oB, C, h1, h2, h3, z, e => by
    unfold pSomL at e
    split at e
    · cases e2 : tst (a + 1) with
      | inl y => rw [e2] at e; cases e
      | inr y =>
        rw [e2] at e
        exact pSomL_E hf n y.1 oA _ y.2 h1 (fun B q => by rw [← Option.some.inj q]; exact jnd_E (Or.inl rfl) h2 h3) (hf _ y e2) z e
    · split at e
      · cases e2 : tst (a + 1) with
        | inl y => rw [e2] at e; cases e
        | inr y =>
          rw [e2] at e
          exact pSomL_E hf n y.1 _ none y.2 (fun B q => by rw [← Option.some.inj q]; exact jnd_E (Or.inr rfl) h1 (jnd_E (Or.inl rfl) h2 h3)) (fun B q => by cases q) (hf _ y e2) z e
      · have e := Sum.inr.inj e
        subst e
        exact jnd_E (Or.inr rfl) h1 (jnd_E (Or.inl rfl) h2 h3)
theorem pSomB_E {tst : Nat → PR} (hf : ∀ a, ofE true 20 (tst a)) (a : Nat) : ofE true 20 (pSomB ch tst a) := by
  intro z e
  unfold pSomB at e
  cases e2 : tst a with
  | inl y => rw [e2] at e; cases e
  | inr y =>
    rw [e2] at e
    exact pSomL_E hf 300 y.1 none none y.2 (fun B q => by cases q) (fun B q => by cases q) (hf a y e2) z e
theorem pTsts_E : ∀ (e a : Nat), e ≤ 6 → ofE true 20 (pTsts ch e a)
  | 0, a, he => pTstB_E (fun a => pSum_E 0 a) (by decide) (fun f q => by cases q) a
  | e + 1, a, he => pTstB_E (fun a => pSum_E (e + 1) a) (by omega) (fun f q a => by
      have q := Option.some.inj q
      subst q
      exact ⟨pTsts_E e a (by omega), pSomB_E (fun a => pTsts_E e a (by omega)) a⟩) a
theorem pSom_E {e : Nat} (he : e ≤ 6) (a : Nat) : ofE true 20 (pSom ch e a) := pSomB_E (fun a => pTsts_E e a he) a
/-- a rule that is read makes sense -/
def okRul (r : Rul) : Prop := (r.1 = 100 ∨ r.1 = 103 ∨ r.1 = 120) ∧ (r.1 ≠ 120 → ∀ f, ∃ x, gon f r.2.1 0 [] x) ∧ ∀ f, ∃ x, gon f r.2.2 0 [] x ∧ (x = none ∨ x = some 0 ∨ x = some 1)
theorem pRule_E {a : Nat} (hk : isKd (ch a) = true) {z : Nat × Rul} (e : pRule ch a = .inr z) : okRul z.2 ∧ z.2.1 = ch a ∧ (ch a = 120 → z.2.2.1 = []) := by
  unfold pRule at e
  have hkd : ch a = 100 ∨ ch a = 103 ∨ ch a = 120 := by
    unfold isKd at hk
    rw [Bool.or_eq_true, Bool.or_eq_true, beq_iff_eq, beq_iff_eq, beq_iff_eq] at hk
    omega
  have hW : ∀ y, (if ch a = 120 then (.inr (a + 1, []) : PR) else pSum ch 6 (a + 1)) = .inr y → (ch a ≠ 120 → isE false 15 y.2) ∧ (ch a = 120 → y.2 = []) := by
    intro y ey
    by_cases q : ch a = 120
    · rw [if_pos q] at ey
      have ey := Sum.inr.inj ey
      subst ey
      exact ⟨fun z => absurd q z, fun _ => rfl⟩
    · rw [if_neg q] at ey
      exact ⟨fun _ => pSum_E 6 (a + 1) y ey, fun z => absurd z q⟩
  cases e1 : (if ch a = 120 then (.inr (a + 1, []) : PR) else pSum ch 6 (a + 1)) with
  | inl y => rw [e1] at e; cases e
  | inr y =>
    obtain ⟨w1, w2⟩ := hW y e1
    rw [e1] at e
    dsimp only at e
    split at e
    · cases e2 : pSom ch 5 (y.1 + 1) with
      | inl x => rw [e2] at e; cases e
      | inr x =>
        rw [e2] at e
        dsimp only at e
        split at e
        · have e := Sum.inr.inj e
          subst e
          refine ⟨⟨hkd, fun q f => ?_, fun f => ?_⟩, rfl, w2⟩
          · obtain ⟨r, h1, _⟩ := w1 q f [] [] (fun _ => True) trivial (by decide) (fun z _ => ⟨some z, ⟨z, rfl, rfl⟩, trivial⟩)
            rw [List.append_nil] at h1
            exact ⟨r, h1⟩
          · obtain ⟨r, h1, h2⟩ := pSom_E (by decide) (y.1 + 1) x e2 f [] [] (fun x => x = none ∨ x = some 0 ∨ x = some 1) (Or.inl rfl) (by decide) (fun z hz => ⟨some z, ⟨z, rfl, rfl⟩, by
              rcases hz rfl with rfl | rfl
              · exact Or.inr (Or.inl rfl)
              · exact Or.inr (Or.inr rfl)⟩)
            rw [List.append_nil] at h1
            exact ⟨r, h1, h2⟩
        · cases e
    · cases e
end
