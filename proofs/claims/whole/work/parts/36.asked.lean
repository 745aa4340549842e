/-! calls: asked, questions -/
def lf (w : WD) (f g s : Nat) : Bool := WF w s && decide (((s ^^^ g) &&& f) = 0)
theorem agree_iff (s g f : Nat) (hf : f < 1024) : ((s ^^^ g) &&& f) = 0 ↔ ∀ i, i < 10 → f.testBit i = true → s.testBit i = g.testBit i := by
  constructor
  · intro h i _ hb
    have := congrArg (fun n => n.testBit i) h
    simp only [Nat.testBit_and, Nat.testBit_xor, hb, Bool.and_true, Nat.zero_testBit] at this
    cases h1 : s.testBit i <;> cases h2 : g.testBit i <;> simp_all
  · intro h
    apply Nat.eq_of_testBit_eq
    intro i
    rw [Nat.testBit_and, Nat.testBit_xor, Nat.zero_testBit]
    by_cases hi : i < 10
    · cases hb : f.testBit i with
      | false => rw [Bool.and_false]
      | true => rw [h i hi hb, Bool.xor_self, Bool.false_and]
    · rw [Nat.testBit_lt_two_pow (Nat.lt_of_lt_of_le hf (Nat.pow_le_pow_right (n := 2) (by decide) (show 10 ≤ i by omega))), Bool.and_false]
theorem or_lt {f i : Nat} (hf : f < 1024) (hi : i < 10) : f ||| 2 ^ i < 1024 := Nat.or_lt_two_pow (n := 10) hf (p2_lt hi)
/-- one more fact told -/
theorem agree_add {s g f i : Nat} (so : Bool) (hf : f < 1024) (hi : i < 10) (hfi : f.testBit i = false) (hgi : g.testBit i = false) : decide (((s ^^^ (if so then g ||| 2 ^ i else g)) &&& (f ||| 2 ^ i)) = 0) = (decide (((s ^^^ g) &&& f) = 0) && (s.testBit i == so)) := by
  rw [Bool.eq_iff_iff, Bool.and_eq_true, decide_eq_true_eq, decide_eq_true_eq, agree_iff _ _ _ (or_lt hf hi), agree_iff _ _ _ hf]
  have hb : ∀ k, (if so then g ||| 2 ^ i else g).testBit k = (g.testBit k || (decide (k = i) && so)) := fun k => by
    cases so
    · simp
    · rw [if_pos rfl, fb_bit_set, Bool.and_true]
  constructor
  · intro h
    refine ⟨fun k hk q => ?_, ?_⟩
    · have := h k hk (by rw [fb_bit_set, q, Bool.true_or])
      rw [hb] at this
      rw [this]
      have : k ≠ i := fun e => by rw [e, hfi] at q; cases q
      rw [decide_eq_false this, Bool.false_and, Bool.or_false]
    · have := h i hi (by rw [fb_bit_set, decide_eq_true rfl, Bool.or_true])
      rw [hb, hgi, decide_eq_true rfl, Bool.true_and, Bool.false_or] at this
      rw [this]
      exact beq_self_eq_true so
  · rintro ⟨h1, h2⟩ k hk q
    rw [fb_bit_set] at q
    rw [hb]
    by_cases e : k = i
    · subst e
      rw [hgi, decide_eq_true rfl, Bool.true_and, Bool.false_or]
      exact eq_of_beq h2
    · rw [decide_eq_false e, Bool.or_false] at q
      rw [h1 k hk q, decide_eq_false e, Bool.false_and, Bool.or_false]
theorem lf_add (w : WD) {s g f i : Nat} (so : Bool) (hf : f < 1024) (hi : i < 10) (hfi : f.testBit i = false) (hgi : g.testBit i = false) : lf w (f ||| 2 ^ i) (if so then g ||| 2 ^ i else g) s = (lf w f g s && (s.testBit i == so)) := by
  unfold lf
  rw [agree_add so hf hi hfi hgi, Bool.and_assoc]
theorem mod_or : ∀ f, f < 1024 → ∀ i, i < 10 → f % 2 ^ (i + 1) = if f.testBit i then (f % 2 ^ i) ||| 2 ^ i else f % 2 ^ i := by decide +kernel
/-- the fact that tells most -/
def qM (p : Nat → Bool) (i : Nat) : Nat := max (fb_ct (fun s => p s && s.testBit i) 1024) (fb_ct p 1024 - fb_ct (fun s => p s && s.testBit i) 1024)
def qst (p : Nat → Bool) (f i : Nat) (a : Int32 × Int32) : Int32 × Int32 := if f.testBit i then a else if a.2 ≤ nI (qM p i) then a else (nI i, nI (qM p i))
theorem qst_t {p : Nat → Bool} {f i : Nat} {a : Int32 × Int32} (h : f.testBit i = true) : qst p f i a = a := by unfold qst; rw [if_pos h]
theorem qst_le {p : Nat → Bool} {f i : Nat} {a : Int32 × Int32} (h : f.testBit i = false) (h2 : a.2 ≤ nI (qM p i)) : qst p f i a = a := by unfold qst; rw [h, if_neg (by decide), if_pos h2]
theorem qst_gt {p : Nat → Bool} {f i : Nat} {a : Int32 × Int32} (h : f.testBit i = false) (h2 : ¬ a.2 ≤ nI (qM p i)) : qst p f i a = (nI i, nI (qM p i)) := by unfold qst; rw [h, if_neg (by decide), if_neg h2]
def nq (p : Nat → Bool) (f : Nat) : Int32 := (fld (qst p f) 10 (-2, nI (fb_ct p 1024))).1
theorem nq_cong {p q : Nat → Bool} (h : ∀ s, s < 1024 → p s = q s) (f : Nat) : nq p f = nq q f := by
  have e1 : ∀ i, qM p i = qM q i := fun i => by
    unfold qM
    rw [fb_ct_cong h, fb_ct_cong (p := fun s => p s && s.testBit i) (q := fun s => q s && s.testBit i) (fun s hs => by rw [h s hs])]
  have e2 : qst p f = qst q f := by
    funext i a
    unfold qst
    rw [e1]
  unfold nq
  rw [e2, fb_ct_cong h]
theorem nq_or (p : Nat → Bool) (f : Nat) : nq p f = -2 ∨ ∃ i, i < 10 ∧ f.testBit i = false ∧ nq p f = nI i := by
  have key : ∀ n, n ≤ 10 → (fld (qst p f) n (-2, nI (fb_ct p 1024))).1 = -2 ∨ ∃ i, i < n ∧ f.testBit i = false ∧ (fld (qst p f) n (-2, nI (fb_ct p 1024))).1 = nI i := by
    intro n
    induction n with
    | zero => exact fun _ => Or.inl rfl
    | succ n ih =>
      intro hn
      show (qst p f n (fld (qst p f) n _)).1 = -2 ∨ ∃ i, i < n + 1 ∧ f.testBit i = false ∧ (qst p f n (fld (qst p f) n _)).1 = nI i
      have keep : (qst p f n (fld (qst p f) n (-2, nI (fb_ct p 1024)))) = fld (qst p f) n (-2, nI (fb_ct p 1024)) → (qst p f n (fld (qst p f) n (-2, nI (fb_ct p 1024)))).1 = -2 ∨ ∃ i, i < n + 1 ∧ f.testBit i = false ∧ (qst p f n (fld (qst p f) n (-2, nI (fb_ct p 1024)))).1 = nI i := fun e => by
        rw [e]
        rcases ih (by omega) with g | ⟨i, hi, g1, g2⟩
        · exact Or.inl g
        · exact Or.inr ⟨i, by omega, g1, g2⟩
      by_cases hb : f.testBit n = true
      · exact keep (by unfold qst; rw [if_pos hb])
      · by_cases hl : (fld (qst p f) n (-2, nI (fb_ct p 1024))).2 ≤ nI (qM p n)
        · exact keep (by unfold qst; rw [if_neg hb]; exact if_pos hl)
        · refine Or.inr ⟨n, by omega, by cases g : f.testBit n with
            | true => exact absurd g hb
            | false => rfl, ?_⟩
          unfold qst
          rw [if_neg hb]
          exact congrArg Prod.fst (if_neg hl)
  rcases key 10 (Nat.le_refl 10) with g | ⟨i, hi, g1, g2⟩
  · exact Or.inl g
  · exact Or.inr ⟨i, hi, g1, g2⟩
theorem qM_le (p : Nat → Bool) (i : Nat) : qM p i ≤ 1024 := by
  have h1 := fb_ct_le (fun s => p s && s.testBit i) 1024
  have h2 := fb_ct_le p 1024
  unfold qM
  omega
section
variable {RL : WD → Prop} {b : Nat} {w : WD}
theorem isLeft_mk (h : bo (w.2.1 81) 1024) {s f g : Nat} (hs : s < 1024) (hf : f < 1024) (hg : g < 1024) : FX12_isLeft (mk b w) (b + 77) (nI s) (nI f) (nI g) = some (if lf w f g s then 1 else 0) := by
  unfold FX12_isLeft lf
  have hx : (s ^^^ g) &&& f < 1024 := Nat.lt_of_le_of_lt Nat.and_le_right hf
  rw [gR_12_77_3, Option.bind_some, rdF h hs, Option.bind_some, fb_xorI, fa_and, bite]
  by_cases q : ((s ^^^ g) &&& f) = 0
  · rw [q, if_pos (show nI 0 = 0 from rfl), decide_eq_true rfl, Bool.and_true]
    cases WF w s <;> rfl
  · rw [if_neg (nI_ne0 (by omega) (by omega)), decide_eq_false q, Bool.and_false]
    cases WF w s <;> rfl
theorem leftBy_mk (h : bo (w.2.1 81) 1024) {f g : Nat} (hf : f < 1024) (hg : g < 1024) : FX12_leftBy (mk b w) (b + 77) (nI f) (nI g) = some (nI (fb_ct (lf w f g) 1024)) := by
  unfold FX12_leftBy
  refine lpb_ct (lf w f g) 1024 (by decide) (fun s hs a => ?_) (fun a => by rfl) (by rfl)
  try dsimp only
  rw [if_neg (Lnle hs), rc_12_77, isLeft_mk h hs hf hg, Option.bind_some, bite]
  simp only [vl_eq, nI_1]
  cases lf w f g s <;> rfl
theorem nextFact_mk (h : bo (w.2.1 81) 1024) {f g : Nat} (hf : f < 1024) (hg : g < 1024) : FX12_nextFact (mk b w) (b + 77) (nI f) (nI g) = some (nq (lf w f g) f) := by
  unfold FX12_nextFact nq
  rw [rc_12_77, leftBy_mk h hf hg, Option.bind_some]
  refine lpb_for (fun i => ((fld (qst (lf w f g) f) i (-2, nI (fb_ct (lf w f g) 1024))).1, (fld (qst (lf w f g) f) i (-2, nI (fb_ct (lf w f g) 1024))).2, nI i)) _ 10 (by rfl) (by decide) (fun i hi => ?_) (by rfl) (by rfl)
  try dsimp only
  generalize hA : fld (qst (lf w f g) f) i (-2, nI (fb_ct (lf w f g) 1024)) = A
  have e1 : fld (qst (lf w f g) f) (i + 1) (-2, nI (fb_ct (lf w f g) 1024)) = qst (lf w f g) f i A := by rw [← hA]; rfl
  rw [e1, if_neg (Lnle hi), has_eq _ (by omega), bt_nI _ (by omega), Option.bind_some, bite, vl_eq, nI_1]
  cases hb : f.testBit i with
  | true =>
    rw [if_pos rfl, qst_t hb]
  | false =>
    rw [if_neg (by decide), shl1 i (by omega), fa_or, fa_or, rc_12_77, leftBy_mk h (or_lt hf hi) (or_lt hg hi), Option.bind_some]
    have ec : fb_ct (lf w (f ||| 2 ^ i) (g ||| 2 ^ i)) 1024 = fb_ct (fun s => lf w f g s && s.testBit i) 1024 := fb_ct_cong (fun s hs => by
      have hz : ∀ k, k ≠ i → (g ||| 2 ^ i).testBit k = g.testBit k := fun k hk => by rw [fb_bit_set, decide_eq_false hk, Bool.or_false]
      unfold lf
      rw [Bool.and_assoc]
      congr 1
      rw [Bool.eq_iff_iff, Bool.and_eq_true, decide_eq_true_eq, decide_eq_true_eq, agree_iff _ _ _ (or_lt hf hi), agree_iff _ _ _ hf]
      constructor
      · intro q
        refine ⟨fun k hk q2 => ?_, ?_⟩
        · have := q k hk (by rw [fb_bit_set, q2, Bool.true_or])
          rw [hz k (fun e => by rw [e, hb] at q2; cases q2)] at this
          exact this
        · have := q i hi (by rw [fb_bit_set, decide_eq_true rfl, Bool.or_true])
          rw [fb_bit_set, decide_eq_true rfl, Bool.or_true] at this
          exact this
      · rintro ⟨q1, q2⟩ k hk q3
        by_cases e : k = i
        · subst e
          rw [q2, fb_bit_set, decide_eq_true rfl, Bool.or_true]
        · rw [hz k e]
          rw [fb_bit_set, decide_eq_false e, Bool.or_false] at q3
          exact q1 k hk q3)
    have c1 := fb_ct_le (fun s => lf w f g s && s.testBit i) 1024
    have c2 := fb_ct_le (lf w f g) 1024
    have c3 : fb_ct (fun s => lf w f g s && s.testBit i) 1024 ≤ fb_ct (lf w f g) 1024 := fb_ct_sub (fun s _ q => by cases g : lf w f _ s with
      | true => rfl
      | false => rw [g] at q; cases q)
    have c4 := qM_le (lf w f g) i
    rw [ec, pk_sub c3, mx_max, mx_nI (by omega) (by omega), Option.bind_some]
    show (if nI (qM (lf w f g) i) < A.2 then _ else _) = _
    by_cases q : A.2 ≤ nI (qM (lf w f g) i)
    · rw [qst_le hb q, if_neg]
      rw [fa_le] at q
      rw [fa_lt]
      omega
    · rw [qst_gt hb q, if_pos (fa_of_nle q), vl_eq]
      rfl
theorem nextQ_mk {p : Nat → Bool} (ht : ∀ s, s < 1024 → tb (w.2.2.1 32) s = p s) (f : Nat) : FX11_nextQuestion (mk b w) (b + 0) (nI f) = some (nq p f) := by
  unfold FX11_nextQuestion nq
  have cA : fb_ct (tb (w.2.2.1 32)) 1024 = fb_ct p 1024 := fb_ct_cong ht
  rw [gR_11_0_7, Option.bind_some, size_mk okCh, Option.bind_some, cA]
  refine lpb_for (fun i => ((fld (qst p f) i (-2, nI (fb_ct p 1024))).1, (fld (qst p f) i (-2, nI (fb_ct p 1024))).2, nI i)) _ 10 (by rfl) (by decide) (fun i hi => ?_) (by rfl) (by rfl)
  try dsimp only
  generalize hA : fld (qst p f) i (-2, nI (fb_ct p 1024)) = A
  have e1 : fld (qst p f) (i + 1) (-2, nI (fb_ct p 1024)) = qst p f i A := by rw [← hA]; rfl
  have cB : fb_ct (fun s => tb (w.2.2.1 32) s && s.testBit i) 1024 = fb_ct (fun s => p s && s.testBit i) 1024 := fb_ct_cong (fun s hs => by rw [ht s hs])
  rw [e1, if_neg (Lnle hi), bit_nI _ (by omega), bite, Option.bind_some, sizeW_mk okCh hi, Option.bind_some, cB]
  have c1 := fb_ct_le (fun s => p s && s.testBit i) 1024
  have c2 := fb_ct_le p 1024
  have c3 : fb_ct (fun s => p s && s.testBit i) 1024 ≤ fb_ct p 1024 := fb_ct_sub (fun s _ q => by cases g : p s with
    | true => rfl
    | false => rw [g] at q; cases q)
  have c4 := qM_le p i
  rw [pk_sub c3, mx_nI (by omega) (by omega)]
  simp only [vl_eq, nI_1]
  show (if f.testBit i = true then some (Sum.inr (A.1, A.2, nI (i + 1))) else if A.2 ≤ nI (qM p i) then _ else _) = _
  cases hb : f.testBit i with
  | true => rw [qst_t hb]; rfl
  | false =>
    rw [if_neg (show ¬ false = true by decide)]
    by_cases q : A.2 ≤ nI (qM p i)
    · rw [if_pos q, qst_le hb q]
    · rw [if_neg q, qst_gt hb q]
      rfl
/-- the class gathers what is left -/
theorem gatherA_mk (h : Rel RL w) {f g : Nat} (hf : f < 1024) : ∃ t, FX11_gatherAsked (mk b w) (b + 0) (nI f) (nI g) = some (mk b (uL w 32 t)) ∧ ∀ s, s < 1024 → tb t s = lf w f g s := by
  have main : ∃ r, FX11_gatherAsked (mk b w) (b + 0) (nI f) (nI g) = some r ∧ ∃ t, r = mk b (uL w 32 t) ∧ ∀ s, s < 1024 → tb t s = lf w f g s := by
    unfold FX11_gatherAsked
    rw [gR_11_0_5, Option.bind_some, gR_11_0_7, Option.bind_some, cpL_mk okF okCh, Option.bind_some]
    refine lpb_inv (fun i s => ∃ t, s = (nI i, mk b (uL w 32 t)) ∧ ∀ s, s < 1024 → tb t s = lf w (f % 2 ^ i) g s) _ 10 (by decide) ⟨_, rfl, fun s hs => ?_⟩ (fun i hi st hI => ?_) (fun st hI => ?_)
    · have e : tb (va_cpy (w.2.2.1 30) (w.2.2.1 32) 0 0 16) s = tb (w.2.2.1 30) s := by
        unfold tb
        rw [sb_cpy0' (by omega)]
      rw [e, h.tF hs]
      unfold lf
      rw [Nat.pow_zero, Nat.mod_one, Nat.and_zero, decide_eq_true rfl, Bool.and_true]
    · obtain ⟨t, rfl, ht⟩ := hI
      try dsimp only
      rw [if_neg (Lnle hi), bit_nI _ (by omega), bit_nI _ (by omega), bite, vl_eq, nI_1, gR_11_0_7, Option.bind_some, jn_eq, bite]
      have hm : f % 2 ^ i < 2 ^ i := Nat.mod_lt _ (Nat.two_pow_pos i)
      have hfi : (f % 2 ^ i).testBit i = false := Nat.testBit_lt_two_pow hm
      cases hb : f.testBit i with
      | false =>
        refine ⟨_, rfl, t, rfl, fun s hs => ?_⟩
        rw [ht s hs, mod_or f hf i hi, hb, if_neg (by decide)]
      | true =>
        obtain ⟨t2, e2, e3⟩ := narrow_mk (b := b) (w := uL w 32 t) okCh hi (g.testBit i)
        rw [uL_uL] at e2
        refine ⟨(nI (i + 1), mk b (uL w 32 t2)), ?_, t2, rfl, fun s hs => ?_⟩
        · cases hg : g.testBit i with
          | false =>
            rw [hg] at e2
            rw [if_pos rfl, if_neg (by decide)]
            show (FX7_narrow (mk b (uL w 32 t)) (b + 32) (nI i) 0).bind _ = _
            rw [show FX7_narrow (mk b (uL w 32 t)) (b + 32) (nI i) 0 = _ from e2]
            rfl
          | true =>
            rw [hg] at e2
            rw [if_pos rfl, if_pos rfl]
            show (FX7_narrow (mk b (uL w 32 t)) (b + 32) (nI i) 1).bind _ = _
            rw [show FX7_narrow (mk b (uL w 32 t)) (b + 32) (nI i) 1 = _ from e2]
            rfl
        · rw [e3 s hs, uL_at, ht s hs, mod_or f hf i hi, hb, if_pos rfl]
          unfold lf
          rw [Bool.and_assoc]
          congr 1
          have h2 : f % 2 ^ i < 1024 := Nat.lt_of_le_of_lt (Nat.mod_le _ _) hf
          rw [Bool.eq_iff_iff, Bool.and_eq_true, decide_eq_true_eq, decide_eq_true_eq, agree_iff _ _ _ (or_lt h2 hi), agree_iff _ _ _ h2]
          constructor
          · rintro ⟨q1, q2⟩ k hk q3
            by_cases e : k = i
            · subst e
              exact eq_of_beq q2
            · rw [fb_bit_set, decide_eq_false e, Bool.or_false] at q3
              exact q1 k hk q3
          · intro q
            refine ⟨fun k hk q2 => q k hk (by rw [fb_bit_set, q2, Bool.true_or]), ?_⟩
            rw [q i hi (by rw [fb_bit_set, decide_eq_true rfl, Bool.or_true])]
            exact beq_self_eq_true _
    · obtain ⟨t, rfl, ht⟩ := hI
      refine ⟨mk b (uL w 32 t), by rfl, _, rfl, t, rfl, fun s hs => ?_⟩
      rw [ht s hs, Nat.mod_eq_of_lt hf]
  obtain ⟨r, e1, t, rfl, e2⟩ := main
  exact ⟨t, e1, e2⟩
end
