/-! the reference reads formulas -/
def PieM (b : Nat) (w0 : WD) (len : Nat) (ch : Nat → Nat) (e : Nat) : Prop := ∀ (W : WD) (a : Nat) (L : List Nat) (s : List (Nat × Nat)), FS w0 W len a 1 (dep s) L s → a ≤ len → L.length + s.length ≤ a → sgn s → tok s → tok2 s → dep s + e = 6 → match pPies ch e a with
  | .inl z => FailR b w0 W z
  | .inr z => ∃ W', Reach b W W' ∧ FS w0 W' len z.1 0 (dep (epop (L ++ z.2.2) s).2) (epop (L ++ z.2.2) s).1 (epop (L ++ z.2.2) s).2
def ForZ (b : Nat) (w0 : WD) (len : Nat) (ch : Nat → Nat) (L : List Nat) (s : List (Nat × Nat)) (W : WD) (r : FR) : Prop := match r with
  | .inl z => FailR b w0 W z
  | .inr z => ∃ W' L' s', Reach b W W' ∧ FS w0 W' len z.1 0 (dep s) L' s' ∧ lpop 32 L' s' = (L ++ z.2.2, s) ∧ L'.length + s'.length ≤ z.1 ∧ sgn s' ∧ z.1 ≤ len ∧ ch z.1 ≠ 38 ∧ ch z.1 ≠ 94 ∧ ch z.1 ≠ 124
def ForM (b : Nat) (w0 : WD) (len : Nat) (ch : Nat → Nat) (e : Nat) : Prop := ∀ (W : WD) (a : Nat) (L : List Nat) (s : List (Nat × Nat)), FS w0 W len a 1 (dep s) L s → a ≤ len → L.length + s.length ≤ a → sgn s → tok s → tok2 s → bas s → dep s + e = 6 → ForZ b w0 len ch L s W (pFor ch e a)
theorem dep_wtc {k : Nat} (h1 : 30 ≤ k) (h2 : k ≤ 32) (o : Option FV) (s : List (Nat × Nat)) : dep (wtc k o s) = dep s := by
  cases o with
  | none => rfl
  | some y =>
    show (if isB k then 0 else 1) + dep s = _
    have : isB k = true := by
      unfold isB
      rw [decide_eq_true h1, decide_eq_true h2]
      rfl
    rw [if_pos this]
    omega
theorem dep_st3 (oS oO oA : Option FV) (s : List (Nat × Nat)) : dep (st3 oS oO oA s) = dep s := by
  unfold st3
  rw [dep_wtc (by decide) (by decide), dep_wtc (by decide) (by decide), dep_wtc (by decide) (by decide)]
theorem sgn_wtc {k : Nat} (h2 : k < 200) (o : Option FV) {s : List (Nat × Nat)} (h : sgn s) : sgn (wtc k o s) := by
  cases o with
  | none => exact h
  | some y => exact ⟨h2, h⟩
theorem sgn_st3 (oS oO oA : Option FV) {s : List (Nat × Nat)} (h : sgn s) : sgn (st3 oS oO oA s) := sgn_wtc (by decide) _ (sgn_wtc (by decide) _ (sgn_wtc (by decide) _ h))
theorem epop_no {x : Nat × Nat} {s : List (Nat × Nat)} (h : x.1 ≠ 33) (L : List Nat) : epop L (x :: s) = (L, x :: s) := by
  show (if x.1 = 33 then _ else _) = _
  rw [if_neg h]
theorem epop_bas {s : List (Nat × Nat)} (h : bas s) (L : List Nat) : epop L s = (L, s) := by
  cases s with
  | nil => rfl
  | cons x s =>
    have h : 90 ≤ x.1 := h
    exact epop_no (by omega) L
section
variable {b : Nat} {w0 : WD} {len : Nat} {ch : Nat → Nat}
theorem forL_m (hX : TX (w0.2.1 83) len ch) (hl : len ≤ 100) {e : Nat} (hP : PieM b w0 len ch e) {L : List Nat} {s : List (Nat × Nat)} (hs : sgn s) (hb : bas s) (hd : dep s + e = 6) : ∀ (n a : Nat) (oS oO oA : Option FV) (C : FV) (W : WD), FS w0 W len a 0 (dep s) (cd3 L oS oO oA C) (st3 oS oO oA s) → a ≤ len → len < a + n → (cd3 L oS oO oA C).length + (st3 oS oO oA s).length ≤ a → ForZ b w0 len ch L s W (pForL ch (pPies ch e) n a oS oO oA C)
  | 0, a, oS, oO, oA, C, W, h, ha, hn, hc => by omega
  | n + 1, a, oS, oO, oA, C, W, h, ha, hn, hc => by
    by_cases hq : ch a = 38 ∨ ch a = 94 ∨ ch a = 124
    · have hal : a < len := by
        rcases Nat.lt_or_ge a len with q | q
        · exact q
        · rw [hX.2 a q] at hq
          omega
      have hfi := pPies_fine hX.2 e (a + 1) hal
      -- a binary sign, then a piece
      have bin : ∀ (p : Nat) (oS' oO' oA' : Option FV) (L1 : List Nat), ((ch a = 38 ∧ p = 30) ∨ (ch a = 94 ∧ p = 31) ∨ (ch a = 124 ∧ p = 32)) → (lpop p (cd3 L oS oO oA C) (st3 oS oO oA s)).1 = L1 → (p, 1) :: (lpop p (cd3 L oS oO oA C) (st3 oS oO oA s)).2 = st3 oS' oO' oA' s → (∀ x : FV, L1 ++ x.2 = cd3 L oS' oO' oA' x) → (∃ t, st3 oS' oO' oA' s = (p, 1) :: t) → match pPies ch e (a + 1) with
          | .inl z => FailR b w0 W z
          | .inr z => ∃ W', Reach b W W' ∧ FS w0 W' len z.1 0 (dep s) (cd3 L oS' oO' oA' z.2) (st3 oS' oO' oA' s) ∧ (cd3 L oS' oO' oA' z.2).length + (st3 oS' oO' oA' s).length ≤ z.1 := by
        intro p oS' oO' oA' L1 hp e1 e2 e3 ⟨t, et⟩
        obtain ⟨W1, r1, r2⟩ := sgn_bin (b := b) hX hl h hal hc (sgn_st3 oS oO oA hs) hp
        have hlen := lpop_len p (st3 oS oO oA s) (cd3 L oS oO oA C)
        have hln2 : (st3 oS' oO' oA' s).length = (lpop p (cd3 L oS oO oA C) (st3 oS oO oA s)).2.length + 1 := by rw [← e2, List.length_cons]
        rw [e2, e1] at r2
        rw [e1] at hlen
        have hdp := dep_st3 oS' oO' oA' s
        have rr := reach_of h r2 (by omega) (by omega) (frB_sign h hal hl r1)
        have htk : tok (st3 oS' oO' oA' s) := by rw [et]; exact Or.inl (by show p < 100; omega)
        have htk2 : tok2 (st3 oS' oO' oA' s) := by rw [et]; show 1 ≤ 11; decide
        have := hP W1 (a + 1) L1 (st3 oS' oO' oA' s) (by rw [hdp]; exact r2) hal (by omega) (sgn_st3 _ _ _ hs) htk htk2 (by rw [hdp]; exact hd)
        revert this hfi
        cases pPies ch e (a + 1) with
        | inl z => exact fun _ g => Reach_fail rr g
        | inr z =>
          rintro ⟨g1, g2, g3⟩ ⟨W', q1, q2⟩
          refine ⟨W', Reach_trans rr q1, ?_, ?_⟩
          · rw [et, epop_no (x := (p, 1)) (by show p ≠ 33; omega), ← et, hdp] at q2
            rw [e3] at q2
            exact q2
          · rw [← e3, List.length_append]
            omega
      have recu : ∀ (z : Nat × FV) (oS' oO' oA' : Option FV), pPies ch e (a + 1) = .inr z → (∃ W', Reach b W W' ∧ FS w0 W' len z.1 0 (dep s) (cd3 L oS' oO' oA' z.2) (st3 oS' oO' oA' s) ∧ (cd3 L oS' oO' oA' z.2).length + (st3 oS' oO' oA' s).length ≤ z.1) → ForZ b w0 len ch L s W (pForL ch (pPies ch e) n z.1 oS' oO' oA' z.2) := by
        rintro z oS' oO' oA' ez ⟨W', q1, q2, q3⟩
        rw [ez] at hfi
        obtain ⟨g1, g2, g3⟩ := hfi
        have ih := forL_m hX hl hP hs hb hd n z.1 oS' oO' oA' z.2 W' q2 g2 (by omega) q3
        revert ih
        cases pForL ch (pPies ch e) n z.1 oS' oO' oA' z.2 with
        | inl y => exact fun g => Reach_fail q1 g
        | inr y =>
          rintro ⟨W2, L2, s2, p1, p2⟩
          exact ⟨W2, L2, s2, Reach_trans q1 p1, p2⟩
      rcases hq with c | c | c
      · have B := bin 30 oS oO (some (fA oA C)) _ (Or.inl ⟨c, rfl⟩) rfl (by rw [pop_30 hb]; rfl) (fun x => by rw [pop_30 hb]; rfl) ⟨_, rfl⟩
        have fin : pForL ch (pPies ch e) (n + 1) a oS oO oA C = (match pPies ch e (a + 1) with
            | .inl z => .inl z
            | .inr z => pForL ch (pPies ch e) n z.1 oS oO (some (fA oA C)) z.2) := by
          show (if ch a = 38 then _ else _) = _
          rw [if_pos c]
          cases pPies ch e (a + 1) <;> rfl
        rw [fin]
        revert B
        cases ez : pPies ch e (a + 1) with
        | inl z => exact fun g => g
        | inr z => exact fun g => recu z _ _ _ ez g
      · have B := bin 31 oS (some (fO oO oA C)) none _ (Or.inr (Or.inl ⟨c, rfl⟩)) rfl (by rw [pop_31 hb]; rfl) (fun x => by rw [pop_31 hb]; unfold cd3; rw [show cod none = [] from rfl, List.append_nil]; rfl) ⟨_, rfl⟩
        have fin : pForL ch (pPies ch e) (n + 1) a oS oO oA C = (match pPies ch e (a + 1) with
            | .inl z => .inl z
            | .inr z => pForL ch (pPies ch e) n z.1 oS (some (fO oO oA C)) none z.2) := by
          show (if ch a = 38 then _ else if ch a = 94 then _ else _) = _
          rw [if_neg (by omega), if_pos c]
          cases pPies ch e (a + 1) <;> rfl
        rw [fin]
        revert B
        cases ez : pPies ch e (a + 1) with
        | inl z => exact fun g => g
        | inr z => exact fun g => recu z _ _ _ ez g
      · have B := bin 32 (some (fS oS oO oA C)) none none _ (Or.inr (Or.inr ⟨c, rfl⟩)) rfl (by rw [pop_32 hb]; rfl) (fun x => by rw [pop_32 hb]; unfold cd3; rw [show cod none = [] from rfl, List.append_nil, List.append_nil]; rfl) ⟨_, rfl⟩
        have fin : pForL ch (pPies ch e) (n + 1) a oS oO oA C = (match pPies ch e (a + 1) with
            | .inl z => .inl z
            | .inr z => pForL ch (pPies ch e) n z.1 (some (fS oS oO oA C)) none none z.2) := by
          show (if ch a = 38 then _ else if ch a = 94 then _ else if ch a = 124 then _ else _) = _
          rw [if_neg (by omega), if_neg (by omega), if_pos c]
          cases pPies ch e (a + 1) <;> rfl
        rw [fin]
        revert B
        cases ez : pPies ch e (a + 1) with
        | inl z => exact fun g => g
        | inr z => exact fun g => recu z _ _ _ ez g
    · have c1 : ch a ≠ 38 := fun z => hq (Or.inl z)
      have c2 : ch a ≠ 94 := fun z => hq (Or.inr (Or.inl z))
      have c3 : ch a ≠ 124 := fun z => hq (Or.inr (Or.inr z))
      have fin : pForL ch (pPies ch e) (n + 1) a oS oO oA C = .inr (a, fS oS oO oA C) := by
        show (if ch a = 38 then _ else if ch a = 94 then _ else if ch a = 124 then _ else _) = _
        rw [if_neg c1, if_neg c2, if_neg c3]
      rw [fin]
      exact ⟨W, _, _, Reach_refl W, h, pop_32 hb L oS oO oA C, hc, sgn_st3 _ _ _ hs, ha, c1, c2, c3⟩
theorem for_m (hX : TX (w0.2.1 83) len ch) (hl : len ≤ 100) {e : Nat} (hP : PieM b w0 len ch e) : ForM b w0 len ch e := by
  intro W a L s h ha hLs hs ht ht2 hb hd
  have := hP W a L s h ha hLs hs ht ht2 hd
  have hfi := pPies_fine hX.2 e a ha
  unfold pFor pForB
  revert this hfi
  cases pPies ch e a with
  | inl z => exact fun g _ => g
  | inr z =>
    rintro ⟨W', q1, q2⟩ ⟨g1, g2, g3⟩
    rw [epop_bas hb] at q2
    have ec : cd3 L none none none z.2 = L ++ z.2.2 := by
      unfold cd3
      rw [show cod none = [] from rfl, List.append_nil, List.append_nil, List.append_nil]
    have ih := forL_m hX hl hP (L := L) hs hb hd 300 z.1 none none none z.2 W' (by rw [ec]; exact q2) g2 (by omega) (by
      rw [ec, List.length_append]
      show _ + s.length ≤ z.1
      omega)
    show ForZ b w0 len ch L s W (pForL ch (pPies ch e) 300 z.1 none none none z.2)
    revert ih
    cases pForL ch (pPies ch e) 300 z.1 none none none z.2 with
    | inl y => exact fun g => Reach_fail q1 g
    | inr y =>
      rintro ⟨W2, L2, s2, p1, p2⟩
      exact ⟨W2, L2, s2, Reach_trans q1 p1, p2⟩
end
