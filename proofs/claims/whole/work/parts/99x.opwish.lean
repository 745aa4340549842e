/-! wish and clause are answered alike -/
section
variable {pI : Nat → Nat → Bool} {pA pL : Nat → Bool} {w W : WD}
theorem sP_frY (h : frY w W) (h1 : ∀ k, k < 44 → yPI 77 k = false → pI 77 k = false) (h2 : ∀ j, j < 101 → yPA j = false → pA j = false) : simP pI pA pL w W := by
  refine ⟨fun j k e => h.1 j k ?_, fun j e => h.2.1 j ?_, fun j _ => by rw [h.2.2], by rw [h.2.2]⟩
  · cases q : yPI j k with
    | true => rfl
    | false =>
      exfalso
      have q' := q
      unfold yPI at q'
      simp only [Bool.not_eq_false', Bool.and_eq_true, beq_iff_eq, Bool.or_eq_true, decide_eq_true_eq] at q'
      obtain ⟨rfl, z⟩ := q'
      rw [h1 k (by omega) q] at e
      cases e
  · cases q : yPA j with
    | true => rfl
    | false =>
      exfalso
      have q' := q
      unfold yPA at q'
      simp only [Bool.not_eq_false', Bool.and_eq_true, decide_eq_true_eq] at q'
      rw [h2 j (by omega) q] at e
      cases e
theorem sP_frTl {o d : Nat} (h : frTl o d w W) (h3 : ∀ k, pI 3 k = false) (h1 : pI 1 1 = false) (ho : pI o 1 = false ∨ W.1 o 1 = w.1 o 1) (h4 : pL 4 = false) (hd : pL d = false ∨ W.2.2.1 d = w.2.2.1 d) : simP pI pA pL w W := by
  refine ⟨fun j k e => ?_, fun j _ => by rw [h.2.2.1], fun j e => ?_, h.2.2.2.2⟩
  · by_cases c : j = o ∧ k = 1
    · obtain ⟨rfl, rfl⟩ := c
      rcases ho with q | q
      · rw [q] at e
        cases e
      · exact q
    · refine h.1 j k (fun q => ?_) (fun q => ?_) c
      · rw [q, h3] at e
        cases e
      · rw [q.1, q.2, h1] at e
        cases e
  · by_cases c : j = d
    · subst c
      rcases hd with q | q
      · rw [q] at e
        cases e
      · exact q
    · refine h.2.2.2.1 j (fun q => ?_) c
      rw [q, h4] at e
      cases e
end
/-- all but what a wish or a clause changes -/
def fwI (j k : Nat) : Bool := eI j k && !(j == 1) && !(j == 5) && !(j == 15) && !(j == 68 && k == 4) && !(j == 77 && (k == 5 || k == 6 || k == 11 || k == 14))
def fwA (j : Nat) : Bool := eA j && !(j == 79) && !(j == 80) && !(j == 81)
def fwL (j : Nat) : Bool := j == 31
theorem l_fI (j k : Nat) (h : lI j k = true) : fwI j k = true := by
  unfold lI at h
  split at h
  · unfold fwI
    rw [show eI 35 k = true from h]
    rfl
  · unfold fwI
    rw [show eI 70 k = true from h]
    rfl
  · rw [beq_iff_eq] at h; subst h; rfl
  · cases h
theorem l_fA (j : Nat) (h : lA j = true) : fwA j = true := by
  unfold lA at h
  rw [List.contains_iff_mem] at h
  simp only [List.mem_cons, List.not_mem_nil, or_false] at h
  rcases h with h | h | h | h | h | h | h | h | h | h | h | h | h <;> subst h <;> rfl
theorem Rel_form {w w' : WD} (h : Rel RLaw w) (s : simP fwI fwA fwL w w') (hb : R_tab w') (hs : R_st w' 68 7) (hi : R_int w') (h1 : w'.1 1 1 = 0) (h14 : w'.1 77 14 = 0) : Rel RLaw w' := by
  obtain ⟨a1, a2, a3, a4, a5, a6, a7, a8⟩ := h
  have q5 : ∀ k, k < 6 → fwI 77 (59 + k) = true := by decide
  have q6 : ∀ k, k < 6 → fwI 69 k = true := by decide
  refine ⟨by rw [s.2.2.2]; exact a1, hb, hs, R_st_of a4 (fun k hk => s.1 69 k (q6 k hk)) (fun k hk => s.1 77 _ (q5 k hk)), hi, ⟨h1.trans h14.symm, ⟨0, by decide, h14⟩, ?_, ?_⟩, R_price_of a7 (s.2.1 26 rfl) (s.2.1 78 rfl) (s.2.1 27 rfl) (s.2.1 28 rfl) (s.2.1 29 rfl), RLaw_LOK w w' (sP_mono s l_fI l_fA (fun _ e => by cases e)) a8⟩
  · rw [s.2.1 2 rfl, s.2.1 83 rfl]
    exact a6.2.2.1
  · rw [s.2.1 83 rfl]
    exact a6.2.2.2
theorem Rel_fault {w w' : WD} (h : Rel RLaw w) (s : simP eT eA eL w w') (h1 : w'.1 1 1 = 0) (h14 : w'.1 77 14 = 0) : Rel RLaw w' := by
  have ha : ∀ j, eAT j = true → eA j = true := fun j e => by
    unfold eAT at e
    simp only [Bool.and_eq_true] at e
    exact e.1.1
  refine Rel_tape RLaw_LOK h (sP_mono s (fun _ _ e => e) ha (fun _ e => e)) ⟨h1.trans h14.symm, ⟨0, by decide, h14⟩, ?_, ?_⟩
  · rw [s.2.1 2 rfl, s.2.1 83 rfl]
    exact h.2.2.2.2.2.1.2.2.1
  · rw [s.2.1 83 rfl]
    exact h.2.2.2.2.2.1.2.2.2
section
variable {b : Nat} {w : WD}
/-- the text that lies on the tape -/
theorem txt_of (h : Rel RLaw w) {n T : Nat} (hT : T < 261) (z : n ≤ T) : ∃ ch, TX (w.2.1 83) n ch ∧ TX (w.2.1 2) n ch := by
  obtain ⟨t1, _, t3, t4⟩ := h.tape
  have bytes : ∀ i, ∃ c, (w.2.1 83 i &&& (255 : Int32)) = nI c ∧ c < 256 := fun i => by
    obtain ⟨c, hc, q⟩ := byte_any (w.2.1 83 i)
    exact ⟨c, q, hc⟩
  obtain ⟨v, hv⟩ := Classical.axiomOfChoice bytes
  obtain ⟨ch, hch⟩ : ∃ ch : Nat → Nat, ch = fun a => if a < n then v a else 256 := ⟨_, rfl⟩
  have hX : TX (w.2.1 83) n ch := by
    refine ⟨fun a ha => ?_, fun a ha => ?_⟩
    · rw [hch]
      dsimp only
      rw [if_pos ha]
      exact ⟨(hv a).2, (hv a).1⟩
    · rw [hch]
      dsimp only
      rw [if_neg (by omega)]
  exact ⟨ch, hX, fun a ha => ⟨(hX.1 a ha).1, by rw [t3 a (by omega)]; exact (hX.1 a ha).2⟩, hX.2⟩
/-- both refuse a wrong place, a wrong length and a short tape -/
theorem tell_no (h : Rel RLaw w) (p : Nat) (x y : Int32) (e : ¬ ((∃ k, k < 8 ∧ x = nI k) ∧ ∃ n T, 1 ≤ n ∧ n ≤ 100 ∧ n ≤ T ∧ T < 261 ∧ y = nI n ∧ w.1 77 14 = nI T)) : FX11_tell (mk b w) (b + 0) p x y = some (-1, mk b w) ∧ ∀ (K : Option (Int32 × HP)), (FX12_in x 0 7).bind (fun v1 => if v1 = 0 then some ((-1 : Int32), mk b w) else (FX12_in y 1 100).bind (fun v2 => if v2 = 0 then some ((-1 : Int32), mk b w) else (gI [12] 14 (mk b w) (b + 77)).bind (fun v3 => if y ≤ v3 then K else some ((-1 : Int32), mk b w)))) = some (-1, mk b w) := by
  obtain ⟨t1, ⟨T, hT, eT⟩, _, _⟩ := h.tape
  have eT1 : w.1 1 1 = nI T := t1.trans eT
  rcases case_ix x 8 with ⟨k, hk, rfl⟩ | ex
  · by_cases c : ∃ n, 1 ≤ n ∧ n ≤ 100 ∧ y = nI n
    · obtain ⟨n, h1, hn, rfl⟩ := c
      have z : T < n := by
        rcases Nat.lt_or_ge T n with z | z
        · exact z
        · exact absurd ⟨⟨k, hk, rfl⟩, n, T, h1, hn, z, hT, rfl, eT⟩ e
      refine ⟨?_, fun K => ?_⟩
      · unfold FX11_tell
        rw [if_neg (nI_pos (by omega)), if_neg (Lnle hk), if_neg (Rnlt (n := 1) h1 (by omega)), if_neg (Lnlt (n := 100) hn), gR_11_0_0, Option.bind_some, gI_8_1_1, Option.bind_some, eT1, if_neg (nI_ge z (by omega))]
      · rw [in_y (n := 7) hk, Option.bind_some, if_neg n10, in_yes (a := 1) (c := 100) h1 hn, Option.bind_some, if_neg n10, gI_12_77_14, Option.bind_some, eT, if_neg (nI_ge z (by omega))]
    · refine ⟨?_, fun K => ?_⟩
      · unfold FX11_tell
        rw [if_neg (nI_pos (by omega)), if_neg (Lnle hk)]
        by_cases c1 : y < 1
        · rw [if_pos c1]
        · by_cases c2 : 100 < y
          · rw [if_neg c1, if_pos c2]
          · exfalso
            apply c
            have z1 : (1 : Int32).toInt = 1 := by decide
            have z2 : (100 : Int32).toInt = 100 := by decide
            rw [fa_lt] at c1 c2
            exact in_nat (v := y) (a := 1) (b := 100) (by decide) (by rw [fa_le]; show (1 : Int32).toInt ≤ _; omega) (by rw [fa_le]; show _ ≤ (100 : Int32).toInt; omega) (by decide)
      · rw [in_y (n := 7) hk, Option.bind_some, if_neg n10, in_no (a := 1) (c := 100) c, Option.bind_some, if_pos rfl]
  · refine ⟨?_, fun K => ?_⟩
    · unfold FX11_tell
      rcases ix_out (n := 8) (by decide) ex with q | ⟨q1, q2⟩
      · rw [if_pos q]
      · rw [if_neg q1, if_pos q2]
    · rw [in_n (n := 7) ex, Option.bind_some, if_pos rfl]
end
