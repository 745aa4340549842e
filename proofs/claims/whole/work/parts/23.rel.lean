/-! THE RELATION between the class's cells (0 to 76) and the reference's (77 to 105) -/
def WT (w : WD) (k s : Nat) : Bool := decide (w.2.1 79 (1024 * k + s) = 1)
def WC (w : WD) (k s : Nat) : Bool := decide (w.2.1 80 (1024 * k + s) = 1)
def WF (w : WD) (s : Nat) : Bool := decide (w.2.1 81 s = 1)
def WO (w : WD) (s : Nat) : Bool := decide (w.2.1 82 s = 1)
def sm (x : Int32) (n : Nat) : Prop := ∃ k, k < n ∧ x = nI k
def bo (f : Nat → Int32) (n : Nat) : Prop := ∀ i, i < n → f i = 0 ∨ f i = 1
def R_tab (w : WD) : Prop :=
  bo (w.2.1 79) 8192 ∧ bo (w.2.1 80) 8192 ∧ bo (w.2.1 81) 1024 ∧ bo (w.2.1 82) 1024 ∧
  (∀ k, k < 8 → ∀ s, s < 1024 → tb (w.2.2.1 (7 + k)) s = WT w k s) ∧ (∀ k, k < 8 → ∀ s, s < 1024 → tb (w.2.2.1 (17 + k)) s = WC w k s) ∧
  (∀ s, s < 1024 → tb (w.2.2.1 30) s = WF w s) ∧ (∀ s, s < 1024 → tb (w.2.2.1 31) s = WO w s) ∧
  (∀ s, s < 1024 → WF w s = al (fun k => !bt (w.1 77 6) k || WC w k s) 8)
def R_st (w : WD) (j m : Nat) : Prop :=
  (∀ k, k < 6 → w.1 j k = w.1 77 (m + k)) ∧ sm (w.1 77 m) 1024 ∧ sm (w.1 77 (m + 1)) 8641 ∧ sm (w.1 77 (m + 2)) 10000 ∧ sm (w.1 77 (m + 4)) 256 ∧ (w.1 77 (m + 5) = 0 ∨ w.1 77 (m + 5) = 1)
def R_int (w : WD) : Prop :=
  w.1 5 1 = w.1 77 5 ∧ sm (w.1 77 5) 256 ∧ w.1 15 1 = w.1 77 6 ∧ sm (w.1 77 6) 256 ∧ w.1 0 14 = w.1 77 65 ∧ (w.1 77 65 = 0 ∨ w.1 77 65 = 1)
def R_tape (w : WD) : Prop :=
  w.1 1 1 = w.1 77 14 ∧ sm (w.1 77 14) 261 ∧ (∀ i, i < 260 → w.2.1 2 i = w.2.1 83 i) ∧ (∀ i, i < 260 → (w.2.1 83 i).toInt8.toInt32 = w.2.1 83 i)
/-- a price with its change, in one number -/
def pN (f : Nat → Int32) (i : Nat) : Nat := (f i).toNatClampNeg
def lowN (f : Nat → Int32) (n : Nat) : Nat := fb_sm (fun i => if n.testBit i then 16 * pN f i + 1 else 0) 6
def highN (f : Nat → Int32) (n : Nat) : Nat := fb_sm (fun i => if n.testBit i then 16 * pN f (6 + i) + 1 else 0) 4
def R_price (w : WD) : Prop :=
  (∀ i, i < 10 → w.2.1 26 i = w.2.1 78 i) ∧ (∀ i, i < 10 → sm (w.2.1 78 i) 100) ∧ (∀ n, n < 64 → w.2.1 27 n = nI (lowN (w.2.1 78) n)) ∧ (∀ n, n < 16 → w.2.1 28 n = nI (highN (w.2.1 78) n)) ∧
  ∃ c : Nat → Nat, (∀ t, t < 64 → w.2.1 29 t = nI (c t)) ∧ (∀ t, t < 64 → c t < 64) ∧ (∀ n, n < 64 → ∃ t, t < 64 ∧ c t = n) ∧ (∀ t, t + 1 < 64 → lowN (w.2.1 78) (c t) ≤ lowN (w.2.1 78) (c (t + 1)))
def Rel (RL : WD → Prop) (w : WD) : Prop :=
  (w.2.2.2 = (35, 70) ∨ w.2.2.2 = (70, 35)) ∧ R_tab w ∧ R_st w 68 7 ∧ R_st w 69 59 ∧ R_int w ∧ R_tape w ∧ R_price w ∧ RL w
/-! what only scratch changes keeps it -/
def eI (j k : Nat) : Bool := match j with
  | 0 => k == 14
  | 1 => k == 1
  | 5 => k == 1
  | 15 => k == 1
  | 35 => k == 4 || k == 9
  | 70 => k == 4 || k == 9
  | 68 => true
  | 69 => true
  | 77 => [5, 6, 7, 8, 9, 10, 11, 12, 14, 23, 59, 60, 61, 62, 63, 64, 65].contains k
  | _ => false
def eA (j : Nat) : Bool := [2, 26, 27, 28, 29, 36, 37, 38, 39, 71, 72, 73, 74, 78, 79, 80, 81, 82, 83, 90, 91, 92, 93, 94].contains j
def eL (j : Nat) : Bool := [7, 8, 9, 10, 11, 12, 13, 14, 17, 18, 19, 20, 21, 22, 23, 24, 30, 31].contains j
def simP (pI : Nat → Nat → Bool) (pA pL : Nat → Bool) (w w' : WD) : Prop := (∀ j k, pI j k = true → w'.1 j k = w.1 j k) ∧ (∀ j, pA j = true → w'.2.1 j = w.2.1 j) ∧ (∀ j, pL j = true → w'.2.2.1 j = w.2.2.1 j) ∧ w'.2.2.2 = w.2.2.2
section
variable {pI qI : Nat → Nat → Bool} {pA pL qA qL : Nat → Bool}
theorem sP_refl (w : WD) : simP pI pA pL w w := ⟨fun _ _ _ => rfl, fun _ _ => rfl, fun _ _ => rfl, rfl⟩
theorem sP_trans {w w' w'' : WD} (h : simP pI pA pL w w') (h2 : simP pI pA pL w' w'') : simP pI pA pL w w'' := ⟨fun j k e => (h2.1 j k e).trans (h.1 j k e), fun j e => (h2.2.1 j e).trans (h.2.1 j e), fun j e => (h2.2.2.1 j e).trans (h.2.2.1 j e), h2.2.2.2.trans h.2.2.2⟩
theorem sP_uI (w : WD) {j k : Nat} (v : Int32) (h : pI j k = false) : simP pI pA pL w (uI w j k v) := by
  refine ⟨fun j' k' e => uI_ne w v ?_, fun _ _ => rfl, fun _ _ => rfl, rfl⟩
  rintro ⟨rfl, rfl⟩
  rw [h] at e; cases e
theorem sP_uA (w : WD) {j : Nat} (f : Nat → Int32) (h : pA j = false) : simP pI pA pL w (uA w j f) := by
  refine ⟨fun _ _ _ => rfl, fun j' e => uA_ne w f ?_, fun _ _ => rfl, rfl⟩
  rintro rfl
  rw [h] at e; cases e
theorem sP_uL (w : WD) {j : Nat} (f : Nat → Int64) (h : pL j = false) : simP pI pA pL w (uL w j f) := by
  refine ⟨fun _ _ _ => rfl, fun _ _ => rfl, fun j' e => uL_ne w f ?_, rfl⟩
  rintro rfl
  rw [h] at e; cases e
theorem sP_mono {w w' : WD} (h : simP pI pA pL w w') (h1 : ∀ j k, qI j k = true → pI j k = true) (h2 : ∀ j, qA j = true → pA j = true) (h3 : ∀ j, qL j = true → pL j = true) : simP qI qA qL w w' := ⟨fun j k e => h.1 j k (h1 j k e), fun j e => h.2.1 j (h2 j e), fun j e => h.2.2.1 j (h3 j e), h.2.2.2⟩
end
abbrev sim : WD → WD → Prop := simP eI eA eL
/-- the law's cells -/
def lI (j k : Nat) : Bool := match j with
  | 35 => k == 4 || k == 9
  | 70 => k == 4 || k == 9
  | 77 => k == 23
  | _ => false
def lA (j : Nat) : Bool := [36, 37, 38, 39, 71, 72, 73, 74, 90, 91, 92, 93, 94].contains j
abbrev simL : WD → WD → Prop := simP lI lA (fun _ => false)
theorem l_eI (j k : Nat) (h : lI j k = true) : eI j k = true := by
  unfold lI at h
  split at h
  · exact h
  · exact h
  · rw [beq_iff_eq] at h; subst h; rfl
  · cases h
theorem l_eA (j : Nat) (h : lA j = true) : eA j = true := by
  unfold lA at h
  rw [List.contains_iff_mem] at h
  simp only [List.mem_cons, List.not_mem_nil, or_false] at h
  rcases h with h | h | h | h | h | h | h | h | h | h | h | h | h <;> subst h <;> rfl
theorem sim_L {w w' : WD} (h : sim w w') : simL w w' := sP_mono h l_eI l_eA (fun _ e => by cases e)
theorem eL7 : ∀ k, k < 8 → eL (7 + k) = true ∧ eL (17 + k) = true := by decide
theorem R_tab_of {w w' : WD} (h : R_tab w) (h79 : w'.2.1 79 = w.2.1 79) (h80 : w'.2.1 80 = w.2.1 80) (h81 : w'.2.1 81 = w.2.1 81) (h82 : w'.2.1 82 = w.2.1 82) (hT : ∀ k, k < 8 → w'.2.2.1 (7 + k) = w.2.2.1 (7 + k)) (hC : ∀ k, k < 8 → w'.2.2.1 (17 + k) = w.2.2.1 (17 + k)) (h30 : w'.2.2.1 30 = w.2.2.1 30) (h31 : w'.2.2.1 31 = w.2.2.1 31) (h6 : w'.1 77 6 = w.1 77 6) : R_tab w' := by
  obtain ⟨a1, a2, a3, a4, a5, a6, a7, a8, a9⟩ := h
  have e1 : ∀ k s, WT w' k s = WT w k s := fun k s => by unfold WT; rw [h79]
  have e2 : ∀ k s, WC w' k s = WC w k s := fun k s => by unfold WC; rw [h80]
  have e3 : ∀ s, WF w' s = WF w s := fun s => by unfold WF; rw [h81]
  have e4 : ∀ s, WO w' s = WO w s := fun s => by unfold WO; rw [h82]
  refine ⟨by rw [h79]; exact a1, by rw [h80]; exact a2, by rw [h81]; exact a3, by rw [h82]; exact a4, fun k hk s hs => by rw [hT k hk, e1]; exact a5 k hk s hs, fun k hk s hs => by rw [hC k hk, e2]; exact a6 k hk s hs, fun s hs => by rw [h30, e3]; exact a7 s hs, fun s hs => by rw [h31, e4]; exact a8 s hs, fun s hs => ?_⟩
  rw [e3, a9 s hs, h6]
  exact al_cong (fun k _ => by rw [e2])
theorem R_st_of {w w' : WD} {j m : Nat} (h : R_st w j m) (h1 : ∀ k, k < 6 → w'.1 j k = w.1 j k) (h2 : ∀ k, k < 6 → w'.1 77 (m + k) = w.1 77 (m + k)) : R_st w' j m := by
  obtain ⟨a1, a2, a3, a4, a5, a6⟩ := h
  have e0 : w'.1 77 m = w.1 77 m := h2 0 (by decide)
  exact ⟨fun k hk => by rw [h1 k hk, h2 k hk]; exact a1 k hk, by rw [e0]; exact a2, by rw [h2 1 (by decide)]; exact a3, by rw [h2 2 (by decide)]; exact a4, by rw [h2 4 (by decide)]; exact a5, by rw [h2 5 (by decide)]; exact a6⟩
theorem R_int_of {w w' : WD} (h : R_int w) (h1 : w'.1 5 1 = w.1 5 1) (h2 : w'.1 77 5 = w.1 77 5) (h3 : w'.1 15 1 = w.1 15 1) (h4 : w'.1 77 6 = w.1 77 6) (h5 : w'.1 0 14 = w.1 0 14) (h6 : w'.1 77 65 = w.1 77 65) : R_int w' := by
  unfold R_int
  rw [h1, h2, h3, h4, h5, h6]
  exact h
theorem R_tape_of {w w' : WD} (h : R_tape w) (h1 : w'.1 1 1 = w.1 1 1) (h2 : w'.1 77 14 = w.1 77 14) (h3 : w'.2.1 2 = w.2.1 2) (h4 : w'.2.1 83 = w.2.1 83) : R_tape w' := by
  unfold R_tape
  rw [h1, h2, h3, h4]
  exact h
theorem R_price_of {w w' : WD} (h : R_price w) (h1 : w'.2.1 26 = w.2.1 26) (h2 : w'.2.1 78 = w.2.1 78) (h3 : w'.2.1 27 = w.2.1 27) (h4 : w'.2.1 28 = w.2.1 28) (h5 : w'.2.1 29 = w.2.1 29) : R_price w' := by
  unfold R_price
  rw [h1, h2, h3, h4, h5]
  exact h
def LOK (RL : WD → Prop) : Prop := ∀ w w', simL w w' → RL w → RL w'
theorem Rel_sim {RL : WD → Prop} (hRL : LOK RL) {w w' : WD} (h : Rel RL w) (s : sim w w') : Rel RL w' := by
  obtain ⟨a1, a2, a3, a4, a5, a6, a7, a8⟩ := h
  have q5 : ∀ k, k < 6 → eI 77 (7 + k) = true ∧ eI 77 (59 + k) = true := by decide
  refine ⟨by rw [s.2.2.2]; exact a1, R_tab_of a2 (s.2.1 79 rfl) (s.2.1 80 rfl) (s.2.1 81 rfl) (s.2.1 82 rfl) (fun k hk => s.2.2.1 _ (eL7 k hk).1) (fun k hk => s.2.2.1 _ (eL7 k hk).2) (s.2.2.1 30 rfl) (s.2.2.1 31 rfl) (s.1 77 6 rfl), R_st_of a3 (fun k _ => s.1 68 k rfl) (fun k hk => s.1 77 _ (q5 k hk).1), R_st_of a4 (fun k _ => s.1 69 k rfl) (fun k hk => s.1 77 _ (q5 k hk).2), R_int_of a5 (s.1 5 1 rfl) (s.1 77 5 rfl) (s.1 15 1 rfl) (s.1 77 6 rfl) (s.1 0 14 rfl) (s.1 77 65 rfl), R_tape_of a6 (s.1 1 1 rfl) (s.1 77 14 rfl) (s.2.1 2 rfl) (s.2.1 83 rfl), R_price_of a7 (s.2.1 26 rfl) (s.2.1 78 rfl) (s.2.1 27 rfl) (s.2.1 28 rfl) (s.2.1 29 rfl), hRL w w' (sim_L s) a8⟩
/-- all but the standing now -/
def eN (j k : Nat) : Bool := eI j k && !(j == 68) && !(j == 77 && (decide (7 ≤ k) && decide (k ≤ 12)))
theorem l_eN (j k : Nat) (h : lI j k = true) : eN j k = true := by
  unfold lI at h
  split at h
  · unfold eN
    rw [show eI 35 k = true from h]
    rfl
  · unfold eN
    rw [show eI 70 k = true from h]
    rfl
  · rw [beq_iff_eq] at h; subst h; rfl
  · cases h
theorem Rel_now {RL : WD → Prop} (hRL : LOK RL) {w w' : WD} (h : Rel RL w) (s : simP eN eA eL w w') (hs : R_st w' 68 7) : Rel RL w' := by
  obtain ⟨a1, a2, a3, a4, a5, a6, a7, a8⟩ := h
  have q5 : ∀ k, k < 6 → eN 77 (59 + k) = true := by decide
  refine ⟨by rw [s.2.2.2]; exact a1, R_tab_of a2 (s.2.1 79 rfl) (s.2.1 80 rfl) (s.2.1 81 rfl) (s.2.1 82 rfl) (fun k hk => s.2.2.1 _ (eL7 k hk).1) (fun k hk => s.2.2.1 _ (eL7 k hk).2) (s.2.2.1 30 rfl) (s.2.2.1 31 rfl) (s.1 77 6 rfl), hs, R_st_of a4 (fun k _ => s.1 69 k rfl) (fun k hk => s.1 77 _ (q5 k hk)), R_int_of a5 (s.1 5 1 rfl) (s.1 77 5 rfl) (s.1 15 1 rfl) (s.1 77 6 rfl) (s.1 0 14 rfl) (s.1 77 65 rfl), R_tape_of a6 (s.1 1 1 rfl) (s.1 77 14 rfl) (s.2.1 2 rfl) (s.2.1 83 rfl), R_price_of a7 (s.2.1 26 rfl) (s.2.1 78 rfl) (s.2.1 27 rfl) (s.2.1 28 rfl) (s.2.1 29 rfl), hRL w w' (sP_mono s l_eN l_eA (fun _ e => by cases e)) a8⟩
/-- all but the tape -/
def eT (j k : Nat) : Bool := eI j k && !(j == 1) && !(j == 77 && k == 14)
def eAT (j : Nat) : Bool := eA j && !(j == 2) && !(j == 83)
theorem l_eT (j k : Nat) (h : lI j k = true) : eT j k = true := by
  unfold lI at h
  split at h
  · unfold eT
    rw [show eI 35 k = true from h]
    rfl
  · unfold eT
    rw [show eI 70 k = true from h]
    rfl
  · rw [beq_iff_eq] at h; subst h; rfl
  · cases h
theorem l_eAT (j : Nat) (h : lA j = true) : eAT j = true := by
  unfold lA at h
  rw [List.contains_iff_mem] at h
  simp only [List.mem_cons, List.not_mem_nil, or_false] at h
  rcases h with h | h | h | h | h | h | h | h | h | h | h | h | h <;> subst h <;> rfl
theorem Rel_tape {RL : WD → Prop} (hRL : LOK RL) {w w' : WD} (h : Rel RL w) (s : simP eT eAT eL w w') (ht : R_tape w') : Rel RL w' := by
  obtain ⟨a1, a2, a3, a4, a5, a6, a7, a8⟩ := h
  have q5 : ∀ k, k < 6 → eT 77 (7 + k) = true ∧ eT 77 (59 + k) = true := by decide
  refine ⟨by rw [s.2.2.2]; exact a1, R_tab_of a2 (s.2.1 79 rfl) (s.2.1 80 rfl) (s.2.1 81 rfl) (s.2.1 82 rfl) (fun k hk => s.2.2.1 _ (eL7 k hk).1) (fun k hk => s.2.2.1 _ (eL7 k hk).2) (s.2.2.1 30 rfl) (s.2.2.1 31 rfl) (s.1 77 6 rfl), R_st_of a3 (fun k _ => s.1 68 k rfl) (fun k hk => s.1 77 _ (q5 k hk).1), R_st_of a4 (fun k _ => s.1 69 k rfl) (fun k hk => s.1 77 _ (q5 k hk).2), R_int_of a5 (s.1 5 1 rfl) (s.1 77 5 rfl) (s.1 15 1 rfl) (s.1 77 6 rfl) (s.1 0 14 rfl) (s.1 77 65 rfl), ht, R_price_of a7 (s.2.1 26 rfl) (s.2.1 78 rfl) (s.2.1 27 rfl) (s.2.1 28 rfl) (s.2.1 29 rfl), hRL w w' (sP_mono s l_eT l_eAT (fun _ e => by cases e)) a8⟩
/-- what a call of both programs must do -/
def OP (RL : WD → Prop) (b : Nat) (w : WD) {X : Type} (f g : HP → Option (X × HP)) : Prop := ∃ r w1 w2, f (mk b w) = some (r, mk b w1) ∧ g (mk b w1) = some (r, mk b w2) ∧ Rel RL w2
/-! the reference's small methods -/
theorem bi_at {f : Nat → Int32} {n i : Nat} (h : bo f n) (hi : i < n) : f i = if decide (f i = 1) then 1 else 0 := by
  rcases h i hi with e | e
  · rw [e]; rfl
  · rw [e]; rfl
theorem mul_ix {k s : Nat} : (1024 : Int32) * nI k + nI s = nI (1024 * k + s) := by rw [fa_lit 1024, pk_mul, nI_add]
theorem in_yes {a c k : Nat} (h1 : a ≤ k) (h2 : k ≤ c) (hc : c < 2 ^ 31 := by decide) : FX12_in (nI k) (OfNat.ofNat a) (OfNat.ofNat c) = some 1 := by
  rw [in_eq, if_pos ⟨Lle h1 (by omega), Rle h2 hc⟩]
theorem in_no {x : Int32} {a c : Nat} (h : ¬ ∃ k, a ≤ k ∧ k ≤ c ∧ x = nI k) (ha : a < 2 ^ 31 := by decide) (hc : c < 2 ^ 31 := by decide) : FX12_in x (OfNat.ofNat a) (OfNat.ofNat c) = some 0 := by
  rw [in_eq, if_neg]
  rintro ⟨h1, h2⟩
  exact h (in_nat hc h1 h2 ha)
theorem ix_out {x : Int32} {n : Nat} (hn : n < 2 ^ 31) (h : ¬ ∃ k, k < n ∧ x = nI k) : x < 0 ∨ (¬ x < 0 ∧ (OfNat.ofNat n : Int32) ≤ x) := by
  rcases pk_ix x hn with e | e | ⟨k, hk, e⟩
  · exact Or.inl e
  · by_cases q : x < 0
    · exact Or.inl q
    · exact Or.inr ⟨q, e⟩
  · exact absurd ⟨k, hk, e⟩ h
section
variable {b : Nat} {w : WD}
theorem holds_mk (h : bo (w.2.1 79) 8192) {k s : Nat} (hk : k < 8) (hs : s < 1024) : FX12_holdsIn (mk b w) (b + 77) (nI k) (nI s) = some (if WT w k s then 1 else 0) := by
  unfold FX12_holdsIn
  have hi : 1024 * k + s < 8192 := by omega
  rw [gR_mk 79 (by decide +kernel), Option.bind_some, mul_ix, rdN_mk (t := 2) (n := 8192) (by decide +kernel) (by decide) b w hi, Option.bind_some]
  unfold WT
  have e := bi_at h hi
  unfold bz
  rw [if_pos (h _ hi), ← e]
theorem allows_mk (h : bo (w.2.1 80) 8192) (x : Int32) {s : Nat} (hs : s < 1024) : FX12_allowsBy (mk b w) (b + 77) x (nI s) = some (if al (fun k => !bt x k || WC w k s) 8 then 1 else 0) := by
  unfold FX12_allowsBy
  rw [lpb_first (P := Int32) (fun k => bt x k && !WC w k s) (fun _ => 0) () 8 (by decide) (fun k hk => ?_) (by rfl)]
  · have e : al (fun k => !bt x k || WC w k s) 8 = !ex (fun k => bt x k && !WC w k s) 8 := by
      rw [Bool.eq_iff_iff, al_iff, Bool.not_eq_true', ← Bool.not_eq_true, ex_iff]
      refine ⟨fun g ⟨k, hk, q⟩ => ?_, fun g k hk => ?_⟩
      · have := g k hk
        cases h1 : bt x k <;> cases h2 : WC w k s <;> simp_all
      · cases h1 : bt x k <;> cases h2 : WC w k s <;> simp_all
    rw [e]
    cases ex (fun k => bt x k && !WC w k s) 8 <;> rfl
  · have hi : 1024 * k + s < 8192 := by omega
    rw [if_neg (Lnle hk), has_eq x (by omega), Option.bind_some, gR_mk 80 (by decide +kernel), Option.bind_some, mul_ix, rdN_mk (t := 2) (n := 8192) (by decide +kernel) (by decide) b w hi, Option.bind_some, vl_eq, nI_1]
    unfold WC
    cases bt x k
    · rfl
    · rcases h _ hi with e | e
      · rw [e]; rfl
      · rw [e]; rfl
theorem laysFits_mk (h : bo (w.2.1 80) 8192) : FX12_laysFits (mk b w) (b + 77) = some (mk b (uA w 81 (fa_fill (fun s => if al (fun k => !bt (w.1 77 6) k || WC w k s) 8 then 1 else 0) (w.2.1 81) 1024))) := by
  unfold FX12_laysFits
  refine lpb_fillA 81 (fun s => if al (fun k => !bt (w.1 77 6) k || WC w k s) 8 then 1 else 0) (fun x => x) 1024 (by decide) (fun s hs g hg => ?_) (fun g => by rfl) (by rfl)
  dsimp only
  have hh : bo ((uA w 81 g).2.1 80) 8192 := h
  rw [if_neg (Lnle hs), gR_mk 81 (by decide +kernel), Option.bind_some, gI_mk (by decide +kernel), Option.bind_some, rc_mk (by decide +kernel), allows_mk hh _ hs, Option.bind_some]
  have e : al (fun k => !bt ((uA w 81 g).1 77 6) k || WC (uA w 81 g) k s) 8 = al (fun k => !bt (w.1 77 6) k || WC w k s) 8 := rfl
  rw [e, wrZ_mk (n := 1024) (by decide +kernel) b _ hs (by cases al (fun k => !bt (w.1 77 6) k || WC w k s) 8 <;> decide), Option.bind_some, vl_eq, nI_1, uA_at, uA_uA]
theorem isWish_mk {k : Nat} (hk : k < 8) : FX12_isWish (mk b w) (b + 77) (nI k) = some (if bt (w.1 77 5) k then 1 else 0) := by
  unfold FX12_isWish
  rw [in_yes (Nat.zero_le k) (show k ≤ 7 by omega), Option.bind_some, if_neg (by decide), gI_mk (by decide +kernel), Option.bind_some, has_eq _ (by omega), Option.bind_some]
  cases bt (w.1 77 5) k <;> rfl
theorem isWish_no {x : Int32} (h : ¬ ∃ k, k < 8 ∧ x = nI k) : FX12_isWish (mk b w) (b + 77) x = some 0 := by
  unfold FX12_isWish
  rw [in_no (a := 0) (c := 7) (fun ⟨k, _, h2, h3⟩ => h ⟨k, by omega, h3⟩), Option.bind_some, if_pos rfl]
theorem book_mk {o : Nat} (ho : o = 5 ∨ o = 15) {k : Nat} (hk : k < 8) : FX0_has (mk b w) (b + o) (nI k) = some (if bt (w.1 o 1) k then 1 else 0) := by
  unfold FX0_has
  rw [if_neg (nI_pos (by omega)), if_neg (Lnle hk), gI_mk (okB_of ho).2.1, Option.bind_some, bit_at _ (by omega)]
  cases bt (w.1 o 1) k <;> rfl
theorem book_no {o : Nat} {x : Int32} (h : ¬ ∃ k, k < 8 ∧ x = nI k) : FX0_has (mk b w) (b + o) x = some 0 := by
  unfold FX0_has
  rcases ix_out (n := 8) (by decide) h with e | ⟨e1, e2⟩
  · rw [if_pos e]
  · rw [if_neg e1, if_pos e2]
end
