/-! call: ladder. rg n: the states from which n steps at most lead to the wish -/
def rg (F G : Nat → Bool) : Nat → Nat → Bool
  | 0, s => G s
  | n + 1, s => rg F G n s || (F s && ex (fun i => rg F G n (s ^^^ 2 ^ i)) 10)
theorem rg_s (F G : Nat → Bool) (n s : Nat) : rg F G (n + 1) s = (rg F G n s || (F s && ex (fun i => rg F G n (s ^^^ 2 ^ i)) 10)) := rfl
theorem rg_mono {F G : Nat → Bool} {s : Nat} : ∀ {n m : Nat}, n ≤ m → rg F G n s = true → rg F G m s = true := by
  intro n m h hn
  obtain ⟨d, rfl⟩ := Nat.exists_eq_add_of_le h
  induction d with
  | zero => exact hn
  | succ d ih =>
    show (rg F G (n + d) s || _) = true
    rw [ih (by omega), Bool.true_or]
theorem rg_fits {F G : Nat → Bool} (hG : ∀ s, G s = true → F s = true) {s : Nat} : ∀ {n : Nat}, rg F G n s = true → F s = true
  | 0, h => hG s h
  | n + 1, h => by
    rw [rg_s, Bool.or_eq_true, Bool.and_eq_true] at h
    rcases h with h | h
    · exact rg_fits hG h
    · exact h.1
/-- nothing new: nothing new ever -/
theorem rg_stop {F G : Nat → Bool} {n : Nat} (h : ∀ s, s < 1024 → rg F G (n + 1) s = rg F G n s) : ∀ d s, s < 1024 → rg F G (n + d) s = rg F G n s
  | 0, _, _ => rfl
  | d + 1, s, hs => by
    have ih := rg_stop h d
    show (rg F G (n + d) s || (F s && ex (fun i => rg F G (n + d) (s ^^^ 2 ^ i)) 10)) = _
    rw [ih s hs, ex_cong (q := fun i => rg F G n (s ^^^ 2 ^ i)) (fun i hi => ih _ (xr_lt hs hi))]
    exact h s hs
theorem ct_lt {p q : Nat → Bool} {n : Nat} (h : ∀ k, k < n → p k = true → q k = true) {s : Nat} (hs : s < n) (h1 : p s = false) (h2 : q s = true) : fb_ct p n < fb_ct q n := by
  have c := ct_minus q p n
  have e : fb_ct (fun k => q k && p k) n = fb_ct p n := fb_ct_cong (fun k hk => by
    cases g : p k with
    | false => rw [Bool.and_false]
    | true => rw [h k hk g]; rfl)
  have e2 : 0 < fb_ct (fun k => q k && !p k) n := fb_ct_pos.mpr ⟨s, hs, by rw [h1, h2]; rfl⟩
  omega
theorem rg_grow {F G : Nat → Bool} : ∀ n, (∀ j, j < n → ∃ s, s < 1024 ∧ rg F G (j + 1) s = true ∧ rg F G j s = false) → n + fb_ct (rg F G 0) 1024 ≤ fb_ct (rg F G n) 1024
  | 0, _ => by rw [Nat.zero_add]; exact Nat.le_refl _
  | n + 1, h => by
    have ih := rg_grow n (fun j hj => h j (by omega))
    obtain ⟨s, hs, h1, h2⟩ := h n (by omega)
    have := ct_lt (p := rg F G n) (q := rg F G (n + 1)) (fun k _ g => rg_mono (Nat.le_succ n) g) hs h2 h1
    omega
section
variable {RL : WD → Prop} {b : Nat} {w : WD}
theorem lowF_mk {p : Nat → Bool} (ht : ∀ s, s < 1024 → tb (w.2.2.1 32) s = p s) {st : Nat} (hst : st < 1024) : FX11_lowestFactInto (mk b w) (b + 0) (nI st) = some (if ex (fun i => p (st ^^^ 2 ^ i)) 10 then nI (fa_first (fun i => p (st ^^^ 2 ^ i)) 10) else -1) := by
  unfold FX11_lowestFactInto
  rw [lpb_first (P := Int32) (fun i => p (st ^^^ 2 ^ i)) (fun i => nI i) () 10 (by decide) (fun i hi => ?_) (by rfl)]
  · cases ex (fun i => p (st ^^^ 2 ^ i)) 10 <;> rfl
  · rw [if_neg (Lnle hi), gR_11_0_7, Option.bind_some, xr hi, thas_mk okCh (xr_lt hst hi), Option.bind_some, ht _ (xr_lt hst hi), bite, vl_eq, nI_1]
theorem or_flag (a p : Bool) : (if a = true then (1 : Int32) else 0) ||| (if p = true then 1 else 0) = if (a || p) = true then 1 else 0 := by cases a <;> cases p <;> decide
theorem okG : okA 3 33 16 = true := by decide +kernel
theorem lg_eq (x y : Int64) : lg_cmp x y = 0 ↔ x = y := by
  unfold lg_cmp
  by_cases h : x = y
  · subst h
    refine ⟨fun _ => rfl, fun _ => ?_⟩
    rw [if_neg (by rw [gt_iff_lt, fa_lt64]; omega), if_pos rfl]
  · refine ⟨fun q => ?_, fun q => absurd q h⟩
    rw [if_neg h] at q
    split at q
    · exact absurd q (by decide)
    · exact absurd q (by decide)
theorem fld_orb (f : Nat → Int64) (q : Nat) : ∀ n, lb (fld (fun i a => a ||| f i) n 0) q = ex (fun i => lb (f i) q) n
  | 0 => lb_0 q
  | n + 1 => by
    show lb (fld _ n 0 ||| f n) q = (ex _ n || lb (f n) q)
    rw [lb_or, fld_orb f q n]
theorem grow_mk {F p : Nat → Bool} (hF : ∀ s, s < 1024 → tb (w.2.2.1 30) s = F s) (ht : ∀ s, s < 1024 → tb (w.2.2.1 32) s = p s) : ∃ w', FX11_growByOneStep (mk b w) (b + 0) = some (if ex (fun s => F s && ex (fun i => p (s ^^^ 2 ^ i)) 10 && !p s) 1024 then 1 else 0, mk b w') ∧ sim w w' ∧ ∀ s, s < 1024 → tb (w'.2.2.1 32) s = (p s || (F s && ex (fun i => p (s ^^^ 2 ^ i)) 10)) := by
  obtain ⟨nw, hnw⟩ : ∃ nw : Nat → Int64, nw = fun v => w.2.2.1 32 v ||| (fld (fun i a => a ||| chg (w.2.2.1 32) v (2 ^ i)) 10 0 &&& w.2.2.1 30 v) := ⟨_, rfl⟩
  have hb : ∀ v, v < 16 → ∀ q, q < 64 → lb (nw v) q = (p (64 * v + q) || (F (64 * v + q) && ex (fun i => p ((64 * v + q) ^^^ 2 ^ i)) 10)) := fun v hv q hq => by
    have hs : 64 * v + q < 1024 := by omega
    rw [hnw]
    show lb (w.2.2.1 32 v ||| (fld _ 10 0 &&& w.2.2.1 30 v)) q = _
    rw [lb_or, lb_and, fld_orb, ← tb_at _ _ hq, ← tb_at (w.2.2.1 30) _ hq, ht _ hs, hF _ hs, Bool.and_comm (ex _ 10)]
    congr 2
    exact ex_cong (fun i hi => by rw [lb_chg _ (p2_lt hi) hq, ht _ (xr_lt hs hi)])
  have main : ∃ r, FX11_growByOneStep (mk b w) (b + 0) = some r ∧ ∃ w', r = (if ex (fun s => F s && ex (fun i => p (s ^^^ 2 ^ i)) 10 && !p s) 1024 then 1 else 0, mk b w') ∧ sim w w' ∧ ∀ s, s < 1024 → tb (w'.2.2.1 32) s = (p s || (F s && ex (fun i => p (s ^^^ 2 ^ i)) 10)) := by
    unfold FX11_growByOneStep
    refine lpb_inv (fun v s => ∃ g, s = (if ex (fun v => !decide (nw v = w.2.2.1 32 v)) v then 1 else 0, nI v, mk b (uL w 33 g)) ∧ ∀ u, u < v → g u = nw u) _ 16 (by decide) ⟨w.2.2.1 33, by rw [uL_id]; rfl, fun u hu => absurd hu (Nat.not_lt_zero u)⟩ (fun v hv s hI => ?_) (fun s hI => ?_)
    · obtain ⟨g, rfl, hg⟩ := hI
      try dsimp only
      rw [if_neg (Lnle hv)]
      refine ⟨(if ex (fun v => !decide (nw v = w.2.2.1 32 v)) (v + 1) then 1 else 0, nI (v + 1), mk b (uL w 33 (vp_updL g v (nw v)))), ?_, vp_updL g v (nw v), rfl, fun u hu => ?_⟩
      · refine lpb_fld (fun i a => a ||| chg (w.2.2.1 32) v (2 ^ i)) (fun a => a) 10 (by decide) (fun i hi a => ?_) (fun a => by rfl) ?_
        · try dsimp only
          rw [if_neg (Lnle hi), gR_11_0_7, Option.bind_some, shl1 i (by omega), chg_mk okCh hv (p2_lt hi), Option.bind_some, uL_ne _ _ (by decide), vl_eq, vl_eq, nI_1]
        · try dsimp only
          rw [gR_11_0_8, Option.bind_some, gR_11_0_7, Option.bind_some, rdL_mk okCh b _ hv, Option.bind_some, uL_ne _ _ (by decide), gR_11_0_5, Option.bind_some, rdL_mk okF b _ hv, Option.bind_some, uL_ne _ _ (by decide)]
          have en : w.2.2.1 32 v ||| (fld (fun i a => a ||| chg (w.2.2.1 32) v (2 ^ i)) 10 0 &&& w.2.2.1 30 v) = nw v := by rw [hnw]
          rw [en, wrL_mk okG b _ hv, Option.bind_some, uL_at, uL_uL, gR_11_0_8, Option.bind_some, rdL_mk okG b _ hv, Option.bind_some, uL_at, gR_11_0_7, Option.bind_some, rdL_mk okCh b _ hv, Option.bind_some, uL_ne _ _ (by decide)]
          have eu : vp_updL g v (nw v) v = nw v := if_pos rfl
          have o0 := or_flag (ex (fun v => !decide (nw v = w.2.2.1 32 v)) v) false
          have o1 := or_flag (ex (fun v => !decide (nw v = w.2.2.1 32 v)) v) true
          rw [eu, ex_succ]
          by_cases q : nw v = w.2.2.1 32 v
          · rw [if_pos ((lg_eq _ _).mpr q), vl_eq, vl_eq, nI_1, decide_eq_true q]
            exact congrArg (fun z => some (Sum.inr (z, nI (v + 1), mk b (uL w 33 (vp_updL g v (nw v)))))) o0
          · rw [if_neg (fun z => q ((lg_eq _ _).mp z)), vl_eq, vl_eq, nI_1, decide_eq_false q]
            exact congrArg (fun z => some (Sum.inr (z, nI (v + 1), mk b (uL w 33 (vp_updL g v (nw v)))))) o1
      · unfold vp_updL
        by_cases q : u = v
        · rw [if_pos q, q]
        · rw [if_neg q]; exact hg u (by omega)
    · obtain ⟨g, rfl, hg⟩ := hI
      refine ⟨(if ex (fun v => !decide (nw v = w.2.2.1 32 v)) 16 then 1 else 0, mk b (uL w 33 g)), by rfl, (if ex (fun s => F s && ex (fun i => p (s ^^^ 2 ^ i)) 10 && !p s) 1024 then 1 else 0, mk b (uL (uL w 33 g) 32 (va_cpy g (w.2.2.1 32) 0 0 16))), ?_, _, rfl, sP_trans (sP_uL w _ rfl) (sP_uL _ _ rfl), fun s hs => ?_⟩
      · try dsimp only
        have ee : ex (fun v => !decide (nw v = w.2.2.1 32 v)) 16 = ex (fun s => F s && ex (fun i => p (s ^^^ 2 ^ i)) 10 && !p s) 1024 := by
          rw [Bool.eq_iff_iff, ex_iff, ex_iff]
          constructor
          · rintro ⟨v, hv, q⟩
            rw [Bool.not_eq_true', decide_eq_false_iff_not] at q
            apply Classical.byContradiction
            intro no
            apply q
            refine lb_ext (fun j hj => ?_)
            have hs : 64 * v + j < 1024 := by omega
            rw [hb v hv j hj, ← tb_at _ _ hj, ht _ hs]
            have : ¬ (F (64 * v + j) && ex (fun i => p ((64 * v + j) ^^^ 2 ^ i)) 10 && !p (64 * v + j)) = true := fun z => no ⟨_, hs, z⟩
            cases h1 : p (64 * v + j) <;> cases h2 : (F (64 * v + j) && ex (fun i => p ((64 * v + j) ^^^ 2 ^ i)) 10) <;> simp_all
          · rintro ⟨s, hs, q⟩
            refine ⟨s / 64, by omega, ?_⟩
            rw [Bool.not_eq_true', decide_eq_false_iff_not]
            intro z
            have h1 := hb (s / 64) (by omega) (s % 64) (by omega)
            rw [show 64 * (s / 64) + s % 64 = s by omega, z] at h1
            have h2 := ht s hs
            have h3 : tb (w.2.2.1 32) s = lb (w.2.2.1 32 (s / 64)) (s % 64) := rfl
            rw [h3, h1] at h2
            rw [Bool.and_eq_true] at q
            rw [q.1, Bool.or_true] at h2
            rw [← h2] at q
            cases q.2
        rw [ee, gR_11_0_8, Option.bind_some, gR_11_0_7, Option.bind_some, cpL_mk okG okCh, Option.bind_some, uL_at, uL_ne _ _ (by decide)]
        unfold bz
        rw [if_pos]
        generalize ex (fun s => F s && ex (fun i => p (s ^^^ 2 ^ i)) 10 && !p s) 1024 = E
        cases E
        · exact Or.inl rfl
        · exact Or.inr rfl
      · rw [uL_at]
        refine tb_of (p := fun s => p s || (F s && ex (fun i => p (s ^^^ 2 ^ i)) 10)) (fun v hv q hq => ?_) hs
        rw [sb_cpy0' hv, hg v hv]
        exact hb v hv q hq
  obtain ⟨r, e1, w', rfl, e2⟩ := main
  exact ⟨w', e1, e2⟩
end
