/-! the class's tables, on -/
theorem okT : ∀ k, k < 8 → okA 3 (7 + k) 16 = true := by decide +kernel
theorem okT2 : ∀ k, k < 8 → okA 3 (17 + k) 16 = true := by decide +kernel
theorem tb_of {f : Nat → Int64} {p : Nat → Bool} (h : ∀ v, v < 16 → ∀ q, q < 64 → lb (f v) q = p (64 * v + q)) {s : Nat} (hs : s < 1024) : tb f s = p s := by
  unfold tb
  rw [h _ (by omega) _ (by omega)]
  congr 1
  omega
theorem words0 {f : Nat → Int64} {p : Nat → Bool} (h : ∀ v, v < 16 → ∀ q, q < 64 → lb (f v) q = p (64 * v + q)) : (∀ v, v < 16 → f v = 0) ↔ ∀ s, s < 1024 → p s = false := by
  constructor
  · intro g s hs
    rw [← tb_of h hs]
    unfold tb
    rw [g _ (by omega), lb_0]
  · intro g v hv
    rw [zero_bits]
    intro q hq
    rw [h v hv q hq, g _ (by omega)]
theorem fld_or (g : Nat → Int64) : ∀ n, fld (fun i a => a ||| g i) n 0 = 0 ↔ ∀ i, i < n → g i = 0
  | 0 => ⟨fun _ i h => absurd h (Nat.not_lt_zero i), fun _ => rfl⟩
  | n + 1 => by
    have ih := fld_or g n
    have e : ∀ x y : Int64, x ||| y = 0 ↔ x = 0 ∧ y = 0 := fun x y => by
      rw [zero_bits, zero_bits, zero_bits]
      constructor
      · intro h
        refine ⟨fun j hj => ?_, fun j hj => ?_⟩
        · have := h j hj
          rw [lb_or, Bool.or_eq_false_iff] at this
          exact this.1
        · have := h j hj
          rw [lb_or, Bool.or_eq_false_iff] at this
          exact this.2
      · rintro ⟨h1, h2⟩ j hj
        rw [lb_or, h1 j hj, h2 j hj]
        rfl
    show fld _ n 0 ||| g n = 0 ↔ _
    rw [e, ih]
    refine ⟨fun h i hi => ?_, fun h => ⟨fun i hi => h i (by omega), h n (by omega)⟩⟩
    rcases Nat.lt_or_ge i n with q | q
    · exact h.1 i q
    · rw [show i = n by omega]; exact h.2
section
variable {b : Nat} {w : WD} {j : Nat}
theorem empty_mk (h : okA 3 j 16 = true) : FX7_isEmpty (mk b w) (b + j) = some (if ex (tb (w.2.2.1 j)) 1024 then 0 else 1) := by
  unfold FX7_isEmpty
  refine lpb_fld (fun i a => a ||| w.2.2.1 j i) (fun a => a) 16 (by decide) (fun i hi a => ?_) (fun a => by rfl) ?_
  · dsimp only
    rw [if_neg (Lnle hi), rdL_mk h b w hi, Option.bind_some, vl_eq, vl_eq, nI_1]
  · have h1 := words0 (f := w.2.2.1 j) (p := tb (w.2.2.1 j)) (fun v _ q hq => (tb_at _ _ hq).symm)
    rw [← fld_or, ← cmp0] at h1
    by_cases e : ex (tb (w.2.2.1 j)) 1024 = true
    · rw [if_pos e, if_neg]
      intro q
      obtain ⟨s, hs, g⟩ := (ex_iff _ _).mp e
      rw [h1.mp q s hs] at g
      cases g
    · rw [if_neg e, if_pos]
      refine h1.mpr (fun s hs => ?_)
      cases g : tb (w.2.2.1 j) s with
      | false => rfl
      | true => exact absurd ((ex_iff _ _).mpr ⟨s, hs, g⟩) e
theorem narrow_mk (h : okA 3 j 16 = true) {i : Nat} (hi : i < 10) (so : Bool) : ∃ g, FX7_narrow (mk b w) (b + j) (nI i) (if so then 1 else 0) = some (mk b (uL w j g)) ∧ ∀ s, s < 1024 → tb g s = (tb (w.2.2.1 j) s && (s.testBit i == so)) := by
  refine ⟨fa_fill (fun v => w.2.2.1 j v &&& (if so then soX i v else soX i v ^^^ (-1))) (w.2.2.1 j) 16, ?_, fun s hs => ?_⟩
  · unfold FX7_narrow
    refine lpb_fillL j (fun v => w.2.2.1 j v &&& (if so then soX i v else soX i v ^^^ (-1))) (fun x => x) 16 (by decide) (fun v hv g hg => ?_) (fun g => by rfl) (by rfl)
    dsimp only
    rw [if_neg (Lnle hv), so_mk _ hi hv, Option.bind_some, rdL_mk h b _ hv, Option.bind_some, uL_at, hg v (Nat.le_refl v), jn_eq]
    cases so
    · rw [if_pos (by rfl), vl_eq]
      dsimp only
      rw [wrL_mk h b _ hv, Option.bind_some, vl_eq, nI_1, uL_at, uL_uL]
      rfl
    · rw [if_neg (by decide)]
      dsimp only
      rw [wrL_mk h b _ hv, Option.bind_some, vl_eq, nI_1, uL_at, uL_uL]
      rfl
  · refine tb_of (p := fun s => tb (w.2.2.1 j) s && (s.testBit i == so)) (fun v hv q hq => ?_) hs
    rw [fa_fill_in hv, lb_and, tb_at _ _ hq]
    congr 1
    cases so
    · rw [if_neg (by decide), lb_not _ hq, lb_soX i hi v hv q hq]
      cases Nat.testBit (64 * v + q) i <;> rfl
    · rw [if_pos rfl, lb_soX i hi v hv q hq]
      cases Nat.testBit (64 * v + q) i <;> rfl
theorem low_mk {x : Int64} {k : Nat} (hk : k < 64) (h1 : lb x k = true) (h2 : ∀ q, q < k → lb x q = false) : FX7_lowestBit x = some (nI k) := by
  have e : x &&& (-x) = lN (2 ^ k) := by
    refine lb_ext (fun q hq => ?_)
    rw [lb_and, lb_lN _ hq, Nat.testBit_two_pow]
    have hn : lb (-x) q = (lb x q ^^ (decide (q < 64) && decide (∃ i, i < q ∧ lb x i = true))) := by
      show (-x).toBitVec.getLsbD q = _
      rw [Int64.toBitVec_neg, BitVec.getLsbD_neg]
      rfl
    rw [hn]
    rcases Nat.lt_trichotomy q k with g | g | g
    · rw [h2 q g, Bool.false_and, decide_eq_false (by omega)]
    · subst g
      rw [h1, decide_eq_true rfl, decide_eq_true hq, decide_eq_false (by rintro ⟨i, hi, g⟩; rw [h2 i hi] at g; cases g)]
      rfl
    · rw [decide_eq_false (show ¬ k = q by omega), decide_eq_true hq, decide_eq_true ⟨k, g, h1⟩]
      cases lb x q <;> rfl
  unfold FX7_lowestBit
  rw [e]
  have h3 : ∀ k, k < 64 → FJ13_bitCount_95d88 (lN (2 ^ k) - 1) = some (nI k) := by decide +kernel
  rw [h3 k hk]
  rfl
theorem first_mk (h : okA 3 j 16 = true) {s : Nat} (hs : s < 1024) (h1 : tb (w.2.2.1 j) s = true) (h2 : ∀ r, r < s → tb (w.2.2.1 j) r = false) : FX7_first (mk b w) (b + j) = some (nI s) := by
  have hw : ∀ v, v < s / 64 → w.2.2.1 j v = 0 := fun v hv => by
    rw [zero_bits]
    intro q hq
    rw [← tb_at _ _ hq]
    exact h2 _ (by omega)
  have hl : FX7_lowestBit (w.2.2.1 j (s / 64)) = some (nI (s % 64)) := low_mk (by omega) h1 (fun q hq => by
    rw [← tb_at _ _ (show q < 64 by omega)]
    exact h2 _ (by omega))
  unfold FX7_first
  refine lpb_for nI (.inl (nI s)) (s / 64) (by rfl) (Nat.lt_of_le_of_lt (Nat.div_le_self _ _) (Nat.lt_trans hs (by decide))) (fun i hi => ?_) ?_ rfl
  · rw [if_neg (Lnle (show i < 16 by omega)), rdL_mk h b w (by omega), Option.bind_some, hw i hi, if_pos (by decide), vl_eq, nI_1]
  · rw [if_neg (Lnle (show s / 64 < 16 by omega)), rdL_mk h b w (by omega), Option.bind_some, if_neg, Option.bind_some, hl, Option.bind_some, fa_lit 64, pk_mul, nI_add]
    · congr 4
      omega
    · rw [cmp0]
      intro q
      have : lb (w.2.2.1 j (s / 64)) (s % 64) = true := h1
      rw [q, lb_0] at this
      cases this
theorem last_mk (h : okA 3 j 16 = true) {s : Nat} (hs : s < 1024) (h1 : tb (w.2.2.1 j) s = true) (h2 : ∀ r, s < r → r < 1024 → tb (w.2.2.1 j) r = false) : FX7_last (mk b w) (b + j) = some (nI s) := by
  unfold FX7_last
  refine lpb_for (fun i => nI (1023 - i)) (.inl (nI s)) (1023 - s) (by rfl) (Nat.lt_of_le_of_lt (Nat.sub_le _ _) (by decide)) (fun i hi => ?_) ?_ rfl
  · rw [if_neg (nI_pos (by omega)), thas_mk h (by omega), h2 _ (by omega) (by omega), Option.bind_some, if_pos (by rfl), vl_eq]
    rw [show 1023 - i = 1023 - (i + 1) + 1 by omega, pk_m1]
  · rw [if_neg (nI_pos (by omega)), show 1023 - (1023 - s) = s by omega, thas_mk h hs, h1, Option.bind_some, if_neg (by decide)]
theorem sure_mk (h : okA 3 j 16 = true) (so : Bool) : FX7_sure (mk b w) (b + j) (if so then 1 else 0) = some (nI (mO (fun i => decide (fb_ct (fun s => tb (w.2.2.1 j) s && s.testBit i) 1024 = if so then fb_ct (tb (w.2.2.1 j)) 1024 else 0)) 10)) := by
  unfold FX7_sure
  rw [size_mk h, Option.bind_some]
  refine lpb_mO (fun i => decide (fb_ct (fun s => tb (w.2.2.1 j) s && s.testBit i) 1024 = if so then fb_ct (tb (w.2.2.1 j)) 1024 else 0)) 10 (by decide) (by decide) (fun i hi a => ?_) (fun a => by rfl) (by rfl)
  dsimp only
  have c1 := fb_ct_le (fun s => tb (w.2.2.1 j) s && s.testBit i) 1024
  have c2 := fb_ct_le (tb (w.2.2.1 j)) 1024
  rw [if_neg (Lnle hi), sizeW_mk h hi, Option.bind_some, jn_eq]
  have key : ∀ m, m ≤ 1024 → (if nI (fb_ct (fun s => tb (w.2.2.1 j) s && s.testBit i) 1024) = nI m then vl (a ||| ((1 : Int32) <<< (nI i &&& 31))) (fun x7 => vl (nI i + (1 : Int32)) (fun x8 => some (Sum.inr (x7, x8)))) else vl (nI i + (1 : Int32)) (fun x9 => some (Sum.inr (a, x9))) : Option (Int32 ⊕ (Int32 × Int32))) = some (Sum.inr (if decide (fb_ct (fun s => tb (w.2.2.1 j) s && s.testBit i) 1024 = m) = true then a ||| ((1 : Int32) <<< (nI i &&& 31)) else a, nI (i + 1))) := by
    intro m hm
    by_cases e : fb_ct (fun s => tb (w.2.2.1 j) s && s.testBit i) 1024 = m
    · rw [if_pos (by rw [e]), vl_eq, vl_eq, nI_1, decide_eq_true e, if_pos rfl]
    · rw [if_neg (fun q => e (nI_inj (by omega) (by omega) q)), vl_eq, nI_1, decide_eq_false e, if_neg (by decide)]
  cases so
  · rw [if_pos (by rfl)]
    exact key 0 (by decide)
  · rw [if_neg (by decide)]
    exact key _ c2
theorem p2_lt {i : Nat} (hi : i < 10) : 2 ^ i < 1024 := Nat.pow_lt_pow_right (by decide) (show i < 10 from hi)
theorem swing_mk (h : okA 3 j 16 = true) {i : Nat} (hi : i < 10) : FX7_swing (mk b w) (b + j) (nI i) = some (nI (fb_ct (fun s => tb (w.2.2.1 j) s ^^ tb (w.2.2.1 j) (s ^^^ 2 ^ i)) 1024)) := by
  unfold FX7_swing
  refine lpb_fld (fun v a => a + nI (fb_ct (fun q => lb (w.2.2.1 j v ^^^ chg (w.2.2.1 j) v (2 ^ i)) q) 64)) (fun a => a) 16 (by decide) (fun v hv a => ?_) (fun a => by rfl) ?_
  · dsimp only
    rw [if_neg (Lnle hv), rdL_mk h b w hv, Option.bind_some, shl1 i (by omega), chg_mk h hv (p2_lt hi), Option.bind_some, popc, Option.bind_some, vl_eq, vl_eq, nI_1]
  · rw [fld_sum0]
    exact congrArg (fun n => some (nI n)) (ct_tbP _ (fun v hv q hq => by
      show _ = (tb _ _ ^^ tb _ _)
      rw [lb_xor, lb_chg _ (p2_lt hi) hq, tb_at _ _ hq]))
theorem dep_mk (h : okA 3 j 16 = true) : FX7_dependsOn (mk b w) (b + j) = some (nI (mO (fun i => ex (fun s => tb (w.2.2.1 j) s ^^ tb (w.2.2.1 j) (s ^^^ 2 ^ i)) 1024) 10)) := by
  unfold FX7_dependsOn
  refine lpb_mO (fun i => ex (fun s => tb (w.2.2.1 j) s ^^ tb (w.2.2.1 j) (s ^^^ 2 ^ i)) 1024) 10 (by decide) (by decide) (fun i hi a => ?_) (fun a => by rfl) (by rfl)
  dsimp only
  have c1 := fb_ct_le (fun s => tb (w.2.2.1 j) s ^^ tb (w.2.2.1 j) (s ^^^ 2 ^ i)) 1024
  rw [if_neg (Lnle hi), swing_mk h hi, Option.bind_some, ex_ct]
  by_cases e : fb_ct (fun s => tb (w.2.2.1 j) s ^^ tb (w.2.2.1 j) (s ^^^ 2 ^ i)) 1024 = 0
  · rw [if_pos (by rw [e]; rfl), vl_eq, nI_1, if_neg (by simp [e])]
  · rw [if_neg (nI_ne0 (by omega) (by omega)), vl_eq, vl_eq, nI_1, if_pos (by simp; omega)]
end
