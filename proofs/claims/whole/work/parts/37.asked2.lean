/-! calls: asked, questions -/
def s3 (p : Nat → Bool) (n : Nat) : Int32 × Int32 × Int32 × Int32 := (if ex p n then nI (fa_first p n) else -2, nI (mO (fun k => al (fun s => !p s || s.testBit k) n) 10), nI (mO (fun k => al (fun s => !p s || !s.testBit k) n) 10), nI n)
theorem s3_1 (p : Nat → Bool) (n : Nat) : (s3 p n).1 = if ex p n then nI (fa_first p n) else -2 := rfl
theorem s3_f {p : Nat → Bool} {s : Nat} (hp : p s = false) : s3 p (s + 1) = ((s3 p s).1, (s3 p s).2.1, (s3 p s).2.2.1, nI (s + 1)) := by
  unfold s3
  refine Prod.ext ?_ (Prod.ext ?_ (Prod.ext ?_ rfl))
  · show (if ex p (s + 1) = true then nI (fa_first p (s + 1)) else -2) = (if ex p s = true then nI (fa_first p s) else -2)
    rw [ex_succ, hp, Bool.or_false]
    by_cases q : ex p s = true
    · rw [if_pos q, if_pos q, (first_succ p s).1 q]
    · rw [if_neg q, if_neg q]
  · exact congrArg nI (mO_cong (fun k _ => by rw [al_succ, hp]; simp))
  · exact congrArg nI (mO_cong (fun k _ => by rw [al_succ, hp]; simp))
theorem s3_t {p : Nat → Bool} {s : Nat} (hs : s < 1024) (hp : p s = true) : s3 p (s + 1) = (if (s3 p s).1 = -2 then nI s else (s3 p s).1, (s3 p s).2.1 &&& nI s, (s3 p s).2.2.1 &&& (nI s ^^^ (-1 : Int32)), nI (s + 1)) := by
  unfold s3
  refine Prod.ext ?_ (Prod.ext ?_ (Prod.ext ?_ rfl))
  · show (if ex p (s + 1) = true then nI (fa_first p (s + 1)) else -2) = if (if ex p s = true then nI (fa_first p s) else -2) = -2 then nI s else (if ex p s = true then nI (fa_first p s) else -2)
    rw [ex_succ, hp, Bool.or_true, if_pos rfl]
    by_cases q : ex p s = true
    · rw [if_pos q, if_neg (nI_nm2 (by have := (ex_first p s).mpr q; omega)), (first_succ p s).1 q]
    · have q' : ex p s = false := by cases g : ex p s with
        | true => exact absurd g q
        | false => rfl
      rw [if_neg q, if_pos rfl, (first_succ p s).2 q' hp]
  · show nI _ = nI _ &&& nI s
    rw [and_m]
    exact congrArg nI (mO_cong (fun k _ => by rw [al_succ, hp]; simp))
  · show nI _ = nI _ &&& (nI s ^^^ (-1 : Int32))
    rw [andn_m]
    exact congrArg nI (mO_cong (fun k _ => by rw [al_succ, hp]; simp))
section
variable {RL : WD → Prop} {b : Nat} {w : WD}
theorem areF_y {k : Nat} (hk : k < 1024) : FX11_areFacts (nI k) = some 1 := by
  unfold FX11_areFacts
  rw [if_neg (nI_pos (by omega)), if_neg (Lnle hk)]
theorem areF_n {x : Int32} (h : ¬ ∃ k, k < 1024 ∧ x = nI k) : FX11_areFacts x = some 0 := by
  unfold FX11_areFacts
  rcases ix_out (n := 1024) (by decide) h with e | ⟨e1, e2⟩
  · rw [if_pos e]
  · rw [if_neg e1, if_pos e2]
theorem asked_loop (h : bo (w.2.1 81) 1024) {f g : Nat} (hf : f < 1024) (hg : g < 1024) {Z : Type} (kf : Int32 × Int32 × Int32 → Option Z) : (lp (fun (s6 : Int32 × Int32 × Int32 × Int32) => if (1024 : Int32) ≤ s6.2.2.2 then some (Sum.inl (s6.1, s6.2.1, s6.2.2.1)) else (FX12_isLeft (mk b w) (b + 77) s6.2.2.2 (nI f) (nI g)).bind (fun v8 => if v8 = 0 then some (Sum.inr (s6.1, s6.2.1, s6.2.2.1, s6.2.2.2 + (1 : Int32))) else if s6.1 = (-2 : Int32) then some (Sum.inr (s6.2.2.2, s6.2.1 &&& s6.2.2.2, s6.2.2.1 &&& (s6.2.2.2 ^^^ (-1 : Int32)), s6.2.2.2 + (1 : Int32))) else some (Sum.inr (s6.1, s6.2.1 &&& s6.2.2.2, s6.2.2.1 &&& (s6.2.2.2 ^^^ (-1 : Int32)), s6.2.2.2 + (1 : Int32))))) FU ((-2 : Int32), (1023 : Int32), (1023 : Int32), (0 : Int32))).bind kf = kf ((s3 (lf w f g) 1024).1, (s3 (lf w f g) 1024).2.1, (s3 (lf w f g) 1024).2.2.1) := by
  refine lpb_for (s3 (lf w f g)) _ 1024 ?_ (by decide) (fun s hs => ?_) ?_ rfl
  · unfold s3
    rw [all10]
    rfl
  · have e4 : (s3 (lf w f g) s).2.2.2 = nI s := rfl
    try dsimp only
    rw [e4, if_neg (Lnle hs), isLeft_mk h hs hf hg, Option.bind_some, bite, nI_1]
    cases hp : lf w f g s with
    | false => rw [if_neg (by decide), s3_f hp]
    | true =>
      rw [if_pos rfl, s3_t hs hp]
      by_cases q : (s3 (lf w f g) s).1 = -2
      · rw [if_pos q, if_pos q]
      · rw [if_neg q, if_neg q]
  · try dsimp only
    rw [if_pos (show (1024 : Int32) ≤ (s3 (lf w f g) 1024).2.2.2 from Lle (Nat.le_refl 1024) (by decide))]
theorem op_asked (hRL : LOK RL) (h : Rel RL w) (x y z : Int32) : OPc b w (fun hp => FX11_asked hp (b + 0) x y z) (fun hp => FX12_asked hp (b + 77) x y z) := by
  by_cases ex1 : ∃ k, k < 1024 ∧ x = nI k
  · obtain ⟨f, hf, rfl⟩ := ex1
    by_cases ey : ∃ k, k < 1024 ∧ y = nI k
    · obtain ⟨g, hg, rfl⟩ := ey
      by_cases ez : ∃ k, k < 5 ∧ z = nI k
      · obtain ⟨i, hi, rfl⟩ := ez
        obtain ⟨t, e1, e2⟩ := gatherA_mk (b := b) (g := g) h hf
        have hC : ∀ kf : HP → Option (Int32 × HP), ((rc [11] (mk b w) (b + 0) (FX11_gatherAsked (mk b w) (b + 0) (nI f) (nI g))).bind kf) = kf (mk b (uL w 32 t)) := fun kf => by rw [rc_11_0, e1]; rfl
        have hb' : bo ((uL w 32 t).2.1 81) 1024 := h.b81
        have hlf : lf (uL w 32 t) f g = lf w f g := rfl
        have ht : ∀ s, s < 1024 → tb ((uL w 32 t).2.2.1 32) s = lf w f g s := fun s hs => by rw [uL_at]; exact e2 s hs
        have cA : fb_ct (tb ((uL w 32 t).2.2.1 32)) 1024 = fb_ct (lf w f g) 1024 := fb_ct_cong ht
        have cE : ex (tb ((uL w 32 t).2.2.1 32)) 1024 = ex (lf w f g) 1024 := ex_cong ht
        have sim1 : sim w (uL w 32 t) := sP_uL w t rfl
        have main : ∃ r, FX11_asked (mk b w) (b + 0) (nI f) (nI g) (nI i) = some (r, mk b (uL w 32 t)) ∧ FX12_asked (mk b (uL w 32 t)) (b + 77) (nI f) (nI g) (nI i) = some r := by
          unfold FX11_asked FX12_asked
          rw [areF_y hf, areF_y hg, Option.bind_some, Option.bind_some, if_neg n10, if_neg n10, wh_y hi, hC, in_y (n := 1023) hf, in_y (n := 1023) hg, in_y hi, Option.bind_some, Option.bind_some, Option.bind_some, if_neg n10, if_neg n10, if_neg n10, rc_12_77, rc_12_77, leftBy_mk hb' hf hg, nextFact_mk hb' hf hg, rc_11_0, nextQ_mk ht, hlf, gR_11_0_7, Option.bind_some, size_mk okCh, cA]
          by_cases h0 : i = 0
          · subst h0
            exact ⟨nI (fb_ct (lf w f g) 1024), rfl, rfl⟩
          by_cases h4 : i = 4
          · subst h4
            exact ⟨nq (lf w f g) f, rfl, rfl⟩
          have hn0 : ¬ nI i = 0 := nI_ne0 (by omega) (by omega)
          have hn4 : ¬ nI i = 4 := fun q => h4 (nI_inj (by omega) (by decide) q)
          rw [if_neg hn0, if_neg hn0, if_neg hn4, if_neg hn4]
          simp only [Option.bind_some, vl_eq, jn_eq, rc_12_77]
          rw [asked_loop hb' hf hg, hlf, empty_mk okCh, cE, Option.bind_some]
          have hq : ex (lf w f g) 1024 = true → fa_first (lf w f g) 1024 < 1024 ∧ FX7_first (mk b (uL w 32 t)) (b + 32) = some (nI (fa_first (lf w f g) 1024)) := fun q => by
            have f1 := (ex_first (lf w f g) 1024).mpr q
            have f2 := fa_first_yes (lf w f g) 1024 f1
            exact ⟨f1, first_mk okCh f1 (by rw [ht _ f1]; exact f2) (fun r hr => by rw [ht r (by omega)]; exact fa_first_no (lf w f g) 1024 r hr)⟩
          have sT' : FX7_sure (mk b (uL w 32 t)) (b + 32) 1 = some (s3 (lf w f g) 1024).2.1 := by
            refine Eq.trans (sure_mk (b := b) (w := uL w 32 t) okCh true) (congrArg (fun n => some (nI n)) (mO_cong (fun k _ => ?_)))
            rw [if_pos rfl, fb_ct_cong (p := fun s => tb ((uL w 32 t).2.2.1 32) s && s.testBit k) (q := fun s => lf w f g s && s.testBit k) (fun s hs => by rw [ht s hs]), cA, Bool.eq_iff_iff, decide_eq_true_eq, ct_all_iff]
          have sF' : FX7_sure (mk b (uL w 32 t)) (b + 32) 0 = some (s3 (lf w f g) 1024).2.2.1 := by
            refine Eq.trans (sure_mk (b := b) (w := uL w 32 t) okCh false) (congrArg (fun n => some (nI n)) (mO_cong (fun k _ => ?_)))
            rw [if_neg (by decide), fb_ct_cong (p := fun s => tb ((uL w 32 t).2.2.1 32) s && s.testBit k) (q := fun s => lf w f g s && s.testBit k) (fun s hs => by rw [ht s hs]), Bool.eq_iff_iff, decide_eq_true_eq, ct_none_iff]
          have s1 : (s3 (lf w f g) 1024).1 = if ex (lf w f g) 1024 then nI (fa_first (lf w f g) 1024) else -2 := s3_1 _ _
          rw [sT', sF']
          rw [s1]
          generalize (s3 (lf w f g) 1024).2.1 = mA at *
          generalize (s3 (lf w f g) 1024).2.2.1 = mB at *
          generalize ex (lf w f g) 1024 = E at *
          generalize fa_first (lf w f g) 1024 = fi at *
          cases E with
          | true =>
            obtain ⟨l1, l2⟩ := hq rfl
            rw [l2]
            have hl : ¬ nI fi = (-2 : Int32) := nI_nm2 (by omega)
            rcases (show i = 1 ∨ i = 2 ∨ i = 3 by omega) with rfl | rfl | rfl
            · exact ⟨nI fi, rfl, rfl⟩
            · exact ⟨mA &&& (nI f ^^^ (-1 : Int32)), rfl, if_neg hl⟩
            · exact ⟨mB &&& (nI f ^^^ (-1 : Int32)), rfl, if_neg hl⟩
          | false =>
            rcases (show i = 1 ∨ i = 2 ∨ i = 3 by omega) with rfl | rfl | rfl
            · exact ⟨-2, rfl, rfl⟩
            · exact ⟨0, rfl, rfl⟩
            · exact ⟨0, rfl, rfl⟩
        obtain ⟨r, m1, m2⟩ := main
        exact ⟨r, _, m1, m2, sim1⟩
      · refine ⟨-1, w, ?_, ?_, sP_refl w⟩
        · try dsimp only
          unfold FX11_asked
          rw [areF_y hf, areF_y hg, Option.bind_some, Option.bind_some, if_neg n10, if_neg n10, wh_n ez]
        · try dsimp only
          unfold FX12_asked
          rw [in_y (n := 1023) hf, in_y (n := 1023) hg, in_n ez]
          rfl
    · refine ⟨-1, w, ?_, ?_, sP_refl w⟩
      · try dsimp only
        unfold FX11_asked
        rw [areF_y hf, areF_n ey]
        rfl
      · try dsimp only
        unfold FX12_asked
        rw [in_y (n := 1023) hf, in_n ey]
        rfl
  · refine ⟨-1, w, ?_, ?_, sP_refl w⟩
    · try dsimp only
      unfold FX11_asked
      rw [areF_n ex1]
      rfl
    · try dsimp only
      unfold FX12_asked
      rw [in_n ex1]
      rfl
end
