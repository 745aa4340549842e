/-! call: ladder, both -/
section
variable {F G : Nat → Bool}
def lvl (F G : Nat → Bool) (n s : Nat) : Bool := rg F G n s && decide (dN F G n s = n)
/-- the neighbours of the states that one pass has met -/
def pU (F G : Nat → Bool) (n m x : Nat) : Bool := ex (fun s => lvl F G n s && (F x && ex (fun i => decide (x = s ^^^ 2 ^ i)) 10)) m
theorem pU_s (n m x : Nat) : pU F G n (m + 1) x = (pU F G n m x || (lvl F G n m && (F x && ex (fun i => decide (x = m ^^^ 2 ^ i)) 10))) := rfl
theorem xr_flip {x s q : Nat} : x = s ^^^ q ↔ s = x ^^^ q := by
  constructor
  · intro h; rw [h, Nat.xor_assoc, Nat.xor_self, Nat.xor_zero]
  · intro h; rw [h, Nat.xor_assoc, Nat.xor_self, Nat.xor_zero]
theorem pU_end {n x : Nat} (hx : x < 1024) (h : rg F G n x = false) : pU F G n 1024 x = rg F G (n + 1) x := by
  rw [rg_s, h, Bool.false_or, Bool.eq_iff_iff, Bool.and_eq_true, ex_iff]
  unfold pU
  rw [ex_iff]
  constructor
  · rintro ⟨s, hs, q⟩
    unfold lvl at q
    rw [Bool.and_eq_true, Bool.and_eq_true, Bool.and_eq_true, ex_iff] at q
    obtain ⟨⟨q1, q2⟩, q3, i, hi, q4⟩ := q
    refine ⟨q3, i, hi, ?_⟩
    rw [← xr_flip.mp (of_decide_eq_true q4)]
    exact q1
  · rintro ⟨q1, i, hi, q2⟩
    refine ⟨x ^^^ 2 ^ i, xr_lt hx hi, ?_⟩
    have e : ex (fun j => decide (x = x ^^^ 2 ^ i ^^^ 2 ^ j)) 10 = true := (ex_iff _ _).mpr ⟨i, hi, decide_eq_true (xr_flip.mpr rfl)⟩
    obtain ⟨d1, d2, d3⟩ := dN_of q2
    have d4 : dN F G n (x ^^^ 2 ^ i) = n := by
      rcases Nat.lt_or_ge (dN F G n (x ^^^ 2 ^ i)) n with z | z
      · exfalso
        have : rg F G (dN F G n (x ^^^ 2 ^ i) + 1) x = true := by
          rw [rg_s, q1, (ex_iff _ _).mpr ⟨i, hi, d2⟩, Bool.and_self, Bool.or_true]
        rw [rg_mono (show dN F G n (x ^^^ 2 ^ i) + 1 ≤ n by omega) this] at h
        cases h
      · omega
    unfold lvl
    rw [q2, decide_eq_true d4, q1, e]
    rfl
theorem aV_end {n x : Nat} (hx : x < 1024) : aV F G n (pU F G n 1024) x = aV F G (n + 1) (fun _ => false) x := by
  unfold aV
  cases h : rg F G n x with
  | true =>
    rw [rg_mono (Nat.le_succ n) h, av_1, av_1]
    obtain ⟨d1, d2, d3⟩ := dN_of h
    rw [dN_is (n := n + 1) (m := dN F G n x) (by omega) d2 d3]
  | false =>
    rw [pU_end hx h]
    cases g : rg F G (n + 1) x with
    | true =>
      rw [av_2, av_1, dN_is (n := n + 1) (m := n + 1) (Nat.le_refl _) g (fun j hj => ?_)]
      cases z : rg F G j x with
      | false => rfl
      | true => rw [rg_mono (show j ≤ n by omega) z] at h; cases h
    | false => rw [av_3, av_3]
theorem aV_at {n x : Nat} {U : Nat → Bool} (hn : n < 2000) : aV F G n U x = nI n ↔ lvl F G n x = true := by
  unfold aV lvl
  cases h : rg F G n x with
  | true =>
    rw [av_1, Bool.true_and, decide_eq_true_iff]
    have := (dN_of h).1
    exact ⟨fun q => nI_inj (by omega) (by omega) q, fun q => by rw [q]⟩
  | false =>
    rw [Bool.false_and]
    refine ⟨fun q => ?_, fun q => by cases q⟩
    cases g : U x with
    | true =>
      rw [g, av_2] at q
      have := nI_inj (by omega) (by omega) q
      omega
    | false =>
      rw [g, av_3] at q
      exact absurd q.symm (far_ne (by omega))
end
def passB (b : Nat) (z : Int32) : Int32 × Int32 × HP → Option ((Int32 × HP) ⊕ (Int32 × Int32 × HP)) := fun s5 => if (1024 : Int32) ≤ s5.2.1 then some (Sum.inl (s5.1, s5.2.2)) else (gR [12] 57 s5.2.2 (b + 77)).bind (fun v8 => (rdN 0 s5.2.2 v8 s5.2.1).bind (fun v9 => if v9 = z then (rc [12] s5.2.2 (b + 77) (FX12_lessens s5.2.2 (b + 77) s5.2.1 (z + (1 : Int32)))).bind (fun w10 => if w10.1 = 0 then vl (s5.2.1 + (1 : Int32)) (fun x11 => some (Sum.inr (s5.1, x11, w10.2))) else vl (s5.2.1 + (1 : Int32)) (fun x12 => some (Sum.inr ((1 : Int32), x12, w10.2)))) else vl (s5.2.1 + (1 : Int32)) (fun x13 => some (Sum.inr (s5.1, x13, s5.2.2)))))
section
variable {RL : WD → Prop} {b : Nat} {w : WD}
theorem pass_mk {F G : Nat → Bool} (hb : bo (w.2.1 81) 1024) (hF : WF w = F) {n : Nat} (hn : n < 2000) (ha : ∀ x, x < 1024 → w.2.1 104 x = aV F G n (fun _ => false) x) {Z : Type} (kf : Int32 × HP → Option Z) (Post : Z → Prop) (hk : ∀ a, (∀ x, x < 1024 → a x = aV F G (n + 1) (fun _ => false) x) → ∃ r, kf (if ex (fun x => !rg F G n x && rg F G (n + 1) x) 1024 then 1 else 0, mk b (uA w 104 a)) = some r ∧ Post r) : ∃ r, (lp (passB b (nI n)) FU (0, 0, mk b w)).bind kf = some r ∧ Post r := by
  refine lpb_inv (fun m (t : Int32 × Int32 × HP) => ∃ a, t = (if ex (fun x => !rg F G n x && pU F G n m x) 1024 then 1 else 0, nI m, mk b (uA w 104 a)) ∧ ∀ x, x < 1024 → a x = aV F G n (pU F G n m) x) Post 1024 (by decide) ⟨w.2.1 104, ?_, fun x hx => ?_⟩ (fun m hm t hI => ?_) (fun t hI => ?_)
  · rw [uA_id, if_neg]
    · rfl
    · rw [ex_iff]
      rintro ⟨x, _, q⟩
      rw [show pU F G n 0 x = false from rfl, Bool.and_false] at q
      cases q
  · rw [ha x hx]
    rfl
  · obtain ⟨a, rfl, hA⟩ := hI
    unfold passB
    try dsimp only
    rw [if_neg (Lnle hm), gR_12_77_57, Option.bind_some, rdN_mk (t := 0) (n := 1024) (by decide +kernel) (by decide) b _ hm, Option.bind_some, uA_at, hA _ hm]
    by_cases q : lvl F G n m = true
    · have hF' : WF (uA w 104 a) = F := by rw [← hF]; rfl
      obtain ⟨a2, e1, e2⟩ := lessens_mk (b := b) (w := uA w 104 a) (G := G) hb hF' hn (U := pU F G n m) (fun x hx => by rw [uA_at]; exact hA x hx) hm
      have hs : ∀ x, pU F G n (m + 1) x = (pU F G n m x || (F x && ex (fun i => decide (x = m ^^^ 2 ^ i)) 10)) := fun x => by rw [pU_s, q, Bool.true_and]
      rw [if_pos ((aV_at hn).mpr q), nI_1, rc_12_77, e1, Option.bind_some, uA_uA]
      refine ⟨(if ex (fun x => !rg F G n x && pU F G n (m + 1) x) 1024 then 1 else 0, nI (m + 1), mk b (uA w 104 a2)), ?_, a2, rfl, fun x hx => by rw [e2 x hx]; unfold aV; rw [hs x]⟩
      have ee : ex (fun x => !rg F G n x && pU F G n (m + 1) x) 1024 = (ex (fun x => !rg F G n x && pU F G n m x) 1024 || ex (fun x => !rg F G n x && !pU F G n m x && (F x && ex (fun i => decide (x = m ^^^ 2 ^ i)) 10)) 1024) := by
        rw [Bool.eq_iff_iff, Bool.or_eq_true, ex_iff, ex_iff, ex_iff]
        constructor
        · rintro ⟨x, hx, z⟩
          rw [hs x] at z
          cases y : pU F G n m x with
          | true => exact Or.inl ⟨x, hx, by rw [y] at z ⊢; exact z⟩
          | false => exact Or.inr ⟨x, hx, by rw [y] at z; rw [y, Bool.not_false, Bool.and_true]; exact z⟩
        · rintro (⟨x, hx, z⟩ | ⟨x, hx, z⟩)
          · exact ⟨x, hx, by rw [Bool.and_eq_true] at z; rw [hs x, z.1, z.2]; rfl⟩
          · exact ⟨x, hx, by rw [Bool.and_eq_true, Bool.and_eq_true] at z; rw [hs x, z.1.1, z.2, Bool.or_true]; rfl⟩
      rw [ee]
      generalize ex (fun x => !rg F G n x && pU F G n m x) 1024 = E1
      generalize ex (fun x => !rg F G n x && !pU F G n m x && (F x && ex (fun i => decide (x = m ^^^ 2 ^ i)) 10)) 1024 = E2
      rw [nI_1]
      cases E1 <;> cases E2 <;> rfl
    · have hs : pU F G n (m + 1) = pU F G n m := by
        funext x
        rw [pU_s, (Bool.not_eq_true _).mp q, Bool.false_and, Bool.or_false]
      rw [if_neg (fun z => q ((aV_at hn).mp z)), vl_eq, nI_1, hs]
      exact ⟨_, rfl, a, rfl, hA⟩
  · obtain ⟨a, rfl, hA⟩ := hI
    refine ⟨(if ex (fun x => !rg F G n x && pU F G n 1024 x) 1024 then 1 else 0, mk b (uA w 104 a)), ?_, ?_⟩
    · unfold passB
      try dsimp only
      rw [if_pos (by decide)]
    · rw [ex_cong (q := fun x => !rg F G n x && rg F G (n + 1) x) (fun x hx => ?_)]
      · exact hk a (fun x hx => by rw [hA x hx]; exact aV_end hx)
      · cases h : rg F G n x with
        | true => rw [Bool.not_true, Bool.false_and, Bool.false_and]
        | false => rw [pU_end hx h]
theorem steps_mk (h : Rel RL w) {k : Nat} (hk : k < 8) : ∃ a n, FX12_laysSteps (mk b w) (b + 77) (nI k) = some (mk b (uA w 104 a)) ∧ n < 2000 ∧ (∀ x, x < 1024 → a x = aV (WF w) (gl w k) n (fun _ => false) x) ∧ ∀ m s, s < 1024 → rg (WF w) (gl w k) m s = true → rg (WF w) (gl w k) n s = true := by
  have main : ∃ r, FX12_laysSteps (mk b w) (b + 77) (nI k) = some r ∧ ∃ a n, r = mk b (uA w 104 a) ∧ n < 2000 ∧ (∀ x, x < 1024 → a x = aV (WF w) (gl w k) n (fun _ => false) x) ∧ ∀ m s, s < 1024 → rg (WF w) (gl w k) m s = true → rg (WF w) (gl w k) n s = true := by
    unfold FX12_laysSteps
    refine lpb_inv (fun i (t : Int32 × HP) => ∃ a, t = (nI i, mk b (uA w 104 a)) ∧ ∀ x, x < i → a x = aV (WF w) (gl w k) 0 (fun _ => false) x) _ 1024 (by decide) ⟨w.2.1 104, by rw [uA_id]; rfl, fun x hx => absurd hx (Nat.not_lt_zero x)⟩ (fun i hi t hI => ?_) (fun t hI => ?_)
    · obtain ⟨a, rfl, hA⟩ := hI
      try dsimp only
      have h81 : bo ((uA w 104 a).2.1 81) 1024 := h.b81
      have h79 : bo ((uA w 104 a).2.1 79) 8192 := h.b79
      have hv : aV (WF w) (gl w k) 0 (fun _ => false) i = if WF w i && WT w k i then 0 else 1000000 := by
        unfold aV
        rw [show rg (WF w) (gl w k) 0 i = (WF w i && WT w k i) from rfl]
        cases g : (WF w i && WT w k i) with
        | false => rfl
        | true =>
          rw [av_1, dN_is (F := WF w) (G := gl w k) (n := 0) (m := 0) (s := i) (Nat.le_refl 0) g (fun j hj => absurd hj (Nat.not_lt_zero j))]
          rfl
      rw [if_neg (Lnle hi), gR_12_77_57, Option.bind_some, gR_12_77_3, Option.bind_some, rdF h81 hi, Option.bind_some, jn_eq, bite, show WF (uA w 104 a) = WF w from rfl]
      try dsimp only
      refine ⟨(nI (i + 1), mk b (uA w 104 (upd a i (if WF w i && WT w k i then 0 else 1000000)))), ?_, _, rfl, fun x hx => ?_⟩
      · cases gF : WF w i with
        | false =>
          rw [if_neg (show ¬ false = true by decide), wrI_mk (n := 1024) (by decide +kernel) b _ hi, Option.bind_some, vl_eq, nI_1, uA_at, uA_uA]
          rfl
        | true =>
          rw [if_pos rfl, rc_12_77, holds_mk h79 hk hi, show WT (uA w 104 a) = WT w from rfl, Option.bind_some, bite]
          cases gT : WT w k i with
          | false =>
            rw [if_neg (show ¬ false = true by decide), wrI_mk (n := 1024) (by decide +kernel) b _ hi, Option.bind_some, vl_eq, nI_1, uA_at, uA_uA]
            rfl
          | true =>
            rw [if_pos rfl, wrI_mk (n := 1024) (by decide +kernel) b _ hi, Option.bind_some, vl_eq, nI_1, uA_at, uA_uA]
            rfl
      · unfold upd
        by_cases e : x = i
        · rw [if_pos e, e, hv]
        · rw [if_neg e]; exact hA x (by omega)
    · obtain ⟨a, rfl, hA⟩ := hI
      refine ⟨mk b (uA w 104 a), by rfl, ?_⟩
      refine lpb_ex (fun m (t : Int32 × Int32 × HP) => ∃ n a, (∀ x, x < 1024 → a x = aV (WF w) (gl w k) n (fun _ => false) x) ∧ n < 2000 ∧ ((t = (1, nI n, mk b (uA w 104 a)) ∧ m = 1030 - n ∧ ∀ j, j < n → ∃ s, s < 1024 ∧ rg (WF w) (gl w k) (j + 1) s = true ∧ rg (WF w) (gl w k) j s = false) ∨ (t = (0, nI n, mk b (uA w 104 a)) ∧ m = 0 ∧ ∀ m s, s < 1024 → rg (WF w) (gl w k) m s = true → rg (WF w) (gl w k) n s = true))) (fun r => ∃ a n, r = mk b (uA w 104 a) ∧ n < 2000 ∧ (∀ x, x < 1024 → a x = aV (WF w) (gl w k) n (fun _ => false) x) ∧ ∀ m s, s < 1024 → rg (WF w) (gl w k) m s = true → rg (WF w) (gl w k) n s = true) _ 1030 (by decide) ⟨0, a, hA, by decide, Or.inl ⟨rfl, rfl, fun j hj => absurd hj (Nat.not_lt_zero j)⟩⟩ ?_ (fun x hx => ⟨x, rfl, hx⟩)
      rintro m t ⟨n, a, hA, hn, ⟨rfl, rfl, hgrow⟩ | ⟨rfl, rfl, hstop⟩⟩
      · right
        have hcount := rg_grow n hgrow
        have hle := fb_ct_le (rg (WF w) (gl w k) n) 1024
        try dsimp only
        rw [if_neg n10]
        have key := pass_mk (b := b) (w := uA w 104 a) (F := WF w) (G := gl w k) h.b81 rfl hn (fun x hx => by rw [uA_at]; exact hA x hx) (fun (y6 : Int32 × HP) => vl (nI n + (1 : Int32)) (fun x7 => some (Sum.inr (α := HP) (y6.1, x7, y6.2)))) (fun r => ∃ s' k', r = Sum.inr s' ∧ k' < 1030 - n ∧ ∃ n a, (∀ x, x < 1024 → a x = aV (WF w) (gl w k) n (fun _ => false) x) ∧ n < 2000 ∧ ((s' = (1, nI n, mk b (uA w 104 a)) ∧ k' = 1030 - n ∧ ∀ j, j < n → ∃ s, s < 1024 ∧ rg (WF w) (gl w k) (j + 1) s = true ∧ rg (WF w) (gl w k) j s = false) ∨ (s' = (0, nI n, mk b (uA w 104 a)) ∧ k' = 0 ∧ ∀ m s, s < 1024 → rg (WF w) (gl w k) m s = true → rg (WF w) (gl w k) n s = true))) (fun a' ha' => ?_)
        · obtain ⟨r, e1, s', k', rfl, e2, e3⟩ := key
          exact ⟨s', k', e1, e2, e3⟩
        · try dsimp only
          rw [vl_eq, nI_1, uA_uA]
          cases hE : ex (fun x => !rg (WF w) (gl w k) n x && rg (WF w) (gl w k) (n + 1) x) 1024 with
          | true =>
            refine ⟨_, rfl, _, 1030 - (n + 1), rfl, by omega, n + 1, a', ha', by omega, Or.inl ⟨rfl, rfl, fun j hj => ?_⟩⟩
            by_cases z : j = n
            · obtain ⟨s, hs, q⟩ := (ex_iff _ _).mp hE
              rw [Bool.and_eq_true, Bool.not_eq_true'] at q
              rw [z]
              exact ⟨s, hs, q.2, q.1⟩
            · exact hgrow j (by omega)
          | false =>
            refine ⟨_, rfl, _, 0, rfl, by omega, n + 1, a', ha', by omega, Or.inr ⟨rfl, rfl, fun m s hs q => ?_⟩⟩
            have stop : ∀ s, s < 1024 → rg (WF w) (gl w k) (n + 1) s = rg (WF w) (gl w k) n s := fun s hs => by
              have no : ¬ (!rg (WF w) (gl w k) n s && rg (WF w) (gl w k) (n + 1) s) = true := fun z => by
                rw [(ex_iff _ _).mpr ⟨s, hs, z⟩] at hE; cases hE
              cases h1 : rg (WF w) (gl w k) n s with
              | true => exact rg_mono (Nat.le_succ n) h1
              | false =>
                cases h2 : rg (WF w) (gl w k) (n + 1) s with
                | false => rfl
                | true => rw [h1, h2] at no; exact absurd rfl no
            rcases Nat.lt_or_ge m (n + 1) with z | z
            · exact rg_mono (by omega) q
            · have := rg_stop stop (m - n) s hs
              rw [show n + (m - n) = m by omega, q] at this
              exact rg_mono (Nat.le_succ n) this.symm
      · left
        exact ⟨_, rfl, a, n, rfl, hn, hA, hstop⟩
  obtain ⟨r, e1, a, n, rfl, e2⟩ := main
  exact ⟨a, n, e1, e2⟩
theorem nI_p (c : Nat) : nI (c + 1) - (1 : Int32) = nI c := by
  rw [← nI_1]
  exact Int32.add_sub_cancel _ _
theorem nI_gt0 {c : Nat} (h : c + 1 < 2 ^ 31) : ¬ nI (c + 1) ≤ 0 := fun q => by
  rw [fa_le, nI_toInt h] at q
  have : (0 : Int32).toInt = 0 := by decide
  omega
theorem lad_m (h : Rel RL w) {k : Nat} (hk : k < 8) (hb : bt (w.1 77 5) k = true) {i : Nat} (hi : i < 2) {st : Nat} (hst : st < 1024) (est : w.1 77 7 = nI st) : ∃ r w1, FX12_ladder (mk b w) (b + 77) (nI k) (nI i) = some (r, mk b w1) ∧ sim w w1 ∧ (if WF w st then ladR w k st i r else r = -2) := by
  unfold FX12_ladder
  simp only [Option.bind_some, vl_eq, jn_eq, rc_12_77, gR_12_77_0, gR_12_77_1, gR_12_77_2, gR_12_77_3, gR_12_77_4, gI_12_77_5, sI_12_77_5, gI_12_77_6, sI_12_77_6, gI_12_77_7, sI_12_77_7, gI_12_77_8, sI_12_77_8, gI_12_77_9, sI_12_77_9, gI_12_77_10, sI_12_77_10, gI_12_77_11, sI_12_77_11, gI_12_77_12, sI_12_77_12, gR_12_77_13, gI_12_77_14, sI_12_77_14, gI_12_77_15, sI_12_77_15, gI_12_77_16, sI_12_77_16, gI_12_77_17, sI_12_77_17, gI_12_77_18, sI_12_77_18, gI_12_77_19, sI_12_77_19, gI_12_77_20, sI_12_77_20, gI_12_77_21, sI_12_77_21, gI_12_77_22, sI_12_77_22, gI_12_77_23, sI_12_77_23, gR_12_77_24, gR_12_77_25, gR_12_77_26, gR_12_77_27, gR_12_77_28, gR_12_77_29, gR_12_77_30, gR_12_77_31, gR_12_77_32, gR_12_77_33, gR_12_77_34, gR_12_77_35, gR_12_77_36, gR_12_77_37, gR_12_77_38, gR_12_77_39, gI_12_77_40, sI_12_77_40, gI_12_77_41, sI_12_77_41, gI_12_77_42, sI_12_77_42, gI_12_77_43, sI_12_77_43, gR_12_77_44, gI_12_77_45, sI_12_77_45, gI_12_77_46, sI_12_77_46, gI_12_77_47, sI_12_77_47, gI_12_77_48, sI_12_77_48, gI_12_77_49, sI_12_77_49, gI_12_77_50, sI_12_77_50, gI_12_77_51, sI_12_77_51, gI_12_77_52, sI_12_77_52, gI_12_77_53, sI_12_77_53, gR_12_77_54, gR_12_77_55, gR_12_77_56, gR_12_77_57, gR_12_77_58, gI_12_77_59, sI_12_77_59, gI_12_77_60, sI_12_77_60, gI_12_77_61, sI_12_77_61, gI_12_77_62, sI_12_77_62, gI_12_77_63, sI_12_77_63, gI_12_77_64, sI_12_77_64, gI_12_77_65, sI_12_77_65]
  rw [isWish_t hk hb, Option.bind_some, if_neg n10, in_y hi, Option.bind_some, if_neg n10, est, rdF h.b81 hst, Option.bind_some, bite]
  cases gF : WF w st with
  | false => exact ⟨-2, w, rfl, sP_refl w, rfl⟩
  | true =>
    obtain ⟨a, n, e1, hn, hA, hstop⟩ := steps_mk (b := b) h hk
    rw [if_pos rfl, e1, Option.bind_some]
    simp only [Option.bind_some, vl_eq, jn_eq, rc_12_77, gR_12_77_0, gR_12_77_1, gR_12_77_2, gR_12_77_3, gR_12_77_4, gI_12_77_5, sI_12_77_5, gI_12_77_6, sI_12_77_6, gI_12_77_7, sI_12_77_7, gI_12_77_8, sI_12_77_8, gI_12_77_9, sI_12_77_9, gI_12_77_10, sI_12_77_10, gI_12_77_11, sI_12_77_11, gI_12_77_12, sI_12_77_12, gR_12_77_13, gI_12_77_14, sI_12_77_14, gI_12_77_15, sI_12_77_15, gI_12_77_16, sI_12_77_16, gI_12_77_17, sI_12_77_17, gI_12_77_18, sI_12_77_18, gI_12_77_19, sI_12_77_19, gI_12_77_20, sI_12_77_20, gI_12_77_21, sI_12_77_21, gI_12_77_22, sI_12_77_22, gI_12_77_23, sI_12_77_23, gR_12_77_24, gR_12_77_25, gR_12_77_26, gR_12_77_27, gR_12_77_28, gR_12_77_29, gR_12_77_30, gR_12_77_31, gR_12_77_32, gR_12_77_33, gR_12_77_34, gR_12_77_35, gR_12_77_36, gR_12_77_37, gR_12_77_38, gR_12_77_39, gI_12_77_40, sI_12_77_40, gI_12_77_41, sI_12_77_41, gI_12_77_42, sI_12_77_42, gI_12_77_43, sI_12_77_43, gR_12_77_44, gI_12_77_45, sI_12_77_45, gI_12_77_46, sI_12_77_46, gI_12_77_47, sI_12_77_47, gI_12_77_48, sI_12_77_48, gI_12_77_49, sI_12_77_49, gI_12_77_50, sI_12_77_50, gI_12_77_51, sI_12_77_51, gI_12_77_52, sI_12_77_52, gI_12_77_53, sI_12_77_53, gR_12_77_54, gR_12_77_55, gR_12_77_56, gR_12_77_57, gR_12_77_58, gI_12_77_59, sI_12_77_59, gI_12_77_60, sI_12_77_60, gI_12_77_61, sI_12_77_61, gI_12_77_62, sI_12_77_62, gI_12_77_63, sI_12_77_63, gI_12_77_64, sI_12_77_64, gI_12_77_65, sI_12_77_65]
    rw [show (uA w 104 a).1 77 7 = nI st from est, rdN_mk (t := 0) (n := 1024) (by decide +kernel) (by decide) b _ hst, Option.bind_some, uA_at, hA st hst]
    have hsm : sim w (uA w 104 a) := sP_uA w _ rfl
    cases g : rg (WF w) (gl w k) n st with
    | false =>
      have e : aV (WF w) (gl w k) n (fun _ => false) st = 1000000 := by unfold aV; rw [g, av_3]
      rw [e, if_pos rfl]
      refine ⟨-2, uA w 104 a, rfl, hsm, ?_⟩
      rw [if_pos trivial]
      refine Or.inr ⟨fun m => ?_, rfl⟩
      cases z : rg (WF w) (gl w k) m st with
      | false => rfl
      | true => rw [hstop m st hst z] at g; cases g
    | true =>
      obtain ⟨d1, d2, d3⟩ := dN_of g
      have e : aV (WF w) (gl w k) n (fun _ => false) st = nI (dN (WF w) (gl w k) n st) := by unfold aV; rw [g, av_1]
      generalize dN (WF w) (gl w k) n st = d at *
      rw [e, if_neg (far_ne (by omega))]
      rcases (show i = 0 ∨ i = 1 by omega) with rfl | rfl
      · rw [if_pos (show nI 0 = 0 from rfl)]
        refine ⟨_, uA w 104 a, rfl, hsm, ?_⟩
        rw [if_pos trivial]
        exact Or.inl ⟨d, d2, d3, rfl⟩
      · rw [if_neg (show ¬ nI 1 = 0 by decide)]
        rcases (show d = 0 ∨ ∃ c, d = c + 1 from by cases d with
          | zero => exact Or.inl rfl
          | succ c => exact Or.inr ⟨c, rfl⟩) with rfl | ⟨c, rfl⟩
        · rw [lpb_first (P := Int32 × HP) (fun _ => false) (fun j => (nI j, mk b (uA w 104 a))) () 10 (by decide) (fun j hj => ?_) (by rfl)]
          · refine ⟨-3, uA w 104 a, rfl, hsm, ?_⟩
            rw [if_pos trivial]
            exact Or.inl ⟨0, d2, d3, rfl⟩
          · rw [if_neg (Lnle hj), if_pos (show nI 0 ≤ 0 by decide), nI_1]
            rfl
        · have at1 : ∀ j, j < 10 → (aV (WF w) (gl w k) n (fun _ => false) (st ^^^ 2 ^ j) = nI c ↔ rg (WF w) (gl w k) c (st ^^^ 2 ^ j) = true) := fun j hj => by
            have hno : ∀ m, m < c → rg (WF w) (gl w k) m (st ^^^ 2 ^ j) = false := fun m hm => by
              cases z : rg (WF w) (gl w k) m (st ^^^ 2 ^ j) with
              | false => rfl
              | true =>
                have : rg (WF w) (gl w k) (m + 1) st = true := by
                  rw [rg_s, gF, (ex_iff _ _).mpr ⟨j, hj, z⟩, Bool.and_self, Bool.or_true]
                rw [d3 (m + 1) (by omega)] at this
                cases this
            unfold aV
            cases z : rg (WF w) (gl w k) n (st ^^^ 2 ^ j) with
            | false =>
              rw [av_3]
              refine ⟨fun q => absurd q.symm (far_ne (by omega)), fun q => ?_⟩
              rw [rg_mono (show c ≤ n by omega) q] at z
              cases z
            | true =>
              rw [av_1]
              obtain ⟨y1, y2, y3⟩ := dN_of z
              constructor
              · intro q
                rw [← nI_inj (by omega) (by omega) q]
                exact y2
              · intro q
                rw [dN_is (by omega) q hno]
          rw [lpb_first (P := Int32 × HP) (fun j => rg (WF w) (gl w k) c (st ^^^ 2 ^ j)) (fun j => (nI j, mk b (uA w 104 a))) () 10 (by decide) (fun j hj => ?_) (by rfl)]
          · have hE : ex (fun j => rg (WF w) (gl w k) c (st ^^^ 2 ^ j)) 10 = true := by
              rw [rg_s, d3 c (by omega), gF, Bool.false_or, Bool.true_and] at d2
              exact d2
            rw [if_pos hE]
            refine ⟨_, uA w 104 a, rfl, hsm, ?_⟩
            rw [if_pos trivial]
            refine Or.inl ⟨c + 1, d2, d3, ?_⟩
            rw [if_neg (show ¬ 1 = 0 by decide), if_neg (by omega), Nat.add_sub_cancel]
          · rw [if_neg (Lnle hj), if_neg (nI_gt0 (by omega)), xr hj, rdN_mk (t := 0) (n := 1024) (by decide +kernel) (by decide) b _ (xr_lt hst hj), Option.bind_some, uA_at, hA _ (xr_lt hst hj), nI_p, nI_1]
            cases z : rg (WF w) (gl w k) c (st ^^^ 2 ^ j) with
            | true => rw [if_pos ((at1 j hj).mpr z), if_pos rfl]
            | false => rw [if_neg (fun y => by rw [(at1 j hj).mp y] at z; cases z), if_neg (show ¬ false = true by decide)]
theorem op_ladder (hRL : LOK RL) (h : Rel RL w) (x y : Int32) : OP RL b w (fun hp => FX11_ladder hp (b + 0) x y) (fun hp => FX12_ladder hp (b + 77) x y) := by
  have bad : ∀ (w : WD), (¬ ∃ k, k < 8 ∧ x = nI k ∧ bt (w.1 77 5) k = true) → Rel RL w → FX11_ladder (mk b w) (b + 0) x y = some (-1, mk b w) ∧ FX12_ladder (mk b w) (b + 77) x y = some (-1, mk b w) := fun w q h => by
    unfold FX11_ladder FX12_ladder
    simp only [Option.bind_some, vl_eq, jn_eq, rc_11_0, gR_11_0_0, gR_11_0_1, gR_11_0_2, gR_11_0_3, gR_11_0_4, gR_11_0_5, gR_11_0_6, gR_11_0_7, gR_11_0_8, gR_11_0_9, gR_11_0_10, gR_11_0_11, gR_11_0_12, gR_11_0_13, gI_11_0_14, sI_11_0_14, rc_8_1, gR_8_1_0, gI_8_1_1, sI_8_1_1, rc_1_3, gR_1_3_0, gI_1_3_1, sI_1_3_1, gI_1_3_2, sI_1_3_2, gI_1_3_3, sI_1_3_3, gR_1_3_4, gI_1_3_5, sI_1_3_5, rc_1_2_3, gR_1_2_3_0, gI_1_2_3_1, sI_1_2_3_1, gI_1_2_3_2, sI_1_2_3_2, gI_1_2_3_3, sI_1_2_3_3, gR_1_2_3_4, gI_1_2_3_5, sI_1_2_3_5, rc_0_5, gR_0_5_0, gI_0_5_1, sI_0_5_1, rc_0_15, gR_0_15_0, gI_0_15_1, sI_0_15_1, rc_3_25, gR_3_25_0, gR_3_25_1, gR_3_25_2, gR_3_25_3, rc_5_34, gI_5_34_1, sI_5_34_1, gI_5_34_2, sI_5_34_2, gI_5_34_3, sI_5_34_3, gI_5_34_4, sI_5_34_4, gI_5_34_5, sI_5_34_5, gI_5_34_6, sI_5_34_6, gR_5_34_7, gR_5_34_8, gR_5_34_9, gR_5_34_10, gR_5_34_11, gR_5_34_12, rc_10_51, gI_10_51_0, sI_10_51_0, gI_10_51_1, sI_10_51_1, gI_10_51_2, sI_10_51_2, gR_10_51_3, rc_9_64, gR_9_64_0, gR_9_64_1, gR_9_64_2, rc_6_68, gI_6_68_0, sI_6_68_0, gI_6_68_1, sI_6_68_1, gI_6_68_2, sI_6_68_2, gI_6_68_3, sI_6_68_3, gI_6_68_4, sI_6_68_4, gI_6_68_5, sI_6_68_5, rc_6_69, gI_6_69_0, sI_6_69_0, gI_6_69_1, sI_6_69_1, gI_6_69_2, sI_6_69_2, gI_6_69_3, sI_6_69_3, gI_6_69_4, sI_6_69_4, gI_6_69_5, sI_6_69_5, rc_12_77, gR_12_77_0, gR_12_77_1, gR_12_77_2, gR_12_77_3, gR_12_77_4, gI_12_77_5, sI_12_77_5, gI_12_77_6, sI_12_77_6, gI_12_77_7, sI_12_77_7, gI_12_77_8, sI_12_77_8, gI_12_77_9, sI_12_77_9, gI_12_77_10, sI_12_77_10, gI_12_77_11, sI_12_77_11, gI_12_77_12, sI_12_77_12, gR_12_77_13, gI_12_77_14, sI_12_77_14, gI_12_77_15, sI_12_77_15, gI_12_77_16, sI_12_77_16, gI_12_77_17, sI_12_77_17, gI_12_77_18, sI_12_77_18, gI_12_77_19, sI_12_77_19, gI_12_77_20, sI_12_77_20, gI_12_77_21, sI_12_77_21, gI_12_77_22, sI_12_77_22, gI_12_77_23, sI_12_77_23, gR_12_77_24, gR_12_77_25, gR_12_77_26, gR_12_77_27, gR_12_77_28, gR_12_77_29, gR_12_77_30, gR_12_77_31, gR_12_77_32, gR_12_77_33, gR_12_77_34, gR_12_77_35, gR_12_77_36, gR_12_77_37, gR_12_77_38, gR_12_77_39, gI_12_77_40, sI_12_77_40, gI_12_77_41, sI_12_77_41, gI_12_77_42, sI_12_77_42, gI_12_77_43, sI_12_77_43, gR_12_77_44, gI_12_77_45, sI_12_77_45, gI_12_77_46, sI_12_77_46, gI_12_77_47, sI_12_77_47, gI_12_77_48, sI_12_77_48, gI_12_77_49, sI_12_77_49, gI_12_77_50, sI_12_77_50, gI_12_77_51, sI_12_77_51, gI_12_77_52, sI_12_77_52, gI_12_77_53, sI_12_77_53, gR_12_77_54, gR_12_77_55, gR_12_77_56, gR_12_77_57, gR_12_77_58, gI_12_77_59, sI_12_77_59, gI_12_77_60, sI_12_77_60, gI_12_77_61, sI_12_77_61, gI_12_77_62, sI_12_77_62, gI_12_77_63, sI_12_77_63, gI_12_77_64, sI_12_77_64, gI_12_77_65, sI_12_77_65]
    rcases case_ix x 8 with ⟨k, hk, rfl⟩ | e
    · cases hb : bt (w.1 77 5) k with
      | true => exact absurd ⟨k, hk, rfl, hb⟩ q
      | false =>
        rw [wish_f h hk hb, isWish_f hk hb, Option.bind_some, Option.bind_some, if_pos rfl, if_pos rfl]
        exact ⟨rfl, rfl⟩
    · rw [book_no e, isWish_no e, Option.bind_some, Option.bind_some, if_pos rfl, if_pos rfl]
      exact ⟨rfl, rfl⟩
  by_cases q : ∃ k, k < 8 ∧ x = nI k ∧ bt (w.1 77 5) k = true
  · obtain ⟨k, hk, rfl, hb⟩ := q
    rcases case_ix y 2 with ⟨i, hi, rfl⟩ | e
    · obtain ⟨st, hst, est, est2⟩ := h.state
      obtain ⟨r, w1, e1, s1, p1⟩ := lad_c (b := b) hRL h hk hb hi hst est2
      have h1 := Rel_sim hRL h s1
      obtain ⟨r', w2, e2, s2, p2⟩ := lad_m (b := b) h1 hk (by rw [s1.1 77 5 rfl]; exact hb) hi hst ((s1.1 77 7 rfl).trans est)
      have hg : gl w1 k = gl w k := by unfold gl; rw [sim_WF s1, sim_WT s1]
      have er : r = r' := by
        rw [sim_WF s1] at p2
        cases gF : WF w st with
        | false =>
          rw [gF, if_neg (show ¬ false = true by decide)] at p1 p2
          rw [p1, p2]
        | true =>
          rw [gF, if_pos rfl] at p1 p2
          refine ladR_one p1 ?_
          unfold ladR at p2 ⊢
          rw [sim_WF s1, hg] at p2
          exact p2
      subst er
      exact OPi e1 e2 (Rel_sim hRL h1 s2)
    · apply OPi (r := -1) (w1 := w) (w2 := w) ?_ ?_ h
      · unfold FX11_ladder
        simp only [Option.bind_some, vl_eq, jn_eq, rc_11_0, gR_11_0_0, gR_11_0_1, gR_11_0_2, gR_11_0_3, gR_11_0_4, gR_11_0_5, gR_11_0_6, gR_11_0_7, gR_11_0_8, gR_11_0_9, gR_11_0_10, gR_11_0_11, gR_11_0_12, gR_11_0_13, gI_11_0_14, sI_11_0_14, rc_8_1, gR_8_1_0, gI_8_1_1, sI_8_1_1, rc_1_3, gR_1_3_0, gI_1_3_1, sI_1_3_1, gI_1_3_2, sI_1_3_2, gI_1_3_3, sI_1_3_3, gR_1_3_4, gI_1_3_5, sI_1_3_5, rc_1_2_3, gR_1_2_3_0, gI_1_2_3_1, sI_1_2_3_1, gI_1_2_3_2, sI_1_2_3_2, gI_1_2_3_3, sI_1_2_3_3, gR_1_2_3_4, gI_1_2_3_5, sI_1_2_3_5, rc_0_5, gR_0_5_0, gI_0_5_1, sI_0_5_1, rc_0_15, gR_0_15_0, gI_0_15_1, sI_0_15_1, rc_3_25, gR_3_25_0, gR_3_25_1, gR_3_25_2, gR_3_25_3, rc_5_34, gI_5_34_1, sI_5_34_1, gI_5_34_2, sI_5_34_2, gI_5_34_3, sI_5_34_3, gI_5_34_4, sI_5_34_4, gI_5_34_5, sI_5_34_5, gI_5_34_6, sI_5_34_6, gR_5_34_7, gR_5_34_8, gR_5_34_9, gR_5_34_10, gR_5_34_11, gR_5_34_12, rc_10_51, gI_10_51_0, sI_10_51_0, gI_10_51_1, sI_10_51_1, gI_10_51_2, sI_10_51_2, gR_10_51_3, rc_9_64, gR_9_64_0, gR_9_64_1, gR_9_64_2, rc_6_68, gI_6_68_0, sI_6_68_0, gI_6_68_1, sI_6_68_1, gI_6_68_2, sI_6_68_2, gI_6_68_3, sI_6_68_3, gI_6_68_4, sI_6_68_4, gI_6_68_5, sI_6_68_5, rc_6_69, gI_6_69_0, sI_6_69_0, gI_6_69_1, sI_6_69_1, gI_6_69_2, sI_6_69_2, gI_6_69_3, sI_6_69_3, gI_6_69_4, sI_6_69_4, gI_6_69_5, sI_6_69_5]
        rw [wish_t h hk hb, Option.bind_some, if_neg n10, wh_n e]
      · unfold FX12_ladder
        simp only [Option.bind_some, vl_eq, jn_eq, rc_12_77, gR_12_77_0, gR_12_77_1, gR_12_77_2, gR_12_77_3, gR_12_77_4, gI_12_77_5, sI_12_77_5, gI_12_77_6, sI_12_77_6, gI_12_77_7, sI_12_77_7, gI_12_77_8, sI_12_77_8, gI_12_77_9, sI_12_77_9, gI_12_77_10, sI_12_77_10, gI_12_77_11, sI_12_77_11, gI_12_77_12, sI_12_77_12, gR_12_77_13, gI_12_77_14, sI_12_77_14, gI_12_77_15, sI_12_77_15, gI_12_77_16, sI_12_77_16, gI_12_77_17, sI_12_77_17, gI_12_77_18, sI_12_77_18, gI_12_77_19, sI_12_77_19, gI_12_77_20, sI_12_77_20, gI_12_77_21, sI_12_77_21, gI_12_77_22, sI_12_77_22, gI_12_77_23, sI_12_77_23, gR_12_77_24, gR_12_77_25, gR_12_77_26, gR_12_77_27, gR_12_77_28, gR_12_77_29, gR_12_77_30, gR_12_77_31, gR_12_77_32, gR_12_77_33, gR_12_77_34, gR_12_77_35, gR_12_77_36, gR_12_77_37, gR_12_77_38, gR_12_77_39, gI_12_77_40, sI_12_77_40, gI_12_77_41, sI_12_77_41, gI_12_77_42, sI_12_77_42, gI_12_77_43, sI_12_77_43, gR_12_77_44, gI_12_77_45, sI_12_77_45, gI_12_77_46, sI_12_77_46, gI_12_77_47, sI_12_77_47, gI_12_77_48, sI_12_77_48, gI_12_77_49, sI_12_77_49, gI_12_77_50, sI_12_77_50, gI_12_77_51, sI_12_77_51, gI_12_77_52, sI_12_77_52, gI_12_77_53, sI_12_77_53, gR_12_77_54, gR_12_77_55, gR_12_77_56, gR_12_77_57, gR_12_77_58, gI_12_77_59, sI_12_77_59, gI_12_77_60, sI_12_77_60, gI_12_77_61, sI_12_77_61, gI_12_77_62, sI_12_77_62, gI_12_77_63, sI_12_77_63, gI_12_77_64, sI_12_77_64, gI_12_77_65, sI_12_77_65]
        rw [isWish_t hk hb, Option.bind_some, if_neg n10, in_n e, Option.bind_some, if_pos rfl]
  · obtain ⟨e1, e2⟩ := bad w q h
    exact OPi e1 e2 h
end
