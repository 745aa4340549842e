/-! the nearest state, by the reference -/
def c100 (f : Nat → Int32) (st s : Nat) : Nat := 100 * prS f (s ^^^ st) + pc (s ^^^ st)
def ldI (p : Nat → Bool) (f : Nat → Int32) (st n : Nat) (x y : Int32) : Prop := (x = -1 ∧ y = 1000000 ∧ ∀ s, s < n → p s = false) ∨ ∃ s, s < n ∧ p s = true ∧ x = nI s ∧ y = nI (c100 f st s) ∧ ∀ r, r < n → p r = true → c100 f st s < c100 f st r ∨ (c100 f st s = c100 f st r ∧ s ≤ r)
section
variable {RL : WD → Prop} {b : Nat} {w : WD}
theorem leads_mk (h1 : bo (w.2.1 79) 8192) (h2 : bo (w.2.1 81) 1024) (hp : ∀ i, i < 10 → sm (w.2.1 78 i) 100) {st : Nat} (est : w.1 77 7 = nI st) {k : Nat} (hk : k < 8) : ∃ x, FX12_leadsTo (mk b w) (b + 77) (nI k) = some x ∧ ∃ y, ldI (fun s => WF w s && WT w k s) (w.2.1 78) st 1024 x y := by
  unfold FX12_leadsTo
  refine lpb_inv (fun n s => ∃ x y, s = (x, y, nI n) ∧ ldI (fun s => WF w s && WT w k s) (w.2.1 78) st n x y) _ 1024 (by decide) ⟨-1, 1000000, rfl, Or.inl ⟨rfl, rfl, fun s hs => absurd hs (Nat.not_lt_zero s)⟩⟩ (fun n hn s hI => ?_) (fun s hI => ?_)
  · obtain ⟨x, y, rfl, hI⟩ := hI
    try dsimp only
    rw [if_neg (Lnle hn), gR_12_77_3, Option.bind_some, rdF h2 hn, Option.bind_some, bite, rc_12_77, holds_mk h1 hk hn, Option.bind_some, bite, gI_12_77_7, Option.bind_some, est, fb_xorI, rc_12_77, pricesOf_mk hp, Option.bind_some, Option.bind_some, fb_xorI, bits_nI, Option.bind_some, fa_lit 100, pk_mul, nI_add]
    simp only [vl_eq, nI_1]
    have a1 := prS_le hp (n ^^^ st)
    have a2 := pc_le (n ^^^ st)
    have keep : (WF w n && WT w k n) = false → ldI (fun s => WF w s && WT w k s) (w.2.1 78) st (n + 1) x y := fun g => by
      rcases hI with ⟨i1, i2, i3⟩ | ⟨s, i0, i1, i2, i3, i4⟩
      · refine Or.inl ⟨i1, i2, fun s hs => ?_⟩
        by_cases e : s = n
        · rw [e]; exact g
        · exact i3 s (by omega)
      · refine Or.inr ⟨s, by omega, i1, i2, i3, fun r hr q => ?_⟩
        by_cases e : r = n
        · rw [e] at q
          have q : (WF w n && WT w k n) = true := q
          rw [g] at q; cases q
        · exact i4 r (by omega) q
    cases gF : WF w n with
    | false => exact ⟨_, rfl, x, y, rfl, keep (by rw [gF]; rfl)⟩
    | true =>
      rw [if_pos rfl]
      cases gT : WT w k n with
      | false => exact ⟨_, rfl, x, y, rfl, keep (by rw [gT, Bool.and_false])⟩
      | true =>
        rw [if_pos rfl]
        have ec : 100 * prS (w.2.1 78) (n ^^^ st) + pc (n ^^^ st) = c100 (w.2.1 78) st n := rfl
        rw [ec]
        have hc : c100 (w.2.1 78) st n < 1000000 := by unfold c100; omega
        rcases hI with ⟨i1, i2, i3⟩ | ⟨s, i0, i1, i2, i3, i4⟩
        · rw [i2, if_pos (Rlt hc)]
          refine ⟨_, rfl, nI n, _, rfl, Or.inr ⟨n, by omega, (by show (WF w n && WT w k n) = true; rw [gF, gT]; rfl), rfl, rfl, fun r hr q => ?_⟩⟩
          by_cases e : r = n
          · rw [e]; exact Or.inr ⟨rfl, Nat.le_refl n⟩
          · rw [i3 r (by omega)] at q; cases q
        · have hs : c100 (w.2.1 78) st s < 1000000 := by
            have b1 := prS_le hp (s ^^^ st)
            have b2 := pc_le (s ^^^ st)
            unfold c100; omega
          rw [i3]
          by_cases q : c100 (w.2.1 78) st n < c100 (w.2.1 78) st s
          · rw [if_pos (nI_lt q (by omega))]
            refine ⟨_, rfl, nI n, _, rfl, Or.inr ⟨n, by omega, (by show (WF w n && WT w k n) = true; rw [gF, gT]; rfl), rfl, rfl, fun r hr q2 => ?_⟩⟩
            by_cases e : r = n
            · rw [e]; exact Or.inr ⟨rfl, Nat.le_refl n⟩
            · rcases i4 r (by omega) q2 with z | z
              · exact Or.inl (by omega)
              · exact Or.inl (by omega)
          · rw [if_neg (nI_nlt (by omega) (by omega))]
            refine ⟨_, rfl, x, _, rfl, Or.inr ⟨s, by omega, i1, i2, rfl, fun r hr q2 => ?_⟩⟩
            by_cases e : r = n
            · rw [e]
              rcases Nat.lt_or_ge (c100 (w.2.1 78) st s) (c100 (w.2.1 78) st n) with z | z
              · exact Or.inl z
              · exact Or.inr ⟨by omega, by omega⟩
            · exact i4 r (by omega) q2
  · obtain ⟨x, y, rfl, hI⟩ := hI
    exact ⟨x, by rfl, x, rfl, y, hI⟩
theorem near_same (h : Rel RL w) {j st : Nat} (hst : st < 1024) {k : Nat} (hk : k < 8) {w' : WD} (hs : sim w w') (est : w'.1 77 7 = nI st) (hw : w'.2.1 = w.2.1) : ∃ x, FX3_nearest (mk b w) (b + 25) (b + 30) (b + (7 + k)) (nI st) = some x ∧ FX12_leadsTo (mk b w') (b + 77) (nI k) = some x ∧ (x = -1 ∨ ∃ s, s < 1024 ∧ x = nI s) := by
  obtain ⟨x, e1, e2⟩ := near_mk (b := b) h.price hk hst
  obtain ⟨x', f1, y, f2⟩ := leads_mk (b := b) (w := w') (by rw [hw]; exact h.b79) (by rw [hw]; exact h.b81) (by rw [hw]; exact h.price.2.1) est hk
  have hp : ∀ s, s < 1024 → (tb (w.2.2.1 30) s && tb (w.2.2.1 (7 + k)) s) = (WF w' s && WT w' k s) := fun s hs => by
    rw [h.tF hs, h.tT hk hs]
    unfold WF WT
    rw [hw]
  have ex : x = x' := by
    rcases e2 with ⟨g1, g2⟩ | ⟨s, g1, g2, g3, g4⟩
    · rcases f2 with ⟨z1, _, z2⟩ | ⟨s, z1, z2, z3, z4, z5⟩
      · rw [g1, z1]
      · have z2 : (WF w' s && WT w' k s) = true := z2
        rw [← hp s z1, g2 s z1] at z2
        cases z2
    · rcases f2 with ⟨z1, _, z2⟩ | ⟨s', z1, z2, z3, z4, z5⟩
      · have := z2 s g1
        have this : (WF w' s && WT w' k s) = false := this
        rw [← hp s g1, g3] at this
        cases this
      · have z2 : (WF w' s' && WT w' k s') = true := z2
        have q1 := g4 s' z1 (by rw [hp s' z1]; exact z2)
        have q2 := z5 s g1 (by show (WF w' s && WT w' k s) = true; rw [← hp s g1]; exact g3)
        rw [hw] at q2
        rw [g2, z3]
        have a1 := pc_le (s ^^^ st)
        have a2 := pc_le (s' ^^^ st)
        unfold kyv cst at q1
        unfold c100 at q2
        refine congrArg nI ?_
        generalize prS (w.2.1 78) (s ^^^ st) = P1 at *
        generalize prS (w.2.1 78) (s' ^^^ st) = P2 at *
        generalize pc (s ^^^ st) = c1 at *
        generalize pc (s' ^^^ st) = c2 at *
        rcases Nat.lt_trichotomy P1 P2 with z | z | z
        · omega
        · omega
        · omega
  refine ⟨x, e1, by rw [ex]; exact f1, ?_⟩
  rcases e2 with ⟨g1, _⟩ | ⟨s, g1, g2, _⟩
  · exact Or.inl g1
  · exact Or.inr ⟨s, g1, g2⟩
end
