/-! call: dead, the reference: the loop over all rows -/
def deadB (b : Nat) (p1 : Int32) : Int32 × Int32 × HP → Option ((Int32 × HP) ⊕ (Int32 × Int32 × HP)) := fun s8 => if s8.2.1 = 0 then some (Sum.inl (s8.1, s8.2.2)) else (rc [12] s8.2.2 (b + 77) (FX12_priceOfRow s8.2.2 (b + 77) p1)).bind (fun v12 => jn (A := Int32 × HP) (fun a13 => (rc [12] a13.2 (b + 77) (FX12_goesNext a13.2 (b + 77) p1)).bind (fun w15 => some (Sum.inr (a13.1, w15.1, w15.2)))) (fun J14 => if s8.1 ≤ v12 then J14 (s8.1, s8.2.2) else (rc [12] s8.2.2 (b + 77) (FX12_priceOfRow s8.2.2 (b + 77) p1)).bind (fun v16 => (lp (fun (s17 : Int32 × HP) => if p1 ≤ s17.1 then some (Sum.inl s17.2) else (gR [12] 55 s17.2 (b + 77)).bind (fun v19 => (gR [12] 54 s17.2 (b + 77)).bind (fun v20 => (rdN 0 s17.2 v20 s17.1).bind (fun v21 => (wrI s17.2 v19 s17.1 v21).bind (fun hp22 => vl (s17.1 + (1 : Int32)) (fun x23 => some (Sum.inr (x23, hp22)))))))) FU ((0 : Int32), s8.2.2)).bind (fun (y18 : HP) => J14 (v16, y18)))))
section
variable {RL : WD → Prop} {b : Nat} {w : WD}
def deadI (b : Nat) (w : WD) (c : Nat → Nat → Nat) (s : Nat → Nat) (n a0 k : Nat) (t : Int32 × Int32 × HP) : Prop := ∃ w1, sim w w1 ∧ ((∃ r, k = fcN n n - rk n r n ∧ isRow n r ∧ (∀ i, i < n → w1.2.1 101 i = nI (r i)) ∧ ((t = (1000000, 1, mk b w1) ∧ ∀ r', isRow n r' → ¬ lexLt n r' r) ∨ ∃ q, t = (nI (pay c s q a0 n).2, 1, mk b w1) ∧ upTo c s n a0 (fun r' => lexLt n r' r) q ∧ ∀ i, i < n → w1.2.1 102 i = nI (q i))) ∨ (k = 0 ∧ ∃ q, t = (nI (pay c s q a0 n).2, 0, mk b w1) ∧ bestRow c s n a0 q ∧ ∀ i, i < n → w1.2.1 102 i = nI (q i)))
theorem deadT_mk {n : Nat} (h1 : 1 ≤ n) (hn : n ≤ 8) {c : Nat → Nat → Nat} {s : Nat → Nat} {a0 : Nat} {r q : Nat → Nat} (hr : isRow n r) {w2 : WD} (hs : sim w w2) (h101 : ∀ i, i < n → w2.2.1 101 i = nI (r i)) (hq : upTo c s n a0 (atMost n r) q) (h102 : ∀ i, i < n → w2.2.1 102 i = nI (q i)) : ∃ s' k', (rc [12] (mk b w2) (b + 77) (FX12_goesNext (mk b w2) (b + 77) (nI n))).bind (fun w15 => some (Sum.inr (α := Int32 × HP) (nI (pay c s q a0 n).2, w15.1, w15.2))) = some (Sum.inr s') ∧ k' < fcN n n - rk n r n ∧ deadI b w c s n a0 k' s' := by
  obtain ⟨z, e1, e2⟩ := goes_mk (b := b) h1 hn hr h101
  have hlt := rk_lt hr n (Nat.le_refl n)
  rw [rc_12_77, e1, Option.bind_some]
  rcases e2 with ⟨rfl, hl⟩ | ⟨r2, a, rfl, g1, g2, g3, g4⟩
  · exact ⟨_, 0, rfl, by omega, w2, hs, Or.inr ⟨rfl, q, rfl, upTo_best hq hl, h102⟩⟩
  · have h2 := rk_lex hr g1 g3
    have h3 := rk_lt g1 n (Nat.le_refl n)
    exact ⟨_, fcN n n - rk n r2 n, rfl, by omega, uA w2 101 a, sP_trans hs (sP_uA w2 _ rfl), Or.inl ⟨r2, rfl, g1, fun i hi => by rw [uA_at]; exact g2 i hi, Or.inr ⟨q, rfl, upTo_next hq g3 g4, h102⟩⟩⟩
theorem deadL_mk (hp : ∀ i, i < 10 → sm (w.2.1 78 i) 100) {n : Nat} (h1 : 1 ≤ n) (hn : n ≤ 8) {y : Nat → Nat} (hy : ∀ i, i < 260 → (w.2.1 83 i &&& (255 : Int32)) = nI (y i)) {a0 : Nat} (est : w.1 77 7 = nI a0) {c : Nat → Nat → Nat} (ec : c = fun a j => prS (w.2.1 78) (a ^^^ stN y j)) (hid : ∀ i, i < n → w.2.1 101 i = nI i) : ∃ x, lp (deadB b (nI n)) FU (1000000, 1, mk b w) = some x ∧ ∃ q w2, x = (nI (pay c (stN y) q a0 n).2, mk b w2) ∧ sim w w2 ∧ bestRow c (stN y) n a0 q ∧ ∀ i, i < n → w2.2.1 102 i = nI (q i) := by
  have hc : ∀ a j, c a j ≤ 990 := fun a j => by rw [ec]; exact prS_le hp _
  have hF := fc_8 n (by omega)
  refine lp_ex (deadI b w c (stN y) n a0) (fun x => ∃ q w2, x = (nI (pay c (stN y) q a0 n).2, mk b w2) ∧ sim w w2 ∧ bestRow c (stN y) n a0 q ∧ ∀ i, i < n → w2.2.1 102 i = nI (q i)) ?_ (fcN n n - rk n (fun i => i) n) (1000000, 1, mk b w) ⟨w, sP_refl w, Or.inl ⟨fun i => i, rfl, id_row n, hid, Or.inl ⟨rfl, fun r' h' => id_least h'⟩⟩⟩ FU (Nat.lt_of_le_of_lt (show _ ≤ 40320 by omega) (by decide))
  rintro k t ⟨w1, hs1, ⟨r, rfl, hr, h101, hcase⟩ | ⟨rfl, q, rfl, hq, h102⟩⟩
  · right
    have hp1 : ∀ i, i < 10 → sm (w1.2.1 78 i) 100 := by rw [hs1.2.1 78 rfl]; exact hp
    have hy1 : ∀ i, i < 260 → (w1.2.1 83 i &&& (255 : Int32)) = nI (y i) := by rw [hs1.2.1 83 rfl]; exact hy
    have price := rowPrice_mk (b := b) (w := w1) hp1 hn hy1 hr.1 h101 ((hs1.1 77 7 rfl).trans est) (c := c) (by rw [hs1.2.1 78 rfl]; exact ec)
    have hpl := pay_le (s := stN y) (r := r) (a0 := a0) hc n
    have fresh : ∀ J : Int32 × HP → Option ((Int32 × HP) ⊕ (Int32 × Int32 × HP)), ∀ Post : (Int32 × HP) ⊕ (Int32 × Int32 × HP) → Prop, (∀ a, (∀ i, i < n → a i = nI (r i)) → ∃ z, J (nI (pay c (stN y) r a0 n).2, mk b (uA w1 102 a)) = some z ∧ Post z) → ∃ z, ((lp (fun (s17 : Int32 × HP) => if nI n ≤ s17.1 then some (Sum.inl s17.2) else (gR [12] 55 s17.2 (b + 77)).bind (fun v19 => (gR [12] 54 s17.2 (b + 77)).bind (fun v20 => (rdN 0 s17.2 v20 s17.1).bind (fun v21 => (wrI s17.2 v19 s17.1 v21).bind (fun hp22 => vl (s17.1 + (1 : Int32)) (fun x23 => some (Sum.inr (x23, hp22)))))))) FU ((0 : Int32), mk b w1)).bind (fun (y18 : HP) => J (nI (pay c (stN y) r a0 n).2, y18))) = some z ∧ Post z := fun J Post hJ => by
      refine lpb_inv (fun i (t : Int32 × HP) => ∃ a, t = (nI i, mk b (uA w1 102 a)) ∧ ∀ k, k < i → a k = nI (r k)) Post n (Nat.lt_of_le_of_lt hn (by decide)) ⟨w1.2.1 102, by rw [uA_id]; rfl, fun j hj => absurd hj (Nat.not_lt_zero j)⟩ (fun i hi t hI => ?_) (fun t hI => ?_)
      · obtain ⟨a, rfl, hA⟩ := hI
        try dsimp only
        rw [if_neg (nI_ge hi (by omega)), gR_12_77_55, Option.bind_some, gR_12_77_54, Option.bind_some, rdN_mk (t := 0) (n := 8) (by decide +kernel) (by decide) b _ (show i < 8 by omega), Option.bind_some, uA_ne _ _ (by decide), h101 i hi, wrI_mk (n := 8) (by decide +kernel) b _ (show i < 8 by omega), Option.bind_some, uA_at, uA_uA, vl_eq, nI_1]
        refine ⟨_, rfl, _, rfl, fun k hk => ?_⟩
        unfold upd
        by_cases z : k = i
        · rw [if_pos z, z]
        · rw [if_neg z]; exact hA k (by omega)
      · obtain ⟨a, rfl, hA⟩ := hI
        try dsimp only
        rw [if_pos (nI_le (Nat.le_refl n) (by omega))]
        obtain ⟨z, e1, e2⟩ := hJ a hA
        exact ⟨_, rfl, z, e1, e2⟩
    have take : upTo c (stN y) n a0 (atMost n r) r → ∀ J : Int32 × HP → Option ((Int32 × HP) ⊕ (Int32 × Int32 × HP)), (J = fun a13 => (rc [12] a13.2 (b + 77) (FX12_goesNext a13.2 (b + 77) (nI n))).bind (fun w15 => some (Sum.inr (a13.1, w15.1, w15.2)))) → ∃ s' k', ((lp (fun (s17 : Int32 × HP) => if nI n ≤ s17.1 then some (Sum.inl s17.2) else (gR [12] 55 s17.2 (b + 77)).bind (fun v19 => (gR [12] 54 s17.2 (b + 77)).bind (fun v20 => (rdN 0 s17.2 v20 s17.1).bind (fun v21 => (wrI s17.2 v19 s17.1 v21).bind (fun hp22 => vl (s17.1 + (1 : Int32)) (fun x23 => some (Sum.inr (x23, hp22)))))))) FU ((0 : Int32), mk b w1)).bind (fun (y18 : HP) => J (nI (pay c (stN y) r a0 n).2, y18))) = some (Sum.inr s') ∧ k' < fcN n n - rk n r n ∧ deadI b w c (stN y) n a0 k' s' := fun hup J eJ => by
      obtain ⟨z, e1, s', k', rfl, e2⟩ := fresh J (fun z => ∃ s' k', z = Sum.inr s' ∧ k' < fcN n n - rk n r n ∧ deadI b w c (stN y) n a0 k' s') (fun a hA => by
        obtain ⟨s', k', f1, f2, f3⟩ := deadT_mk (b := b) (w := w) h1 hn (c := c) (s := stN y) (a0 := a0) hr (w2 := uA w1 102 a) (sP_trans hs1 (sP_uA w1 _ rfl)) h101 hup (fun i hi => by rw [uA_at]; exact hA i hi)
        exact ⟨_, by rw [eJ]; exact f1, s', k', rfl, f2, f3⟩)
      exact ⟨s', k', e1, e2⟩
    unfold deadB
    rcases hcase with ⟨rfl, hno⟩ | ⟨q, rfl, hq, h102⟩
    · try dsimp only
      rw [if_neg n10, rc_12_77, price, Option.bind_some, jn_eq, if_neg, Option.bind_some]
      · exact take (upTo_first hr hno) _ rfl
      · intro z
        rw [fa_le, nI_toInt (by omega)] at z
        have : (1000000 : Int32).toInt = 1000000 := by decide
        omega
    · have hpq := pay_le (s := stN y) (r := q) (a0 := a0) hc n
      try dsimp only
      rw [if_neg n10, rc_12_77, price, Option.bind_some, jn_eq]
      by_cases z : (pay c (stN y) q a0 n).2 ≤ (pay c (stN y) r a0 n).2
      · rw [if_pos (nI_le z (by omega))]
        exact deadT_mk (b := b) (w := w) h1 hn hr hs1 h101 (upTo_keep hq z) h102
      · rw [if_neg (nI_ge (by omega) (by omega)), Option.bind_some]
        exact take (upTo_new hr hq (by omega)) _ rfl
  · left
    exact ⟨_, rfl, q, w1, rfl, hs1, hq, h102⟩
end
