/-! the nearest state -/
def cst (f : Nat → Int32) (st s : Nat) : Nat := 16 * prS f (s ^^^ st) + pc (s ^^^ st)
def kyv (f : Nat → Int32) (st s : Nat) : Nat := cst f st s * 1024 + s
def isMn (K : Nat → Nat) (P : Nat → Prop) (x : Int32) : Prop := (x = 1000000000 ∧ ∀ s, s < 1024 → ¬ P s) ∨ ∃ s, s < 1024 ∧ P s ∧ x = nI (K s) ∧ ∀ r, r < 1024 → P r → K s ≤ K r
theorem isMn_congr {K : Nat → Nat} {P Q : Nat → Prop} {x : Int32} (h : isMn K P x) (e : ∀ s, s < 1024 → (P s ↔ Q s)) : isMn K Q x := by
  rcases h with ⟨h1, h2⟩ | ⟨s, h1, h2, h3, h4⟩
  · exact Or.inl ⟨h1, fun s hs q => h2 s hs ((e s hs).mpr q)⟩
  · exact Or.inr ⟨s, h1, (e s h1).mp h2, h3, fun r hr q => h4 r hr ((e r hr).mpr q)⟩
theorem isMn_add {K : Nat → Nat} (hK : ∀ s, s < 1024 → K s < 1000000000) {P Q : Nat → Prop} {x : Int32} (h : isMn K P x) {s1 : Nat} (hs1 : s1 < 1024) (e : ∀ s, s < 1024 → (Q s ↔ P s ∨ s = s1)) : isMn K Q (mnI x (nI (K s1))) := by
  have k1 := hK s1 hs1
  right
  rcases h with ⟨h1, h2⟩ | ⟨s, h1, h2, h3, h4⟩
  · refine ⟨s1, hs1, (e s1 hs1).mpr (Or.inr rfl), ?_, fun r hr q => ?_⟩
    · rw [h1]
      unfold mnI
      rw [if_pos]
      rw [fa_lt, nI_toInt (by omega)]
      have e : (1000000000 : Int32).toInt = 1000000000 := by decide
      omega
    · rcases (e r hr).mp q with g | g
      · exact absurd g (h2 r hr)
      · rw [g]; exact Nat.le_refl _
  · have k0 := hK s h1
    rw [h3, mn_nI (by omega) (by omega)]
    rcases Nat.le_total (K s) (K s1) with g | g
    · rw [Nat.min_eq_left g]
      refine ⟨s, h1, (e s h1).mpr (Or.inl h2), rfl, fun r hr q => ?_⟩
      rcases (e r hr).mp q with g2 | g2
      · exact h4 r hr g2
      · rw [g2]; exact g
    · rw [Nat.min_eq_right g]
      refine ⟨s1, hs1, (e s1 hs1).mpr (Or.inr rfl), rfl, fun r hr q => ?_⟩
      rcases (e r hr).mp q with g2 | g2
      · exact Nat.le_trans g (h4 r hr g2)
      · rw [g2]; exact Nat.le_refl _
theorem xor_div (s st : Nat) : (s ^^^ st) / 64 = s / 64 ^^^ st / 64 := Nat.xor_div_two_pow (n := 6)
theorem xor_mod (s st : Nat) : (s ^^^ st) % 64 = s % 64 ^^^ st % 64 := Nat.xor_mod_two_pow (n := 6)
theorem xor_cancel (a c : Nat) : (a ^^^ c) ^^^ c = a := by rw [Nat.xor_assoc, Nat.xor_self, Nat.xor_zero]
theorem xor64 : ∀ a, a < 64 → ∀ c, c < 64 → (a ^^^ c) < 64 := fun a ha c hc => Nat.xor_lt_two_pow (n := 6) ha hc
def Pt (p : Nat → Bool) (c : Nat → Nat) (st far t s : Nat) : Prop := p s = true ∧ ((s ^^^ st) / 64 < far ∨ ((s ^^^ st) / 64 = far ∧ ∃ u, u < t ∧ c u = (s ^^^ st) % 64))
theorem sorted_le {K c : Nat → Nat} (h : ∀ t, t + 1 < 64 → K (c t) ≤ K (c (t + 1))) {t : Nat} : ∀ d, t + d < 64 → K (c t) ≤ K (c (t + d))
  | 0, _ => Nat.le_refl _
  | d + 1, hd => Nat.le_trans (sorted_le h d (by omega)) (h (t + d) (by omega))
section
variable {RL : WD → Prop} {b : Nat} {w : WD}
theorem near_mk (hP : R_price w) {k : Nat} (hk : k < 8) {st : Nat} (hst : st < 1024) : ∃ x, FX3_nearest (mk b w) (b + 25) (b + 30) (b + (7 + k)) (nI st) = some x ∧ ((x = -1 ∧ ∀ s, s < 1024 → (tb (w.2.2.1 30) s && tb (w.2.2.1 (7 + k)) s) = false) ∨ ∃ s, s < 1024 ∧ x = nI s ∧ (tb (w.2.2.1 30) s && tb (w.2.2.1 (7 + k)) s) = true ∧ ∀ r, r < 1024 → (tb (w.2.2.1 30) r && tb (w.2.2.1 (7 + k)) r) = true → kyv (w.2.1 78) st s ≤ kyv (w.2.1 78) st r) := by
  obtain ⟨p1, p2, p3, p4, c, c1, c2, c3, c4⟩ := hP
  generalize hf : w.2.1 78 = f at *
  have hK : ∀ s, s < 1024 → kyv f st s < 1000000000 := fun s hs => by
    have a1 := prS_le p2 (s ^^^ st)
    have a2 := pc_le (s ^^^ st)
    unfold kyv cst
    omega
  have hkey : ∀ s far near, (s ^^^ st) / 64 = far → (s ^^^ st) % 64 = near → kyv f st s = (highN f far + lowN f near) * 1024 + s := fun s far near h1 h2 => by
    have e := lowhigh f (s ^^^ st)
    unfold kyv cst
    rw [← e, h1, h2, Nat.add_comm (lowN f near)]
  obtain ⟨p, hp⟩ : ∃ p : Nat → Bool, p = fun s => tb (w.2.2.1 30) s && tb (w.2.2.1 (7 + k)) s := ⟨_, rfl⟩
  have hpw : ∀ s, s < 1024 → p s = lb (w.2.2.1 30 (s / 64) &&& w.2.2.1 (7 + k) (s / 64)) (s % 64) := fun s _ => by
    rw [hp, lb_and]
    rfl
  show ∃ x, FX3_nearest (mk b w) (b + 25) (b + 30) (b + (7 + k)) (nI st) = some x ∧ ((x = -1 ∧ ∀ s, s < 1024 → (fun s => tb (w.2.2.1 30) s && tb (w.2.2.1 (7 + k)) s) s = false) ∨ ∃ s, s < 1024 ∧ x = nI s ∧ (fun s => tb (w.2.2.1 30) s && tb (w.2.2.1 (7 + k)) s) s = true ∧ ∀ r, r < 1024 → (fun s => tb (w.2.2.1 30) s && tb (w.2.2.1 (7 + k)) s) r = true → kyv f st s ≤ kyv f st r)
  rw [← hp]
  unfold FX3_nearest
  refine lpb_inv (fun far s => ∃ best, s = (best, nI far) ∧ isMn (kyv f st) (Pt p c st far 0) best) _ 16 (by decide) ⟨_, rfl, Or.inl ⟨rfl, fun s _ q => ?_⟩⟩ (fun far hfar s hI => ?_) (fun s hI => ?_)
  · rcases q.2 with g | ⟨_, u, hu, _⟩
    · exact absurd g (Nat.not_lt_zero _)
    · exact absurd hu (Nat.not_lt_zero _)
  · obtain ⟨best, rfl, hB⟩ := hI
    try dsimp only
    have hv : far ^^^ st / 64 < 16 := xor16 far hfar (st / 64) (by omega)
    have ev : (nI far ^^^ (nI st >>> ((6 : Int32) &&& 31))) &&& (15 : Int32) = nI (far ^^^ st / 64) := by
      rw [pk_shrN (by omega) _ 6 (by decide), fb_xorI, pk_andN (Nat.lt_trans hv (by decide)) 4 (by decide), Nat.mod_eq_of_lt hv]
    rw [if_neg (Lnle hfar), vl_eq, ev, rdL_mk okF b w hv, Option.bind_some, rdL_mk (okT k hk) b w hv, Option.bind_some, vl_eq]
    have inner : ∃ y, lp (fun (s8 : Int32 × Int32) => if (64 : Int32) ≤ s8.2 then some (Sum.inl s8.1) else if (lg_cmp (w.2.2.1 30 (far ^^^ st / 64) &&& w.2.2.1 (7 + k) (far ^^^ st / 64)) (0 : Int64)) = 0 then some (Sum.inl s8.1) else (gR [3] 3 (mk b w) (b + 25)).bind (fun v11 => (rdN 0 (mk b w) v11 s8.2).bind (fun v12 => vl (v12 &&& (63 : Int32)) (fun y12 => (gR [3] 2 (mk b w) (b + 25)).bind (fun v13 => (rdN 0 (mk b w) v13 (nI far)).bind (fun v14 => (gR [3] 1 (mk b w) (b + 25)).bind (fun v15 => (rdN 0 (mk b w) v15 y12).bind (fun v16 => vl ((v14 + v16) * (1024 : Int32)) (fun x17 => if x17 ≤ s8.1 then vl (y12 ^^^ (nI st &&& (63 : Int32))) (fun x18 => if (lg_cmp (((w.2.2.1 30 (far ^^^ st / 64) &&& w.2.2.1 (7 + k) (far ^^^ st / 64)).toUInt64 >>> ((x18).toInt64.toUInt64 &&& Int64.toUInt64 63)).toInt64 &&& (1 : Int64)) (0 : Int64)) = 0 then vl (s8.2 + (1 : Int32)) (fun x19 => some (Sum.inr (s8.1, x19))) else vl (mnI s8.1 ((x17 + (nI (far ^^^ st / 64) * (64 : Int32))) + x18)) (fun x20 => vl (s8.2 + (1 : Int32)) (fun x21 => some (Sum.inr (x20, x21))))) else some (Sum.inl s8.1)))))))))) FU (best, (0 : Int32)) = some y ∧ isMn (kyv f st) (Pt p c st (far + 1) 0) y := by
      have toNext : ∀ (t : Nat) (x : Int32), isMn (kyv f st) (Pt p c st far t) x → (∀ s, s < 1024 → p s = true → (s ^^^ st) / 64 = far → ∃ u, u < t ∧ c u = (s ^^^ st) % 64) → isMn (kyv f st) (Pt p c st (far + 1) 0) x := fun t x h1 h2 => by
        refine isMn_congr h1 (fun s hs => ⟨fun ⟨q1, q2⟩ => ⟨q1, Or.inl ?_⟩, fun ⟨q1, q2⟩ => ⟨q1, ?_⟩⟩)
        · rcases q2 with g | ⟨g, _⟩ <;> omega
        · rcases q2 with g | ⟨_, u, hu, _⟩
          · by_cases z : (s ^^^ st) / 64 = far
            · exact Or.inr ⟨z, h2 s hs q1 z⟩
            · exact Or.inl (by omega)
          · exact absurd hu (Nat.not_lt_zero _)
      refine lp_ex (fun m s => ∃ t x, t ≤ 64 ∧ m = 64 - t ∧ s = (x, nI t) ∧ isMn (kyv f st) (Pt p c st far t) x) (fun y => isMn (kyv f st) (Pt p c st (far + 1) 0) y) ?_ 64 _ ⟨0, best, by decide, rfl, rfl, hB⟩ _ (by decide)
      rintro m s ⟨t, x, ht, rfl, rfl, hX⟩
      try dsimp only
      by_cases e64 : t = 64
      · subst e64
        left
        rw [if_pos (by decide)]
        refine ⟨x, rfl, toNext 64 x hX (fun s hs q1 q2 => ?_)⟩
        exact c3 _ (Nat.mod_lt _ (by decide))
      · have ht' : t < 64 := by omega
        rw [if_neg (Lnle ht')]
        by_cases e0 : w.2.2.1 30 (far ^^^ st / 64) &&& w.2.2.1 (7 + k) (far ^^^ st / 64) = 0
        · left
          rw [if_pos ((cmp0 _).mpr e0)]
          refine ⟨x, rfl, toNext t x hX (fun s hs q1 q2 => ?_)⟩
          exfalso
          rw [hpw s hs] at q1
          rw [xor_div] at q2
          have : s / 64 = far ^^^ st / 64 := by rw [← q2, xor_cancel]
          rw [this, e0, lb_0] at q1
          cases q1
        · have hct := c2 t ht'
          have l1 := lowN_le p2 (c t)
          have l2 := highN_le p2 far
          have hb6 : c t ^^^ st % 64 < 64 := xor64 _ hct _ (Nat.mod_lt _ (by decide))
          rw [if_neg (fun q => e0 ((cmp0 _).mp q)), gR_3_25_3, Option.bind_some, rdN_mk (t := 0) (n := 64) (by decide +kernel) (by decide) b w ht', Option.bind_some, c1 t ht', vl_eq, msk63 hct, gR_3_25_2, Option.bind_some, rdN_mk (t := 0) (n := 16) (by decide +kernel) (by decide) b w hfar, Option.bind_some, p4 far hfar, gR_3_25_1, Option.bind_some, rdN_mk (t := 0) (n := 64) (by decide +kernel) (by decide) b w hct, Option.bind_some, p3 _ hct, nI_add, fa_lit 1024, pk_mul, vl_eq, an63 hst, fb_xorI, vl_eq]
          obtain ⟨s1, hs1⟩ : ∃ s1, s1 = 64 * (far ^^^ st / 64) + (c t ^^^ st % 64) := ⟨_, rfl⟩
          have hs1lt : s1 < 1024 := by omega
          have d1 : s1 / 64 = far ^^^ st / 64 := by omega
          have d2 : s1 % 64 = c t ^^^ st % 64 := by omega
          have x1 : (s1 ^^^ st) / 64 = far := by rw [xor_div, d1, xor_cancel]
          have x2 : (s1 ^^^ st) % 64 = c t := by rw [xor_mod, d2, xor_cancel]
          have only : ∀ s, s < 1024 → (s ^^^ st) / 64 = far → (s ^^^ st) % 64 = c t → s = s1 := fun s hs q1 q2 => by
            have z : s ^^^ st = s1 ^^^ st := by omega
            have := congrArg (fun n => n ^^^ st) z
            simp only [xor_cancel] at this
            exact this
          by_cases q : nI ((highN f far + lowN f (c t)) * 1024) ≤ x
          · right
            rw [if_pos q]
            by_cases pb : p s1 = true
            · rw [if_neg (fun z => by rw [hpw s1 hs1lt, d1, d2, (lbit0 _ hb6).mp z] at pb; cases pb)]
              have ek : nI ((highN f far + lowN f (c t)) * 1024) + nI (far ^^^ st / 64) * (64 : Int32) + nI (c t ^^^ st % 64) = nI (kyv f st s1) := by
                rw [hkey s1 far (c t) x1 x2, fa_lit 64, pk_mul, nI_add, nI_add, hs1]
                refine congrArg nI ?_
                omega
              rw [ek, vl_eq, vl_eq, nI_1]
              refine ⟨_, 64 - (t + 1), rfl, by omega, t + 1, _, by omega, rfl, rfl, ?_⟩
              refine isMn_add hK hX hs1lt (fun s hs => ⟨fun ⟨q1, q2⟩ => ?_, fun g => ?_⟩)
              · rcases q2 with z | ⟨z, u, hu, hcu⟩
                · exact Or.inl ⟨q1, Or.inl z⟩
                · by_cases y : u = t
                  · right
                    subst y
                    exact only s hs z hcu.symm
                  · exact Or.inl ⟨q1, Or.inr ⟨z, u, by omega, hcu⟩⟩
              · rcases g with ⟨q1, q2⟩ | g
                · refine ⟨q1, ?_⟩
                  rcases q2 with z | ⟨z, u, hu, hcu⟩
                  · exact Or.inl z
                  · exact Or.inr ⟨z, u, by omega, hcu⟩
                · rw [g]
                  exact ⟨pb, Or.inr ⟨x1, t, by omega, x2.symm⟩⟩
            · have pb' : p s1 = false := by cases z : p s1 with
                | true => exact absurd z pb
                | false => rfl
              rw [if_pos ((lbit0 _ hb6).mpr (by rw [hpw s1 hs1lt, d1, d2] at pb'; exact pb')), vl_eq, nI_1]
              refine ⟨_, 64 - (t + 1), rfl, by omega, t + 1, x, by omega, rfl, rfl, isMn_congr hX (fun s hs => ⟨fun ⟨q1, q2⟩ => ⟨q1, ?_⟩, fun ⟨q1, q2⟩ => ⟨q1, ?_⟩⟩)⟩
              · rcases q2 with z | ⟨z, u, hu, hcu⟩
                · exact Or.inl z
                · exact Or.inr ⟨z, u, by omega, hcu⟩
              · rcases q2 with z | ⟨z, u, hu, hcu⟩
                · exact Or.inl z
                · by_cases y : u = t
                  · subst y
                    rw [only s hs z hcu.symm] at q1
                    exact absurd q1 pb
                  · exact Or.inr ⟨z, u, by omega, hcu⟩
          · left
            rw [if_neg q]
            refine ⟨x, rfl, ?_⟩
            rcases hX with ⟨h1, h2⟩ | ⟨s0, h1, h2, h3, h4⟩
            · rw [h1] at q
              exact absurd (show nI ((highN f far + lowN f (c t)) * 1024) ≤ nI 1000000000 from nI_le (by omega) (by decide)) q
            · have k0 := hK s0 h1
              rw [h3] at q
              have q' : kyv f st s0 < (highN f far + lowN f (c t)) * 1024 := by
                rcases Nat.lt_or_ge (kyv f st s0) ((highN f far + lowN f (c t)) * 1024) with z | z
                · exact z
                · exact absurd (nI_le z (by omega)) q
              right
              refine ⟨s0, h1, ⟨h2.1, Or.inl (by rcases h2.2 with z | ⟨z, _⟩ <;> omega)⟩, h3, fun r hr qr => ?_⟩
              rcases qr.2 with z | ⟨_, u, hu, _⟩
              · by_cases y : (r ^^^ st) / 64 = far
                · obtain ⟨u, hu, hcu⟩ := c3 ((r ^^^ st) % 64) (Nat.mod_lt _ (by decide))
                  rcases Nat.lt_or_ge u t with g | g
                  · exact h4 r hr ⟨qr.1, Or.inr ⟨y, u, g, hcu⟩⟩
                  · have sl := sorted_le (K := lowN f) c4 (t := t) (u - t) (by omega)
                    rw [show t + (u - t) = u by omega, hcu] at sl
                    rw [hkey r far _ y rfl]
                    have : (highN f far + lowN f (c t)) * 1024 ≤ (highN f far + lowN f ((r ^^^ st) % 64)) * 1024 := Nat.mul_le_mul_right _ (by omega)
                    omega
                · exact h4 r hr ⟨qr.1, Or.inl (by omega)⟩
              · exact absurd hu (Nat.not_lt_zero _)
    obtain ⟨y, l1, l2⟩ := inner
    refine ⟨(y, nI (far + 1)), ?_, y, rfl, l2⟩
    refine (congrArg (fun o => Option.bind o _) l1).trans ?_
    rw [Option.bind_some, vl_eq, nI_1]
  · obtain ⟨best, rfl, hB⟩ := hI
    refine ⟨best, by rfl, ?_⟩
    have all : ∀ s, s < 1024 → (s ^^^ st) / 64 < 16 := fun s hs => by
      have : s ^^^ st < 1024 := Nat.xor_lt_two_pow (n := 10) hs hst
      omega
    rcases hB with ⟨h1, h2⟩ | ⟨s, h1, h2, h3, h4⟩
    · rw [if_pos h1]
      refine ⟨-1, rfl, Or.inl ⟨rfl, fun s hs => ?_⟩⟩
      cases z : p s with
      | false => rfl
      | true => exact absurd ⟨z, Or.inl (all s hs)⟩ (h2 s hs)
    · have k0 := hK s h1
      rw [h3, if_neg, rm_nI (d := 1024) (by omega) (by decide) (by decide)]
      · refine ⟨_, rfl, Or.inr ⟨s, h1, ?_, h2.1, fun r hr q => h4 r hr ⟨q, Or.inl (all r hr)⟩⟩⟩
        refine congrArg nI ?_
        unfold kyv
        omega
      · intro z
        have := congrArg Int32.toInt z
        rw [nI_toInt (by omega)] at this
        have e : (1000000000 : Int32).toInt = 1000000000 := by decide
        omega
end
