/-! by which few wishes to come to another one: the class -/
def Hd (w : WD) (goal : Nat) (o : Option (Nat × SV)) : Bool := match o with
  | none => false
  | some z => WT w goal (dyN (z.2 0))
section
variable {b : Nat} {w : WD} {G : TG} {sv0 : SV} {who : Nat → Nat} {n : Nat} {p : Nat → Bool}
theorem V_rep (hG : Gok b w G) (hv : okSv sv0) (hn : 0 < n) (hw8 : ∀ i, i < n → who i < 8) {m c i t : Nat} (hi : i < t) (ht : t < m) (e : who (c / n ^ i % n) = who (c / n ^ t % n)) : VR G sv0 who n m c = none := by
  have h1 : VR G sv0 who n (m - i - 1 + 1) (c / n ^ i) = none := by
    refine V_twice hG hv hn hw8 (i := t - i - 1) (by omega) ?_
    rw [e, Nat.div_div_eq_div_mul, Nat.div_div_eq_div_mul, ← Nat.pow_succ', ← Nat.pow_add, show i + (t - i - 1 + 1) = t by omega]
  have h2 := V_none (G := G) (sv0 := sv0) (who := who) (n := n) (m - i - 1 + 1) i c h1
  rw [show m - i - 1 + 1 + i = m by omega] at h2
  exact h2
theorem V_short (hG : Gok b w G) (hv : okSv sv0) (hn : 0 < n) (hw8 : ∀ i, i < n → who i < 8) {m : Nat} (hm : n < m) (c : Nat) : VR G sv0 who n m c = none := by
  obtain ⟨i, j, h1, h2, h3⟩ := fb_twice (m := n) (n := m) (f := fun i => c / n ^ i % n) (fun i _ => Nat.mod_lt _ hn) hm
  exact V_rep hG hv hn hw8 h1 h2 (congrArg who h3)
theorem blk_skip {V : Nat → Option (Nat × SV)} {q : Option (Nat × SV) → Bool} {a c0 m : Nat} (h1 : ∀ c, a ≤ c → c < c0 * m → q (V c) = false) (h2 : ∀ c, c0 * m ≤ c → c < c0 * m + m → q (V c) = false) : ∀ c, a ≤ c → c < (c0 + 1) * m → q (V c) = false := by
  intro c h3 h4
  rw [Nat.add_mul, Nat.one_mul] at h4
  rcases Nat.lt_or_ge c (c0 * m) with z | z
  · exact h1 c h3 z
  · exact h2 c z h4
theorem rch_mk (h : Rel RLaw w) (hG : Gok b w G) (hv : okSv sv0) {goal : Nat} (hg : goal < 8) (hp : ∀ k, k < 8 → p k = (bt (w.1 77 5) k && !bt (sv0 4) k && !decide (k = goal))) (hpn : fb_ct p 8 = n) (hwho : whoOk p who) {m : Nat} (hm4 : m ≤ 4) : ∀ (e d P N : Nat) (w1 : WD) (s : Nat) (sv : SV), d + e = m → e < N → env w w1 → VR G sv0 who n d P = some (s, sv) → okSv sv → (∀ i, i < 8 → bt (sv0 4) i = true → bt (sv 4) i = true) → (∀ i, i < 6 → w1.1 (45 + d) i = sv i) → (∀ j, j < d → w1.2.1 42 j = nI (who (P / n ^ (d - 1 - j) % n))) → ∃ r w2, FGX5_reachOn N (mk b w1) (b + 34) (nI goal) (nI d) (nI m) = some (r, mk b w2) ∧ frO d w1 w2 ∧ (∀ j, j < d → w2.2.1 42 j = w1.2.1 42 j) ∧ ((r = 0 ∧ ∀ c, P * n ^ e ≤ c → c < (P + 1) * n ^ e → Hd w goal (VR G sv0 who n m c) = false) ∨ (r = 1 ∧ ∃ c, P * n ^ e ≤ c ∧ c < (P + 1) * n ^ e ∧ Hd w goal (VR G sv0 who n m c) = true ∧ (∀ c', P * n ^ e ≤ c' → c' < c → Hd w goal (VR G sv0 who n m c') = false) ∧ ∀ j, j < m → w2.2.1 42 j = nI (who (c / n ^ (m - 1 - j) % n)))) := by
  have hw8 : ∀ i, i < n → who i < 8 := fun i hi => (hwho.2 i (by omega)).1
  intro e
  induction e with
  | zero =>
    intro d P N w1 s sv hd hN s1 hV hsv hmono ht hrow
    obtain ⟨N, rfl⟩ : ∃ m, N = m + 1 := ⟨N - 1, by omega⟩
    have hdm : d = m := by omega
    subst hdm
    obtain ⟨st, hst, est⟩ := hsv.1
    have hH : Hd w goal (VR G sv0 who n d P) = tb (w1.2.2.1 (7 + goal)) st := by
      rw [hV, s1.2.2.1 (7 + goal) (eL7 goal hg).1, h.tT hg hst]
      show WT w goal (dyN (sv 0)) = _
      rw [est, dyN_nI (by omega)]
    have okT : okA 3 (7 + goal) 16 = true := (by decide +kernel : ∀ g, g < 8 → okA 3 (7 + g) 16 = true) goal hg
    have run : FGX5_reachOn (N + 1) (mk b w1) (b + 34) (nI goal) (nI d) (nI d) = some (if tb (w1.2.2.1 (7 + goal)) st then 1 else 0, mk b w1) := by
      show FBX5_reachOn _ _ _ _ _ _ = _
      unfold FBX5_reachOn
      rw [if_neg (nI_pos (by omega)), if_pos (show nI d < (5 : Int32) from nI_lt (a := d) (b := 5) (by omega) (by decide)), if_neg (show ¬ nI d < nI d from nI_nlt (Nat.le_refl d) (by omega)), and7k goal hg]
      refine bS (gR_5_34_9 b _) ?_
      refine bS (gR_0_5_0 b _) ?_
      refine bS (rdA_mk (t := 4) (j := 6) (n := 8) (by decide +kernel) (by decide) b w1 hg) ?_
      refine bS (gR_5_34_12 b _) ?_
      refine bS (rdA_mk (t := 5) (j := 44) (n := 6) (by decide +kernel) (by decide) b w1 (by omega)) ?_
      refine bS (gI_mk (okSt (j := 45 + d) (Or.inr ⟨by omega, by omega⟩) (by decide)) b w1) ?_
      rw [ht 0 (by decide), est]
      refine bS (thas_mk (j := 7 + goal) okT hst) ?_
      unfold bz
      rw [if_pos]
      cases tb (w1.2.2.1 (7 + goal)) st
      · exact Or.inl rfl
      · exact Or.inr rfl
    refine ⟨_, w1, run, sP_refl w1, fun _ _ => rfl, ?_⟩
    rw [Nat.pow_zero, Nat.mul_one, Nat.mul_one]
    cases hb : tb (w1.2.2.1 (7 + goal)) st
    · left
      refine ⟨rfl, fun c h1 h2 => ?_⟩
      have : c = P := by omega
      rw [this, hH, hb]
    · right
      refine ⟨rfl, P, Nat.le_refl _, by omega, by rw [hH, hb], fun c' h1 h2 => absurd h1 (by omega), hrow⟩
  | succ e ih =>
    intro d P N w1 s sv hd hN s1 hV hsv hmono ht hrow
    obtain ⟨N, rfl⟩ : ∃ m, N = m + 1 := ⟨N - 1, by omega⟩
    have hdm : d < m := by omega
    show ∃ r w2, FBX5_reachOn (FGX5_reachOn N) (mk b w1) (b + 34) (nI goal) (nI d) (nI m) = some (r, mk b w2) ∧ _
    unfold FBX5_reachOn
    rw [if_neg (nI_pos (by omega)), if_pos (show nI d < (5 : Int32) from nI_lt (a := d) (b := 5) (by omega) (by decide)), if_pos (show nI d < nI m from nI_lt hdm (by omega))]
    have lem := lpb_ex (body := fun (s10 : Int32 × HP) => if (8 : Int32) ≤ s10.1 then some (Sum.inl (Sum.inr s10.2)) else if s10.1 = nI goal then vl (s10.1 + (1 : Int32)) (fun x12 => some (Sum.inr (x12, s10.2))) else (gR [5] 9 s10.2 (b + 34)).bind (fun v13 => (rc [0] s10.2 v13 (FX0_has s10.2 v13 s10.1)).bind (fun v14 => if v14 = 0 then vl (s10.1 + (1 : Int32)) (fun x15 => some (Sum.inr (x15, s10.2))) else (rc [5] s10.2 (b + 34) (FX5_isGranted s10.2 (b + 34) (nI d) s10.1)).bind (fun w16 => if w16.1 = 0 then vl (s10.1 + (1 : Int32)) (fun x17 => some (Sum.inr (x17, w16.2))) else (gR [5] 7 w16.2 (b + 34)).bind (fun v18 => (wrI w16.2 v18 (nI d) s10.1).bind (fun hp19 => (rc [5] hp19 (b + 34) (FGX5_reachOn N hp19 (b + 34) (nI goal) (nI d + (1 : Int32)) (nI m))).bind (fun w20 => if w20.1 = 0 then vl (s10.1 + (1 : Int32)) (fun x21 => some (Sum.inr (x21, w20.2))) else some (Sum.inl (Sum.inl ((1 : Int32), w20.2))))))))))
      (kf := lk (P := Int32 × HP) (fun r => r) (fun (y11 : HP) => some ((0 : Int32), y11))) (N := FU) (s0 := ((0 : Int32), mk b w1))
      (fun q s10 => ∃ k w2, k ≤ 8 ∧ q = 8 - k ∧ s10 = (nI k, mk b w2) ∧ frO d w1 w2 ∧ (∀ j, j < d → w2.2.1 42 j = w1.2.1 42 j) ∧ ∀ c, P * n ^ (e + 1) ≤ c → c < (P * n + fb_ct p k) * n ^ e → Hd w goal (VR G sv0 who n m c) = false)
      (fun x => ∃ w2, frO d w1 w2 ∧ (∀ j, j < d → w2.2.1 42 j = w1.2.1 42 j) ∧ ((x = .inr (mk b w2) ∧ ∀ c, P * n ^ (e + 1) ≤ c → c < (P + 1) * n ^ (e + 1) → Hd w goal (VR G sv0 who n m c) = false) ∨ (x = .inl (1, mk b w2) ∧ ∃ c, P * n ^ (e + 1) ≤ c ∧ c < (P + 1) * n ^ (e + 1) ∧ Hd w goal (VR G sv0 who n m c) = true ∧ (∀ c', P * n ^ (e + 1) ≤ c' → c' < c → Hd w goal (VR G sv0 who n m c') = false) ∧ ∀ j, j < m → w2.2.1 42 j = nI (who (c / n ^ (m - 1 - j) % n)))))
      (fun z => ∃ w2, z.2 = mk b w2 ∧ frO d w1 w2 ∧ (∀ j, j < d → w2.2.1 42 j = w1.2.1 42 j) ∧ ((z.1 = 0 ∧ ∀ c, P * n ^ (e + 1) ≤ c → c < (P + 1) * n ^ (e + 1) → Hd w goal (VR G sv0 who n m c) = false) ∨ (z.1 = 1 ∧ ∃ c, P * n ^ (e + 1) ≤ c ∧ c < (P + 1) * n ^ (e + 1) ∧ Hd w goal (VR G sv0 who n m c) = true ∧ (∀ c', P * n ^ (e + 1) ≤ c' → c' < c → Hd w goal (VR G sv0 who n m c') = false) ∧ ∀ j, j < m → w2.2.1 42 j = nI (who (c / n ^ (m - 1 - j) % n)))))
      8 (by decide) ⟨0, w1, by decide, rfl, rfl, sP_refl w1, fun _ _ => rfl, fun c h1 h2 => by
        have h2 : c < (P * n + 0) * n ^ e := h2
        rw [Nat.add_zero, Nat.mul_assoc, ← Nat.pow_succ'] at h2
        exact absurd (Nat.lt_of_lt_of_le h2 h1) (Nat.lt_irrefl _)⟩ ?_ ?_
    · obtain ⟨z, q1, w2, q2, q3, q4, q5⟩ := lem
      exact ⟨z.1, w2, by rw [← q2]; exact q1, q3, q4, q5⟩
    · rintro q s10 ⟨k, w2, hk8, rfl, rfl, f2, r2, hno⟩
      dsimp only
      rcases Nat.lt_or_ge k 8 with hk | hk
      · have e2 : env w w2 := sP_trans s1 (frO_env f2)
        have ht2 : ∀ i, i < 6 → w2.1 (45 + d) i = sv i := fun i hi => by
          rw [f2.1 (45 + d) i, ht i hi]
          unfold gPI hPI
          rw [(by decide : ∀ d, d < 5 → ∀ i, i < 6 → fPI (45 + d) i = true) d (by omega) i hi, decide_eq_false (by omega), beq_eq_false_iff_ne.mpr (by omega)]
          rfl
        have hnd : d + 1 + e = m := by omega
        rw [if_neg (show ¬ (8 : Int32) ≤ nI k from nI_ge (a := k) (b := 8) hk (by decide))]
        have pass : p k = false → ∀ w3, frO d w1 w3 → (∀ j, j < d → w3.2.1 42 j = w1.2.1 42 j) → ∃ s' k', some (Sum.inr (nI (k + 1), mk b w3)) = some (Sum.inr (α := (Int32 × HP) ⊕ HP) s') ∧ k' < 8 - k ∧ ∃ k w2, k ≤ 8 ∧ k' = 8 - k ∧ s' = (nI k, mk b w2) ∧ frO d w1 w2 ∧ (∀ j, j < d → w2.2.1 42 j = w1.2.1 42 j) ∧ ∀ c, P * n ^ (e + 1) ≤ c → c < (P * n + fb_ct p k) * n ^ e → Hd w goal (VR G sv0 who n m c) = false := by
          intro hpk w3 f3 r3
          have e1 : fb_ct p (k + 1) = fb_ct p k := by rw [fb_ct_succ, hpk]; rfl
          exact ⟨_, 8 - (k + 1), rfl, by omega, k + 1, w3, by omega, rfl, rfl, f3, r3, by rw [e1]; exact hno⟩
        have hpk := hp k hk
        by_cases hkg : k = goal
        · right
          rw [if_pos (by rw [hkg]), vl_eq, nI_1]
          rw [decide_eq_true hkg] at hpk
          exact pass (by rw [hpk]; simp) w2 f2 r2
        · rw [if_neg (fun z => hkg (nI_inj (by omega) (by omega) z)), gR_5_34_9, Option.bind_some, rc_0_5, book_mk (Or.inl rfl) hk, Option.bind_some, show w2.1 5 1 = w.1 77 5 from (e2.1 5 1 rfl).trans h.int.1]
          rw [decide_eq_false hkg] at hpk
          cases hb : bt (w.1 77 5) k with
          | false =>
            right
            rw [if_pos (by decide), vl_eq, nI_1]
            exact pass (by rw [hpk, hb]; rfl) w2 f2 r2
          | true =>
            rw [if_neg (by decide), rc_5_34]
            rcases isGr_mk (b := b) hG e2 hsv (d := d) (by omega) hk ht2 with ⟨z1, w3, z2, z3⟩ | ⟨z, w3, z1, z2, z3, z4, z5⟩
            · right
              rw [z2, Option.bind_some, if_pos rfl, vl_eq, nI_1]
              have f3 : frO d w1 w3 := sP_trans f2 (sP_mono z3 (fun j i q => hPI_f d j i (gPI_h d j i q)) gPA_f (fun _ q => q))
              have r3 : ∀ j, j < d → w3.2.1 42 j = w1.2.1 42 j := fun j hj => by rw [z3.2.1 42 rfl]; exact r2 j hj
              cases hpk2 : p k with
              | false => exact pass hpk2 w3 f3 r3
              | true =>
                have e1 : fb_ct p (k + 1) = fb_ct p k + 1 := by rw [fb_ct_succ, hpk2]; rfl
                have hrk : fb_ct p k < n := by
                  have e2 := fb_ct_mono p (show k + 1 ≤ 8 by omega)
                  omega
                obtain ⟨g1, g2⟩ := dgt (P := P) hrk
                have hVs : VR G sv0 who n (d + 1) (P * n + fb_ct p k) = none := by
                  show (VR G sv0 who n d ((P * n + fb_ct p k) / n)).bind (fun z => (stG G z.2 (who ((P * n + fb_ct p k) % n))).map (fun y => (z.1 + y.1, y.2))) = _
                  rw [g1, g2, hwho.1 k hk hpk2, hV, Option.bind_some, z1]
                  rfl
                refine ⟨_, 8 - (k + 1), rfl, by omega, k + 1, w3, by omega, rfl, rfl, f3, r3, ?_⟩
                rw [e1, ← Nat.add_assoc]
                refine blk_skip hno (fun c h1 h2 => ?_)
                have := V_none (G := G) (sv0 := sv0) (who := who) (n := n) (d + 1) e c (by rw [in_blk h1 h2]; exact hVs)
                rw [hnd] at this
                rw [this]
                rfl
            · have hks := (stG_ok hG hsv hk z1).2.2.2.2.2.2.1
              have hs0 : bt (sv0 4) k = false := by
                cases q : bt (sv0 4) k
                · rfl
                · rw [hmono k hk q] at hks
                  cases hks
              have hpk2 : p k = true := by rw [hpk, hb, hs0]; rfl
              have e1 : fb_ct p (k + 1) = fb_ct p k + 1 := by rw [fb_ct_succ, hpk2]; rfl
              have hrk : fb_ct p k < n := by
                have e2 := fb_ct_mono p (show k + 1 ≤ 8 by omega)
                omega
              obtain ⟨g1, g2⟩ := dgt (P := P) hrk
              have hwk := hwho.1 k hk hpk2
              have hVs : VR G sv0 who n (d + 1) (P * n + fb_ct p k) = some (s + z.1, z.2) := by
                show (VR G sv0 who n d ((P * n + fb_ct p k) / n)).bind (fun z => (stG G z.2 (who ((P * n + fb_ct p k) % n))).map (fun y => (z.1 + y.1, y.2))) = _
                rw [g1, g2, hwk, hV, Option.bind_some, z1]
                rfl
              obtain ⟨u1, _, _, _, u5, _, _, _⟩ := stG_ok hG hsv hk z1
              have f342 : w3.2.1 42 = w2.2.1 42 := z3.2.1 42 rfl
              have f3 : frO d w1 w3 := sP_trans f2 (sP_mono z3 (gPI_h d) gPA_f (fun _ q => q))
              have f4 : frO d w3 (uA w3 42 (upd (w3.2.1 42) d (nI k))) := sP_uA _ _ rfl
              have f14 := sP_trans f3 f4
              have hlow : ∀ j, j < d → upd (w3.2.1 42) d (nI k) j = w1.2.1 42 j := fun j hj => by rw [pk_un (by omega), f342]; exact r2 j hj
              rw [z2, Option.bind_some, if_neg (show ¬ (1 : Int32) = 0 by decide), gR_5_34_7, Option.bind_some, wrI_mk (j := 42) (n := 5) (by decide +kernel) b _ (by omega), Option.bind_some, rc_5_34, nI_1]
              have lem2 := ih (d + 1) (P * n + fb_ct p k) N (uA w3 42 (upd (w3.2.1 42) d (nI k))) (s + z.1) z.2 (by omega) (by omega) (sP_trans s1 (frO_env f14)) hVs u1 (fun i hi q => u5 i (hmono i hi q) (by omega)) z5 (fun j hj => ?_)
              · obtain ⟨r, w5, t1, t2, t3, t4⟩ := lem2
                have f5 : frO d w1 w5 := sP_trans f14 (sP_mono t2 (fun j i q => gPI_s d j i q) (fun _ q => q) (fun _ q => q))
                have r5 : ∀ j, j < d → w5.2.1 42 j = w1.2.1 42 j := fun j hj => by
                  rw [t3 j (by omega)]
                  show upd (w3.2.1 42) d (nI k) j = _
                  exact hlow j hj
                rw [t1, Option.bind_some]
                dsimp only
                have eP : P * n ^ (e + 1) ≤ (P * n + fb_ct p k) * n ^ e := by
                  rw [Nat.pow_succ', ← Nat.mul_assoc]
                  exact Nat.mul_le_mul_right _ (Nat.le_add_right _ _)
                have eQ : (P * n + fb_ct p k + 1) * n ^ e ≤ (P + 1) * n ^ (e + 1) := by
                  rw [Nat.pow_succ', ← Nat.mul_assoc]
                  refine Nat.mul_le_mul_right _ ?_
                  rw [Nat.add_mul, Nat.one_mul]
                  omega
                rcases t4 with ⟨rfl, t4⟩ | ⟨rfl, c, c1, c2, c3, c4, c5⟩
                · right
                  rw [if_pos rfl, vl_eq, nI_1]
                  refine ⟨_, 8 - (k + 1), rfl, by omega, k + 1, w5, by omega, rfl, rfl, f5, r5, ?_⟩
                  rw [e1, ← Nat.add_assoc]
                  refine blk_skip hno (fun c h1 h2 => t4 c h1 (by rw [Nat.add_mul, Nat.one_mul]; exact h2))
                · left
                  rw [if_neg (by decide)]
                  refine ⟨_, rfl, w5, f5, r5, Or.inr ⟨rfl, c, Nat.le_trans eP c1, Nat.lt_of_lt_of_le c2 eQ, c3, fun c' h1 h2 => ?_, c5⟩⟩
                  rcases Nat.lt_or_ge c' ((P * n + fb_ct p k) * n ^ e) with q | q
                  · exact hno c' h1 q
                  · exact c4 c' q h2
              · show upd (w3.2.1 42) d (nI k) j = _
                rcases Nat.lt_or_ge j d with hjd | hjd
                · rw [hlow j hjd, hrow j hjd]
                  have : d + 1 - 1 - j = (d - 1 - j) + 1 := by omega
                  rw [this, Nat.pow_succ', ← Nat.div_div_eq_div_mul, g1]
                · have : j = d := by omega
                  subst this
                  rw [pk_us, Nat.add_sub_cancel, Nat.sub_self, Nat.pow_zero, Nat.div_one, g2, hwk]
      · left
        have : k = 8 := by omega
        subst this
        refine ⟨_, if_pos (Int32.le_refl _), w2, f2, r2, Or.inl ⟨rfl, ?_⟩⟩
        rw [hpn] at hno
        rw [Nat.add_mul P 1, Nat.one_mul]
        intro c h1 h2
        refine hno c h1 ?_
        rw [Nat.pow_succ', ← Nat.mul_assoc] at h2
        rw [Nat.add_mul]
        exact h2
    · rintro x ⟨w2, f2, r2, ⟨rfl, h1⟩ | ⟨rfl, h1⟩⟩
      · exact ⟨_, rfl, w2, rfl, f2, r2, Or.inl ⟨rfl, h1⟩⟩
      · exact ⟨_, rfl, w2, rfl, f2, r2, Or.inr ⟨rfl, h1⟩⟩
end
