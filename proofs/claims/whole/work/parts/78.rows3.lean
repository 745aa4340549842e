/-! the class's search for the best row -/
def BS (w1 : WD) (who : Nat → Nat) (n : Nat) (o : Option (Nat × Nat)) : Prop := match o with
  | none => w1.1 34 6 = 1000000000
  | some y => w1.1 34 6 = nI y.1 ∧ y.1 < 10000 ∧ ∀ j, j < n → w1.2.1 43 j = nI (who (y.2 / n ^ (n - 1 - j) % n))
theorem BS_of {w1 w2 : WD} {who : Nat → Nat} {n : Nat} {o : Option (Nat × Nat)} (h : BS w1 who n o) (h1 : w2.1 34 6 = w1.1 34 6) (h2 : w2.2.1 43 = w1.2.1 43) : BS w2 who n o := by
  cases o with
  | none => exact h1.trans h
  | some y => exact ⟨h1.trans h.1, h.2.1, fun j hj => by rw [h2]; exact h.2.2 j hj⟩
theorem clr_bit {L k : Nat} (hL : L < 256) (hk : k < 8) : nI L &&& (((1 : Int32) <<< (nI k &&& 31)) ^^^ (-1 : Int32)) = nI (mO (fun i => L.testBit i && !decide (i = k)) 8) := by
  refine b_ext (fun i hi => ?_)
  rw [b_and, bt_not _ hi, bt_pow k (by omega) i hi, bt_nI _ hi, bt_nI _ hi, mO_bit]
  by_cases h8 : i < 8
  · rw [decide_eq_true h8]
    cases L.testBit i <;> rfl
  · have e : L.testBit i = false := Nat.testBit_lt_two_pow (Nat.lt_of_lt_of_le hL (Nat.pow_le_pow_right (n := 2) (i := 8) (by decide) (by omega)))
    rw [e, decide_eq_false h8]
    rfl
section
variable {b : Nat} {w : WD} {G : TG} {sv0 : SV} {who : Nat → Nat} {n : Nat} {p : Nat → Bool}
theorem dgt {P r n : Nat} (hr : r < n) : (P * n + r) / n = P ∧ (P * n + r) % n = r := by
  have hn : 0 < n := by omega
  constructor
  · rw [Nat.mul_comm, Nat.mul_add_div hn, Nat.div_eq_of_lt hr, Nat.add_zero]
  · rw [Nat.mul_comm, Nat.mul_add_mod, Nat.mod_eq_of_lt hr]
theorem in_blk {c c0 m : Nat} (h1 : c0 * m ≤ c) (h2 : c < c0 * m + m) : c / m = c0 := by
  have hm : 0 < m := by omega
  obtain ⟨r, rfl⟩ : ∃ r, c = c0 * m + r := ⟨c - c0 * m, by omega⟩
  exact (dgt (by omega)).1
theorem ord_mk (hG : Gok b w G) (hv : okSv sv0) (hn5 : n ≤ 5) (hpn : fb_ct p 8 = n) (hwho : whoOk p who) : ∀ (e d P N : Nat) (w1 : WD) (L s : Nat) (sv : SV), d + e = n → 0 < n → e < N → env w w1 → VR G sv0 who n d P = some (s, sv) → (∀ i, i < 6 → w1.1 (45 + d) i = sv i) → (∀ j, j < d → w1.2.1 42 j = nI (who (P / n ^ (d - 1 - j) % n))) → L < 256 → (∀ k, k < 8 → L.testBit k = (p k && al (fun j => !decide (who (P / n ^ j % n) = k)) d)) → fb_ct (fun k => L.testBit k) 8 + d = n → BS w1 who n (bst (VR G sv0 who n n) (P * n ^ e)) → (∀ y, bst (VR G sv0 who n n) (P * n ^ e) = some y → s < y.1) → ∃ w2, FGX5_orderOn N (mk b w1) (b + 34) (nI L) (nI d) (nI s) = some (mk b w2) ∧ frO d w1 w2 ∧ (∀ j, j < d → w2.2.1 42 j = w1.2.1 42 j) ∧ BS w2 who n (bst (VR G sv0 who n n) ((P + 1) * n ^ e)) := by
  have hw8 : ∀ i, i < n → who i < 8 := fun i hi => (hwho.2 i (by omega)).1
  intro e
  induction e with
  | zero =>
    intro d P N w1 L s sv hd hn hN s1 hV ht hrow hL hbits hcnt hB hlt
    obtain ⟨N, rfl⟩ : ∃ m, N = m + 1 := ⟨N - 1, by omega⟩
    have hdn : d = n := by omega
    subst hdn
    have hL0 : L = 0 := by
      have h0 := fb_ct_zero.mp (show fb_ct (fun k => L.testBit k) 8 = 0 by omega)
      refine Nat.eq_of_testBit_eq (fun i => ?_)
      rw [Nat.zero_testBit]
      by_cases h8 : i < 8
      · exact h0 i h8
      · exact Nat.testBit_lt_two_pow (Nat.lt_of_lt_of_le hL (Nat.pow_le_pow_right (n := 2) (i := 8) (by decide) (by omega)))
    subst hL0
    obtain ⟨_, hs, _, _⟩ := V_ok hG hv hn hw8 d P (s, sv) hV
    have hs : s ≤ 999 * d := hs
    rw [Nat.pow_zero, Nat.mul_one] at hB hlt
    refine ⟨uA (uI w1 34 6 (nI s)) 43 (va_cpy (w1.2.1 42) (w1.2.1 43) 0 0 5), ?_, sP_trans (sP_uI (j := 34) (k := 6) _ _ (by unfold gPI; exact Bool.and_false _)) (sP_uA _ _ rfl), fun _ _ => rfl, ?_⟩
    · show FBX5_orderOn _ _ _ _ _ _ = _
      unfold FBX5_orderOn
      rw [if_pos (by decide)]
      refine bS (sI_5_34_6 b _ _) ?_
      refine bS (gR_5_34_7 b _) ?_
      refine bS (gR_5_34_8 b _) ?_
      exact bS (cpI_mk (s := 42) (d := 43) (by decide +kernel) (by decide +kernel) b _) rfl
    · rw [Nat.pow_zero, Nat.mul_one]
      have hrow' : ∀ j, j < d → va_cpy (w1.2.1 42) (w1.2.1 43) 0 0 5 j = nI (who (P / d ^ (d - 1 - j) % d)) := fun j hj => by
        rw [pk_cpy_in (Nat.zero_le j) (by omega), Nat.zero_add, Nat.sub_zero]
        exact hrow j hj
      show BS _ who d (match VR G sv0 who d d P with
        | none => bst (VR G sv0 who d d) P
        | some z => match bst (VR G sv0 who d d) P with
          | none => some (z.1, P)
          | some y => if z.1 < y.1 then some (z.1, P) else some y)
      rw [hV]
      dsimp only
      cases q : bst (VR G sv0 who d d) P with
      | none => exact ⟨rfl, by omega, hrow'⟩
      | some y =>
        dsimp only
        rw [if_pos (hlt y q)]
        exact ⟨rfl, by omega, hrow'⟩
  | succ e ih =>
    intro d P N w1 L s sv hd hn hN s1 hV ht hrow hL hbits hcnt hB hlt
    obtain ⟨N, rfl⟩ : ∃ m, N = m + 1 := ⟨N - 1, by omega⟩
    obtain ⟨hsv, hs, _, hspent⟩ := V_ok hG hv hn hw8 d P (s, sv) hV
    have hs : s ≤ 999 * d := hs
    have hsv : okSv sv := hsv
    have hL1 : ¬ nI L = 0 := by
      obtain ⟨k, hk, hb⟩ := fb_ct_pos.mp (show 0 < fb_ct (fun k => L.testBit k) 8 by omega)
      refine nI_ne0 ?_ (by omega)
      rcases Nat.eq_zero_or_pos L with q | q
      · rw [q] at hb
        have hb : (0 : Nat).testBit k = true := hb
        rw [Nat.zero_testBit] at hb
        cases hb
      · exact q
    show ∃ w2, FBX5_orderOn (FGX5_orderOn N) (mk b w1) (b + 34) (nI L) (nI d) (nI s) = some (mk b w2) ∧ _
    unfold FBX5_orderOn
    rw [if_neg hL1]
    have key : ∀ k, k < 8 → fb_ct p k ≤ n := fun k hk => by rw [← hpn]; exact fb_ct_mono p (by omega)
    have lem := lpb_inv (body := fun (s5 : Int32 × HP) => if (8 : Int32) ≤ s5.1 then some (Sum.inl s5.2) else if (5 : Int32) ≤ nI d then some (Sum.inl s5.2) else if ((nI L >>> (s5.1 &&& 31)) &&& (1 : Int32)) = 0 then vl (s5.1 + (1 : Int32)) (fun x7 => some (Sum.inr (x7, s5.2))) else (rc [5] s5.2 (b + 34) (FX5_isGranted s5.2 (b + 34) (nI d) s5.1)).bind (fun w8 => if w8.1 = 0 then vl (s5.1 + (1 : Int32)) (fun x9 => some (Sum.inr (x9, w8.2))) else (gI [5] 1 w8.2 (b + 34)).bind (fun v10 => (gI [5] 6 w8.2 (b + 34)).bind (fun v11 => if v11 ≤ (nI s + v10) then vl (s5.1 + (1 : Int32)) (fun x12 => some (Sum.inr (x12, w8.2))) else (gR [5] 7 w8.2 (b + 34)).bind (fun v13 => (wrI w8.2 v13 (nI d) s5.1).bind (fun hp14 => (gI [5] 1 hp14 (b + 34)).bind (fun v15 => (rc [5] hp14 (b + 34) (FGX5_orderOn N hp14 (b + 34) (nI L &&& (((1 : Int32) <<< (s5.1 &&& 31)) ^^^ (-1 : Int32))) (nI d + (1 : Int32)) (nI s + v15))).bind (fun w16 => vl (s5.1 + (1 : Int32)) (fun x17 => some (Sum.inr (x17, w16)))))))))))
      (kf := fun (y6 : HP) => some y6) (N := FU) (s0 := ((0 : Int32), mk b w1))
      (fun k s5 => ∃ w2, s5 = (nI k, mk b w2) ∧ frO d w1 w2 ∧ (∀ j, j < d → w2.2.1 42 j = w1.2.1 42 j) ∧ BS w2 who n (bst (VR G sv0 who n n) ((P * n + fb_ct p k) * n ^ e)))
      (fun r => ∃ w2, r = mk b w2 ∧ frO d w1 w2 ∧ (∀ j, j < d → w2.2.1 42 j = w1.2.1 42 j) ∧ BS w2 who n (bst (VR G sv0 who n n) ((P + 1) * n ^ (e + 1))))
      8 (by decide) ⟨w1, rfl, sP_refl w1, fun _ _ => rfl, by
        show BS w1 who n (bst (VR G sv0 who n n) ((P * n + 0) * n ^ e))
        rw [Nat.add_zero, Nat.mul_assoc, ← Nat.pow_succ']
        exact hB⟩ (fun k hk s5 => ?_) (fun s5 => ?_)
    · obtain ⟨r, q1, w2, rfl, q2, q3, q4⟩ := lem
      exact ⟨w2, q1, q2, q3, q4⟩
    · rintro ⟨w2, rfl, f2, r2, B2⟩
      dsimp only
      have e2 : env w w2 := sP_trans s1 (frO_env f2)
      have ht2 : ∀ i, i < 6 → w2.1 (45 + d) i = sv i := fun i hi => by
        rw [f2.1 (45 + d) i, ht i hi]
        unfold gPI hPI
        rw [(by decide : ∀ d, d < 5 → ∀ i, i < 6 → fPI (45 + d) i = true) d (by omega) i hi, decide_eq_false (by omega), beq_eq_false_iff_ne.mpr (by omega)]
        rfl
      rw [if_neg (show ¬ (8 : Int32) ≤ nI k from nI_ge (a := k) (b := 8) hk (by decide)), if_neg (show ¬ (5 : Int32) ≤ nI d from nI_ge (a := d) (b := 5) (by omega) (by decide)), bit_at _ (by omega), bt_nI _ (by omega), hbits k hk]
      -- the block of codes below this prefix
      have skip : ∀ (hpk : p k = true), (∀ c, (P * n + fb_ct p k) * n ^ e ≤ c → c < (P * n + fb_ct p k) * n ^ e + n ^ e → VR G sv0 who n n c = none ∨ ∃ z y, VR G sv0 who n n c = some z ∧ bst (VR G sv0 who n n) ((P * n + fb_ct p k) * n ^ e) = some y ∧ y.1 ≤ z.1) → bst (VR G sv0 who n n) ((P * n + fb_ct p (k + 1)) * n ^ e) = bst (VR G sv0 who n n) ((P * n + fb_ct p k) * n ^ e) := by
        intro hpk hc
        have e1 : fb_ct p (k + 1) = fb_ct p k + 1 := by rw [fb_ct_succ, hpk]; rfl
        rw [e1, show (P * n + (fb_ct p k + 1)) * n ^ e = (P * n + fb_ct p k) * n ^ e + n ^ e by rw [← Nat.add_assoc, Nat.add_mul, Nat.one_mul]]
        exact bst_skip _ hc
      have hnd : d + 1 + e = n := by omega
      have vnone : VR G sv0 who n (d + 1) (P * n + fb_ct p k) = none → ∀ c, (P * n + fb_ct p k) * n ^ e ≤ c → c < (P * n + fb_ct p k) * n ^ e + n ^ e → VR G sv0 who n n c = none := by
        intro hno c h1 h2
        have := V_none (G := G) (sv0 := sv0) (who := who) (n := n) (d + 1) e c (by rw [in_blk h1 h2]; exact hno)
        rw [hnd] at this
        exact this
      cases hpk : p k with
      | false =>
        rw [Bool.false_and, if_pos (by decide), vl_eq, nI_1]
        refine ⟨_, rfl, w2, rfl, f2, r2, ?_⟩
        have e1 : fb_ct p (k + 1) = fb_ct p k := by rw [fb_ct_succ, hpk]; rfl
        rw [e1]
        exact B2
      | true =>
        have hrk : fb_ct p k < n := by
          have e1 : fb_ct p (k + 1) = fb_ct p k + 1 := by rw [fb_ct_succ, hpk]; rfl
          have e2 := fb_ct_mono p (show k + 1 ≤ 8 by omega)
          omega
        obtain ⟨g1, g2⟩ := dgt (P := P) hrk
        have hwk : who (fb_ct p k) = k := hwho.1 k hk hpk
        have hVs : VR G sv0 who n (d + 1) (P * n + fb_ct p k) = (stG G sv k).map (fun y => (s + y.1, y.2)) := by
          show (VR G sv0 who n d ((P * n + fb_ct p k) / n)).bind (fun z => (stG G z.2 (who ((P * n + fb_ct p k) % n))).map (fun y => (z.1 + y.1, y.2))) = _
          rw [g1, g2, hwk, hV]
          rfl
        rw [Bool.true_and]
        cases hal : al (fun j => !decide (who (P / n ^ j % n) = k)) d with
        | false =>
          rw [if_pos (by decide), vl_eq, nI_1]
          refine ⟨_, rfl, w2, rfl, f2, r2, ?_⟩
          have hex : ∃ j, j < d ∧ who (P / n ^ j % n) = k := by
            refine Classical.byContradiction fun hno => ?_
            have : al (fun j => !decide (who (P / n ^ j % n) = k)) d = true := (al_iff _ _).mpr (fun j hj => by
              show (!decide (who (P / n ^ j % n) = k)) = true
              rw [decide_eq_false (fun q => hno ⟨j, hj, q⟩)]
              rfl)
            rw [hal] at this
            cases this
          obtain ⟨j, hj, ej⟩ := hex
          rw [skip hpk (fun c h1 h2 => Or.inl (vnone (V_twice hG hv hn hw8 hj (by rw [g1, g2, hwk]; exact ej)) c h1 h2))]
          exact B2
        | true =>
          rw [if_neg (by decide), rc_5_34]
          rcases isGr_mk (b := b) hG e2 hsv (d := d) (by omega) hk ht2 with ⟨z1, w3, z2, z3⟩ | ⟨z, w3, z1, z2, z3, z4, z5⟩
          · rw [z2, Option.bind_some, if_pos rfl, vl_eq, nI_1]
            refine ⟨_, rfl, w3, rfl, sP_trans f2 (sP_mono z3 (fun j i q => hPI_f d j i (gPI_h d j i q)) gPA_f (fun _ q => q)), fun j hj => by rw [z3.2.1 42 rfl]; exact r2 j hj, ?_⟩
            rw [skip hpk (fun c h1 h2 => Or.inl (vnone (by rw [hVs, z1]; rfl) c h1 h2))]
            exact BS_of B2 (z3.1 34 6 rfl) (z3.2.1 43 rfl)
          · rw [z2, Option.bind_some, if_neg (show ¬ (1 : Int32) = 0 by decide), gI_5_34_1, Option.bind_some, gI_5_34_6, Option.bind_some, z4]
            have hzk := (stG_ok hG hsv hk z1).2.1
            have f36 : w3.1 34 6 = w2.1 34 6 := z3.1 34 6 (by unfold hPI; rw [decide_eq_false (by omega)]; rfl)
            have f343 : w3.2.1 43 = w2.2.1 43 := z3.2.1 43 rfl
            have f342 : w3.2.1 42 = w2.2.1 42 := z3.2.1 42 rfl
            have B3 : BS w3 who n (bst (VR G sv0 who n n) ((P * n + fb_ct p k) * n ^ e)) := BS_of B2 f36 f343
            have f3 : frO d w1 w3 := sP_trans f2 (sP_mono z3 (gPI_h d) gPA_f (fun _ q => q))
            rw [z1] at hVs
            have hVs : VR G sv0 who n (d + 1) (P * n + fb_ct p k) = some (s + z.1, z.2) := hVs
            rw [nI_add]
            by_cases hpr : w3.1 34 6 ≤ nI (s + z.1)
            · rw [if_pos hpr, vl_eq, nI_1]
              refine ⟨_, rfl, w3, rfl, f3, fun j hj => by rw [f342]; exact r2 j hj, ?_⟩
              rw [skip hpk (fun c h1 h2 => ?_)]
              · exact B3
              · cases hc : VR G sv0 who n n c with
                | none => exact Or.inl rfl
                | some u =>
                  right
                  have hm := V_mono (G := G) (sv0 := sv0) (who := who) (n := n) (d + 1) e c (s + z.1, z.2) u (by rw [in_blk h1 h2]; exact hVs) (by rw [hnd]; exact hc)
                  cases hq : bst (VR G sv0 who n n) ((P * n + fb_ct p k) * n ^ e) with
                  | none =>
                    rw [hq] at B3
                    have B3 : w3.1 34 6 = 1000000000 := B3
                    rw [B3] at hpr
                    exact absurd hpr (show ¬ (nI 1000000000 : Int32) ≤ nI (s + z.1) from nI_ge (by omega) (by decide))
                  | some y =>
                    rw [hq] at B3
                    rw [B3.1, nI_leI (by have := B3.2.1; omega) (by omega)] at hpr
                    exact ⟨u, y, rfl, rfl, Nat.le_trans hpr hm⟩
            · rw [if_neg hpr, gR_5_34_7, Option.bind_some, wrI_mk (j := 42) (n := 5) (by decide +kernel) b _ (by omega), Option.bind_some, gI_5_34_1, Option.bind_some, rc_5_34, clr_bit hL hk, nI_1]
              have e34 : (uA w3 42 (upd (w3.2.1 42) d (nI k))).1 34 1 = nI z.1 := z4
              rw [e34, nI_add]
              have f4 : frO d w3 (uA w3 42 (upd (w3.2.1 42) d (nI k))) := sP_uA _ _ rfl
              have f14 := sP_trans f3 f4
              have hlow : ∀ j, j < d → upd (w3.2.1 42) d (nI k) j = w1.2.1 42 j := fun j hj => by rw [pk_un (by omega), f342]; exact r2 j hj
              have lem2 := ih (d + 1) (P * n + fb_ct p k) N (uA w3 42 (upd (w3.2.1 42) d (nI k))) (mO (fun i => L.testBit i && !decide (i = k)) 8) (s + z.1) z.2 (by omega) hn (by omega) (sP_trans s1 (frO_env f14)) hVs z5 (fun j hj => ?_) (mO_lt _ 8) (fun i hi => ?_) ?_ (BS_of B3 rfl rfl) (fun y hy => ?_)
              · obtain ⟨w5, t1, t2, t3, t4⟩ := lem2
                rw [t1, Option.bind_some, vl_eq, nI_1]
                refine ⟨_, rfl, w5, rfl, sP_trans f14 (sP_mono t2 (fun j i q => gPI_s d j i q) (fun _ q => q) (fun _ q => q)), fun j hj => ?_, ?_⟩
                · rw [t3 j (by omega)]
                  show upd (w3.2.1 42) d (nI k) j = _
                  exact hlow j hj
                · have e1 : fb_ct p (k + 1) = fb_ct p k + 1 := by rw [fb_ct_succ, hpk]; rfl
                  rw [e1, ← Nat.add_assoc]
                  exact t4
              · show upd (w3.2.1 42) d (nI k) j = _
                rcases Nat.lt_or_ge j d with hjd | hjd
                · rw [hlow j hjd, hrow j hjd]
                  have : d + 1 - 1 - j = (d - 1 - j) + 1 := by omega
                  rw [this, Nat.pow_succ', ← Nat.div_div_eq_div_mul, g1]
                · have : j = d := by omega
                  subst this
                  rw [pk_us, Nat.add_sub_cancel, Nat.sub_self, Nat.pow_zero, Nat.div_one, g2, hwk]
              · rw [mO_bit, decide_eq_true hi, Bool.true_and, hbits i hi, Bool.and_assoc]
                congr 1
                rw [Bool.eq_iff_iff, Bool.and_eq_true, al_iff, al_iff]
                constructor
                · rintro ⟨a1, a2⟩ j hj
                  cases j with
                  | zero =>
                    show (!decide (who ((P * n + fb_ct p k) / n ^ 0 % n) = i)) = true
                    rw [Nat.pow_zero, Nat.div_one, g2, hwk]
                    rw [Bool.not_eq_true', decide_eq_false_iff_not] at a2 ⊢
                    exact fun q => a2 q.symm
                  | succ j =>
                    have := a1 j (by omega)
                    show (!decide (who ((P * n + fb_ct p k) / n ^ (j + 1) % n) = i)) = true
                    rw [Nat.pow_succ', ← Nat.div_div_eq_div_mul, g1]
                    exact this
                · intro a
                  refine ⟨fun j hj => ?_, ?_⟩
                  · have := a (j + 1) (by omega)
                    have this : (!decide (who ((P * n + fb_ct p k) / n ^ (j + 1) % n) = i)) = true := this
                    rw [Nat.pow_succ', ← Nat.div_div_eq_div_mul, g1] at this
                    exact this
                  · have := a 0 (by omega)
                    have this : (!decide (who ((P * n + fb_ct p k) / n ^ 0 % n) = i)) = true := this
                    rw [Nat.pow_zero, Nat.div_one, g2, hwk] at this
                    rw [Bool.not_eq_true', decide_eq_false_iff_not] at this ⊢
                    exact fun q => this q.symm
              · have hLk : L.testBit k = true := by rw [hbits k hk, hpk, hal]; rfl
                have a1 := fb_ct_upd (fun i => L.testBit i) false hk
                have a2 : fb_ct (fun i => (mO (fun i => L.testBit i && !decide (i = k)) 8).testBit i) 8 = fb_ct (fun i => if i = k then false else L.testBit i) 8 := fb_ct_cong (fun i hi => by
                  show (mO (fun i => L.testBit i && !decide (i = k)) 8).testBit i = _
                  rw [mO_bit, decide_eq_true hi]
                  by_cases q : i = k
                  · rw [if_pos q, decide_eq_true q]; cases L.testBit i <;> rfl
                  · rw [if_neg q, decide_eq_false q]; cases L.testBit i <;> rfl)
                have a1 : fb_ct (fun i => if i = k then false else L.testBit i) 8 + (if L.testBit k = true then 1 else 0) = fb_ct (fun k => L.testBit k) 8 + 0 := a1
                rw [hLk, if_pos rfl] at a1
                omega
              · have hpr : ¬ w3.1 34 6 ≤ nI (s + z.1) := hpr
                rw [hy] at B3
                rw [B3.1, nI_leI (by have := B3.2.1; omega) (by omega)] at hpr
                omega
    · rintro ⟨w2, rfl, f2, r2, B2⟩
      refine ⟨_, if_pos (Int32.le_refl _), _, rfl, w2, rfl, f2, r2, ?_⟩
      rw [hpn] at B2
      rw [Nat.pow_succ', ← Nat.mul_assoc, Nat.add_mul, Nat.one_mul]
      exact B2
end
