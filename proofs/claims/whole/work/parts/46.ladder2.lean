/-! call: ladder, on -/
def gl (w : WD) (k s : Nat) : Bool := WF w s && WT w k s
/-- what a ladder answers -/
def ladR (w : WD) (k st i : Nat) (r : Int32) : Prop := (∃ n, rg (WF w) (gl w k) n st = true ∧ (∀ m, m < n → rg (WF w) (gl w k) m st = false) ∧ r = if i = 0 then nI n else if n = 0 then -3 else nI (fa_first (fun j => rg (WF w) (gl w k) (n - 1) (st ^^^ 2 ^ j)) 10)) ∨ ((∀ n, rg (WF w) (gl w k) n st = false) ∧ r = -2)
theorem ladR_one {w : WD} {k st i : Nat} {r r' : Int32} (h : ladR w k st i r) (h' : ladR w k st i r') : r = r' := by
  rcases h with ⟨n, h1, h2, h3⟩ | ⟨h1, h2⟩
  · rcases h' with ⟨n', g1, g2, g3⟩ | ⟨g1, g2⟩
    · have : n = n' := by
        rcases Nat.lt_trichotomy n n' with z | z | z
        · rw [g2 n z] at h1; cases h1
        · exact z
        · rw [h2 n' z] at g1; cases g1
      subst this
      rw [h3, g3]
    · rw [g1 n] at h1; cases h1
  · rcases h' with ⟨n', g1, g2, g3⟩ | ⟨g1, g2⟩
    · rw [h1 n'] at g1; cases g1
    · rw [h2, g2]
theorem lpb_ex {S X Z : Type} {body : S → Option (X ⊕ S)} {kf : X → Option Z} {N : Nat} {s0 : S} (I : Nat → S → Prop) (R : X → Prop) (Post : Z → Prop) (n : Nat) (hN : n < N) (h0 : I n s0) (hstep : ∀ k s, I k s → (∃ x, body s = some (.inl x) ∧ R x) ∨ ∃ s' k', body s = some (.inr s') ∧ k' < k ∧ I k' s') (hk : ∀ x, R x → ∃ r, kf x = some r ∧ Post r) : ∃ r, (lp body N s0).bind kf = some r ∧ Post r := by
  obtain ⟨x, e1, e2⟩ := lp_ex I R hstep n s0 h0 N hN
  obtain ⟨r, e3, e4⟩ := hk x e2
  exact ⟨r, by rw [e1]; exact e3, e4⟩
section
variable {RL : WD → Prop} {b : Nat} {w : WD}
theorem lad_c (hRL : LOK RL) (h : Rel RL w) {k : Nat} (hk : k < 8) (hb : bt (w.1 77 5) k = true) {i : Nat} (hi : i < 2) {st : Nat} (hst : st < 1024) (est : w.1 68 0 = nI st) : ∃ r w1, FX11_ladder (mk b w) (b + 0) (nI k) (nI i) = some (r, mk b w1) ∧ sim w w1 ∧ (if WF w st then ladR w k st i r else r = -2) := by
  unfold FX11_ladder
  simp only [Option.bind_some, vl_eq, jn_eq, rc_11_0, gR_11_0_0, gR_11_0_1, gR_11_0_2, gR_11_0_3, gR_11_0_4, gR_11_0_5, gR_11_0_6, gR_11_0_7, gR_11_0_8, gR_11_0_9, gR_11_0_10, gR_11_0_11, gR_11_0_12, gR_11_0_13, gI_11_0_14, sI_11_0_14, rc_8_1, gR_8_1_0, gI_8_1_1, sI_8_1_1, rc_1_3, gR_1_3_0, gI_1_3_1, sI_1_3_1, gI_1_3_2, sI_1_3_2, gI_1_3_3, sI_1_3_3, gR_1_3_4, gI_1_3_5, sI_1_3_5, rc_1_2_3, gR_1_2_3_0, gI_1_2_3_1, sI_1_2_3_1, gI_1_2_3_2, sI_1_2_3_2, gI_1_2_3_3, sI_1_2_3_3, gR_1_2_3_4, gI_1_2_3_5, sI_1_2_3_5, rc_0_5, gR_0_5_0, gI_0_5_1, sI_0_5_1, rc_0_15, gR_0_15_0, gI_0_15_1, sI_0_15_1, rc_3_25, gR_3_25_0, gR_3_25_1, gR_3_25_2, gR_3_25_3, rc_5_34, gI_5_34_1, sI_5_34_1, gI_5_34_2, sI_5_34_2, gI_5_34_3, sI_5_34_3, gI_5_34_4, sI_5_34_4, gI_5_34_5, sI_5_34_5, gI_5_34_6, sI_5_34_6, gR_5_34_7, gR_5_34_8, gR_5_34_9, gR_5_34_10, gR_5_34_11, gR_5_34_12, rc_10_51, gI_10_51_0, sI_10_51_0, gI_10_51_1, sI_10_51_1, gI_10_51_2, sI_10_51_2, gR_10_51_3, rc_9_64, gR_9_64_0, gR_9_64_1, gR_9_64_2, rc_6_68, gI_6_68_0, sI_6_68_0, gI_6_68_1, sI_6_68_1, gI_6_68_2, sI_6_68_2, gI_6_68_3, sI_6_68_3, gI_6_68_4, sI_6_68_4, gI_6_68_5, sI_6_68_5, rc_6_69, gI_6_69_0, sI_6_69_0, gI_6_69_1, sI_6_69_1, gI_6_69_2, sI_6_69_2, gI_6_69_3, sI_6_69_3, gI_6_69_4, sI_6_69_4, gI_6_69_5, sI_6_69_5]
  rw [wish_t h hk hb, Option.bind_some, if_neg n10, wh_y hi, est, thas_mk okF hst, h.tF hst, Option.bind_some, bite]
  cases gF : WF w st with
  | false => exact ⟨-2, w, rfl, sP_refl w, rfl⟩
  | true =>
    rw [if_pos rfl, rdT hk, Option.bind_some, thas_mk (okT k hk) hst, h.tT hk hst, Option.bind_some, bite]
    cases gT : WT w k st with
    | true =>
      rw [if_pos rfl]
      have g0 : rg (WF w) (gl w k) 0 st = true := by
        show (WF w st && WT w k st) = true
        rw [gF, gT]; rfl
      rcases (show i = 0 ∨ i = 1 by omega) with rfl | rfl
      · exact ⟨0, w, rfl, sP_refl w, Or.inl ⟨0, g0, fun m hm => absurd hm (Nat.not_lt_zero m), rfl⟩⟩
      · exact ⟨-3, w, rfl, sP_refl w, Or.inl ⟨0, g0, fun m hm => absurd hm (Nat.not_lt_zero m), rfl⟩⟩
    | false =>
      rw [if_neg (by decide)]
      have g0 : rg (WF w) (gl w k) 0 st = false := by
        show (WF w st && WT w k st) = false
        rw [gT, Bool.and_false]
      have main : ∃ z, ((lp (fun (s13 : Int32 × HP) => if (16 : Int32) ≤ s13.1 then some (Sum.inl s13.2) else (gR [11] 7 s13.2 (b + 0)).bind (fun v22 => (gR [11] 5 s13.2 (b + 0)).bind (fun v23 => (rdL s13.2 v23 s13.1).bind (fun v24 => (rdL s13.2 (b + (7 + k)) s13.1).bind (fun v25 => (wrL s13.2 v22 s13.1 (v24 &&& v25)).bind (fun hp26 => some (Sum.inr (s13.1 + (1 : Int32), hp26)))))))) FU ((0 : Int32), mk b w)).bind (fun (y14 : HP) => (lp (fun (s15 : Int32 × HP) => if (1024 : Int32) ≤ s15.1 then some (Sum.inl (Sum.inr s15.2)) else (gR [11] 12 s15.2 (b + 0)).bind (fun v17 => (gI [6] 0 s15.2 v17).bind (fun v18 => (rc [11] s15.2 (b + 0) (FX11_lowestFactInto s15.2 (b + 0) v18)).bind (fun v19 => if v19 < 0 then (rc [11] s15.2 (b + 0) (FX11_growByOneStep s15.2 (b + 0))).bind (fun w20 => if w20.1 = 0 then some (Sum.inl (Sum.inl ((-2 : Int32), w20.2))) else some (Sum.inr (s15.1 + (1 : Int32), w20.2))) else if nI i = 0 then some (Sum.inl (Sum.inl (s15.1, s15.2))) else some (Sum.inl (Sum.inl (v19, s15.2))))))) FU ((1 : Int32), y14)).bind (lk (P := Int32 × HP) (fun r => r) (fun (y16 : HP) => some ((-2 : Int32), y16))))) = some z ∧ ∃ w1, z.2 = mk b w1 ∧ sim w w1 ∧ ladR w k st i z.1 := by
        refine lpb_inv (fun v (s : Int32 × HP) => ∃ g, s = (nI v, mk b (uL w 32 g)) ∧ ∀ u, u < v → g u = w.2.2.1 30 u &&& w.2.2.1 (7 + k) u) (fun (z : Int32 × HP) => ∃ w1, z.2 = mk b w1 ∧ sim w w1 ∧ ladR w k st i z.1) 16 (by decide) ⟨w.2.2.1 32, by rw [uL_id]; rfl, fun u hu => absurd hu (Nat.not_lt_zero u)⟩ (fun v hv s hI => ?_) (fun s hI => ?_)
        · obtain ⟨g, rfl, hg⟩ := hI
          try dsimp only
          rw [if_neg (Lnle hv), gR_11_0_7, Option.bind_some, gR_11_0_5, Option.bind_some, rdL_mk okF b _ hv, Option.bind_some, uL_ne _ _ (by decide), rdL_mk (okT k hk) b _ hv, Option.bind_some, uL_ne _ _ (by omega), wrL_mk okCh b _ hv, Option.bind_some, uL_at, uL_uL, nI_1]
          refine ⟨_, rfl, vp_updL g v (w.2.2.1 30 v &&& w.2.2.1 (7 + k) v), rfl, fun u hu => ?_⟩
          unfold vp_updL
          by_cases q : u = v
          · rw [if_pos q, q]
          · rw [if_neg q]; exact hg u (by omega)
        · obtain ⟨g, rfl, hg⟩ := hI
          refine ⟨mk b (uL w 32 g), by rfl, ?_⟩
          have hg0 : ∀ s, s < 1024 → tb ((uL w 32 g).2.2.1 32) s = rg (WF w) (gl w k) 0 s := fun s hs => by
            rw [uL_at]
            unfold tb
            rw [hg _ (by omega), lb_and]
            show (tb (w.2.2.1 30) s && tb (w.2.2.1 (7 + k)) s) = (WF w s && WT w k s)
            rw [h.tF hs, h.tT hk hs]
          refine lpb_ex (fun m s => ∃ n w1, n ≤ 1023 ∧ m = 1024 - n ∧ s = (nI (1 + n), mk b w1) ∧ sim w w1 ∧ (∀ s, s < 1024 → tb (w1.2.2.1 32) s = rg (WF w) (gl w k) n s) ∧ rg (WF w) (gl w k) n st = false ∧ ∀ j, j < n → ∃ s, s < 1024 ∧ rg (WF w) (gl w k) (j + 1) s = true ∧ rg (WF w) (gl w k) j s = false) (fun x => match x with
            | .inl z => ∃ w1, z.2 = mk b w1 ∧ sim w w1 ∧ ladR w k st i z.1
            | .inr _ => False) (fun (z : Int32 × HP) => ∃ w1, z.2 = mk b w1 ∧ sim w w1 ∧ ladR w k st i z.1) 1024 (by decide) ⟨0, uL w 32 g, by decide, rfl, rfl, sP_uL w _ rfl, hg0, g0, fun j hj => absurd hj (Nat.not_lt_zero j)⟩ ?_ ?_
          · rintro m s ⟨n, w1, hn, rfl, rfl, hs1, ht, hf, hgrow⟩
            try dsimp only
            have hcount := rg_grow n hgrow
            have hn2 : n < 1023 ∨ n = 1023 := by omega
            have hle := fb_ct_le (rg (WF w) (gl w k) n) 1024
            have e68 : w1.1 68 0 = nI st := (hs1.1 68 0 rfl).trans est
            have hF1 : ∀ s, s < 1024 → tb (w1.2.2.1 30) s = WF w s := fun s hs => by rw [hs1.2.2.1 30 rfl]; exact h.tF hs
            have hne : 1 + n < 1024 := by
              rcases hn2 with z | z
              · omega
              · exfalso
                have c0 : fb_ct (rg (WF w) (gl w k) n) 1024 < 1024 := by
                  rcases Nat.lt_or_ge (fb_ct (rg (WF w) (gl w k) n) 1024) 1024 with y | y
                  · exact y
                  · have := (fb_ct_all (p := rg (WF w) (gl w k) n) (n := 1024)).mp (by omega) st hst
                    rw [this] at hf; cases hf
                have c1 : 1 ≤ fb_ct (rg (WF w) (gl w k) 0) 1024 := by
                  apply Classical.byContradiction
                  intro y
                  have z0 : fb_ct (rg (WF w) (gl w k) 0) 1024 = 0 := by omega
                  rw [fb_ct_zero] at z0
                  obtain ⟨s, hs, q1, q2⟩ := hgrow 0 (by omega)
                  rw [rg_s, z0 s hs, Bool.false_or, Bool.and_eq_true, ex_iff] at q1
                  obtain ⟨_, j, hj, q3⟩ := q1
                  rw [z0 _ (xr_lt hs hj)] at q3
                  cases q3
                omega
            rw [if_neg (Lnle hne), gR_11_0_12, Option.bind_some, gI_6_68_0, Option.bind_some, e68, rc_11_0, lowF_mk ht hst, Option.bind_some]
            cases hE : ex (fun j => rg (WF w) (gl w k) n (st ^^^ 2 ^ j)) 10 with
            | true =>
              left
              have hfi := (ex_first _ _).mpr hE
              rw [if_pos rfl, if_neg (nI_pos (by omega))]
              have hr : ladR w k st i (if nI i = 0 then nI (1 + n) else nI (fa_first (fun j => rg (WF w) (gl w k) n (st ^^^ 2 ^ j)) 10)) := by
                refine Or.inl ⟨n + 1, ?_, fun m hm => ?_, ?_⟩
                · rw [rg_s, gF, hE, hf]; rfl
                · cases z : rg (WF w) (gl w k) m st with
                  | false => rfl
                  | true => rw [rg_mono (show m ≤ n by omega) z] at hf; cases hf
                · rcases (show i = 0 ∨ i = 1 by omega) with rfl | rfl
                  · rw [if_pos (show nI 0 = 0 from rfl), if_pos rfl, Nat.add_comm]
                  · rw [if_neg (show ¬ nI 1 = 0 by decide), if_neg (by decide), if_neg (by omega), Nat.add_sub_cancel]
              rcases (show i = 0 ∨ i = 1 by omega) with rfl | rfl
              · exact ⟨_, rfl, w1, rfl, hs1, hr⟩
              · exact ⟨_, rfl, w1, rfl, hs1, hr⟩
            | false =>
              rw [if_neg (show ¬ false = true by decide), if_pos (show (-1 : Int32) < 0 by decide), rc_11_0]
              obtain ⟨w2, g1, g2, g3⟩ := grow_mk (b := b) hF1 ht
              have hst1 : rg (WF w) (gl w k) (n + 1) st = false := by rw [rg_s, hE, hf, Bool.and_false]; rfl
              rw [g1, Option.bind_some]
              cases hM : ex (fun s => WF w s && ex (fun j => rg (WF w) (gl w k) n (s ^^^ 2 ^ j)) 10 && !rg (WF w) (gl w k) n s) 1024 with
              | false =>
                left
                refine ⟨_, rfl, w2, rfl, sP_trans hs1 g2, Or.inr ⟨fun m => ?_, rfl⟩⟩
                have stop : ∀ s, s < 1024 → rg (WF w) (gl w k) (n + 1) s = rg (WF w) (gl w k) n s := fun s hs => by
                  rw [rg_s]
                  have : ¬ (WF w s && ex (fun j => rg (WF w) (gl w k) n (s ^^^ 2 ^ j)) 10 && !rg (WF w) (gl w k) n s) = true := fun z => by
                    rw [(ex_iff _ _).mpr ⟨s, hs, z⟩] at hM; cases hM
                  cases h1 : rg (WF w) (gl w k) n s <;> cases h2 : (WF w s && ex (fun j => rg (WF w) (gl w k) n (s ^^^ 2 ^ j)) 10) <;> simp_all
                rcases Nat.lt_or_ge m n with z | z
                · cases y : rg (WF w) (gl w k) m st with
                  | false => rfl
                  | true => rw [rg_mono (show m ≤ n by omega) y] at hf; cases hf
                · have := rg_stop stop (m - n) st hst
                  rw [show n + (m - n) = m by omega] at this
                  rw [this, hf]
              | true =>
                right
                rw [if_pos rfl, if_neg n10, nI_1]
                refine ⟨_, 1024 - (n + 1), rfl, by omega, n + 1, w2, by omega, rfl, by rw [show 1 + n + 1 = 1 + (n + 1) by omega], sP_trans hs1 g2, g3, hst1, fun j hj => ?_⟩
                by_cases z : j = n
                · obtain ⟨s, hs, q⟩ := (ex_iff _ _).mp hM
                  rw [Bool.and_eq_true, Bool.not_eq_true'] at q
                  refine ⟨s, hs, ?_, ?_⟩
                  · rw [z, rg_s, q.1, Bool.or_true]
                  · rw [z]; exact q.2
                · exact hgrow j (by omega)
          · intro x hx
            cases x with
            | inl z => exact ⟨z, rfl, hx⟩
            | inr y => exact absurd hx (fun f => f)
      obtain ⟨z, e1, w1, e2, e3, e4⟩ := main
      exact ⟨z.1, w1, by rw [← e2]; exact e1, e3, e4⟩
end
