/-! the reference reads sums, however deep -/
section
variable {b : Nat} {w0 : WD} {a d c n len : Nat} {f v : Int32} {g h : Nat → Int32} {ch : Nat → Nat}
theorem no_sign (hx : ch a ≤ 256) (h1 : mulK (ch a) = 0) (h2 : addK (ch a) = 0) : FX12_sumSign (txv (ch a)) = some (-1) := by
  rw [sign_m (ch a) (by omega), if_neg (fun z => z h1), if_neg (fun z => z h2)]
/-- a bracket closed -/
theorem sum_close (hT : TxM w0 len ch) (ha : a ≤ len) {base n0 k m c0 : Nat} {l : Cds} (hbn : base ≤ n0) (h14 : h n0 = nI (1048576 * 14)) (hp : pend h (n0 + 1) k m) (hn : n0 + 4 < 260) (hc : c = c0 + l.length) (hc2 : c + 3 < 260) (hl : layd cM g c0 l) (h93 : ch a = 93) : ∃ g', sumM (b + 77) (nI base) (mk b (smW w0 a f v (d + 1) c (n0 + 1 + (wl k).length + (wl m).length) g h)) = some (.inr (mk b (smW w0 (a + 1) f v d (c0 + (l ++ wl m ++ wl k).length) n0 g' h))) ∧ (∀ i, i < c0 → g' i = g i) ∧ layd cM g' c0 (l ++ wl m ++ wl k) := by
  have hx := chm_le hT.2.2 a
  have t93 : (txv (ch a) = (93 : Int32)) ↔ ch a = 93 := tq hx (by decide)
  have kl : (wl k).length ≤ 1 := by rw [wl_len]; split <;> omega
  have ml : (wl m).length ≤ 1 := by rw [wl_len]; split <;> omega
  have hb : bar h (n0 + 1) := Or.inr ⟨14, by decide, 0, by decide, by decide, by rw [Nat.add_sub_cancel]; exact h14⟩
  obtain ⟨g', e1, e2, e3⟩ := clos_all (b := b) (w0 := w0) (a := a) (f := f) (v := v) (d := d + 1) hb hp (by omega) hc (by omega) hl
  refine ⟨g', ?_, e2, e3⟩
  unfold sumM
  rw [rc_12_77, sm_here hT ha, Option.bind_some, no_sign hx (by rw [h93]; rfl) (by rw [h93]; rfl), Option.bind_some, if_pos rfl, Option.bind_some, jn_eq, if_pos (t93.mpr h93), rc_12_77, hos_yes (j := n0) hbn (by omega) (by omega) h14, Option.bind_some, if_neg (by decide), rc_12_77, e1, Option.bind_some, gI_12_77_21, Option.bind_some, sm_21, nI_pred, sI_12_77_21, Option.bind_some, sm_u21, gI_12_77_19, Option.bind_some, sm_19, nI_pred, sI_12_77_19, Option.bind_some, sm_u19, gI_12_77_15, Option.bind_some, sm_15, nI_1, sI_12_77_15, Option.bind_some, sm_u15, List.length_append, List.length_append, hc, Nat.add_assoc, Nat.add_assoc, Nat.add_assoc]
/-- a bracket left open -/
theorem sum_bad (hT : TxM w0 len ch) (ha : a ≤ len) {base j : Nat} (hbn : base ≤ j) (hj : j < n) (h14 : h j = nI (1048576 * 14)) (hn : n < 260) (h1 : mulK (ch a) = 0) (h2 : addK (ch a) = 0) (h93 : ch a ≠ 93) : sumM (b + 77) (nI base) (mk b (smW w0 a f v d c n g h)) = some (.inl (.inl (0, mk b (smW w0 a (flt (1, a)) v d c n g h)))) := by
  have hx := chm_le hT.2.2 a
  have t93 : (txv (ch a) = (93 : Int32)) ↔ ch a = 93 := tq hx (by decide)
  have e := sm_wrong (b := b) (w0 := w0) (a := a) (f := f) (v := v) (d := d) (c := c) (n := n) (g := g) (h := h) 1 a
  have e : FX12_wrongAt (mk b (smW w0 a f v d c n g h)) (b + 77) (1 : Int32) (nI a) = some (0, mk b (smW w0 a (flt (1, a)) v d c n g h)) := e
  unfold sumM
  rw [rc_12_77, sm_here hT ha, Option.bind_some, no_sign hx h1 h2, Option.bind_some, if_pos rfl, Option.bind_some, jn_eq, if_neg (fun z => h93 (t93.mp z)), rc_12_77, hos_yes hbn hj hn h14, Option.bind_some, if_neg (by decide), gI_12_77_15, Option.bind_some, sm_15, rc_12_77, e, Option.bind_some]
  unfold bz
  rw [if_pos (Or.inl rfl)]
/-- a sum's end -/
theorem sum_endM (hT : TxM w0 len ch) (ha : a ≤ len) {n0 k m c0 : Nat} {l : Cds} (hb : bar h n0) (hp : pend h n0 k m) (hn : n0 + 3 < 260) (hc : c = c0 + l.length) (hc2 : c + 3 < 260) (hl : layd cM g c0 l) (h1 : mulK (ch a) = 0) (h2 : addK (ch a) = 0) : ∃ g', sumM (b + 77) (nI n0) (mk b (smW w0 a f v d c (n0 + (wl k).length + (wl m).length) g h)) = some (.inl (.inl (1, mk b (smW w0 a f v d (c0 + (l ++ wl m ++ wl k).length) n0 g' h)))) ∧ (∀ i, i < c0 → g' i = g i) ∧ layd cM g' c0 (l ++ wl m ++ wl k) := by
  have hx := chm_le hT.2.2 a
  have kl : (wl k).length ≤ 1 := by rw [wl_len]; split <;> omega
  have ml : (wl m).length ≤ 1 := by rw [wl_len]; split <;> omega
  obtain ⟨g', e1, e2, e3⟩ := clos_all (b := b) (w0 := w0) (a := a) (f := f) (v := v) (d := d) hb hp (by omega) hc (by omega) hl
  refine ⟨g', ?_, e2, e3⟩
  have no : FX12_hasOpenSum (mk b (smW w0 a f v d c (n0 + (wl k).length + (wl m).length) g h)) (b + 77) (nI n0) = some 0 := by
    refine hos_no (by omega) (by omega) (fun i h3 h4 => ?_)
    obtain ⟨p1, p2, p3, p4⟩ := hp
    by_cases k0 : k = 0
    · have w0' : (wl k).length = 0 := by rw [k0]; rfl
      by_cases m0 : m = 0
      · have w1' : (wl m).length = 0 := by rw [m0]; rfl
        omega
      · have : i = n0 + (wl k).length := by omega
        rw [this]
        exact ⟨m, by omega, p2 m0⟩
    · have w0' : (wl k).length = 1 := by rw [wl_one k0]; rfl
      rcases Nat.lt_or_ge i (n0 + 1) with y | y
      · have : i = n0 := by omega
        rw [this]
        exact ⟨k, by omega, p1 k0⟩
      · by_cases m0 : m = 0
        · have w1' : (wl m).length = 0 := by rw [m0]; rfl
          omega
        · have : i = n0 + (wl k).length := by omega
          rw [this]
          exact ⟨m, by omega, p2 m0⟩
  have fin : (rc [12] (mk b (smW w0 a f v d c (n0 + (wl k).length + (wl m).length) g h)) (b + 77) (FX12_hasOpenSum (mk b (smW w0 a f v d c (n0 + (wl k).length + (wl m).length) g h)) (b + 77) (nI n0))).bind (fun v10 => if v10 = 0 then (rc [12] (mk b (smW w0 a f v d c (n0 + (wl k).length + (wl m).length) g h)) (b + 77) (FX12_closesSums (mk b (smW w0 a f v d c (n0 + (wl k).length + (wl m).length) g h)) (b + 77) (1 : Int32))).bind (fun w11 => some (Sum.inl (β := HP) (Sum.inl (β := HP) ((1 : Int32), w11)))) else (gI [12] 15 (mk b (smW w0 a f v d c (n0 + (wl k).length + (wl m).length) g h)) (b + 77)).bind (fun v12 => (rc [12] (mk b (smW w0 a f v d c (n0 + (wl k).length + (wl m).length) g h)) (b + 77) (FX12_wrongAt (mk b (smW w0 a f v d c (n0 + (wl k).length + (wl m).length) g h)) (b + 77) (1 : Int32) v12)).bind (fun w13 => bz w13.1 (some (Sum.inl (Sum.inl (w13.1, w13.2))))))) = some (.inl (.inl (1, mk b (smW w0 a f v d (c0 + (l ++ wl m ++ wl k).length) n0 g' h)))) := by
    rw [rc_12_77, no, Option.bind_some, if_pos rfl, rc_12_77, e1, Option.bind_some, List.length_append, List.length_append, hc, Nat.add_assoc, Nat.add_assoc, Nat.add_assoc]
  unfold sumM
  rw [rc_12_77, sm_here hT ha, Option.bind_some, no_sign hx h1 h2, Option.bind_some, if_pos rfl, Option.bind_some, jn_eq]
  by_cases h93 : txv (ch a) = (93 : Int32)
  · rw [if_pos h93, rc_12_77, no, Option.bind_some, if_pos rfl]
    rw [rc_12_77] at fin
    rw [no] at fin
    exact fin
  · rw [if_neg h93]
    exact fin
end
/-- how a piece leads the reference's loop on -/
def LdM (b : Nat) (w0 : WD) (base len a d c n : Nat) (g h : Nat → Int32) (r : PR) (X : Nat → Option ((Int32 × HP) ⊕ HP)) : Prop := match r with
  | .inl z => ∃ k a' v' d' c' n' g' h', k ≤ len + 1 - a ∧ ∀ N, X (N + k) = some (.inl (0, mk b (smW w0 a' (flt z) v' d' c' n' g' h')))
  | .inr z => ∃ k f' v' g' h', k ≤ z.1 - a ∧ (∀ N, X (N + k) = lp (sumM (b + 77) (nI base)) N (mk b (smW w0 z.1 f' v' d (c + z.2.length) n g' h'))) ∧ (∀ i, i < n → h' i = h i) ∧ (∀ i, i < c → g' i = g i) ∧ layd cM g' c z.2
def FacM (b : Nat) (w0 : WD) (base len : Nat) (ch : Nat → Nat) (e : Nat) : Prop := ∀ (a d c n M : Nat) (f v : Int32) (g h : Nat → Int32), d + e = 6 → a ≤ len → c ≤ a → n + 4 * e + 6 ≤ 200 → base ≤ n → e < M → LdM b w0 base len a d c n g h (pFacs ch e a) (fun N => contS (b + 77) (nI base) N (rfN (b + 77) M (mk b (smW w0 a f v d c n g h))))
section
variable {b : Nat} {w0 : WD} {len base : Nat} {ch : Nat → Nat}
theorem sumL_m (hT : TxM w0 len ch) {e d n0 c0 a0 : Nat} (hde : d + e = 6) (hF : FacM b w0 base len ch e) (hn0 : n0 + 4 * e + 9 ≤ 200) (hbn : base ≤ n0) (hc0 : c0 ≤ a0) : ∀ (nn a : Nat) (f v : Int32) (g h : Nat → Int32) (accr : Cds) (k m : Nat), len < a + nn → a0 < a → a ≤ len → accr.length + (wl m).length + (wl k).length ≤ a - a0 → bar h n0 → pend h n0 k m → layd cM g c0 accr → (match pSumL ch (pFacs ch e) nn a (accr ++ wl m) k with
    | .inl z => ∃ kk a' v' d' c' n' g' h', kk ≤ len + 1 - a ∧ ∀ N, lp (sumM (b + 77) (nI base)) (N + kk) (mk b (smW w0 a f v d (c0 + accr.length) (n0 + (wl k).length + (wl m).length) g h)) = some (.inl (0, mk b (smW w0 a' (flt z) v' d' c' n' g' h')))
    | .inr z => ∃ kk f' v' g' h' accr' k' m', kk ≤ z.1 - a ∧ (∀ N, lp (sumM (b + 77) (nI base)) (N + kk) (mk b (smW w0 a f v d (c0 + accr.length) (n0 + (wl k).length + (wl m).length) g h)) = lp (sumM (b + 77) (nI base)) N (mk b (smW w0 z.1 f' v' d (c0 + accr'.length) (n0 + (wl k').length + (wl m').length) g' h'))) ∧ (∀ i, i < n0 → h' i = h i) ∧ (∀ i, i < c0 → g' i = g i) ∧ layd cM g' c0 accr' ∧ pend h' n0 k' m' ∧ z.2 = accr' ++ wl m' ++ wl k' ∧ mulK (ch z.1) = 0 ∧ addK (ch z.1) = 0 ∧ a ≤ z.1 ∧ z.1 ≤ len ∧ accr'.length + (wl m').length + (wl k').length ≤ z.1 - a0) := by
  have hlen := hT.2.1
  intro nn
  induction nn with
  | zero =>
    intro a f v g h accr k m h1 h2 h3
    omega
  | succ nn ih =>
    intro a f v g h accr k m hnn haa ha hlen2 hb hp hl
    have kl := wl_len k
    have ml := wl_len m
    have kl1 : (wl k).length ≤ 1 := by rw [kl]; split <;> omega
    by_cases hs : mulK (ch a) ≠ 0 ∨ addK (ch a) ≠ 0
    · have hin : a < len := by
        rcases Nat.lt_or_ge a len with q | q
        · exact q
        · rw [hT.2.2.2 a q] at hs
          rcases hs with z | z <;> exact absurd rfl z
      obtain ⟨K, hK⟩ : ∃ K, K = (if mulK (ch a) ≠ 0 then mulK (ch a) else addK (ch a)) := ⟨_, rfl⟩
      obtain ⟨l2, hl2⟩ : ∃ l2, l2 = accr ++ wl m ++ (if mulK (ch a) ≠ 0 then [] else wl k) := ⟨_, rfl⟩
      have hpure : pSumL ch (pFacs ch e) (nn + 1) a (accr ++ wl m) k = (match pFacs ch e (a + 1) with
          | .inl z => .inl z
          | .inr (a', l) => pSumL ch (pFacs ch e) nn a' (l2 ++ l ++ wl (if mulK (ch a) ≠ 0 then K else 0)) (if mulK (ch a) ≠ 0 then k else K)) := by
        conv => lhs; unfold pSumL
        by_cases hm : mulK (ch a) ≠ 0
        · rw [if_pos hm]
          rw [if_pos hm] at hK hl2
          rw [List.append_nil] at hl2
          cases pFacs ch e (a + 1) with
          | inl z => rfl
          | inr z =>
            dsimp only
            rw [if_pos hm, if_pos hm, hl2, hK, wl_one hm]
        · rw [if_neg hm]
          rw [if_neg hm] at hK hl2
          have ha2 : addK (ch a) ≠ 0 := by
            rcases hs with z | z
            · exact absurd z hm
            · exact z
          rw [if_pos ha2]
          cases pFacs ch e (a + 1) with
          | inl z => rfl
          | inr z =>
            dsimp only
            rw [if_neg hm, if_neg hm, hl2, hK]
            show _ = pSumL ch (pFacs ch e) nn z.1 (accr ++ wl m ++ wl k ++ z.2 ++ []) _
            rw [List.append_nil]
      have l2len : l2.length ≤ a - a0 := by
        rw [hl2, List.length_append, List.length_append]
        split
        · show accr.length + (wl m).length + 0 ≤ _
          omega
        · omega
      obtain ⟨g1, n1, sg1, hn1, hg1, hl1⟩ := sum_sign (b := b) (f := f) (v := v) (d := d) (base := base) (k := k) (m := m) hT ha hb hp (by omega) (rfl : c0 + accr.length = c0 + accr.length) (by omega) hl hs
      rw [← hl2] at hl1
      simp only [← hl2, ← hK] at sg1
      have hKr : K ≠ 0 ∧ (mulK (ch a) ≠ 0 → 4 ≤ K ∧ K ≤ 6) ∧ (¬ mulK (ch a) ≠ 0 → K = 2 ∨ K = 3) := by
        by_cases hm : mulK (ch a) ≠ 0
        · rw [if_pos hm] at hK
          have := mulK_in hm
          rw [hK]
          exact ⟨hm, fun _ => this, fun z => absurd hm z⟩
        · rw [if_neg hm] at hK
          have ha2 : addK (ch a) ≠ 0 := by
            rcases hs with z | z
            · exact absurd z hm
            · exact z
          rw [hK]
          exact ⟨ha2, fun z => absurd z hm, fun _ => addK_in ha2⟩
      have hn1le : n1 ≤ n0 + 1 ∧ n0 ≤ n1 := by
        rw [hn1]
        split <;> omega
      have hf1 := hF (a + 1) d (c0 + l2.length) (n1 + 1) FU f v g1 (upd h n1 (nI (1048576 * K))) hde hin (by omega) (by omega) (by omega) (by unfold FU; omega)
      have hfine := pFacs_fine hT.2.2.2 e (a + 1) hin
      rw [hpure]
      cases hfa : pFacs ch e (a + 1) with
      | inl z =>
        rw [hfa] at hf1
        obtain ⟨kf, a', v', d', c', n', g', h', q1, q2⟩ := hf1
        refine ⟨kf + 1, a', v', d', c', n', g', h', by omega, fun N => ?_⟩
        rw [← Nat.add_assoc, sg1 (N + kf)]
        exact q2 N
      | inr z =>
        rw [hfa] at hf1 hfine
        obtain ⟨kf, f3, v3, g3, h3, q1, q2, q3, q4, q5⟩ := hf1
        obtain ⟨y1, y2, y3⟩ := hfine
        have hKw : (wl K).length = 1 := by rw [wl_one hKr.1]; rfl
        have hstk : n0 + (wl (if mulK (ch a) ≠ 0 then k else K)).length + (wl (if mulK (ch a) ≠ 0 then K else 0)).length = n1 + 1 := by
          by_cases hm : mulK (ch a) ≠ 0
          · rw [if_pos hm] at hn1
            rw [if_pos hm, if_pos hm, hn1, hKw]
          · rw [if_neg hm] at hn1
            rw [if_neg hm, if_neg hm, hn1, hKw]
            rfl
        have hpend : pend h3 n0 (if mulK (ch a) ≠ 0 then k else K) (if mulK (ch a) ≠ 0 then K else 0) := by
          obtain ⟨p1, p2, p3, p4⟩ := hp
          by_cases hm : mulK (ch a) ≠ 0
          · rw [if_pos hm] at hn1
            rw [if_pos hm, if_pos hm]
            refine ⟨fun z => ?_, fun _ => ?_, p3, Or.inr (hKr.2.1 hm)⟩
            · have kw : (wl k).length = 1 := by rw [wl_one z]; rfl
              rw [q3 n0 (by omega), pk_un (by omega)]
              exact p1 z
            · rw [← hn1, q3 n1 (by omega), pk_us]
          · rw [if_neg hm] at hn1
            have hn1 : n1 = n0 := hn1
            rw [if_neg hm, if_neg hm]
            refine ⟨fun _ => ?_, fun z => absurd rfl z, Or.inr (hKr.2.2 hm), Or.inl rfl⟩
            rw [← hn1, q3 n1 (by omega), pk_us]
        have hbar : bar h3 n0 := by
          rcases hb with z | ⟨kd, z1, x, z2, z3, z4⟩
          · exact Or.inl z
          · rcases Nat.eq_zero_or_pos n0 with y | y
            · exact Or.inl y
            · exact Or.inr ⟨kd, z1, x, z2, z3, by rw [q3 (n0 - 1) (by omega), pk_un (by omega)]; exact z4⟩
        have hlay : layd cM g3 c0 (l2 ++ z.2) := by
          rw [layd_app]
          exact ⟨layd_cong l2 c0 (fun i h5 h6 => q4 i (by omega)) hl1, q5⟩
        have hll : (l2 ++ z.2).length + (wl (if mulK (ch a) ≠ 0 then K else 0)).length + (wl (if mulK (ch a) ≠ 0 then k else K)).length ≤ z.1 - a0 := by
          rw [List.length_append]
          by_cases hm : mulK (ch a) ≠ 0
          · rw [if_pos hm, if_pos hm, hKw]
            rw [if_pos hm, List.append_nil] at hl2
            have : l2.length = accr.length + (wl m).length := by rw [hl2, List.length_append]
            omega
          · rw [if_neg hm, if_neg hm, hKw]
            show l2.length + z.2.length + 0 + 1 ≤ _
            omega
        have hi := ih z.1 f3 v3 g3 h3 (l2 ++ z.2) (if mulK (ch a) ≠ 0 then k else K) (if mulK (ch a) ≠ 0 then K else 0) (by omega) (by omega) y2 hll hbar hpend hlay
        have hcc : c0 + (l2 ++ z.2).length = c0 + l2.length + z.2.length := by rw [List.length_append, Nat.add_assoc]
        dsimp only
        rw [hstk, hcc] at hi
        have chain : ∀ N, lp (sumM (b + 77) (nI base)) (N + (kf + 1)) (mk b (smW w0 a f v d (c0 + accr.length) (n0 + (wl k).length + (wl m).length) g h)) = lp (sumM (b + 77) (nI base)) N (mk b (smW w0 z.1 f3 v3 d (c0 + l2.length + z.2.length) (n1 + 1) g3 h3)) := fun N => by
          rw [← Nat.add_assoc, sg1 (N + kf)]
          exact q2 N
        cases hpl : pSumL ch (pFacs ch e) nn z.1 (l2 ++ z.2 ++ wl (if mulK (ch a) ≠ 0 then K else 0)) (if mulK (ch a) ≠ 0 then k else K) with
        | inl x =>
          rw [hpl] at hi
          obtain ⟨kk, a', v', d', c', n', g', h', r1, r2⟩ := hi
          refine ⟨kk + (kf + 1), a', v', d', c', n', g', h', by omega, fun N => ?_⟩
          rw [← Nat.add_assoc, chain (N + kk)]
          exact r2 N
        | inr x =>
          rw [hpl] at hi
          obtain ⟨kk, f', v', g', h', accr', k', m', r1, r2, r3, r4, r5, r6, r7, r8, r9, r10, r11, r12⟩ := hi
          refine ⟨kk + (kf + 1), f', v', g', h', accr', k', m', by omega, fun N => ?_, fun i hi => ?_, fun i hi => ?_, r5, r6, r7, r8, r9, by omega, r11, r12⟩
          · rw [← Nat.add_assoc, chain (N + kk)]
            exact r2 N
          · rw [r3 i hi, q3 i (by omega), pk_un (by omega)]
          · rw [r4 i hi, q4 i (by omega)]
            exact hg1 i hi
    · have hm : mulK (ch a) = 0 := Classical.byContradiction fun z => hs (Or.inl z)
      have hd2 : addK (ch a) = 0 := Classical.byContradiction fun z => hs (Or.inr z)
      have hpure : pSumL ch (pFacs ch e) (nn + 1) a (accr ++ wl m) k = .inr (a, accr ++ wl m ++ wl k) := by
        conv => lhs; unfold pSumL
        rw [if_neg (fun z => z hm), if_neg (fun z => z hd2)]
      rw [hpure]
      exact ⟨0, f, v, g, h, accr, k, m, Nat.zero_le _, fun N => rfl, fun _ _ => rfl, fun _ _ => rfl, hl, hp, rfl, hm, hd2, Nat.le_refl _, ha, hlen2⟩
theorem facs_m (hT : TxM w0 len ch) : ∀ e, FacM b w0 base len ch e := by
  have hlen := hT.2.1
  have atom : ∀ (e a d c n M : Nat) (f v : Int32) (g h : Nat → Int32), a ≤ len → c ≤ a → ch a ≠ 91 → pFacs ch e a = pFacB ch none a → LdM b w0 base len a d c n g h (pFacs ch e a) (fun N => contS (b + 77) (nI base) N (rfN (b + 77) (M + 1) (mk b (smW w0 a f v d c n g h)))) := by
    intro e a d c n M f v g h ha hc h91 hp
    rw [hp]
    obtain ⟨r, a', f', v', c', g', e1, e2⟩ := rf_atom (b := b) (w0 := w0) (f := f) (v := v) (d := d) (n := n) (g := g) (h := h) hT ha h91 (show c < 260 by omega) M
    rcases e2 with ⟨x, p1, rfl, rfl, p3, p4⟩ | ⟨z, p1, rfl, rfl⟩
    · rw [p1]
      refine ⟨0, f', v', g', h, Nat.zero_le _, fun N => ?_, fun _ _ => rfl, p3, p4, trivial⟩
      show contS (b + 77) (nI base) N _ = _
      rw [e1]
      rfl
    · rw [p1]
      refine ⟨0, a', v', d, c', n, g', h, Nat.zero_le _, fun N => ?_⟩
      show contS (b + 77) (nI base) N _ = _
      rw [e1]
      rfl
  intro e
  induction e with
  | zero =>
    intro a d c n M f v g h hd ha hc hn hb hM
    obtain ⟨M, rfl⟩ : ∃ m, M = m + 1 := ⟨M - 1, by omega⟩
    by_cases h91 : ch a = 91
    · have hp : pFacs ch 0 a = .inl (5, a) := by
        show pFacB ch none a = _
        unfold pFacB
        rw [if_pos h91]
      rw [hp]
      refine ⟨0, a, v, d, c, n, g, h, Nat.zero_le _, fun N => ?_⟩
      show contS (b + 77) (nI base) N _ = _
      rw [rf_open hT ha h91 (by omega) (by omega) M, if_pos (by omega)]
      rfl
    · exact atom 0 a d c n M f v g h ha hc h91 rfl
  | succ e ih =>
    intro a d c n M f v g h hd ha hc hn hb hM
    obtain ⟨M, rfl⟩ : ∃ m, M = m + 1 := ⟨M - 1, by omega⟩
    by_cases h91 : ch a = 91
    · have hl := at_in hT.2.2.2 h91 (by decide)
      have hopen : rfN (b + 77) (M + 1) (mk b (smW w0 a f v d c n g h)) = rfN (b + 77) M (mk b (smW w0 (a + 1) f v (d + 1) c (n + 1) g (upd h n (nI (1048576 * 14))))) := by
        rw [rf_open hT ha h91 (by omega) (by omega) M, if_neg (by omega)]
      have i1 := ih (a + 1) (d + 1) c (n + 1) M f v g (upd h n (nI (1048576 * 14))) (by omega) hl (by omega) (by omega) (by omega) (by omega)
      have hfine := pFacs_fine hT.2.2.2 e (a + 1) hl
      have hp : pFacs ch (e + 1) a = (match pSumB ch (pFacs ch e) (a + 1) with
          | .inl z => .inl z
          | .inr (a', l) => if ch a' = 93 then .inr (a' + 1, l) else .inl (1, a')) := by
        show pFacB ch (some (pSumB ch (pFacs ch e))) a = _
        unfold pFacB
        rw [if_pos h91]
        dsimp only
        cases pSumB ch (pFacs ch e) (a + 1) <;> rfl
      have hX : (fun N => contS (b + 77) (nI base) N (rfN (b + 77) (M + 1) (mk b (smW w0 a f v d c n g h)))) = (fun N => contS (b + 77) (nI base) N (rfN (b + 77) M (mk b (smW w0 (a + 1) f v (d + 1) c (n + 1) g (upd h n (nI (1048576 * 14))))))) := by rw [hopen]
      rw [hp, hX]
      cases hf1 : pFacs ch e (a + 1) with
      | inl z =>
        rw [hf1] at i1
        obtain ⟨k, a', v', d', c', n', g', h', q1, q2⟩ := i1
        have hps : pSumB ch (pFacs ch e) (a + 1) = .inl z := by unfold pSumB; rw [hf1]
        rw [hps]
        exact ⟨k, a', v', d', c', n', g', h', by omega, q2⟩
      | inr z =>
        rw [hf1] at i1 hfine
        obtain ⟨k, f3, v3, g3, h3, q1, q2, q3, q4, q5⟩ := i1
        obtain ⟨y1, y2, y3⟩ := hfine
        have hps : pSumB ch (pFacs ch e) (a + 1) = pSumL ch (pFacs ch e) 300 z.1 (z.2 ++ wl 0) 0 := by
          unfold pSumB
          rw [hf1]
          show _ = pSumL ch (pFacs ch e) 300 z.1 (z.2 ++ []) 0
          rw [List.append_nil]
        have h14 : h3 n = nI (1048576 * 14) := by rw [q3 n (by omega), pk_us]
        have hbar : bar h3 (n + 1) := Or.inr ⟨14, by decide, 0, by decide, by decide, by rw [Nat.add_sub_cancel]; exact h14⟩
        have sl := sumL_m (b := b) (base := base) (d := d + 1) (n0 := n + 1) (c0 := c) (a0 := a + 1) hT (by omega) ih (by omega) (by omega) (by omega) 300 z.1 f3 v3 g3 h3 z.2 0 0 (by omega) y1 y2 (by show z.2.length + 0 + 0 ≤ _; omega) hbar ⟨fun z => absurd rfl z, fun z => absurd rfl z, Or.inl rfl, Or.inl rfl⟩ q5
        rw [hps]
        cases hpl : pSumL ch (pFacs ch e) 300 z.1 (z.2 ++ wl 0) 0 with
        | inl x =>
          rw [hpl] at sl
          obtain ⟨kk, a', v', d', c', n', g', h', r1, r2⟩ := sl
          refine ⟨kk + k, a', v', d', c', n', g', h', by omega, fun N => ?_⟩
          show contS (b + 77) (nI base) (N + (kk + k)) _ = _
          rw [← Nat.add_assoc]
          exact (q2 (N + kk)).trans (r2 N)
        | inr x =>
          rw [hpl] at sl
          obtain ⟨kk, f', v', g', h', accr', k', m', r1, r2, r3, r4, r5, r6, r7, r8, r9, r10, r11, r12⟩ := sl
          have reach : ∀ N, contS (b + 77) (nI base) (N + (kk + k)) (rfN (b + 77) M (mk b (smW w0 (a + 1) f v (d + 1) c (n + 1) g (upd h n (nI (1048576 * 14)))))) = lp (sumM (b + 77) (nI base)) N (mk b (smW w0 x.1 f' v' (d + 1) (c + accr'.length) (n + 1 + (wl k').length + (wl m').length) g' h')) := fun N => by
            rw [← Nat.add_assoc]
            exact (q2 (N + kk)).trans (r2 N)
          have h14' : h' n = nI (1048576 * 14) := by rw [r3 n (by omega)]; exact h14
          dsimp only
          by_cases h93 : ch x.1 = 93
          · rw [if_pos h93]
            have hl93 := at_in hT.2.2.2 h93 (by decide)
            obtain ⟨g4, s1, s2, s3⟩ := sum_close (b := b) (w0 := w0) (a := x.1) (d := d) (f := f') (v := v') (base := base) (n0 := n) hT r11 hb h14' r6 (by omega) (rfl : c + accr'.length = c + accr'.length) (by omega) r5 h93
            refine ⟨kk + k + 1, f', v', g4, h', by show kk + k + 1 ≤ x.1 + 1 - a; omega, fun N => ?_, fun i hi => ?_, fun i hi => ?_, ?_⟩
            · show contS (b + 77) (nI base) (N + (kk + k + 1)) _ = _
              rw [show N + (kk + k + 1) = (N + 1) + (kk + k) by omega, reach (N + 1), lp_one s1, r7]
            · rw [r3 i (by omega), q3 i (by omega), pk_un (by omega)]
            · rw [s2 i hi, r4 i hi, q4 i hi]
            · rw [r7]
              exact s3
          · rw [if_neg h93]
            have kl' : (wl k').length ≤ 1 := by rw [wl_len]; split <;> omega
            have ml' : (wl m').length ≤ 1 := by rw [wl_len]; split <;> omega
            have sb := sum_bad (b := b) (w0 := w0) (a := x.1) (d := d + 1) (c := c + accr'.length) (n := n + 1 + (wl k').length + (wl m').length) (f := f') (v := v') (g := g') (h := h') (base := base) (j := n) hT r11 hb (by omega) h14' (by omega) r8 r9 h93
            refine ⟨kk + k + 1, x.1, v', d + 1, c + accr'.length, n + 1 + (wl k').length + (wl m').length, g', h', by omega, fun N => ?_⟩
            show contS (b + 77) (nI base) (N + (kk + k + 1)) _ = _
            rw [show N + (kk + k + 1) = (N + 1) + (kk + k) by omega, reach (N + 1), lp_out sb]
    · exact atom (e + 1) a d c n M f v g h ha hc h91 (by
        show pFacB ch (some _) a = pFacB ch none a
        unfold pFacB
        rw [if_neg h91, if_neg h91])
/-- a whole sum -/
theorem sum_m (hT : TxM w0 len ch) {e a d c n : Nat} {f v : Int32} {g h : Nat → Int32} (hd : d + e = 6) (ha : a ≤ len) (hc : c ≤ a) (hn : n + 4 * e + 9 ≤ 200) (hb : bar h n) : match pSum ch e a with
    | .inl z => ∃ a' v' d' c' n' g' h', FX12_readsSum (mk b (smW w0 a f v d c n g h)) (b + 77) = some (0, mk b (smW w0 a' (flt z) v' d' c' n' g' h'))
    | .inr z => ∃ f' v' g' h', FX12_readsSum (mk b (smW w0 a f v d c n g h)) (b + 77) = some (1, mk b (smW w0 z.1 f' v' d (c + z.2.length) n g' h')) ∧ (∀ i, i < n → h' i = h i) ∧ (∀ i, i < c → g' i = g i) ∧ layd cM g' c z.2 := by
  have hlen := hT.2.1
  have i1 := facs_m (b := b) (base := n) hT e a d c n FU f v g h hd ha hc (by omega) (Nat.le_refl _) (by unfold FU; omega)
  have hfine := pFacs_fine hT.2.2.2 e a ha
  have hbody : FX12_readsSum (mk b (smW w0 a f v d c n g h)) (b + 77) = (contS (b + 77) (nI n) FU (rfN (b + 77) FU (mk b (smW w0 a f v d c n g h)))).bind (lk (P := Int32 × HP) (fun r => r) (fun (y4 : HP) => none)) := by
    rw [sum_bodyM, gI_12_77_21, Option.bind_some, sm_21, rc_12_77, fac_bodyM]
    unfold contS
    cases rfN (b + 77) FU (mk b (smW w0 a f v d c n g h)) with
    | none => rfl
    | some y =>
      rw [Option.bind_some, Option.bind_some]
      by_cases q : y.1 = 0
      · rw [if_pos q, if_pos q]
        rfl
      · rw [if_neg q, if_neg q]
  rw [hbody]
  unfold pSum pSumB
  cases hf1 : pFacs ch e a with
  | inl z =>
    rw [hf1] at i1
    obtain ⟨k, a', v', d', c', n', g', h', q1, q2⟩ := i1
    have := q2 (FU - k)
    rw [show FU - k + k = FU by unfold FU; omega] at this
    have this : contS (b + 77) (nI n) FU (rfN (b + 77) FU (mk b (smW w0 a f v d c n g h))) = _ := this
    rw [this]
    exact ⟨a', v', d', c', n', g', h', rfl⟩
  | inr z =>
    rw [hf1] at i1 hfine
    obtain ⟨k, f3, v3, g3, h3, q1, q2, q3, q4, q5⟩ := i1
    obtain ⟨y1, y2, y3⟩ := hfine
    have hbar : bar h3 n := by
      rcases hb with z | ⟨kd, z1, x, z2, z3, z4⟩
      · exact Or.inl z
      · rcases Nat.eq_zero_or_pos n with y | y
        · exact Or.inl y
        · exact Or.inr ⟨kd, z1, x, z2, z3, by rw [q3 (n - 1) (by omega)]; exact z4⟩
    have sl := sumL_m (b := b) (base := n) (d := d) (n0 := n) (c0 := c) (a0 := a) hT hd (facs_m hT e) hn (Nat.le_refl _) hc 300 z.1 f3 v3 g3 h3 z.2 0 0 (by omega) y1 y2 (by show z.2.length + 0 + 0 ≤ _; omega) hbar ⟨fun z => absurd rfl z, fun z => absurd rfl z, Or.inl rfl, Or.inl rfl⟩ q5
    have hps : pSumL ch (pFacs ch e) 300 z.1 z.2 0 = pSumL ch (pFacs ch e) 300 z.1 (z.2 ++ wl 0) 0 := by
      show _ = pSumL ch (pFacs ch e) 300 z.1 (z.2 ++ []) 0
      rw [List.append_nil]
    dsimp only
    rw [hps]
    cases hpl : pSumL ch (pFacs ch e) 300 z.1 (z.2 ++ wl 0) 0 with
    | inl x =>
      rw [hpl] at sl
      obtain ⟨kk, a', v', d', c', n', g', h', r1, r2⟩ := sl
      have e1 := q2 (FU - k)
      rw [show FU - k + k = FU by unfold FU; omega] at e1
      have e2 := r2 (FU - k - kk)
      rw [show FU - k - kk + kk = FU - k by unfold FU; omega] at e2
      have e1 : contS (b + 77) (nI n) FU (rfN (b + 77) FU (mk b (smW w0 a f v d c n g h))) = lp (sumM (b + 77) (nI n)) (FU - k) (mk b (smW w0 z.1 f3 v3 d (c + z.2.length) n g3 h3)) := e1
      have e2 : lp (sumM (b + 77) (nI n)) (FU - k) (mk b (smW w0 z.1 f3 v3 d (c + z.2.length) n g3 h3)) = _ := e2
      rw [e1, e2]
      exact ⟨a', v', d', c', n', g', h', rfl⟩
    | inr x =>
      rw [hpl] at sl
      obtain ⟨kk, f', v', g', h', accr', k', m', r1, r2, r3, r4, r5, r6, r7, r8, r9, r10, r11, r12⟩ := sl
      have hbar2 : bar h' n := by
        rcases hbar with z | ⟨kd, z1, x, z2, z3, z4⟩
        · exact Or.inl z
        · rcases Nat.eq_zero_or_pos n with y | y
          · exact Or.inl y
          · exact Or.inr ⟨kd, z1, x, z2, z3, by rw [r3 (n - 1) (by omega)]; exact z4⟩
      obtain ⟨g4, s1, s2, s3⟩ := sum_endM (b := b) (w0 := w0) (a := x.1) (d := d) (f := f') (v := v') hT r11 hbar2 r6 (by omega) (rfl : c + accr'.length = c + accr'.length) (by omega) r5 r8 r9
      have e1 := q2 (FU - k)
      rw [show FU - k + k = FU by unfold FU; omega] at e1
      have e2 := r2 (FU - k - kk)
      rw [show FU - k - kk + kk = FU - k by unfold FU; omega] at e2
      have e1 : contS (b + 77) (nI n) FU (rfN (b + 77) FU (mk b (smW w0 a f v d c n g h))) = lp (sumM (b + 77) (nI n)) (FU - k) (mk b (smW w0 z.1 f3 v3 d (c + z.2.length) n g3 h3)) := e1
      have e2 : lp (sumM (b + 77) (nI n)) (FU - k) (mk b (smW w0 z.1 f3 v3 d (c + z.2.length) n g3 h3)) = _ := e2
      rw [e1, e2, show FU - k - kk = FU - k - kk - 1 + 1 by unfold FU; omega, lp_out s1]
      rw [← r7] at s3
      refine ⟨f', v', g4, h', by rw [← r7]; rfl, fun i hi => by rw [r3 i hi, q3 i hi], fun i hi => by rw [s2 i hi, r4 i hi, q4 i hi], s3⟩
end
