/-! the reference reads tests, however deep -/
def LdT (b : Nat) (w0 : WD) (len e a d c n : Nat) (g h : Nat → Int32) (r : PR) (X : Nat → Option ((Int32 × HP) ⊕ HP)) : Prop := match r with
  | .inl z => ∃ k a' v' d' c' n' g' h', k ≤ len + 1 - a ∧ ∀ N, X (N + k) = some (.inl (0, mk b (smW w0 a' (flt z) v' d' c' n' g' h')))
  | .inr z => ∃ k kN kI f' v' g' h', k ≤ z.1 - a ∧ kN ≤ e ∧ kI ≤ e ∧ (∀ N, X (N + k) = CEm (b + 77) (FU - kN) N (FU - kI) (mk b (smW w0 z.1 f' v' d (c + z.2.length) n g' h'))) ∧ (∀ i, i < n → h' i = h i) ∧ (∀ i, i < c → g' i = g i) ∧ layd cM g' c z.2
def TstM (b : Nat) (w0 : WD) (len : Nat) (ch : Nat → Nat) (e : Nat) : Prop := ∀ (a d c n : Nat) (f v : Int32) (g h : Nat → Int32), d + e = 6 → a ≤ len → c ≤ a → n + 4 * e ≤ 100 → bar h n → 0 < n → LdT b w0 len e a d c n g h (pTsts ch e a) (fun N => lp (condM (b + 77)) N (mk b (smW w0 a f v d c n g h)))
section
variable {b : Nat} {w0 : WD} {len : Nat} {ch : Nat → Nat}
theorem how_m (hT : TxM w0 len ch) {a d c n : Nat} {f v : Int32} {g h : Nat → Int32} (ha : a ≤ len) {X : Type} (J : Int32 → Option X) : (if txv (ch a) = (60 : Int32) then J (7 : Int32) else (rc [12] (mk b (smW w0 a f v d c n g h)) (b + 77) (FX12_here (mk b (smW w0 a f v d c n g h)) (b + 77))).bind (fun v12 => if v12 = (62 : Int32) then J (8 : Int32) else (rc [12] (mk b (smW w0 a f v d c n g h)) (b + 77) (FX12_here (mk b (smW w0 a f v d c n g h)) (b + 77))).bind (fun v13 => if v13 = (61 : Int32) then J (9 : Int32) else J (-1 : Int32)))) = J (if relK (ch a) = 0 then -1 else nI (relK (ch a))) := by
  have hx := chm_le hT.2.2 a
  have t60 : (txv (ch a) = (60 : Int32)) ↔ ch a = 60 := tq hx (by decide)
  have t62 : (txv (ch a) = (62 : Int32)) ↔ ch a = 62 := tq hx (by decide)
  have t61 : (txv (ch a) = (61 : Int32)) ↔ ch a = 61 := tq hx (by decide)
  rw [rc_12_77, sm_here hT ha, Option.bind_some, Option.bind_some]
  unfold relK
  by_cases q1 : ch a = 60
  · rw [if_pos (t60.mpr q1), if_pos q1]
    rfl
  · rw [if_neg (fun z => q1 (t60.mp z)), if_neg q1]
    by_cases q2 : ch a = 62
    · rw [if_pos (t62.mpr q2), if_pos q2]
      rfl
    · rw [if_neg (fun z => q2 (t62.mp z)), if_neg q2]
      by_cases q3 : ch a = 61
      · rw [if_pos (t61.mpr q3), if_pos q3]
        rfl
      · rw [if_neg (fun z => q3 (t61.mp z)), if_neg q3]
        rfl
theorem cmp_m (hT : TxM w0 len ch) {e a d c n : Nat} {f v : Int32} {g h : Nat → Int32} (hd : d + e = 6) (ha : a ≤ len) (hc : c ≤ a) (hn : n + 4 * e ≤ 100) (hb : bar h n) : match pCmp ch (pSum ch e) a with
    | .inl z => ∃ a' v' d' c' n' g' h', FX12_readsCompared (mk b (smW w0 a f v d c n g h)) (b + 77) = some (0, mk b (smW w0 a' (flt z) v' d' c' n' g' h'))
    | .inr z => ∃ f' v' g' h', FX12_readsCompared (mk b (smW w0 a f v d c n g h)) (b + 77) = (FX12_endsPiece (mk b (smW w0 z.1 f' v' d (c + z.2.length) n g' h')) (b + 77)).bind (fun w11 => some ((1 : Int32), w11)) ∧ (∀ i, i < n → h' i = h i) ∧ (∀ i, i < c → g' i = g i) ∧ layd cM g' c z.2 := by
  have hlen := hT.2.1
  have s1 := sum_m (b := b) (f := f) (v := v) (g := g) hT hd ha hc (by omega) hb
  have hfine := pSum_fine hT.2.2.2 e ha
  unfold pCmp FX12_readsCompared
  rw [rc_12_77]
  cases hp : pSum ch e a with
  | inl z =>
    rw [hp] at s1
    obtain ⟨a', v', d', c', n', g', h', q1⟩ := s1
    rw [q1, Option.bind_some]
    dsimp only
    rw [if_pos rfl]
    exact ⟨_, _, _, _, _, _, _, rfl⟩
  | inr z =>
    rw [hp] at s1 hfine
    obtain ⟨f1, v1, g1, h1, q1, q2, q3, q4⟩ := s1
    obtain ⟨y1, y2, y3⟩ := hfine
    rw [q1, Option.bind_some]
    dsimp only
    rw [if_neg (show ¬ (1 : Int32) = 0 by decide), rc_12_77, sm_here hT y2, Option.bind_some, jn_eq]
    have hm := how_m (b := b) (d := d) (c := c + z.2.length) (n := n) (f := f1) (v := v1) (g := g1) (h := h1) hT y2 (fun a3 => if a3 = (-1 : Int32) then (gI [12] 15 (mk b (smW w0 z.1 f1 v1 d (c + z.2.length) n g1 h1)) (b + 77)).bind (fun v5 => (rc [12] (mk b (smW w0 z.1 f1 v1 d (c + z.2.length) n g1 h1)) (b + 77) (FX12_wrongAt (mk b (smW w0 z.1 f1 v1 d (c + z.2.length) n g1 h1)) (b + 77) (1 : Int32) v5)).bind (fun w6 => bz w6.1 (some (w6.1, w6.2)))) else (gI [12] 15 (mk b (smW w0 z.1 f1 v1 d (c + z.2.length) n g1 h1)) (b + 77)).bind (fun v7 => (sI [12] 15 (mk b (smW w0 z.1 f1 v1 d (c + z.2.length) n g1 h1)) (b + 77) (v7 + (1 : Int32))).bind (fun hp8 => (rc [12] hp8 (b + 77) (FX12_readsSum hp8 (b + 77))).bind (fun w9 => if w9.1 = 0 then some ((0 : Int32), w9.2) else (rc [12] w9.2 (b + 77) (FX12_notes w9.2 (b + 77) a3 (0 : Int32))).bind (fun w10 => (rc [12] w10 (b + 77) (FX12_endsPiece w10 (b + 77))).bind (fun w11 => some ((1 : Int32), w11)))))))
    rw [rc_12_77, sm_here hT y2] at hm
    rw [hm]
    by_cases hr : relK (ch z.1) = 0
    · rw [if_pos hr, if_pos hr, if_pos rfl, gI_12_77_15, Option.bind_some, sm_15, rc_12_77]
      have e := sm_wrong (b := b) (w0 := w0) (a := z.1) (f := f1) (v := v1) (d := d) (c := c + z.2.length) (n := n) (g := g1) (h := h1) 1 z.1
      have e : FX12_wrongAt (mk b (smW w0 z.1 f1 v1 d (c + z.2.length) n g1 h1)) (b + 77) (1 : Int32) (nI z.1) = _ := e
      rw [e, Option.bind_some]
      unfold bz
      rw [if_pos (Or.inl rfl)]
      exact ⟨_, _, _, _, _, _, _, rfl⟩
    · obtain ⟨m1, m2⟩ := relK_in hr
      have hl1 : z.1 < len := by
        rcases Nat.lt_or_ge z.1 len with q | q
        · exact q
        · rw [hT.2.2.2 z.1 q] at hr
          exact absurd rfl hr
      have hb1 : bar h1 n := by
        rcases hb with y | ⟨kd, z1, x, z2, z3, z4⟩
        · exact Or.inl y
        · rcases Nat.eq_zero_or_pos n with y | y
          · exact Or.inl y
          · exact Or.inr ⟨kd, z1, x, z2, z3, by rw [q2 (n - 1) (by omega)]; exact z4⟩
      have s2 := sum_m (b := b) (f := f1) (v := v1) (g := g1) (e := e) (d := d) (c := c + z.2.length) hT hd hl1 (by omega) (by omega) hb1
      have hfine2 := pSum_fine hT.2.2.2 e hl1
      rw [if_neg hr, if_neg hr, if_neg (nI_nm1 (by omega)), gI_12_77_15, Option.bind_some, sm_15, nI_1, sI_12_77_15, Option.bind_some, sm_u15, rc_12_77]
      cases hp2 : pSum ch e (z.1 + 1) with
      | inl y =>
        rw [hp2] at s2
        obtain ⟨a', v', d', c', n', g', h', r1⟩ := s2
        rw [r1, Option.bind_some]
        dsimp only
        rw [if_pos rfl]
        exact ⟨_, _, _, _, _, _, _, rfl⟩
      | inr y =>
        rw [hp2] at s2 hfine2
        obtain ⟨f2, v2, g2, h2, r1, r2, r3, r4⟩ := s2
        obtain ⟨u1, u2, u3⟩ := hfine2
        rw [r1, Option.bind_some]
        dsimp only
        rw [if_neg (by decide), rc_12_77]
        have e2 := sm_notes (b := b) (w0 := w0) (a := y.1) (f := f2) (v := v2) (d := d) (c := c + z.2.length + y.2.length) (n := n) (g := g2) (h := h2) (by omega) (relK (ch z.1)) 0
        have e2 : FX12_notes (mk b (smW w0 y.1 f2 v2 d (c + z.2.length + y.2.length) n g2 h2)) (b + 77) (nI (relK (ch z.1))) (0 : Int32) = some (mk b (smW w0 y.1 f2 v2 d (c + z.2.length + y.2.length + 1) n (upd g2 (c + z.2.length + y.2.length) (nI (1048576 * relK (ch z.1)))) h2)) := e2
        rw [e2, Option.bind_some, rc_12_77]
        have hlay : layd cM g2 c (z.2 ++ y.2) := by
          rw [layd_app]
          exact ⟨layd_cong z.2 c (fun i h5 h6 => r3 i (by omega)) q4, r4⟩
        refine ⟨f2, v2, upd g2 (c + z.2.length + y.2.length) (nI (1048576 * relK (ch z.1))), h2, ?_, fun i hi => by rw [r2 i hi, q2 i hi], fun i hi => by rw [pk_un (by omega), r3 i (by omega), q3 i hi], lay_one (by rw [List.length_append]; omega) hlay (by omega)⟩
        have ec : c + (z.2 ++ y.2 ++ [(relK (ch z.1), 0)]).length = c + z.2.length + y.2.length + 1 := by
          rw [List.length_append, List.length_append]
          show c + (z.2.length + y.2.length + 1) = _
          omega
        rw [ec]
theorem cond_cmp (hT : TxM w0 len ch) {a d c n : Nat} {f v : Int32} {g h : Nat → Int32} (ha : a ≤ len) (h33 : ch a ≠ 33) (h40 : ch a ≠ 40) (N : Nat) : lp (condM (b + 77)) (N + 1) (mk b (smW w0 a f v d c n g h)) = (FX12_readsCompared (mk b (smW w0 a f v d c n g h)) (b + 77)).bind (fun w15 => if w15.1 = 0 then some (.inl ((0 : Int32), w15.2)) else CQ (b + 77) N FU w15.2) := by
  have hx := chm_le hT.2.2 a
  have t33 : (txv (ch a) = (33 : Int32)) ↔ ch a = 33 := tq hx (by decide)
  have t40 : (txv (ch a) = (40 : Int32)) ↔ ch a = 40 := tq hx (by decide)
  have hbd : condM (b + 77) (mk b (smW w0 a f v d c n g h)) = (FX12_readsCompared (mk b (smW w0 a f v d c n g h)) (b + 77)).bind (fun w15 => if w15.1 = 0 then some (Sum.inl (Sum.inl ((0 : Int32), w15.2))) else (lp (innB (b + 77)) FU w15.2).bind (lk (P := Int32 × HP) (fun r => (Sum.inl (Sum.inl r))) (restQ (b + 77)))) := by
    unfold condM
    rw [rc_12_77, sm_here hT ha, Option.bind_some, jn_eq, if_neg (fun z => h33 (t33.mp z)), Option.bind_some, if_neg (fun z => h40 (t40.mp z)), rc_12_77]
    rfl
  rw [lp, hbd]
  cases FX12_readsCompared (mk b (smW w0 a f v d c n g h)) (b + 77) with
  | none => rfl
  | some y =>
    rw [Option.bind_some, Option.bind_some]
    by_cases q : y.1 = 0
    · rw [if_pos q, if_pos q]
      rfl
    · rw [if_neg q, if_neg q]
      unfold CQ
      generalize (lp (innB (b + 77)) FU y.2).bind (lk (P := Int32 × HP) (fun r => (Sum.inl (Sum.inl r))) (restQ (b + 77))) = q2
      cases q2 with
      | none => rfl
      | some z => cases z <;> rfl
theorem bar_up {h h' : Nat → Int32} {n : Nat} (hb : bar h n) (he : ∀ i, i < n → h' i = h i) : bar h' n := by
  rcases hb with y | ⟨kd, z1, x, z2, z3, z4⟩
  · exact Or.inl y
  · rcases Nat.eq_zero_or_pos n with y | y
    · exact Or.inl y
    · exact Or.inr ⟨kd, z1, x, z2, z3, by rw [he (n - 1) (by omega)]; exact z4⟩
/-- the places of a test's jumps -/
def lay3 (g h : Nat → Int32) (n0 c0 : Nat) (oA oB : Option Cds) (C : Cds) : Prop := waitO h (n0 + 1) 12 c0 oA ∧ halfM g c0 12 oA ∧ waitO h (n0 + 1 + oneO oA) 11 (c0 + lenO oA) oB ∧ halfM g (c0 + lenO oA) 11 oB ∧ layd cM g (c0 + lenO oA + lenO oB) C
theorem waitO_cong {h h' : Nat → Int32} {m k p : Nat} {x : Option Cds} (he : ∀ i, i < m + oneO x → h' i = h i) (hw : waitO h m k p x) : waitO h' m k p x := by
  cases x with
  | none => trivial
  | some B =>
    have he : ∀ i, i < m + 1 → h' i = h i := he
    show h' m = _
    rw [he m (by omega)]
    exact hw
theorem somL_m (hT : TxM w0 len ch) {e d n0 c0 a0 : Nat} (hde : d + e = 6) (hF : TstM b w0 len ch e) (hn0 : n0 + 4 * e + 4 ≤ 100) (hc0 : c0 ≤ a0) : ∀ (nn a m : Nat) (f v : Int32) (g h : Nat → Int32) (oA oB : Option Cds) (C : Cds), len < a + nn → a0 < a → a ≤ len → m ≤ e → lenO oA + lenO oB + C.length ≤ a - a0 → h n0 = nI (1048576 * 13) → lay3 g h n0 c0 oA oB C → (match pSomL ch (pTsts ch e) nn a oA oB C with
    | .inl z => ∃ kk a' v' d' c' n' g' h', kk ≤ len + 1 - a ∧ ∀ N, CQ (b + 77) (N + kk) (FU - m) (mk b (smW w0 a f v d (c0 + lenO oA + lenO oB + C.length) (n0 + 1 + oneO oA + oneO oB) g h)) = some (.inl (0, mk b (smW w0 a' (flt z) v' d' c' n' g' h')))
    | .inr z => ∃ kk m' f' v' g' h' oA' oB' C', kk ≤ z.1 - a ∧ m' ≤ e ∧ (∀ N, CQ (b + 77) (N + kk) (FU - m) (mk b (smW w0 a f v d (c0 + lenO oA + lenO oB + C.length) (n0 + 1 + oneO oA + oneO oB) g h)) = CQ (b + 77) N (FU - m') (mk b (smW w0 z.1 f' v' d (c0 + lenO oA' + lenO oB' + C'.length) (n0 + 1 + oneO oA' + oneO oB') g' h'))) ∧ (∀ i, i < n0 + 1 → h' i = h i) ∧ (∀ i, i < c0 → g' i = g i) ∧ lay3 g' h' n0 c0 oA' oB' C' ∧ z.2 = jnd 12 oA' (jnd 11 oB' C') ∧ ch z.1 ≠ 38 ∧ ch z.1 ≠ 124 ∧ a ≤ z.1 ∧ z.1 ≤ len ∧ lenO oA' + lenO oB' + C'.length ≤ z.1 - a0) := by
  have hlen := hT.2.1
  intro nn
  induction nn with
  | zero =>
    intro a m f v g h oA oB C h1 h2 h3
    omega
  | succ nn ih =>
    intro a m f v g h oA oB C hnn haa ha hm hlen2 h13 hl3
    obtain ⟨wA, hA, wB, hB, hC⟩ := id hl3
    have o1 := one_le oA
    have o2 := one_le oB
    have hbl : barL h (n0 + 1) := ⟨13, Or.inl rfl, by omega, 0, by decide, by decide, by rw [Nat.add_sub_cancel]; exact h13⟩
    have hjl : (jnd 11 oB C).length = lenO oB + C.length := jnd_len 11 oB C
    have hjl2 : (jnd 12 oA (jnd 11 oB C)).length = lenO oA + (jnd 11 oB C).length := jnd_len 12 oA _
    -- what comes behind a sign: a test, from a new state
    have go : ∀ (k : Nat) (oA2 oB2 : Option Cds) (g2 h2 : Nat → Int32), (k = 11 ∨ k = 12) → a < len → c0 + lenO oA2 + lenO oB2 ≤ a + 1 → oneO oA2 + oneO oB2 ≤ 2 → h2 (n0 + oneO oA2 + oneO oB2) = nI (1048576 * k + (c0 + lenO oA2 + lenO oB2 - 1)) → h2 n0 = nI (1048576 * 13) → 0 < oneO oA2 + oneO oB2 → 0 < lenO oA2 + lenO oB2 → lenO oA2 + lenO oB2 ≤ a + 1 - a0 → (∀ C2, layd cM g2 (c0 + lenO oA2 + lenO oB2) C2 → lay3 g2 h2 n0 c0 oA2 oB2 C2) → waitO h2 (n0 + 1) 12 c0 oA2 → halfM g2 c0 12 oA2 → waitO h2 (n0 + 1 + oneO oA2) 11 (c0 + lenO oA2) oB2 → halfM g2 (c0 + lenO oA2) 11 oB2 → (∀ i, i < n0 + 1 → h2 i = h i) → (∀ i, i < c0 → g2 i = g i) → (∀ N, CQ (b + 77) N (FU - m) (mk b (smW w0 a f v d (c0 + lenO oA + lenO oB + C.length) (n0 + 1 + oneO oA + oneO oB) g h)) = lp (condM (b + 77)) N (mk b (smW w0 (a + 1) f v d (c0 + lenO oA2 + lenO oB2) (n0 + 1 + oneO oA2 + oneO oB2) g2 h2))) → (match (match pTsts ch e (a + 1) with
        | .inl z => .inl z
        | .inr (a', l) => pSomL ch (pTsts ch e) nn a' oA2 oB2 l : PR) with
      | .inl z => ∃ kk a' v' d' c' n' g' h', kk ≤ len + 1 - a ∧ ∀ N, CQ (b + 77) (N + kk) (FU - m) (mk b (smW w0 a f v d (c0 + lenO oA + lenO oB + C.length) (n0 + 1 + oneO oA + oneO oB) g h)) = some (.inl (0, mk b (smW w0 a' (flt z) v' d' c' n' g' h')))
      | .inr z => ∃ kk m' f' v' g' h' oA' oB' C', kk ≤ z.1 - a ∧ m' ≤ e ∧ (∀ N, CQ (b + 77) (N + kk) (FU - m) (mk b (smW w0 a f v d (c0 + lenO oA + lenO oB + C.length) (n0 + 1 + oneO oA + oneO oB) g h)) = CQ (b + 77) N (FU - m') (mk b (smW w0 z.1 f' v' d (c0 + lenO oA' + lenO oB' + C'.length) (n0 + 1 + oneO oA' + oneO oB') g' h'))) ∧ (∀ i, i < n0 + 1 → h' i = h i) ∧ (∀ i, i < c0 → g' i = g i) ∧ lay3 g' h' n0 c0 oA' oB' C' ∧ z.2 = jnd 12 oA' (jnd 11 oB' C') ∧ ch z.1 ≠ 38 ∧ ch z.1 ≠ 124 ∧ a ≤ z.1 ∧ z.1 ≤ len ∧ lenO oA' + lenO oB' + C'.length ≤ z.1 - a0) := by
      intro k oA2 oB2 g2 h2 hk hin hcb ho2 htop h13' hpos hpos2 hll hlay wA2 hA2 wB2 hB2 hhe hge hgo
      have hb2 : bar h2 (n0 + 1 + oneO oA2 + oneO oB2) := Or.inr ⟨k, by omega, c0 + lenO oA2 + lenO oB2 - 1, by omega, by omega, by rw [show n0 + 1 + oneO oA2 + oneO oB2 - 1 = n0 + oneO oA2 + oneO oB2 by omega]; exact htop⟩
      have t1 := hF (a + 1) d (c0 + lenO oA2 + lenO oB2) (n0 + 1 + oneO oA2 + oneO oB2) f v g2 h2 hde hin (by omega) (by omega) hb2 (by omega)
      have hfine := pTsts_fine hT.2.2.2 e (a + 1) hin
      cases hp : pTsts ch e (a + 1) with
      | inl z =>
        rw [hp] at t1
        obtain ⟨kk, a', v', d', c', n', g', h', q1, q2⟩ := t1
        refine ⟨kk, a', v', d', c', n', g', h', by omega, fun N => ?_⟩
        rw [hgo (N + kk)]
        exact q2 N
      | inr z =>
        rw [hp] at t1 hfine
        obtain ⟨k1, kN, kI, f3, v3, g3, h3, q1, q2, q3, q4, q5, q6, q7⟩ := t1
        obtain ⟨y1, y2, y3⟩ := hfine
        have htop3 : topK h3 (n0 + oneO oA2 + oneO oB2 + 1) k := ⟨c0 + lenO oA2 + lenO oB2 - 1, by omega, by omega, by rw [Nat.add_sub_cancel, q5 _ (by omega)]; exact htop⟩
        have est : ∀ N, CEm (b + 77) (FU - kN) N (FU - kI) (mk b (smW w0 z.1 f3 v3 d (c0 + lenO oA2 + lenO oB2 + z.2.length) (n0 + 1 + oneO oA2 + oneO oB2) g3 h3)) = CQ (b + 77) N (FU - kI) (mk b (smW w0 z.1 f3 v3 d (c0 + lenO oA2 + lenO oB2 + z.2.length) (n0 + 1 + oneO oA2 + oneO oB2) g3 h3)) := by
          intro N
          rw [show FU - kN = FU - kN - 1 + 1 by unfold FU; omega, show n0 + 1 + oneO oA2 + oneO oB2 = n0 + oneO oA2 + oneO oB2 + 1 by omega]
          refine end_stop (sm_top (by omega) htop3) ?_ _ _ _
          exact fun z => absurd (nI_inj (a := k) (b := 10) (by omega) (by decide) z) (by omega)
        have reach : ∀ N, CQ (b + 77) (N + k1) (FU - m) (mk b (smW w0 a f v d (c0 + lenO oA + lenO oB + C.length) (n0 + 1 + oneO oA + oneO oB) g h)) = CQ (b + 77) N (FU - kI) (mk b (smW w0 z.1 f3 v3 d (c0 + lenO oA2 + lenO oB2 + z.2.length) (n0 + 1 + oneO oA2 + oneO oB2) g3 h3)) := fun N => by
          rw [hgo (N + k1)]
          exact (q4 N).trans (est N)
        have hl3' : lay3 g3 h3 n0 c0 oA2 oB2 z.2 := ⟨waitO_cong (fun i hi => q5 i (by omega)) wA2, halfM_cong (fun i h5 h6 => q6 i (by omega)) hA2, waitO_cong (fun i hi => q5 i (by omega)) wB2, halfM_cong (fun i h5 h6 => q6 i (by omega)) hB2, q7⟩
        have hi := ih z.1 kI f3 v3 g3 h3 oA2 oB2 z.2 (by omega) (by omega) y2 (by omega) (by omega) (by rw [q5 n0 (by omega)]; exact h13') hl3'
        dsimp only
        cases hpl : pSomL ch (pTsts ch e) nn z.1 oA2 oB2 z.2 with
        | inl x =>
          rw [hpl] at hi
          obtain ⟨kk, a', v', d', c', n', g', h', r1, r2⟩ := hi
          refine ⟨kk + k1, a', v', d', c', n', g', h', by omega, fun N => ?_⟩
          rw [← Nat.add_assoc, reach (N + kk)]
          exact r2 N
        | inr x =>
          rw [hpl] at hi
          obtain ⟨kk, m', f', v', g', h', oA', oB', C', r1, r2, r3, r4, r5, r6, r7, r8, r9, r10, r11, r12⟩ := hi
          refine ⟨kk + k1, m', f', v', g', h', oA', oB', C', by omega, r2, fun N => ?_, fun i hi => by rw [r4 i hi, q5 i (by omega), hhe i hi], fun i hi => by rw [r5 i hi, q6 i (by omega), hge i hi], r6, r7, r8, r9, by omega, r11, r12⟩
          rw [← Nat.add_assoc, reach (N + kk)]
          exact r3 N
    have hFm : FU - m = FU - m - 1 + 1 := by unfold FU; omega
    by_cases h38 : ch a = 38
    · have hin := at_in hT.2.2.2 h38 (by decide)
      have hpure : pSomL ch (pTsts ch e) (nn + 1) a oA oB C = (match pTsts ch e (a + 1) with
          | .inl z => .inl z
          | .inr (a', l) => pSomL ch (pTsts ch e) nn a' oA (some (jnd 11 oB C)) l) := by
        conv => lhs; unfold pSomL
        rw [if_pos h38]
        cases pTsts ch e (a + 1) <;> rfl
      obtain ⟨g1, l1, l2, l3⟩ := lands0 (b := b) (w0 := w0) (a := a) (f := f) (v := v) (d := d) (n0 := n0 + 1) (c0 := c0) hbl (by omega) rfl (by omega) wA wB hB hC
      have hgo : ∀ N, CQ (b + 77) N (FU - m) (mk b (smW w0 a f v d (c0 + lenO oA + lenO oB + C.length) (n0 + 1 + oneO oA + oneO oB) g h)) = lp (condM (b + 77)) N (mk b (smW w0 (a + 1) f v d (c0 + lenO oA + lenO (some (jnd 11 oB C))) (n0 + 1 + oneO oA + oneO (some (jnd 11 oB C))) (upd g1 (c0 + lenO oA + lenO oB + C.length) (nI (1048576 * 11))) (upd h (n0 + 1 + oneO oA) (nI (1048576 * 11 + (c0 + lenO oA + lenO oB + C.length)))))) := by
        intro N
        rw [hFm, inn_out hT ha (by omega), rest_and hT ha h38 (by omega) (by omega) l1 (by omega), Option.bind_some]
        show lp (condM (b + 77)) N _ = lp (condM (b + 77)) N (mk b (smW w0 (a + 1) f v d (c0 + lenO oA + ((jnd 11 oB C).length + 1)) (n0 + 1 + oneO oA + 1) _ _))
        rw [hjl, show c0 + lenO oA + (lenO oB + C.length + 1) = c0 + lenO oA + lenO oB + C.length + 1 by omega]
      have hlO : lenO (some (jnd 11 oB C)) = (jnd 11 oB C).length + 1 := rfl
      have hoO : oneO (some (jnd 11 oB C)) = 1 := rfl
      have wB2 : waitO (upd h (n0 + 1 + oneO oA) (nI (1048576 * 11 + (c0 + lenO oA + lenO oB + C.length)))) (n0 + 1 + oneO oA) 11 (c0 + lenO oA) (some (jnd 11 oB C)) := by
        show upd h (n0 + 1 + oneO oA) _ (n0 + 1 + oneO oA) = nI (1048576 * 11 + (c0 + lenO oA + (jnd 11 oB C).length))
        rw [pk_us, hjl, ← Nat.add_assoc (c0 + lenO oA)]
      have wA2 : waitO (upd h (n0 + 1 + oneO oA) (nI (1048576 * 11 + (c0 + lenO oA + lenO oB + C.length)))) (n0 + 1) 12 c0 oA := waitO_cong (fun i hi => pk_un (by omega)) wA
      have hA2 : halfM (upd g1 (c0 + lenO oA + lenO oB + C.length) (nI (1048576 * 11))) c0 12 oA := halfM_cong (fun i h5 h6 => by rw [pk_un (by omega), l2 i (by omega)]) hA
      have hB2 : halfM (upd g1 (c0 + lenO oA + lenO oB + C.length) (nI (1048576 * 11))) (c0 + lenO oA) 11 (some (jnd 11 oB C)) := ⟨layd_cong _ _ (fun i h5 h6 => pk_un (by omega)) l3, by rw [hjl, ← Nat.add_assoc (c0 + lenO oA), pk_us]⟩
      rw [hpure]
      refine go 11 oA (some (jnd 11 oB C)) _ _ (Or.inl rfl) hin (by omega) (by omega) ?_ (by rw [pk_un (by omega)]; exact h13) (by omega) (by omega) (by omega) (fun C2 hC2 => ⟨wA2, hA2, wB2, hB2, hC2⟩) wA2 hA2 wB2 hB2 (fun i hi => pk_un (by omega)) (fun i hi => by rw [pk_un (by omega), l2 i (by omega)]) hgo
      rw [hoO, show n0 + oneO oA + 1 = n0 + 1 + oneO oA by omega, pk_us, hlO, hjl]
      congr 2
      omega
    · by_cases h124 : ch a = 124
      · have hin := at_in hT.2.2.2 h124 (by decide)
        have hpure : pSomL ch (pTsts ch e) (nn + 1) a oA oB C = (match pTsts ch e (a + 1) with
            | .inl z => .inl z
            | .inr (a', l) => pSomL ch (pTsts ch e) nn a' (some (jnd 12 oA (jnd 11 oB C))) none l) := by
          conv => lhs; unfold pSomL
          rw [if_neg h38, if_pos h124]
          cases pTsts ch e (a + 1) <;> rfl
        obtain ⟨g1, l1, l2, l3⟩ := lands1 (b := b) (w0 := w0) (a := a) (f := f) (v := v) (d := d) (n0 := n0 + 1) (c0 := c0) hbl (by omega) rfl (by omega) wA hA wB hB hC
        have hlO : lenO (some (jnd 12 oA (jnd 11 oB C))) = (jnd 12 oA (jnd 11 oB C)).length + 1 := rfl
        have hoO : oneO (some (jnd 12 oA (jnd 11 oB C))) = 1 := rfl
        have hl0 : lenO (none : Option Cds) = 0 := rfl
        have ho0 : oneO (none : Option Cds) = 0 := rfl
        have hgo : ∀ N, CQ (b + 77) N (FU - m) (mk b (smW w0 a f v d (c0 + lenO oA + lenO oB + C.length) (n0 + 1 + oneO oA + oneO oB) g h)) = lp (condM (b + 77)) N (mk b (smW w0 (a + 1) f v d (c0 + lenO (some (jnd 12 oA (jnd 11 oB C))) + lenO (none : Option Cds)) (n0 + 1 + oneO (some (jnd 12 oA (jnd 11 oB C))) + oneO (none : Option Cds)) (upd g1 (c0 + lenO oA + lenO oB + C.length) (nI (1048576 * 12))) (upd h (n0 + 1) (nI (1048576 * 12 + (c0 + lenO oA + lenO oB + C.length)))))) := by
          intro N
          rw [hFm, inn_out hT ha (by omega), rest_or hT ha h124 (by omega) (by omega) l1 (by omega), Option.bind_some, hlO, hoO, hl0, ho0, hjl2, hjl, show c0 + (lenO oA + (lenO oB + C.length) + 1) + 0 = c0 + lenO oA + lenO oB + C.length + 1 by omega]
        have wA2 : waitO (upd h (n0 + 1) (nI (1048576 * 12 + (c0 + lenO oA + lenO oB + C.length)))) (n0 + 1) 12 c0 (some (jnd 12 oA (jnd 11 oB C))) := by
          show upd h (n0 + 1) _ (n0 + 1) = nI (1048576 * 12 + (c0 + (jnd 12 oA (jnd 11 oB C)).length))
          rw [pk_us, hjl2, hjl]
          congr 2
          omega
        have hA2 : halfM (upd g1 (c0 + lenO oA + lenO oB + C.length) (nI (1048576 * 12))) c0 12 (some (jnd 12 oA (jnd 11 oB C))) := ⟨layd_cong _ _ (fun i h5 h6 => pk_un (by omega)) l3, by rw [hjl2, hjl, show c0 + (lenO oA + (lenO oB + C.length)) = c0 + lenO oA + lenO oB + C.length by omega, pk_us]⟩
        rw [hpure]
        refine go 12 (some (jnd 12 oA (jnd 11 oB C))) none _ _ (Or.inr rfl) hin (by omega) (by omega) ?_ (by rw [pk_un (by omega)]; exact h13) (by omega) (by omega) (by omega) (fun C2 hC2 => ⟨wA2, hA2, trivial, trivial, hC2⟩) wA2 hA2 trivial trivial (fun i hi => pk_un (by omega)) (fun i hi => by rw [pk_un (by omega), l2 i (by omega)]) hgo
        rw [hoO, ho0, Nat.add_zero, pk_us, hlO, hl0, hjl2, hjl]
        congr 2
        omega
      · have hpure : pSomL ch (pTsts ch e) (nn + 1) a oA oB C = .inr (a, jnd 12 oA (jnd 11 oB C)) := by
          conv => lhs; unfold pSomL
          rw [if_neg h38, if_neg h124]
        rw [hpure]
        exact ⟨0, m, f, v, g, h, oA, oB, C, Nat.zero_le _, hm, fun N => rfl, fun _ _ => rfl, fun _ _ => rfl, hl3, rfl, h38, h124, Nat.le_refl _, ha, hlen2⟩
end
