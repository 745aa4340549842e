/-! the reference reads conditions and rules -/
def raW (w0 : WD) (l1 l2 l3 l4 : Nat → Int32) (r : Nat) : WD := uI (uA (uA (uA (uA w0 86 l1) 87 l2) 88 l3) 89 l4) 77 22 (nI r)
section
variable {w0 : WD} {a d c n r : Nat} {f v : Int32} {g h l1 l2 l3 l4 : Nat → Int32}
theorem sm_arr {j : Nat} (h1 : j ≠ 84) (h2 : j ≠ 85) (x : Nat → Int32) : uA (smW w0 a f v d c n g h) j x = smW (uA w0 j x) a f v d c n g h := by
  refine sm_ext (fun _ _ => rfl) (fun i => ?_) _
  show (if i = j then x else if i = 84 then g else if i = 85 then h else w0.2.1 i) = (if i = 84 then g else if i = 85 then h else if i = j then x else w0.2.1 i)
  by_cases q : i = j
  · rw [if_pos q, if_neg (by omega), if_neg (by omega), if_pos q]
  · rw [if_neg q, if_neg q]
theorem sm_22 (x : Int32) : uI (smW w0 a f v d c n g h) 77 22 x = smW (uI w0 77 22 x) a f v d c n g h := by
  refine sm_ext (fun j k => ?_) (fun _ => rfl) _
  show (if j = 77 ∧ k = 22 then x else if j = 77 ∧ (15 ≤ k ∧ k ≤ 21 ∧ k ≠ 16) then fx a f v d c n k else w0.1 j k) = (if j = 77 ∧ (15 ≤ k ∧ k ≤ 21 ∧ k ≠ 16) then fx a f v d c n k else if j = 77 ∧ k = 22 then x else w0.1 j k)
  by_cases q : j = 77 ∧ k = 22
  · rw [if_pos q, if_neg (by omega), if_pos q]
  · rw [if_neg q, if_neg q]
theorem ra_1 (x : Nat → Int32) : uA (smW (raW w0 l1 l2 l3 l4 r) a f v d c n g h) 86 x = smW (raW w0 x l2 l3 l4 r) a f v d c n g h := by
  rw [sm_arr (by decide) (by decide)]
  congr 1
  show uI (uA (uA (uA (uA (uA w0 86 l1) 87 l2) 88 l3) 89 l4) 86 x) 77 22 (nI r) = _
  rw [uA_swap _ (by decide), uA_swap (uA (uA w0 86 l1) 87 l2) (by decide), uA_swap (uA w0 86 l1) (by decide), uA_uA]
  rfl
theorem ra_2 (x : Nat → Int32) : uA (smW (raW w0 l1 l2 l3 l4 r) a f v d c n g h) 87 x = smW (raW w0 l1 x l3 l4 r) a f v d c n g h := by
  rw [sm_arr (by decide) (by decide)]
  congr 1
  show uI (uA (uA (uA (uA (uA w0 86 l1) 87 l2) 88 l3) 89 l4) 87 x) 77 22 (nI r) = _
  rw [uA_swap _ (by decide), uA_swap (uA (uA w0 86 l1) 87 l2) (by decide), uA_uA]
  rfl
theorem ra_3 (x : Nat → Int32) : uA (smW (raW w0 l1 l2 l3 l4 r) a f v d c n g h) 88 x = smW (raW w0 l1 l2 x l4 r) a f v d c n g h := by
  rw [sm_arr (by decide) (by decide)]
  congr 1
  show uI (uA (uA (uA (uA (uA w0 86 l1) 87 l2) 88 l3) 89 l4) 88 x) 77 22 (nI r) = _
  rw [uA_swap _ (by decide), uA_uA]
  rfl
theorem ra_4 (x : Nat → Int32) : uA (smW (raW w0 l1 l2 l3 l4 r) a f v d c n g h) 89 x = smW (raW w0 l1 l2 l3 x r) a f v d c n g h := by
  rw [sm_arr (by decide) (by decide)]
  congr 1
  show uI (uA (uA (uA (uA (uA w0 86 l1) 87 l2) 88 l3) 89 l4) 89 x) 77 22 (nI r) = _
  rw [uA_uA]
  rfl
theorem ra_5 (r' : Nat) : uI (smW (raW w0 l1 l2 l3 l4 r) a f v d c n g h) 77 22 (nI r') = smW (raW w0 l1 l2 l3 l4 r') a f v d c n g h := by
  rw [sm_22]
  congr 1
  unfold raW
  rw [uI_uI]
theorem ra_T {len : Nat} {ch : Nat → Nat} (hT : TxM w0 len ch) : TxM (raW w0 l1 l2 l3 l4 r) len ch := hT
theorem ra_22 : (smW (raW w0 l1 l2 l3 l4 r) a f v d c n g h).1 77 22 = nI r := rfl
theorem ra_86 : (smW (raW w0 l1 l2 l3 l4 r) a f v d c n g h).2.1 86 = l1 := rfl
theorem ra_87 : (smW (raW w0 l1 l2 l3 l4 r) a f v d c n g h).2.1 87 = l2 := rfl
theorem ra_88 : (smW (raW w0 l1 l2 l3 l4 r) a f v d c n g h).2.1 88 = l3 := rfl
theorem ra_89 : (smW (raW w0 l1 l2 l3 l4 r) a f v d c n g h).2.1 89 = l4 := rfl
end
/-- a condition in brackets -/
def pCond (ch : Nat → Nat) (a : Nat) : PR := if ch a = 40 then (match pSom ch 5 (a + 1) with
  | .inl z => .inl z
  | .inr (a2, T) => if ch a2 = 41 then .inr (a2 + 1, T) else .inl (1, a2)) else .inl (1, a)
section
variable {b : Nat} {w0 : WD} {len : Nat} {ch : Nat → Nat}
theorem cond_m (hT : TxM w0 len ch) {a d c n : Nat} {f v : Int32} {g h : Nat → Int32} (ha : a ≤ len) (hc : c ≤ a) : match pCond ch a with
    | .inl z => ∃ a' v' d' c' n' g' h', FX12_readsCondition (mk b (smW w0 a f v d c n g h)) (b + 77) = some (0, mk b (smW w0 a' (flt z) v' d' c' n' g' h'))
    | .inr z => ∃ f' v' d' n' g' h', FX12_readsCondition (mk b (smW w0 a f v d c n g h)) (b + 77) = some (1, mk b (smW w0 z.1 f' v' d' (c + z.2.length) n' g' h')) ∧ (∀ i, i < c → g' i = g i) ∧ layd cM g' c z.2 ∧ c + z.2.length ≤ z.1 ∧ z.1 ≤ len := by
  have hlen := hT.2.1
  have hx := chm_le hT.2.2 a
  have t40 : (txv (ch a) = (40 : Int32)) ↔ ch a = 40 := tq hx (by decide)
  unfold pCond FX12_readsCondition
  rw [rc_12_77, sm_here hT ha, Option.bind_some]
  by_cases h40 : ch a = 40
  · have hl := at_in hT.2.2.2 h40 (by decide)
    have e := sm_opens (b := b) (w0 := w0) (a := a) (f := f) (v := v) (d := 0) (c := c) (n := 0) (g := g) (h := h) (by decide) (by decide) 13
    rw [if_neg (by decide)] at e
    have e : FX12_opens (mk b (smW w0 a f v 0 c 0 g h)) (b + 77) (13 : Int32) = some (1, mk b (smW w0 (a + 1) f v 1 c 1 g (upd h 0 (nI (1048576 * 13))))) := e
    rw [if_pos (t40.mpr h40), if_pos h40, sI_12_77_19, Option.bind_some, show (0 : Int32) = nI 0 from rfl, sm_u19, sI_12_77_21, Option.bind_some, sm_u21, rc_12_77, e, Option.bind_some]
    dsimp only
    rw [if_neg (show ¬ (1 : Int32) = nI 0 by decide)]
    have s1 := som_m (b := b) (f := f) (v := v) (g := g) (e := 5) (a := a + 1) (d := 1) (c := c) (n0 := 0) (h := upd h 0 (nI (1048576 * 13))) hT (by decide) (tests_m hT 5) hl (by omega) (by decide) pk_us
    show match (match pSomB ch (pTsts ch 5) (a + 1) with
      | .inl z => .inl z
      | .inr (a2, T) => if ch a2 = 41 then .inr (a2 + 1, T) else .inl (1, a2) : PR) with
      | .inl z => ∃ a' v' d' c' n' g' h', (lp (condM (b + 77)) FU (mk b (smW w0 (a + 1) f v 1 c 1 g (upd h 0 (nI (1048576 * 13)))))).bind (lk (P := Int32 × HP) (fun r => r) (fun (y6 : HP) => none)) = some (0, mk b (smW w0 a' (flt z) v' d' c' n' g' h'))
      | .inr z => ∃ f' v' d' n' g' h', (lp (condM (b + 77)) FU (mk b (smW w0 (a + 1) f v 1 c 1 g (upd h 0 (nI (1048576 * 13)))))).bind (lk (P := Int32 × HP) (fun r => r) (fun (y6 : HP) => none)) = some (1, mk b (smW w0 z.1 f' v' d' (c + z.2.length) n' g' h')) ∧ (∀ i, i < c → g' i = g i) ∧ layd cM g' c z.2 ∧ c + z.2.length ≤ z.1 ∧ z.1 ≤ len
    cases hps : pSomB ch (pTsts ch 5) (a + 1) with
    | inl z =>
      rw [hps] at s1
      obtain ⟨kk, a', v', d', c', n', g', h', q1, q2⟩ := s1
      have e1 := q2 (FU - kk)
      rw [show FU - kk + kk = FU by unfold FU; omega] at e1
      refine ⟨a', v', d', c', n', g', h', ?_⟩
      rw [e1]
      rfl
    | inr z =>
      rw [hps] at s1
      obtain ⟨kk, m', f', v', g', h', oA', oB', C', r1, r2, r3, r4, r5, r6, r7, r8, r9, r10, r11, r12⟩ := s1
      obtain ⟨wA, hA, wB, hB, hC⟩ := r6
      have h13' : h' 0 = nI (1048576 * 13) := by rw [r4 0 (by omega), pk_us]
      have o1 := one_le oA'
      have o2 := one_le oB'
      have hjl : (jnd 11 oB' C').length = lenO oB' + C'.length := jnd_len 11 oB' C'
      have hjl2 : (jnd 12 oA' (jnd 11 oB' C')).length = lenO oA' + (jnd 11 oB' C').length := jnd_len 12 oA' _
      have reach : lp (condM (b + 77)) FU (mk b (smW w0 (a + 1) f v 1 c 1 g (upd h 0 (nI (1048576 * 13))))) = CQ (b + 77) (FU - kk) (FU - m' - 1 + 1) (mk b (smW w0 z.1 f' v' (0 + 1) (c + lenO oA' + lenO oB' + C'.length) (0 + 1 + oneO oA' + oneO oB') g' h')) := by
        have := r3 (FU - kk)
        rw [show FU - kk + kk = FU by unfold FU; omega] at this
        rw [show FU - m' - 1 + 1 = FU - m' by unfold FU; omega]
        exact this
      dsimp only
      rw [reach]
      by_cases h41 : ch z.1 = 41
      · rw [if_pos h41]
        have hl41 := at_in hT.2.2.2 h41 (by decide)
        obtain ⟨g4, s1, s2, s3⟩ := grp_close (b := b) (w0 := w0) (a := z.1) (d := 0) (f := f') (v := v') hT r11 h41 h13' (by decide) (rfl : c + lenO oA' + lenO oB' + C'.length = c + lenO oA' + lenO oB' + C'.length) (by omega) wA hA wB hB hC (FU - m' - 1)
        have ec : c + z.2.length = c + lenO oA' + lenO oB' + C'.length := by
          rw [r7, hjl2, hjl]
          omega
        refine ⟨f', v', 0, 0, g4, h', ?_, fun i hi => by rw [s2 i hi]; exact r5 i hi, by dsimp only; rw [r7]; exact s3, by show c + z.2.length ≤ z.1 + 1; omega, hl41⟩
        rw [s1, if_pos rfl]
        dsimp only
        rw [ec]
        rfl
      · rw [if_neg h41]
        refine ⟨z.1, v', 0 + 1, c + lenO oA' + lenO oB' + C'.length, 0 + 1 + oneO oA' + oneO oB', g', h', ?_⟩
        rw [inn_out hT r11 h41, rest_bad hT r11 r8 r9]
        rfl
  · rw [if_neg (fun z => h40 (t40.mp z)), if_neg h40, gI_12_77_15, Option.bind_some, sm_15, rc_12_77]
    have e := sm_wrong (b := b) (w0 := w0) (a := a) (f := f) (v := v) (d := d) (c := c) (n := n) (g := g) (h := h) 1 a
    have e : FX12_wrongAt (mk b (smW w0 a f v d c n g h)) (b + 77) (1 : Int32) (nI a) = _ := e
    rw [e, Option.bind_some]
    unfold bz
    rw [if_pos (Or.inl rfl)]
    exact ⟨_, _, _, _, _, _, _, rfl⟩
/-- a rule, or what is wrong where one must stand -/
def pRul (ch : Nat → Nat) (r a : Nat) : (Nat × Nat) ⊕ (Nat × Rul) := if isKd (ch a) then (if r = 16 then .inl (4, a) else pRule ch a) else .inl (1, a)
theorem pRule_cond (a : Nat) : pRule ch a = (match (if ch a = 120 then (.inr (a + 1, []) : PR) else pSum ch 6 (a + 1)) with
    | .inl z => .inl z
    | .inr (a1, W) => match pCond ch a1 with
      | .inl z => .inl z
      | .inr (a2, T) => .inr (a2, (ch a, W, T))) := by
  unfold pRule
  cases (if ch a = 120 then (.inr (a + 1, []) : PR) else pSum ch 6 (a + 1)) with
  | inl z => rfl
  | inr z =>
    dsimp only
    unfold pCond
    by_cases h40 : ch z.1 = 40
    · rw [if_pos h40, if_pos h40]
      cases pSom ch 5 (z.1 + 1) with
      | inl y => rfl
      | inr y =>
        dsimp only
        by_cases h41 : ch y.1 = 41
        · rw [if_pos h41, if_pos h41]
        · rw [if_neg h41, if_neg h41]
    · rw [if_neg h40, if_neg h40]
theorem rule_m (hT : TxM w0 len ch) {a d c n r : Nat} {f v : Int32} {g h l1 l2 l3 l4 : Nat → Int32} (ha : a ≤ len) (hc : c ≤ a) (hr : r ≤ 16) : match pRul ch r a with
    | .inl z => ∃ a' v' d' c' n' g' h' k1 k2 k3 k4 r', FX12_readsRule (mk b (smW (raW w0 l1 l2 l3 l4 r) a f v d c n g h)) (b + 77) = some (0, mk b (smW (raW w0 k1 k2 k3 k4 r') a' (flt z) v' d' c' n' g' h'))
    | .inr z => ∃ f' v' d' n' g' h', FX12_readsRule (mk b (smW (raW w0 l1 l2 l3 l4 r) a f v d c n g h)) (b + 77) = some (1, mk b (smW (raW w0 (upd l1 r (nI z.2.1)) (upd l2 r (nI c)) (upd l3 r (nI (c + z.2.2.1.length))) (upd l4 r (nI (c + z.2.2.1.length + z.2.2.2.length))) (r + 1)) z.1 f' v' d' (c + z.2.2.1.length + z.2.2.2.length) n' g' h')) ∧ (∀ i, i < c → g' i = g i) ∧ layd cM g' c z.2.2.1 ∧ layd cM g' (c + z.2.2.1.length) z.2.2.2 ∧ c + z.2.2.1.length + z.2.2.2.length ≤ z.1 ∧ z.1 ≤ len := by
  have hlen := hT.2.1
  have hx := chm_le hT.2.2 a
  have t100 : (txv (ch a) = (100 : Int32)) ↔ ch a = 100 := tq hx (by decide)
  have t103 : (txv (ch a) = (103 : Int32)) ↔ ch a = 103 := tq hx (by decide)
  have t120 : (txv (ch a) = (120 : Int32)) ↔ ch a = 120 := tq hx (by decide)
  unfold pRul FX12_readsRule
  rw [rc_12_77, sm_here (ra_T hT) ha, Option.bind_some, jn_eq]
  have wr : ∀ m : Nat, (gI [12] 15 (mk b (smW (raW w0 l1 l2 l3 l4 r) a f v d c n g h)) (b + 77)).bind (fun v32 => (rc [12] (mk b (smW (raW w0 l1 l2 l3 l4 r) a f v d c n g h)) (b + 77) (FX12_wrongAt (mk b (smW (raW w0 l1 l2 l3 l4 r) a f v d c n g h)) (b + 77) (nI m) v32)).bind (fun w33 => bz w33.1 (some (w33.1, w33.2)))) = some (0, mk b (smW (raW w0 l1 l2 l3 l4 r) a (flt (m, a)) v d c n g h)) := by
    intro m
    rw [gI_12_77_15, Option.bind_some, sm_15, rc_12_77, sm_wrong, Option.bind_some]
    unfold bz
    rw [if_pos (Or.inl rfl)]
  cases hk : isKd (ch a) with
  | false =>
    have hkd : ch a ≠ 100 ∧ ch a ≠ 103 ∧ ch a ≠ 120 := by
      unfold isKd at hk
      rw [Bool.or_eq_false_iff, Bool.or_eq_false_iff, beq_eq_false_iff_ne, beq_eq_false_iff_ne, beq_eq_false_iff_ne] at hk
      exact ⟨hk.1.1, hk.1.2, hk.2⟩
    rw [if_neg (show ¬ false = true by decide), if_neg (fun z => hkd.1 (t100.mp z)), if_neg (fun z => hkd.2.1 (t103.mp z)), if_neg (fun z => hkd.2.2 (t120.mp z))]
    exact ⟨_, _, _, _, _, _, _, _, _, _, _, _, wr 1⟩
  | true =>
    have hkd : ch a = 100 ∨ ch a = 103 ∨ ch a = 120 := by
      unfold isKd at hk
      rw [Bool.or_eq_true, Bool.or_eq_true, beq_iff_eq, beq_iff_eq, beq_iff_eq] at hk
      omega
    have etx : txv (ch a) = nI (ch a) := by
      unfold txv
      rw [if_neg (by omega)]
    have hal : a < len := by
      rcases Nat.lt_or_ge a len with z | z
      · exact z
      · rw [hT.2.2.2 a z] at hk
        cases hk
    rw [if_pos rfl]
    have main : ∀ (G : Option (Int32 × HP)), G = (gI [12] 22 (mk b (smW (raW w0 l1 l2 l3 l4 r) a f v d c n g h)) (b + 77)).bind (fun v4 => if v4 = (16 : Int32) then (gI [12] 15 (mk b (smW (raW w0 l1 l2 l3 l4 r) a f v d c n g h)) (b + 77)).bind (fun v5 => (rc [12] (mk b (smW (raW w0 l1 l2 l3 l4 r) a f v d c n g h)) (b + 77) (FX12_wrongAt (mk b (smW (raW w0 l1 l2 l3 l4 r) a f v d c n g h)) (b + 77) (4 : Int32) v5)).bind (fun w6 => bz w6.1 (some (w6.1, w6.2)))) else (gR [12] 26 (mk b (smW (raW w0 l1 l2 l3 l4 r) a f v d c n g h)) (b + 77)).bind (fun v7 => (gI [12] 22 (mk b (smW (raW w0 l1 l2 l3 l4 r) a f v d c n g h)) (b + 77)).bind (fun v8 => (wrI (mk b (smW (raW w0 l1 l2 l3 l4 r) a f v d c n g h)) v7 v8 (txv (ch a))).bind (fun hp9 => (gI [12] 15 hp9 (b + 77)).bind (fun v10 => (sI [12] 15 hp9 (b + 77) (v10 + (1 : Int32))).bind (fun hp11 => (gR [12] 27 hp11 (b + 77)).bind (fun v12 => (gI [12] 22 hp11 (b + 77)).bind (fun v13 => (gI [12] 20 hp11 (b + 77)).bind (fun v14 => (wrI hp11 v12 v13 v14).bind (fun hp15 => (sI [12] 19 hp15 (b + 77) (0 : Int32)).bind (fun hp16 => (sI [12] 21 hp16 (b + 77) (0 : Int32)).bind (fun hp17 => jn (A := HP) (fun a18 => (gR [12] 28 a18 (b + 77)).bind (fun v20 => (gI [12] 22 a18 (b + 77)).bind (fun v21 => (gI [12] 20 a18 (b + 77)).bind (fun v22 => (wrI a18 v20 v21 v22).bind (fun hp23 => (rc [12] hp23 (b + 77) (FX12_readsCondition hp23 (b + 77))).bind (fun w24 => if w24.1 = 0 then some ((0 : Int32), w24.2) else (gR [12] 29 w24.2 (b + 77)).bind (fun v25 => (gI [12] 22 w24.2 (b + 77)).bind (fun v26 => (gI [12] 20 w24.2 (b + 77)).bind (fun v27 => (wrI w24.2 v25 v26 v27).bind (fun hp28 => (gI [12] 22 hp28 (b + 77)).bind (fun v29 => (sI [12] 22 hp28 (b + 77) (v29 + (1 : Int32))).bind (fun hp30 => some ((1 : Int32), hp30))))))))))))) (fun J19 => if txv (ch a) = (120 : Int32) then J19 hp17 else (rc [12] hp17 (b + 77) (FX12_readsSum hp17 (b + 77))).bind (fun w31 => if w31.1 = 0 then some ((0 : Int32), w31.2) else J19 w31.2)))))))))))))) → (match (if r = 16 then .inl (4, a) else pRule ch a : (Nat × Nat) ⊕ (Nat × Rul)) with
        | .inl z => ∃ a' v' d' c' n' g' h' k1 k2 k3 k4 r', G = some (0, mk b (smW (raW w0 k1 k2 k3 k4 r') a' (flt z) v' d' c' n' g' h'))
        | .inr z => ∃ f' v' d' n' g' h', G = some (1, mk b (smW (raW w0 (upd l1 r (nI z.2.1)) (upd l2 r (nI c)) (upd l3 r (nI (c + z.2.2.1.length))) (upd l4 r (nI (c + z.2.2.1.length + z.2.2.2.length))) (r + 1)) z.1 f' v' d' (c + z.2.2.1.length + z.2.2.2.length) n' g' h')) ∧ (∀ i, i < c → g' i = g i) ∧ layd cM g' c z.2.2.1 ∧ layd cM g' (c + z.2.2.1.length) z.2.2.2 ∧ c + z.2.2.1.length + z.2.2.2.length ≤ z.1 ∧ z.1 ≤ len) := by
      intro G hG
      rw [hG, gI_12_77_22, Option.bind_some, ra_22]
      by_cases h16 : r = 16
      · rw [if_pos h16, if_pos (show nI r = (16 : Int32) by rw [h16]; rfl)]
        exact ⟨_, _, _, _, _, _, _, _, _, _, _, _, wr 4⟩
      · have n16 : ¬ nI r = (16 : Int32) := fun z => h16 (nI_inj (a := r) (b := 16) (by omega) (by decide) z)
        rw [if_neg h16, if_neg n16, gR_12_77_26, Option.bind_some, Option.bind_some, wrI_mk (j := 86) (n := 16) (by decide +kernel) b _ (by omega), Option.bind_some, ra_86, ra_1, gI_12_77_15, Option.bind_some, sm_15, nI_1, sI_12_77_15, Option.bind_some, sm_u15, gR_12_77_27, Option.bind_some, gI_12_77_22, Option.bind_some, ra_22, gI_12_77_20, Option.bind_some, sm_20, wrI_mk (j := 87) (n := 16) (by decide +kernel) b _ (by omega), Option.bind_some, ra_87, ra_2, show (0 : Int32) = nI 0 from rfl, sI_12_77_19, Option.bind_some, sm_u19, sI_12_77_21, Option.bind_some, sm_u21, jn_eq, pRule_cond, etx]
        -- behind the sum
        have tail : ∀ (a1 c1 d1 n1 : Nat) (f1 v1 : Int32) (g1 h1 : Nat → Int32) (W : Cds), a1 ≤ len → c1 = c + W.length → c1 ≤ a1 → (∀ i, i < c → g1 i = g i) → layd cM g1 c W → (match (match pCond ch a1 with
            | .inl z => .inl z
            | .inr (a2, T) => .inr (a2, (ch a, W, T)) : (Nat × Nat) ⊕ (Nat × Rul)) with
          | .inl z => ∃ a' v' d' c' n' g' h' k1 k2 k3 k4 r', (gR [12] 28 (mk b (smW (raW w0 (upd l1 r (nI (ch a))) (upd l2 r (nI c)) l3 l4 r) a1 f1 v1 d1 c1 n1 g1 h1)) (b + 77)).bind (fun v20 => (gI [12] 22 (mk b (smW (raW w0 (upd l1 r (nI (ch a))) (upd l2 r (nI c)) l3 l4 r) a1 f1 v1 d1 c1 n1 g1 h1)) (b + 77)).bind (fun v21 => (gI [12] 20 (mk b (smW (raW w0 (upd l1 r (nI (ch a))) (upd l2 r (nI c)) l3 l4 r) a1 f1 v1 d1 c1 n1 g1 h1)) (b + 77)).bind (fun v22 => (wrI (mk b (smW (raW w0 (upd l1 r (nI (ch a))) (upd l2 r (nI c)) l3 l4 r) a1 f1 v1 d1 c1 n1 g1 h1)) v20 v21 v22).bind (fun hp23 => (rc [12] hp23 (b + 77) (FX12_readsCondition hp23 (b + 77))).bind (fun w24 => if w24.1 = nI 0 then some (nI 0, w24.2) else (gR [12] 29 w24.2 (b + 77)).bind (fun v25 => (gI [12] 22 w24.2 (b + 77)).bind (fun v26 => (gI [12] 20 w24.2 (b + 77)).bind (fun v27 => (wrI w24.2 v25 v26 v27).bind (fun hp28 => (gI [12] 22 hp28 (b + 77)).bind (fun v29 => (sI [12] 22 hp28 (b + 77) (v29 + (1 : Int32))).bind (fun hp30 => some ((1 : Int32), hp30)))))))))))) = some (0, mk b (smW (raW w0 k1 k2 k3 k4 r') a' (flt z) v' d' c' n' g' h'))
          | .inr z => ∃ f' v' d' n' g' h', (gR [12] 28 (mk b (smW (raW w0 (upd l1 r (nI (ch a))) (upd l2 r (nI c)) l3 l4 r) a1 f1 v1 d1 c1 n1 g1 h1)) (b + 77)).bind (fun v20 => (gI [12] 22 (mk b (smW (raW w0 (upd l1 r (nI (ch a))) (upd l2 r (nI c)) l3 l4 r) a1 f1 v1 d1 c1 n1 g1 h1)) (b + 77)).bind (fun v21 => (gI [12] 20 (mk b (smW (raW w0 (upd l1 r (nI (ch a))) (upd l2 r (nI c)) l3 l4 r) a1 f1 v1 d1 c1 n1 g1 h1)) (b + 77)).bind (fun v22 => (wrI (mk b (smW (raW w0 (upd l1 r (nI (ch a))) (upd l2 r (nI c)) l3 l4 r) a1 f1 v1 d1 c1 n1 g1 h1)) v20 v21 v22).bind (fun hp23 => (rc [12] hp23 (b + 77) (FX12_readsCondition hp23 (b + 77))).bind (fun w24 => if w24.1 = nI 0 then some (nI 0, w24.2) else (gR [12] 29 w24.2 (b + 77)).bind (fun v25 => (gI [12] 22 w24.2 (b + 77)).bind (fun v26 => (gI [12] 20 w24.2 (b + 77)).bind (fun v27 => (wrI w24.2 v25 v26 v27).bind (fun hp28 => (gI [12] 22 hp28 (b + 77)).bind (fun v29 => (sI [12] 22 hp28 (b + 77) (v29 + (1 : Int32))).bind (fun hp30 => some ((1 : Int32), hp30)))))))))))) = some (1, mk b (smW (raW w0 (upd l1 r (nI z.2.1)) (upd l2 r (nI c)) (upd l3 r (nI (c + z.2.2.1.length))) (upd l4 r (nI (c + z.2.2.1.length + z.2.2.2.length))) (r + 1)) z.1 f' v' d' (c + z.2.2.1.length + z.2.2.2.length) n' g' h')) ∧ (∀ i, i < c → g' i = g i) ∧ layd cM g' c z.2.2.1 ∧ layd cM g' (c + z.2.2.1.length) z.2.2.2 ∧ c + z.2.2.1.length + z.2.2.2.length ≤ z.1 ∧ z.1 ≤ len) := by
          intro a1 c1 d1 n1 f1 v1 g1 h1 W ha1 hc1 hca hg1 hl1
          rw [gR_12_77_28, Option.bind_some, gI_12_77_22, Option.bind_some, ra_22, gI_12_77_20, Option.bind_some, sm_20, wrI_mk (j := 88) (n := 16) (by decide +kernel) b _ (by omega), Option.bind_some, ra_88, ra_3, rc_12_77]
          have cm := cond_m (b := b) (w0 := raW w0 (upd l1 r (nI (ch a))) (upd l2 r (nI c)) (upd l3 r (nI c1)) l4 r) (d := d1) (n := n1) (f := f1) (v := v1) (g := g1) (h := h1) (ra_T hT) ha1 hca
          cases hpc : pCond ch a1 with
          | inl z =>
            rw [hpc] at cm
            obtain ⟨a', v', d', c', n', g', h', q1⟩ := cm
            rw [q1, Option.bind_some]
            exact ⟨a', v', d', c', n', g', h', _, _, _, _, _, rfl⟩
          | inr z =>
            rw [hpc] at cm
            obtain ⟨f2, v2, d2, n2, g2, h2, q1, q2, q3, q4, q5⟩ := cm
            rw [q1, Option.bind_some]
            dsimp only
            rw [if_neg (show ¬ (1 : Int32) = nI 0 by decide), gR_12_77_29, Option.bind_some, gI_12_77_22, Option.bind_some, ra_22, gI_12_77_20, Option.bind_some, sm_20, wrI_mk (j := 89) (n := 16) (by decide +kernel) b _ (by omega), Option.bind_some, ra_89, ra_4, gI_12_77_22, Option.bind_some, ra_22, nI_1, sI_12_77_22, Option.bind_some, ra_5]
            rw [hc1] at q2 q3 q4 ⊢
            exact ⟨f2, v2, d2, n2, g2, h2, rfl, fun i hi => by rw [q2 i (by omega)]; exact hg1 i hi, layd_cong W c (fun i h5 h6 => q2 i h6) hl1, q3, q4, q5⟩
        by_cases h120 : ch a = 120
        · rw [if_pos (show nI (ch a) = (120 : Int32) by rw [h120]; rfl), if_pos h120]
          exact tail (a + 1) c 0 0 f v g h [] hal rfl (by omega) (fun _ _ => rfl) trivial
        · have n120 : ¬ nI (ch a) = (120 : Int32) := fun z => h120 (nI_inj (a := ch a) (b := 120) (by omega) (by decide) z)
          rw [if_neg n120, if_neg h120, rc_12_77]
          have s1 := sum_m (b := b) (w0 := raW w0 (upd l1 r (nI (ch a))) (upd l2 r (nI c)) l3 l4 r) (e := 6) (a := a + 1) (d := 0) (c := c) (n := 0) (f := f) (v := v) (g := g) (h := h) (ra_T hT) (by decide) hal (by omega) (by decide) (Or.inl rfl)
          have hfine := pSum_fine hT.2.2.2 6 (show a + 1 ≤ len from hal)
          cases hps : pSum ch 6 (a + 1) with
          | inl z =>
            rw [hps] at s1
            obtain ⟨a', v', d', c', n', g', h', q1⟩ := s1
            rw [q1, Option.bind_some]
            exact ⟨a', v', d', c', n', g', h', _, _, _, _, _, rfl⟩
          | inr z =>
            rw [hps] at s1 hfine
            obtain ⟨f1, v1, g1, h1, q1, q2, q3, q4⟩ := s1
            obtain ⟨y1, y2, y3⟩ := hfine
            rw [q1, Option.bind_some]
            dsimp only
            rw [if_neg (show ¬ (1 : Int32) = nI 0 by decide)]
            exact tail z.1 (c + z.2.length) 0 0 f1 v1 g1 h1 z.2 y2 rfl (by omega) q3 q4
    rcases hkd with e | e | e
    · rw [if_pos (t100.mpr e)]
      exact main _ rfl
    · have n100 : ¬ txv (ch a) = (100 : Int32) := fun z => by rw [t100.mp z] at e; cases e
      rw [if_neg n100, if_pos (t103.mpr e)]
      exact main _ rfl
    · have n100 : ¬ txv (ch a) = (100 : Int32) := fun z => by rw [t100.mp z] at e; cases e
      have n103 : ¬ txv (ch a) = (103 : Int32) := fun z => by rw [t103.mp z] at e; cases e
      rw [if_neg n100, if_neg n103, if_pos (t120.mpr e)]
      exact main _ rfl
end
