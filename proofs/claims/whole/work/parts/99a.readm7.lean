/-! the reference reads tests, however deep; conditions -/
section
variable {b : Nat} {w0 : WD} {len : Nat} {ch : Nat → Nat}
/-- a group's inside, behind its opening -/
theorem som_m (hT : TxM w0 len ch) {e a d c n0 : Nat} {f v : Int32} {g h : Nat → Int32} (hde : d + e = 6) (hF : TstM b w0 len ch e) (ha : a ≤ len) (hc : c ≤ a) (hn0 : n0 + 4 * e + 4 ≤ 100) (h13 : h n0 = nI (1048576 * 13)) : match pSomB ch (pTsts ch e) a with
    | .inl z => ∃ kk a' v' d' c' n' g' h', kk ≤ len + 1 - a ∧ ∀ N, lp (condM (b + 77)) (N + kk) (mk b (smW w0 a f v d c (n0 + 1) g h)) = some (.inl (0, mk b (smW w0 a' (flt z) v' d' c' n' g' h')))
    | .inr z => ∃ kk m' f' v' g' h' oA' oB' C', kk ≤ z.1 - a ∧ m' ≤ e ∧ (∀ N, lp (condM (b + 77)) (N + kk) (mk b (smW w0 a f v d c (n0 + 1) g h)) = CQ (b + 77) N (FU - m') (mk b (smW w0 z.1 f' v' d (c + lenO oA' + lenO oB' + C'.length) (n0 + 1 + oneO oA' + oneO oB') g' h'))) ∧ (∀ i, i < n0 + 1 → h' i = h i) ∧ (∀ i, i < c → g' i = g i) ∧ lay3 g' h' n0 c oA' oB' C' ∧ z.2 = jnd 12 oA' (jnd 11 oB' C') ∧ ch z.1 ≠ 38 ∧ ch z.1 ≠ 124 ∧ a < z.1 ∧ z.1 ≤ len ∧ lenO oA' + lenO oB' + C'.length ≤ z.1 - a := by
  have hlen := hT.2.1
  have hb : bar h (n0 + 1) := Or.inr ⟨13, by decide, 0, by decide, by decide, by rw [Nat.add_sub_cancel]; exact h13⟩
  have t1 := hF a d c (n0 + 1) f v g h hde ha hc (by omega) hb (by omega)
  have hfine := pTsts_fine hT.2.2.2 e a ha
  unfold pSomB
  cases hp : pTsts ch e a with
  | inl z =>
    rw [hp] at t1
    obtain ⟨kk, a', v', d', c', n', g', h', q1, q2⟩ := t1
    exact ⟨kk, a', v', d', c', n', g', h', q1, q2⟩
  | inr z =>
    rw [hp] at t1 hfine
    obtain ⟨k1, kN, kI, f3, v3, g3, h3, q1, q2, q3, q4, q5, q6, q7⟩ := t1
    obtain ⟨y1, y2, y3⟩ := hfine
    have h13' : h3 n0 = nI (1048576 * 13) := by rw [q5 n0 (by omega)]; exact h13
    have htop : topK h3 (n0 + 1) 13 := ⟨0, by decide, by decide, by rw [Nat.add_sub_cancel]; exact h13'⟩
    have est : ∀ N, CEm (b + 77) (FU - kN) N (FU - kI) (mk b (smW w0 z.1 f3 v3 d (c + z.2.length) (n0 + 1) g3 h3)) = CQ (b + 77) N (FU - kI) (mk b (smW w0 z.1 f3 v3 d (c + z.2.length) (n0 + 1) g3 h3)) := by
      intro N
      rw [show FU - kN = FU - kN - 1 + 1 by unfold FU; omega]
      exact end_stop (sm_top (by omega) htop) (by decide) _ _ _
    have sl := somL_m (b := b) (d := d) (n0 := n0) (c0 := c) (a0 := a) hT hde hF hn0 hc 300 z.1 kI f3 v3 g3 h3 none none z.2 (by omega) y1 y2 (by omega) (by show 0 + 0 + z.2.length ≤ _; omega) h13' ⟨trivial, trivial, trivial, trivial, q7⟩
    dsimp only
    cases hpl : pSomL ch (pTsts ch e) 300 z.1 none none z.2 with
    | inl x =>
      rw [hpl] at sl
      obtain ⟨kk, a', v', d', c', n', g', h', r1, r2⟩ := sl
      refine ⟨kk + k1, a', v', d', c', n', g', h', by omega, fun N => ?_⟩
      rw [← Nat.add_assoc]
      exact (q4 (N + kk)).trans ((est (N + kk)).trans (r2 N))
    | inr x =>
      rw [hpl] at sl
      obtain ⟨kk, m', f', v', g', h', oA', oB', C', r1, r2, r3, r4, r5, r6, r7, r8, r9, r10, r11, r12⟩ := sl
      refine ⟨kk + k1, m', f', v', g', h', oA', oB', C', by omega, r2, fun N => ?_, fun i hi => by rw [r4 i hi, q5 i hi], fun i hi => by rw [r5 i hi, q6 i hi], r6, r7, r8, r9, by omega, r11, r12⟩
      rw [← Nat.add_assoc]
      exact (q4 (N + kk)).trans ((est (N + kk)).trans (r3 N))
theorem tests_m (hT : TxM w0 len ch) : ∀ e, TstM b w0 len ch e := by
  have hlen := hT.2.1
  -- a comparison
  have cmp : ∀ (e a d c n : Nat) (f v : Int32) (g h : Nat → Int32), d + e = 6 → a ≤ len → c ≤ a → n + 4 * e ≤ 100 → bar h n → 0 < n → ch a ≠ 33 → ch a ≠ 40 → LdT b w0 len e a d c n g h (pCmp ch (pSum ch e) a) (fun N => lp (condM (b + 77)) N (mk b (smW w0 a f v d c n g h))) := by
    intro e a d c n f v g h hd ha hc hn hb hn1 h33 h40
    have s1 := cmp_m (b := b) (f := f) (v := v) (g := g) hT hd ha hc hn hb
    have hfine := pCmp_fine hT.2.2.2 (fun a ha => pSum_fine hT.2.2.2 e ha) ha
    cases hp : pCmp ch (pSum ch e) a with
    | inl z =>
      rw [hp] at s1
      obtain ⟨a', v', d', c', n', g', h', q1⟩ := s1
      refine ⟨1, a', v', d', c', n', g', h', by omega, fun N => ?_⟩
      show lp (condM (b + 77)) (N + 1) _ = _
      rw [cond_cmp hT ha h33 h40, q1, Option.bind_some]
      rfl
    | inr z =>
      rw [hp] at s1 hfine
      obtain ⟨f1, v1, g1, h1, q1, q2, q3, q4⟩ := s1
      obtain ⟨y1, y2, y3⟩ := hfine
      refine ⟨1, 0, 0, f1, v1, g1, h1, by omega, Nat.zero_le _, Nat.zero_le _, fun N => ?_, q2, q3, q4⟩
      show lp (condM (b + 77)) (N + 1) _ = CEm (b + 77) (FU - 0) N (FU - 0) _
      rw [cond_cmp hT ha h33 h40, q1, Nat.sub_zero, ← CE_m]
      cases FX12_endsPiece (mk b (smW w0 z.1 f1 v1 d (c + z.2.length) n g1 h1)) (b + 77) <;> rfl
  intro e
  induction e with
  | zero =>
    intro a d c n f v g h hd ha hc hn hb hn1
    by_cases hop : ch a = 33 ∨ ch a = 40
    · have hp : pTsts ch 0 a = .inl (5, a) := by
        show pTstB ch (pSum ch 0) none a = _
        unfold pTstB
        rcases hop with q | q
        · rw [if_pos q]
        · rw [if_neg (by omega), if_pos q]
      rw [hp]
      refine ⟨1, a, v, d, c, n, g, h, by omega, fun N => ?_⟩
      show lp (condM (b + 77)) (N + 1) _ = _
      rw [cond_open hT ha hop (by omega) (by omega), if_pos (by omega)]
    · have h33 : ch a ≠ 33 := fun z => hop (Or.inl z)
      have h40 : ch a ≠ 40 := fun z => hop (Or.inr z)
      have hp : pTsts ch 0 a = pCmp ch (pSum ch 0) a := by
        show pTstB ch (pSum ch 0) none a = _
        unfold pTstB
        rw [if_neg h33, if_neg h40]
      rw [hp]
      exact cmp 0 a d c n f v g h hd ha hc hn hb hn1 h33 h40
  | succ e ih =>
    intro a d c n f v g h hd ha hc hn hb hn1
    by_cases h33 : ch a = 33
    · have hl := at_in hT.2.2.2 h33 (by decide)
      have hp : pTsts ch (e + 1) a = (match pTsts ch e (a + 1) with
          | .inl z => .inl z
          | .inr (a', l) => .inr (a', l ++ [(10, 0)])) := by
        show pTstB ch (pSum ch (e + 1)) (some (pTsts ch e, pSomB ch (pTsts ch e))) a = _
        unfold pTstB
        rw [if_pos h33]
        dsimp only
        cases pTsts ch e (a + 1) <;> rfl
      have hop : ∀ N, lp (condM (b + 77)) (N + 1) (mk b (smW w0 a f v d c n g h)) = lp (condM (b + 77)) N (mk b (smW w0 (a + 1) f v (d + 1) c (n + 1) g (upd h n (nI (1048576 * 10))))) := fun N => by
        rw [cond_open hT ha (Or.inl h33) (by omega) (by omega), if_neg (by omega), if_pos h33]
      have hb1 : bar (upd h n (nI (1048576 * 10))) (n + 1) := Or.inr ⟨10, by decide, 0, by decide, by decide, by rw [Nat.add_sub_cancel, pk_us]⟩
      have t1 := ih (a + 1) (d + 1) c (n + 1) f v g (upd h n (nI (1048576 * 10))) (by omega) hl (by omega) (by omega) hb1 (by omega)
      have hfine := pTsts_fine hT.2.2.2 e (a + 1) hl
      rw [hp]
      cases hpt : pTsts ch e (a + 1) with
      | inl z =>
        rw [hpt] at t1
        obtain ⟨kk, a', v', d', c', n', g', h', q1, q2⟩ := t1
        refine ⟨kk + 1, a', v', d', c', n', g', h', by omega, fun N => ?_⟩
        show lp (condM (b + 77)) (N + (kk + 1)) _ = _
        rw [← Nat.add_assoc, hop (N + kk)]
        exact q2 N
      | inr z =>
        rw [hpt] at t1 hfine
        obtain ⟨k1, kN, kI, f3, v3, g3, h3, q1, q2, q3, q4, q5, q6, q7⟩ := t1
        obtain ⟨y1, y2, y3⟩ := hfine
        have h10 : h3 n = nI (1048576 * 10) := by rw [q5 n (by omega), pk_us]
        refine ⟨k1 + 1, kN + 1, kI, f3, v3, upd g3 (c + z.2.length) (nI (1048576 * 10)), h3, by show k1 + 1 ≤ z.1 - a; omega, by omega, by omega, fun N => ?_, fun i hi => by rw [q5 i (by omega), pk_un (by omega)], fun i hi => by rw [pk_un (by omega)]; exact q6 i hi, lay_one rfl q7 (by decide)⟩
        show lp (condM (b + 77)) (N + (k1 + 1)) _ = _
        rw [← Nat.add_assoc, hop (N + k1)]
        refine (q4 N).trans ?_
        rw [show FU - kN = FU - (kN + 1) + 1 by unfold FU; omega, end_not (by omega) (by omega) h10]
        have ec : c + (z.2 ++ [(10, 0)]).length = c + z.2.length + 1 := by
          rw [List.length_append]
          rfl
        dsimp only
        rw [ec]
    · by_cases h40 : ch a = 40
      · have hl := at_in hT.2.2.2 h40 (by decide)
        have hp : pTsts ch (e + 1) a = (match pSomB ch (pTsts ch e) (a + 1) with
            | .inl z => .inl z
            | .inr (a', l) => if ch a' = 41 then .inr (a' + 1, l) else .inl (1, a')) := by
          show pTstB ch (pSum ch (e + 1)) (some (pTsts ch e, pSomB ch (pTsts ch e))) a = _
          unfold pTstB
          rw [if_neg h33, if_pos h40]
          dsimp only
          cases pSomB ch (pTsts ch e) (a + 1) <;> rfl
        have hop : ∀ N, lp (condM (b + 77)) (N + 1) (mk b (smW w0 a f v d c n g h)) = lp (condM (b + 77)) N (mk b (smW w0 (a + 1) f v (d + 1) c (n + 1) g (upd h n (nI (1048576 * 13))))) := fun N => by
          rw [cond_open hT ha (Or.inr h40) (by omega) (by omega), if_neg (by omega), if_neg h33]
        have s1 := som_m (b := b) (f := f) (v := v) (g := g) (e := e) (a := a + 1) (d := d + 1) (c := c) (n0 := n) (h := upd h n (nI (1048576 * 13))) hT (by omega) ih hl (by omega) (by omega) (pk_us)
        rw [hp]
        cases hps : pSomB ch (pTsts ch e) (a + 1) with
        | inl z =>
          rw [hps] at s1
          obtain ⟨kk, a', v', d', c', n', g', h', q1, q2⟩ := s1
          refine ⟨kk + 1, a', v', d', c', n', g', h', by omega, fun N => ?_⟩
          show lp (condM (b + 77)) (N + (kk + 1)) _ = _
          rw [← Nat.add_assoc, hop (N + kk)]
          exact q2 N
        | inr z =>
          rw [hps] at s1
          obtain ⟨kk, m', f', v', g', h', oA', oB', C', r1, r2, r3, r4, r5, r6, r7, r8, r9, r10, r11, r12⟩ := s1
          obtain ⟨wA, hA, wB, hB, hC⟩ := r6
          have h13' : h' n = nI (1048576 * 13) := by rw [r4 n (by omega), pk_us]
          have o1 := one_le oA'
          have o2 := one_le oB'
          have hjl : (jnd 11 oB' C').length = lenO oB' + C'.length := jnd_len 11 oB' C'
          have hjl2 : (jnd 12 oA' (jnd 11 oB' C')).length = lenO oA' + (jnd 11 oB' C').length := jnd_len 12 oA' _
          have reach : ∀ N, lp (condM (b + 77)) (N + (kk + 1)) (mk b (smW w0 a f v d c n g h)) = CQ (b + 77) N (FU - m' - 1 + 1) (mk b (smW w0 z.1 f' v' (d + 1) (c + lenO oA' + lenO oB' + C'.length) (n + 1 + oneO oA' + oneO oB') g' h')) := fun N => by
            rw [← Nat.add_assoc, hop (N + kk), r3 N, show FU - m' - 1 + 1 = FU - m' by unfold FU; omega]
          dsimp only
          by_cases h41 : ch z.1 = 41
          · rw [if_pos h41]
            have hl41 := at_in hT.2.2.2 h41 (by decide)
            obtain ⟨g4, s1, s2, s3⟩ := grp_close (b := b) (w0 := w0) (a := z.1) (d := d) (f := f') (v := v') hT r11 h41 h13' (by omega) (rfl : c + lenO oA' + lenO oB' + C'.length = c + lenO oA' + lenO oB' + C'.length) (by omega) wA hA wB hB hC (FU - m' - 1)
            refine ⟨kk + 1, 0, m' + 1, f', v', g4, h', by show kk + 1 ≤ z.1 + 1 - a; omega, Nat.zero_le _, by omega, fun N => ?_, fun i hi => by rw [r4 i (by omega), pk_un (by omega)], fun i hi => by rw [s2 i hi]; exact r5 i hi, by rw [r7]; exact s3⟩
            · show lp (condM (b + 77)) (N + (kk + 1)) _ = _
              rw [reach N, s1 N, if_neg (by omega), Nat.sub_zero, show FU - (m' + 1) = FU - m' - 1 by unfold FU; omega]
              have ec : c + z.2.length = c + lenO oA' + lenO oB' + C'.length := by
                rw [r7, hjl2, hjl]
                omega
              dsimp only
              rw [ec]
          · rw [if_neg h41]
            refine ⟨kk + 1, z.1, v', d + 1, c + lenO oA' + lenO oB' + C'.length, n + 1 + oneO oA' + oneO oB', g', h', by omega, fun N => ?_⟩
            show lp (condM (b + 77)) (N + (kk + 1)) _ = _
            rw [reach N, inn_out hT r11 h41, rest_bad hT r11 r8 r9]
            rfl
      · have hp : pTsts ch (e + 1) a = pCmp ch (pSum ch (e + 1)) a := by
          show pTstB ch (pSum ch (e + 1)) _ a = _
          unfold pTstB
          rw [if_neg h33, if_neg h40]
        rw [hp]
        exact cmp (e + 1) a d c n f v g h hd ha hc hn hb hn1 h33 h40
end
