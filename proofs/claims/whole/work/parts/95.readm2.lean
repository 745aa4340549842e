/-! the reference reads numbers; what waits is closed -/
def closB (p0 : Nat) (p1 : Int32) : HP → Option ((HP ⊕ HP) ⊕ HP) := (fun (s1 : HP) => (rc [12] s1 p0 (FX12_waitTop s1 p0)).bind (fun v3 => jn (A := Unit) (fun a4 => (rc [12] s1 p0 (FX12_waitTop s1 p0)).bind (fun v6 => (rc [12] s1 p0 (FX12_notes s1 p0 v6 (0 : Int32))).bind (fun w7 => (gI [12] 21 w7 p0).bind (fun v8 => (sI [12] 21 w7 p0 (v8 - (1 : Int32))).bind (fun hp9 => some (Sum.inr hp9)))))) (fun J5 => jn (A := Unit) (fun a10 => if p1 = 0 then some (Sum.inl (Sum.inl s1)) else (rc [12] s1 p0 (FX12_waitTop s1 p0)).bind (fun v12 => if v12 = (2 : Int32) then J5 () else (rc [12] s1 p0 (FX12_waitTop s1 p0)).bind (fun v13 => if v13 = (3 : Int32) then J5 () else some (Sum.inl (Sum.inl s1))))) (fun J11 => if v3 < (4 : Int32) then J11 () else (rc [12] s1 p0 (FX12_waitTop s1 p0)).bind (fun v14 => if v14 ≤ (6 : Int32) then J5 () else J11 ())))))
theorem clos_body (hp : HP) (p0 : Nat) (p1 : Int32) : FX12_closesSums hp p0 p1 = (lp (closB p0 p1) FU hp).bind (lk (P := HP) (fun r => r) (fun (y2 : HP) => none)) := rfl
section
variable {b : Nat} {w0 : WD} {a d c n len : Nat} {f v : Int32} {g h : Nat → Int32} {ch : Nat → Nat}
theorem clos_stop {t al : Int32} (ht : FX12_waitTop (mk b (smW w0 a f v d c n g h)) (b + 77) = some t) (h1 : t < 4 ∨ ¬ t ≤ 6) (h2 : al = 0 ∨ (¬ t = 2 ∧ ¬ t = 3)) : closB (b + 77) al (mk b (smW w0 a f v d c n g h)) = some (.inl (.inl (mk b (smW w0 a f v d c n g h)))) := by
  unfold closB
  rw [rc_12_77, ht, Option.bind_some, jn_eq, jn_eq]
  dsimp only
  rw [Option.bind_some, Option.bind_some]
  have last : (if al = 0 then some (Sum.inl (Sum.inl (mk b (smW w0 a f v d c n g h)))) else if t = (2 : Int32) then (rc [12] (mk b (smW w0 a f v d c n g h)) (b + 77) (FX12_notes (mk b (smW w0 a f v d c n g h)) (b + 77) t (0 : Int32))).bind (fun w7 => (gI [12] 21 w7 (b + 77)).bind (fun v8 => (sI [12] 21 w7 (b + 77) (v8 - (1 : Int32))).bind (fun hp9 => some (Sum.inr (α := HP ⊕ HP) hp9)))) else if t = (3 : Int32) then (rc [12] (mk b (smW w0 a f v d c n g h)) (b + 77) (FX12_notes (mk b (smW w0 a f v d c n g h)) (b + 77) t (0 : Int32))).bind (fun w7 => (gI [12] 21 w7 (b + 77)).bind (fun v8 => (sI [12] 21 w7 (b + 77) (v8 - (1 : Int32))).bind (fun hp9 => some (Sum.inr (α := HP ⊕ HP) hp9)))) else some (Sum.inl (Sum.inl (mk b (smW w0 a f v d c n g h))))) = some (.inl (.inl (mk b (smW w0 a f v d c n g h)))) := by
    rcases h2 with q | ⟨q1, q2⟩
    · rw [if_pos q]
    · rw [if_neg q1, if_neg q2]
      split <;> rfl
  rcases h1 with q | q
  · rw [if_pos q]
    exact last
  · have hn : ¬ t < 4 := by
      intro z
      apply q
      rw [fa_lt] at z
      rw [fa_le]
      have e4 : (4 : Int32).toInt = 4 := by decide
      have e6 : (6 : Int32).toInt = 6 := by decide
      omega
    rw [if_neg hn, Option.bind_some, if_neg q]
    exact last
theorem clos_pop {k : Nat} {al : Int32} (hn : n < 260) (hc : c < 260) (ht : topK h (n + 1) k) (hk : (4 ≤ k ∧ k ≤ 6) ∨ (¬ al = 0 ∧ (k = 2 ∨ k = 3))) : closB (b + 77) al (mk b (smW w0 a f v d c (n + 1) g h)) = some (.inr (mk b (smW w0 a f v d (c + 1) n (upd g c (nI (1048576 * k))) h))) := by
  have ht' := sm_top (b := b) (w0 := w0) (a := a) (f := f) (v := v) (d := d) (c := c) (g := g) hn ht
  have pop : (rc [12] (mk b (smW w0 a f v d c (n + 1) g h)) (b + 77) (FX12_notes (mk b (smW w0 a f v d c (n + 1) g h)) (b + 77) (nI k) (0 : Int32))).bind (fun w7 => (gI [12] 21 w7 (b + 77)).bind (fun v8 => (sI [12] 21 w7 (b + 77) (v8 - (1 : Int32))).bind (fun hp9 => some (Sum.inr (α := HP ⊕ HP) hp9)))) = some (.inr (mk b (smW w0 a f v d (c + 1) n (upd g c (nI (1048576 * k))) h))) := by
    have e := sm_notes (b := b) (w0 := w0) (a := a) (f := f) (v := v) (d := d) (n := n + 1) (g := g) (h := h) hc k 0
    have e : FX12_notes (mk b (smW w0 a f v d c (n + 1) g h)) (b + 77) (nI k) (0 : Int32) = some (mk b (smW w0 a f v d (c + 1) (n + 1) (upd g c (nI (1048576 * k))) h)) := e
    rw [rc_12_77, e, Option.bind_some, gI_12_77_21, Option.bind_some, sm_21, nI_pred, sI_12_77_21, Option.bind_some, sm_u21]
  unfold closB
  rw [rc_12_77, ht', Option.bind_some, jn_eq, jn_eq]
  dsimp only
  rw [Option.bind_some, Option.bind_some]
  rcases hk with ⟨k1, k2⟩ | ⟨q, k1⟩
  · rw [if_neg (show ¬ nI k < (4 : Int32) from nI_nlt (a := k) (b := 4) k1 (by omega)), Option.bind_some, if_pos (show nI k ≤ (6 : Int32) from nI_le (a := k) (b := 6) k2 (by decide))]
    exact pop
  · rw [if_pos (show nI k < (4 : Int32) from nI_lt (a := k) (b := 4) (by omega) (by decide)), if_neg q]
    rcases k1 with rfl | rfl
    · rw [if_pos (by decide)]
      exact pop
    · rw [if_neg (by decide), Option.bind_some, if_pos (by decide)]
      exact pop
/-- a barrier under what waits of a sum -/
def bar (h : Nat → Int32) (n0 : Nat) : Prop := n0 = 0 ∨ ∃ k, 7 ≤ k ∧ topK h n0 k
theorem bar_stop {n0 : Nat} (hb : bar h n0) (hn : n0 < 260) (al : Int32) : closB (b + 77) al (mk b (smW w0 a f v d c n0 g h)) = some (.inl (.inl (mk b (smW w0 a f v d c n0 g h)))) := by
  rcases hb with rfl | ⟨k, k1, k2⟩
  · exact clos_stop sm_top0 (Or.inl (by decide)) (Or.inr ⟨by decide, by decide⟩)
  · have k14 : k ≤ 14 := by obtain ⟨_, _, q, _⟩ := k2; exact q
    cases n0 with
    | zero => exact clos_stop sm_top0 (Or.inl (by decide)) (Or.inr ⟨by decide, by decide⟩)
    | succ n0 =>
      refine clos_stop (sm_top (by omega) k2) (Or.inr ?_) (Or.inr ⟨?_, ?_⟩)
      · exact nI_ge (a := 6) (b := k) (by omega) (by omega)
      · exact fun z => absurd (nI_inj (a := k) (b := 2) (by omega) (by decide) z) (by omega)
      · exact fun z => absurd (nI_inj (a := k) (b := 3) (by omega) (by decide) z) (by omega)
theorem lp_mono {S X : Type} {body : S → Option (X ⊕ S)} {x : X} : ∀ {N : Nat} {s : S}, lp body N s = some x → ∀ M, N ≤ M → lp body M s = some x
  | 0, _, h, _, _ => by cases h
  | N + 1, s, h, M, hM => by
    obtain ⟨M, rfl⟩ : ∃ m, M = m + 1 := ⟨M - 1, by omega⟩
    unfold lp at h ⊢
    cases e : body s with
    | none => rw [e] at h; cases h
    | some z =>
      rw [e] at h
      cases z with
      | inl y => exact h
      | inr s' => exact lp_mono (N := N) h M (by omega)
/-- what waits of a sum: an addition's sign, a multiplication's -/
def pend (h : Nat → Int32) (n0 k m : Nat) : Prop := (k ≠ 0 → h n0 = nI (1048576 * k)) ∧ (m ≠ 0 → h (n0 + (wl k).length) = nI (1048576 * m)) ∧ (k = 0 ∨ k = 2 ∨ k = 3) ∧ (m = 0 ∨ (4 ≤ m ∧ m ≤ 6))
theorem wl_one {k : Nat} (h : k ≠ 0) : wl k = [(k, 0)] := if_neg h
theorem lay_one {c0 : Nat} {l : Cds} (hc : c = c0 + l.length) (hl : layd cM g c0 l) {k : Nat} (hk : k ≤ 10) : layd cM (upd g c (nI (1048576 * k))) c0 (l ++ [(k, 0)]) := by
  rw [layd_app]
  refine ⟨layd_cong l c0 (fun i h1 h2 => pk_un (by omega)) hl, ?_, trivial⟩
  rw [← hc, pk_us]
  unfold cM
  dsimp only
  rw [if_neg (by omega)]
  rfl
/-- closing with the multiplications alone -/
theorem clos_mul {n0 k m c0 : Nat} {l : Cds} (hb : bar h n0) (hp : pend h n0 k m) (hn : n0 + 2 < 260) (hc : c = c0 + l.length) (hc2 : c + 2 < 260) (hl : layd cM g c0 l) : ∃ g', FX12_closesSums (mk b (smW w0 a f v d c (n0 + (wl k).length + (wl m).length) g h)) (b + 77) (0 : Int32) = some (mk b (smW w0 a f v d (c + (wl m).length) (n0 + (wl k).length) g' h)) ∧ (∀ i, i < c0 → g' i = g i) ∧ layd cM g' c0 (l ++ wl m) := by
  obtain ⟨p1, p2, p3, p4⟩ := hp
  have stop : ∀ (c : Nat) (g : Nat → Int32), closB (b + 77) (0 : Int32) (mk b (smW w0 a f v d c (n0 + (wl k).length) g h)) = some (.inl (.inl (mk b (smW w0 a f v d c (n0 + (wl k).length) g h)))) := by
    intro c g
    by_cases k0 : k = 0
    · rw [k0]
      exact bar_stop hb (by omega) 0
    · rw [wl_one k0]
      have kt : topK h (n0 + 1) k := ⟨0, by decide, by omega, by rw [Nat.add_sub_cancel, Nat.add_zero]; exact p1 k0⟩
      exact clos_stop (sm_top (by omega) kt) (Or.inl (nI_lt (a := k) (b := 4) (by omega) (by decide))) (Or.inl rfl)
  rw [clos_body]
  by_cases m0 : m = 0
  · refine ⟨g, ?_, fun _ _ => rfl, ?_⟩
    · rw [m0]
      show (lp _ FU (mk b (smW w0 a f v d c (n0 + (wl k).length) g h))).bind _ = _
      rw [show FU = 999999 + 1 from rfl, lp_out (stop c g)]
      rfl
    · rw [m0]
      show layd cM g c0 (l ++ [])
      rw [List.append_nil]
      exact hl
  · have hm : 4 ≤ m ∧ m ≤ 6 := by omega
    rw [wl_one m0]
    have kl : (wl k).length ≤ 1 := by rw [wl_len]; split <;> omega
    have mt : topK h (n0 + (wl k).length + 1) m := ⟨0, by decide, by omega, by rw [Nat.add_sub_cancel, Nat.add_zero]; exact p2 m0⟩
    refine ⟨upd g c (nI (1048576 * m)), ?_, fun i hi => pk_un (by omega), lay_one hc hl (by omega)⟩
    show (lp _ FU (mk b (smW w0 a f v d c (n0 + (wl k).length + 1) g h))).bind _ = _
    rw [show FU = 999998 + 1 + 1 from rfl, lp_one (clos_pop (by omega) (by omega) mt (Or.inl hm)), lp_out (stop _ _)]
    rfl
/-- closing with all -/
theorem clos_all {n0 k m c0 : Nat} {l : Cds} (hb : bar h n0) (hp : pend h n0 k m) (hn : n0 + 2 < 260) (hc : c = c0 + l.length) (hc2 : c + 2 < 260) (hl : layd cM g c0 l) : ∃ g', FX12_closesSums (mk b (smW w0 a f v d c (n0 + (wl k).length + (wl m).length) g h)) (b + 77) (1 : Int32) = some (mk b (smW w0 a f v d (c + (wl m).length + (wl k).length) n0 g' h)) ∧ (∀ i, i < c0 → g' i = g i) ∧ layd cM g' c0 (l ++ wl m ++ wl k) := by
  obtain ⟨p1, p2, p3, p4⟩ := hp
  have kl : (wl k).length ≤ 1 := by rw [wl_len]; split <;> omega
  have two : ∀ (c : Nat) (g : Nat → Int32) (l : Cds), c = c0 + l.length → c + 1 < 260 → layd cM g c0 l → ∃ g', lp (closB (b + 77) (1 : Int32)) (999998 + 1) (mk b (smW w0 a f v d c (n0 + (wl k).length) g h)) = some (.inl (mk b (smW w0 a f v d (c + (wl k).length) n0 g' h))) ∧ (∀ i, i < c0 → g' i = g i) ∧ layd cM g' c0 (l ++ wl k) := by
    intro c g l hc hc2 hl
    by_cases k0 : k = 0
    · refine ⟨g, ?_, fun _ _ => rfl, ?_⟩
      · rw [k0]
        exact lp_out (bar_stop hb (by omega) 1)
      · rw [k0]
        show layd cM g c0 (l ++ [])
        rw [List.append_nil]
        exact hl
    · rw [wl_one k0]
      have kt : topK h (n0 + 1) k := ⟨0, by decide, by omega, by rw [Nat.add_sub_cancel, Nat.add_zero]; exact p1 k0⟩
      refine ⟨upd g c (nI (1048576 * k)), ?_, fun i hi => pk_un (by omega), lay_one hc hl (by omega)⟩
      show lp _ (999998 + 1) (mk b (smW w0 a f v d c (n0 + 1) g h)) = _
      rw [lp_one (clos_pop (by omega) (by omega) kt (Or.inr ⟨by decide, by omega⟩)), show 999998 = 999997 + 1 from rfl]
      exact lp_out (bar_stop hb (by omega) 1)
  rw [clos_body]
  by_cases m0 : m = 0
  · obtain ⟨g', e1, e2, e3⟩ := two c g l hc (by omega) hl
    refine ⟨g', ?_, e2, ?_⟩
    · rw [m0]
      show (lp _ FU (mk b (smW w0 a f v d c (n0 + (wl k).length) g h))).bind _ = _
      rw [lp_mono e1 FU (by decide)]
      rfl
    · rw [m0]
      show layd cM g' c0 (l ++ [] ++ wl k)
      rw [List.append_nil]
      exact e3
  · have hm : 4 ≤ m ∧ m ≤ 6 := by omega
    rw [wl_one m0]
    have mt : topK h (n0 + (wl k).length + 1) m := ⟨0, by decide, by omega, by rw [Nat.add_sub_cancel, Nat.add_zero]; exact p2 m0⟩
    obtain ⟨g', e1, e2, e3⟩ := two (c + 1) (upd g c (nI (1048576 * m))) (l ++ [(m, 0)]) (by rw [List.length_append]; show c + 1 = c0 + (l.length + 1); omega) (by omega) (lay_one hc hl (by omega))
    refine ⟨g', ?_, fun i hi => by rw [e2 i hi, pk_un (by omega)], e3⟩
    show (lp _ FU (mk b (smW w0 a f v d c (n0 + (wl k).length + 1) g h))).bind _ = _
    rw [show FU = 999998 + 1 + 1 from rfl, lp_one (clos_pop (by omega) (by omega) mt (Or.inl hm)), e1]
    rfl
theorem num_m (hT : TxM w0 len ch) (ha : a ≤ len) : ∃ r a' f' v', FX12_readsNumber (mk b (smW w0 a f v d c n g h)) (b + 77) = some (r, mk b (smW w0 a' f' v' d c n g h)) ∧ ((∃ x, pNum ch 5 a 0 = .inr (a', [(0, x)]) ∧ r = 1 ∧ v' = nI x ∧ a' ≤ len) ∨ ∃ z, pNum ch 5 a 0 = .inl z ∧ r = 0 ∧ f' = flt z) := by
  have hlen := hT.2.1
  unfold FX12_readsNumber
  rw [gI_12_77_15, Option.bind_some, sm_15, sI_12_77_18, Option.bind_some, show (0 : Int32) = nI 0 from rfl, sm_u18]
  have lem := lpb_ex (body := fun (s3 : HP) => (rc [12] s3 (b + 77) (FX12_isDigit s3 (b + 77))).bind (fun v5 => if v5 = 0 then some (Sum.inl (Sum.inr s3)) else (gI [12] 15 s3 (b + 77)).bind (fun v6 => if v6 = (nI a + (5 : Int32)) then (gI [12] 15 s3 (b + 77)).bind (fun v7 => (rc [12] s3 (b + 77) (FX12_wrongAt s3 (b + 77) (2 : Int32) v7)).bind (fun w8 => bz w8.1 (some (Sum.inl (Sum.inl (w8.1, w8.2)))))) else (gI [12] 18 s3 (b + 77)).bind (fun v9 => (rc [12] s3 (b + 77) (FX12_here s3 (b + 77))).bind (fun v10 => (sI [12] 18 s3 (b + 77) ((((10 : Int32) * v9) + v10) - (48 : Int32))).bind (fun hp11 => (gI [12] 15 hp11 (b + 77)).bind (fun v12 => (sI [12] 15 hp11 (b + 77) (v12 + (1 : Int32))).bind (fun hp13 => some (Sum.inr hp13)))))))))
    (kf := lk (P := Int32 × HP) (fun r => r) (fun (y4 : HP) => some ((1 : Int32), y4))) (N := FU) (s0 := mk b (smW w0 a f (nI 0) d c n g h))
    (fun q s3 => ∃ k x, q = k ∧ k ≤ 5 ∧ s3 = mk b (smW w0 (a + (5 - k)) f (nI x) d c n g h) ∧ a + (5 - k) ≤ len ∧ pNum ch k (a + (5 - k)) x = pNum ch 5 a 0)
    (fun y => ∃ a' f' v', (y = .inr (mk b (smW w0 a' f' v' d c n g h)) ∧ ∃ x, pNum ch 5 a 0 = .inr (a', [(0, x)]) ∧ v' = nI x ∧ a' ≤ len) ∨ (y = .inl (0, mk b (smW w0 a' f' v' d c n g h)) ∧ ∃ z, pNum ch 5 a 0 = .inl z ∧ f' = flt z))
    (fun z => ∃ r a' f' v', z = (r, mk b (smW w0 a' f' v' d c n g h)) ∧ ((∃ x, pNum ch 5 a 0 = .inr (a', [(0, x)]) ∧ r = 1 ∧ v' = nI x ∧ a' ≤ len) ∨ ∃ z, pNum ch 5 a 0 = .inl z ∧ r = 0 ∧ f' = flt z)) 5 (by decide)
    ⟨5, 0, rfl, Nat.le_refl _, rfl, ha, rfl⟩ ?_ ?_
  · obtain ⟨z, q1, r, a', f', v', rfl, q2⟩ := lem
    exact ⟨r, a', f', v', q1, q2⟩
  · rintro q s3 ⟨k, x, rfl, hk, rfl, hal, hp⟩
    rw [rc_12_77, sm_dig hT hal, Option.bind_some]
    cases hd : dg (ch (a + (5 - q))) with
    | false =>
      left
      rw [if_pos (by decide)]
      refine ⟨_, rfl, _, _, _, Or.inl ⟨rfl, x, ?_, rfl, hal⟩⟩
      rw [← hp]
      cases q with
      | zero => unfold pNum; rw [hd]; rfl
      | succ q => unfold pNum; rw [hd]; rfl
    | true =>
      have hlt := dg_in hT.2.2.2 hd
      have h48 : 48 ≤ ch (a + (5 - q)) ∧ ch (a + (5 - q)) ≤ 57 := by
        unfold dg at hd
        rw [Bool.and_eq_true, decide_eq_true_eq, decide_eq_true_eq] at hd
        exact hd
      have etx : txv (ch (a + (5 - q))) = nI (ch (a + (5 - q))) := by
        unfold txv
        rw [if_neg (by omega)]
      rw [if_neg (by decide), gI_12_77_15, Option.bind_some, sm_15, fa_lit 5, nI_add]
      cases q with
      | zero =>
        left
        have e := sm_wrong (b := b) (w0 := w0) (a := a + (5 - 0)) (f := f) (v := nI x) (d := d) (c := c) (n := n) (g := g) (h := h) 2 (a + (5 - 0))
        have e : FX12_wrongAt (mk b (smW w0 (a + (5 - 0)) f (nI x) d c n g h)) (b + 77) (2 : Int32) (nI (a + (5 - 0))) = some (0, mk b (smW w0 (a + (5 - 0)) (flt (2, a + (5 - 0))) (nI x) d c n g h)) := e
        rw [if_pos rfl, Option.bind_some, rc_12_77, e, Option.bind_some]
        unfold bz
        rw [if_pos (Or.inl rfl)]
        refine ⟨_, rfl, _, _, _, Or.inr ⟨rfl, (2, a + (5 - 0)), ?_, rfl⟩⟩
        rw [← hp]
        unfold pNum
        rw [hd]
        rfl
      | succ q =>
        right
        have hne : ¬ nI (a + (5 - (q + 1))) = nI (a + 5) := fun z => absurd (nI_inj (by omega) (by omega) z) (by omega)
        rw [if_neg hne, gI_12_77_18, Option.bind_some, sm_18, rc_12_77, sm_here hT hal, Option.bind_some, etx, sI_12_77_18, Option.bind_some, sm_u18, gI_12_77_15, Option.bind_some, sm_15, nI_1, sI_12_77_15, Option.bind_some, sm_u15]
        refine ⟨_, q, rfl, Nat.lt_succ_self q, q, 10 * x + (ch (a + (5 - (q + 1))) - 48), rfl, by omega, ?_, by omega, ?_⟩
        · have e1 : (10 : Int32) * nI x + nI (ch (a + (5 - (q + 1)))) - 48 = nI (10 * x + (ch (a + (5 - (q + 1))) - 48)) := by
            rw [fa_lit 10, fa_lit 48, pk_mul, nI_add, pk_sub (by omega)]
            congr 1
            omega
          rw [e1, show a + (5 - (q + 1)) + 1 = a + (5 - q) by omega]
        · rw [← hp]
          show _ = (if dg (ch (a + (5 - (q + 1)))) then pNum ch q (a + (5 - (q + 1)) + 1) (10 * x + (ch (a + (5 - (q + 1))) - 48)) else .inr (a + (5 - (q + 1)), [(0, x)]))
          rw [hd, if_pos rfl, show a + (5 - (q + 1)) + 1 = a + (5 - q) by omega]
  · rintro y ⟨a', f', v', ⟨rfl, x, h1, h2, h3⟩ | ⟨rfl, z, h1, h2⟩⟩
    · exact ⟨_, rfl, _, _, _, _, rfl, Or.inl ⟨x, h1, rfl, h2, h3⟩⟩
    · exact ⟨_, rfl, _, _, _, _, rfl, Or.inr ⟨z, h1, rfl, h2⟩⟩
theorem fact_m : ∀ x, x < 257 → FX12_factOf (txv x) = some (if ltr x < 8 then nI (ltr x) else -1) := by decide +kernel
end
