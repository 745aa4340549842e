/-! the class reads a law -/
def nth : List Rul → Nat → Rul
  | [], _ => (0, [], [])
  | r :: _, 0 => r
  | _ :: rs, j + 1 => nth rs j
theorem nth_app1 (r : Rul) : ∀ (rs : List Rul) (j : Nat), j < rs.length → nth (rs ++ [r]) j = nth rs j
  | [], j, h => absurd h (Nat.not_lt_zero j)
  | _ :: _, 0, _ => rfl
  | _ :: rs, j + 1, h => nth_app1 r rs j (by rw [List.length_cons] at h; omega)
theorem nth_app2 (r : Rul) : ∀ (rs : List Rul), nth (rs ++ [r]) rs.length = r
  | [] => rfl
  | _ :: rs => nth_app2 r rs
def LawAt (g : Nat → Int32) (s : Nat) (k t u : Nat → Int32) (rs : List Rul) : Prop := ∀ j, j < rs.length → k j = nI (nth rs j).1 ∧ (∃ p, t j = nI p ∧ endC g s p (WxR (nth rs j))) ∧ ∃ p, u j = nI p ∧ endC g s p (nth rs j).2.2
theorem endC_mono {g g' : Nat → Int32} {s s' p : Nat} {m : Cds} (h : endC g s p m) (hs : s ≤ s') (hg : ∀ i, i < s → g' i = g i) : endC g' s' p m := by
  obtain ⟨h1, h2, h3⟩ := h
  exact ⟨layd_cong m p (fun i h4 h5 => hg i (by omega)) h1, by omega, by rw [hg _ h2]; exact h3⟩
def readB (p0 : Nat) : Int32 × HP → Option (((Int32 × HP) ⊕ HP) ⊕ (Int32 × HP)) := (fun (s4 : Int32 × HP) => if (16 : Int32) < s4.1 then some (Sum.inl (Sum.inr s4.2)) else (gI [2] 3 s4.2 p0).bind (fun v7 => if v7 = 0 then (gI [2] 4 s4.2 p0).bind (fun v8 => (rc [2] s4.2 p0 (FX2_readRule s4.2 p0 v8)).bind (fun w9 => (gI [2] 3 w9 p0).bind (fun v10 => jn (A := Unit) (fun a11 => (rc [2] w9 p0 (FX4_expect w9 p0 (59 : Int32))).bind (fun w13 => vl (s4.1 + (1 : Int32)) (fun x14 => some (Sum.inr (x14, w13))))) (fun J12 => if v10 = 0 then (rc [2] w9 p0 (FX4_here w9 p0)).bind (fun v15 => if v15 = (-1 : Int32) then (gI [2] 4 w9 p0).bind (fun v16 => some (Sum.inl (Sum.inl (v16, w9)))) else J12 ()) else J12 ())))) else some (Sum.inl (Sum.inr s4.2))))
theorem read_body (hp : HP) (p0 : Nat) (p1 : Int32) : FX2_read hp p0 p1 = (rc [2] hp p0 (FX4_begin hp p0 p1)).bind (fun w1 => (sI [2] 4 w1 p0 (0 : Int32)).bind (fun hp2 => (sI [2] 9 hp2 p0 (0 : Int32)).bind (fun hp3 => (lp (readB p0) FU ((0 : Int32), hp3)).bind (lk (P := Int32 × HP) (fun r => r) (fun (y5 : HP) => (gI [2] 3 y5 p0).bind (fun v6 => some (v6, y5))))))) := rfl
section
variable {b : Nat} {w0 : WD} {o len : Nat} {ch : Nat → Nat}
theorem readB_out (ho : LW o) {a s r0 : Nat} {g k t u : Nat → Int32} {f : Int32} (hf : f ≠ 0) (r : Int32) : readB (b + o) (r, mk b (stW (ruW w0 o k t u r0) o a s g f)) = some (.inl (.inr (mk b (stW (ruW w0 o k t u r0) o a s g f)))) := by
  unfold readB
  dsimp only
  split
  · rfl
  · rw [gI_2_o_3 b _ ho, Option.bind_some, stW_3, if_neg hf]
theorem readB_on (hT : TxC w0 o len ch) {a s r : Nat} {g k t u : Nat → Int32} (hr : r ≤ 16) : readB (b + o) (nI r, mk b (stW (ruW w0 o k t u r) o a s g 0)) = (FX2_readRule (mk b (stW (ruW w0 o k t u r) o a s g 0)) (b + o) (nI r)).bind (fun w9 => (gI [2] 3 w9 (b + o)).bind (fun v10 => jn (A := Unit) (fun a11 => (rc [2] w9 (b + o) (FX4_expect w9 (b + o) (59 : Int32))).bind (fun w13 => some (.inr (nI (r + 1), w13)))) (fun J12 => if v10 = 0 then (rc [2] w9 (b + o) (FX4_here w9 (b + o))).bind (fun v15 => if v15 = (-1 : Int32) then (gI [2] 4 w9 (b + o)).bind (fun v16 => some (.inl (.inl (v16, w9)))) else J12 ()) else J12 ()))) := by
  have ho := hT.1
  unfold readB
  dsimp only
  rw [if_neg (show ¬ (16 : Int32) < nI r from nI_nlt (a := 16) hr (by decide)), gI_2_o_3 b _ ho, Option.bind_some, stW_3, if_pos rfl, gI_2_o_4 b _ ho, Option.bind_some, ru_n, rc_2_o b _ ho, ← nI_1]
  rfl
theorem readB_bad (hT : TxC w0 o len ch) {a s r : Nat} {g k t u : Nat → Int32} (ha : a ≤ len) (hr : r ≤ 16) {z : Nat × Nat} (hz : flt z ≠ 0) (e : FX2_readRule (mk b (stW (ruW w0 o k t u r) o a s g 0)) (b + o) (nI r) = some (mk b (stW (ruW w0 o k t u r) o a s g (flt z)))) : ∃ a', readB (b + o) (nI r, mk b (stW (ruW w0 o k t u r) o a s g 0)) = some (.inr (nI (r + 1), mk b (stW (ruW w0 o k t u r) o a' s g (flt z)))) := by
  have ho := hT.1
  obtain ⟨a4, f4, e8, _, e10, _⟩ := expect_c (b := b) (s := s) (g := g) (f := flt z) (ru_T (k := k) (t := t) (u := u) (r := r) hT) ha (c := 59) (by decide)
  rw [e10 hz] at e8
  have e8 : FX4_expect (mk b (stW (ruW w0 o k t u r) o a s g (flt z))) (b + o) (59 : Int32) = some (mk b (stW (ruW w0 o k t u r) o a4 s g (flt z))) := e8
  refine ⟨a4, ?_⟩
  rw [readB_on hT hr, e, Option.bind_some, gI_2_o_3 b _ ho, Option.bind_some, stW_3, jn_eq, if_neg hz, rc_2_o b _ ho, e8, Option.bind_some]
/-- what the class makes of the text -/
theorem read_c {w : WD} (ho : LW o) {n : Nat} (hn : n ≤ 240) (hX : TX (w.2.1 2) n ch) : ∃ ans k t u r a s g f, FX2_read (mk b w) (b + o) (nI n) = some (ans, mk b (stW (ruW (uI w o 1 (nI n)) o k t u r) o a s g f)) ∧ (match pLaw ch 16 0 [] with
    | .inl z => ans = flt z
    | .inr rs => ans = nI rs.length ∧ r = rs.length ∧ rs.length ≤ 16 ∧ s ≤ 240 ∧ LawAt g s k t u rs) := by
  have hT : TxC (uI w o 1 (nI n)) o n ch := ⟨ho, by show (if o = o ∧ 1 = 1 then nI n else _) = _; rw [if_pos ⟨rfl, rfl⟩], hn, hX⟩
  have hlen := hn
  have start : FX2_read (mk b w) (b + o) (nI n) = (lp (readB (b + o)) FU ((0 : Int32), mk b (stW (ruW (uI w o 1 (nI n)) o (w.2.1 (o + 1)) (w.2.1 (o + 2)) (w.2.1 (o + 3)) 0) o 0 0 (w.2.1 (o + 4)) 0))).bind (lk (P := Int32 × HP) (fun r => r) (fun (y5 : HP) => (gI [2] 3 y5 (b + o)).bind (fun v6 => some (v6, y5)))) := by
    have ew : uI (uI (uI (uI (uI w o 1 (nI n)) o 2 0) o 3 0) o 4 0) o 9 0 = stW (ruW (uI w o 1 (nI n)) o (w.2.1 (o + 1)) (w.2.1 (o + 2)) (w.2.1 (o + 3)) 0) o 0 0 (w.2.1 (o + 4)) 0 := by
      have e1 : ruW (uI w o 1 (nI n)) o (w.2.1 (o + 1)) (w.2.1 (o + 2)) (w.2.1 (o + 3)) 0 = uI (uI w o 1 (nI n)) o 4 (nI 0) := by
        unfold ruW
        have a1 : uA (uI w o 1 (nI n)) (o + 1) (w.2.1 (o + 1)) = uI w o 1 (nI n) := uA_self (uI w o 1 (nI n)) (o + 1)
        have a2 : uA (uI w o 1 (nI n)) (o + 2) (w.2.1 (o + 2)) = uI w o 1 (nI n) := uA_self (uI w o 1 (nI n)) (o + 2)
        have a3 : uA (uI w o 1 (nI n)) (o + 3) (w.2.1 (o + 3)) = uI w o 1 (nI n) := uA_self (uI w o 1 (nI n)) (o + 3)
        rw [a1, a2, a3]
      rw [e1]
      unfold stW
      have a4 : ∀ X : WD, X.2 = w.2 → uA X (o + 4) (w.2.1 (o + 4)) = X := fun X hX => by rw [← hX]; exact uA_self X (o + 4)
      rw [a4 (uI (uI (uI (uI (uI w o 1 (nI n)) o 4 (nI 0)) o 2 (nI 0)) o 3 0) o 9 (nI 0)) rfl, uI_swap (uI (uI w o 1 (nI n)) o 2 0) (i := o) (k := 3) (j := o) (m := 4) (by omega) 0 0, uI_swap (uI w o 1 (nI n)) (i := o) (k := 2) (j := o) (m := 4) (by omega) 0 0]
      rfl
    rw [read_body, rc_2_o b _ ho]
    unfold FX4_begin
    rw [sI_1_2_o_1 b _ ho, Option.bind_some, sI_1_2_o_2 b _ ho, Option.bind_some, sI_1_2_o_3 b _ ho, Option.bind_some, Option.bind_some, sI_2_o_4 b _ ho, Option.bind_some, sI_2_o_9 b _ ho, Option.bind_some, ew]
  rw [start]
  have lem := lpb_ex (body := readB (b + o)) (kf := lk (P := Int32 × HP) (fun r => r) (fun (y5 : HP) => (gI [2] 3 y5 (b + o)).bind (fun v6 => some (v6, y5)))) (N := FU) (s0 := ((0 : Int32), mk b (stW (ruW (uI w o 1 (nI n)) o (w.2.1 (o + 1)) (w.2.1 (o + 2)) (w.2.1 (o + 3)) 0) o 0 0 (w.2.1 (o + 4)) 0)))
    (fun q s4 => (∃ x k t u r a s g z, s4 = (x, mk b (stW (ruW (uI w o 1 (nI n)) o k t u r) o a s g (flt z))) ∧ flt z ≠ 0 ∧ pLaw ch 16 0 [] = .inl z) ∨ ∃ k t u rs a s g, q = 18 - rs.length ∧ s4 = (nI rs.length, mk b (stW (ruW (uI w o 1 (nI n)) o k t u rs.length) o a s g 0)) ∧ rs.length ≤ 16 ∧ a ≤ n ∧ s ≤ a ∧ LawAt g s k t u rs ∧ pLaw ch (16 - rs.length) a rs = pLaw ch 16 0 [])
    (fun x => (∃ k t u r a s g z, x = .inr (mk b (stW (ruW (uI w o 1 (nI n)) o k t u r) o a s g (flt z))) ∧ pLaw ch 16 0 [] = .inl z) ∨ ∃ k t u rs a s g, x = .inl (nI rs.length, mk b (stW (ruW (uI w o 1 (nI n)) o k t u rs.length) o a s g 0)) ∧ rs.length ≤ 16 ∧ s ≤ 240 ∧ LawAt g s k t u rs ∧ pLaw ch 16 0 [] = .inr rs)
    (fun y => ∃ ans k t u r a s g f, y = (ans, mk b (stW (ruW (uI w o 1 (nI n)) o k t u r) o a s g f)) ∧ (match pLaw ch 16 0 [] with
      | .inl z => ans = flt z
      | .inr rs => ans = nI rs.length ∧ r = rs.length ∧ rs.length ≤ 16 ∧ s ≤ 240 ∧ LawAt g s k t u rs)) 18 (by decide)
    (Or.inr ⟨_, _, _, [], 0, 0, _, rfl, rfl, by decide, Nat.zero_le _, Nat.le_refl _, fun j hj => absurd hj (Nat.not_lt_zero j), rfl⟩) ?_ ?_
  · obtain ⟨y, q1, ans, k, t, u, r, a, s, g, f, rfl, q2⟩ := lem
    exact ⟨ans, k, t, u, r, a, s, g, f, q1, q2⟩
  · rintro q s4 (⟨x, k, t, u, r, a, s, g, z, rfl, h1, h2⟩ | ⟨k, t, u, rs, a, s, g, rfl, rfl, hr, ha, hs, hL, hp⟩)
    · exact Or.inl ⟨_, readB_out ho h1 x, Or.inl ⟨k, t, u, r, a, s, g, z, rfl, h2⟩⟩
    · cases hk : isKd (ch a) with
      | false =>
        right
        have hz : flt (1, a) ≠ 0 := flt_n (by decide) (by decide) (by omega)
        obtain ⟨a', hno⟩ := readB_bad (b := b) (s := s) (g := g) (k := k) (t := t) (u := u) hT ha hr hz (by rw [ruleK_at hT ha hr, if_neg (by rw [hk]; decide)])
        refine ⟨_, 0, hno, by omega, Or.inl ⟨_, _, _, _, _, _, _, _, (1, a), rfl, hz, ?_⟩⟩
        rw [← hp]
        cases 16 - rs.length with
        | zero => unfold pLaw; rw [hk]; rfl
        | succ m => unfold pLaw; rw [hk]; rfl
      | true =>
        by_cases h16 : rs.length = 16
        · right
          have hz : flt (4, a) ≠ 0 := flt_n (by decide) (by decide) (by omega)
          obtain ⟨a', hb⟩ := readB_bad (b := b) (s := s) (g := g) (k := k) (t := t) (u := u) hT ha hr hz (by rw [ruleK_at hT ha hr, if_pos hk, if_neg (by omega)])
          refine ⟨_, 0, hb, by omega, Or.inl ⟨_, _, _, _, _, _, _, _, (4, a), rfl, hz, ?_⟩⟩
          rw [← hp, h16]
          show (if isKd (ch a) then _ else _) = _
          rw [hk]
          rfl
        · obtain ⟨m, hm⟩ : ∃ m, 16 - rs.length = m + 1 := ⟨15 - rs.length, by omega⟩
          have hal : a < n := by
            rcases Nat.lt_or_ge a n with z | z
            · exact z
            · rw [hX.2 a z] at hk
              cases hk
          have hb := readB_on (b := b) (a := a) (s := s) (g := g) (k := k) (t := t) (u := u) hT hr
          rw [ruleK_at hT ha hr, if_pos hk, if_pos (show rs.length < 16 by omega)] at hb
          obtain ⟨w', e1, e2⟩ := rule_c (b := b) (r := rs.length) (r0 := rs.length) (g := g) (k := k) (t := t) (u := u) hT hal hs (by omega) hk
          rw [e1, Option.bind_some] at hb
          rw [hm] at hp
          have hpu : pLaw ch (m + 1) a rs = (match pRule ch a with
              | .inl z => .inl z
              | .inr (a', r) => if ch a' = 256 then .inr (rs ++ [r]) else if ch a' = 59 then pLaw ch m (a' + 1) (rs ++ [r]) else .inl (1, a')) := by
            conv => lhs; unfold pLaw
            rw [if_pos hk]
            cases pRule ch a <;> rfl
          rw [hpu] at hp
          cases hpr : pRule ch a with
          | inl z =>
            right
            rw [hpr] at hp e2
            obtain ⟨a', s', g', k', t', u', rfl, f1, f2, f3⟩ := e2
            rw [gI_2_o_3 b _ ho, Option.bind_some, stW_3, jn_eq, if_neg f3, rc_2_o b _ ho] at hb
            obtain ⟨a4, f4, e8, e9, e10, _⟩ := expect_c (b := b) (s := s') (g := g') (f := flt z) (ru_T (k := k') (t := t') (u := u') (r := rs.length + 1) hT) f1 (c := 59) (by decide)
            rw [e10 f3] at e8
            have e8 : FX4_expect (mk b (stW (ruW (uI w o 1 (nI n)) o k' t' u' (rs.length + 1)) o a' s' g' (flt z))) (b + o) (59 : Int32) = some (mk b (stW (ruW (uI w o 1 (nI n)) o k' t' u' (rs.length + 1)) o a4 s' g' (flt z))) := e8
            rw [e8, Option.bind_some] at hb
            exact ⟨_, 0, hb, by omega, Or.inl ⟨_, _, _, _, _, _, _, _, z, rfl, f3, hp.symm⟩⟩
          | inr z =>
            rw [hpr] at hp e2
            obtain ⟨s', g', rfl, f1, f2, f3, f4, f5, f6⟩ := e2
            have hL' : LawAt g' s' (upd k rs.length (nI z.2.1)) (upd t rs.length (nI s)) (upd u rs.length (nI (s + (WxR z.2).length + 1))) (rs ++ [z.2]) := by
              intro j hj
              rw [List.length_append] at hj
              have hj : j < rs.length + 1 := hj
              rcases Nat.lt_or_ge j rs.length with y | y
              · rw [nth_app1 _ _ _ y, pk_un (by omega), pk_un (by omega), pk_un (by omega)]
                obtain ⟨c1, ⟨p1, c2, c3⟩, p2, c4, c5⟩ := hL j y
                exact ⟨c1, ⟨p1, c2, endC_mono c3 (by omega) f4⟩, p2, c4, endC_mono c5 (by omega) f4⟩
              · have : j = rs.length := by omega
                rw [this, nth_app2, pk_us, pk_us, pk_us]
                exact ⟨rfl, ⟨s, rfl, f5⟩, _, rfl, f6⟩
            have hlen' : (rs ++ [z.2]).length = rs.length + 1 := by rw [List.length_append]; rfl
            rw [gI_2_o_3 b _ ho, Option.bind_some, stW_3, jn_eq, if_pos rfl, rc_2_o b _ ho, st_here (ru_T hT) f1, Option.bind_some] at hb
            have tend : (txv (ch z.1) = (-1 : Int32)) ↔ ch z.1 = 256 := by
              unfold txv
              have := chr_le hX z.1
              split
              · rename_i y
                exact ⟨fun _ => y, fun _ => rfl⟩
              · rename_i y
                exact ⟨fun q => absurd q (nI_nm1 (by omega)), fun q => absurd q y⟩
            by_cases hend : ch z.1 = 256
            · left
              rw [if_pos (tend.mpr hend), gI_2_o_4 b _ ho, Option.bind_some, ru_n] at hb
              dsimp only at hp
              rw [if_pos hend] at hp
              refine ⟨_, hb, Or.inr ⟨_, _, _, rs ++ [z.2], z.1, s', g', ?_, by omega, by omega, hL', hp.symm⟩⟩
              rw [hlen']
            · right
              rw [if_neg (fun y => hend (tend.mp y)), rc_2_o b _ ho] at hb
              dsimp only at hp hb
              rw [if_neg hend] at hp
              obtain ⟨a4, f7, e8, e9, _, e10⟩ := expect_c (b := b) (s := s') (g := g') (f := 0) (ru_T (k := upd k rs.length (nI z.2.1)) (t := upd t rs.length (nI s)) (u := upd u rs.length (nI (s + (WxR z.2).length + 1))) (r := rs.length + 1) hT) f1 (c := 59) (by decide)
              have e8 : FX4_expect (mk b (stW (ruW (uI w o 1 (nI n)) o (upd k rs.length (nI z.2.1)) (upd t rs.length (nI s)) (upd u rs.length (nI (s + (WxR z.2).length + 1))) (rs.length + 1)) o z.1 s' g' 0)) (b + o) (59 : Int32) = some (mk b (stW (ruW (uI w o 1 (nI n)) o (upd k rs.length (nI z.2.1)) (upd t rs.length (nI s)) (upd u rs.length (nI (s + (WxR z.2).length + 1))) (rs.length + 1)) o a4 s' g' f7)) := e8
              rw [e8, Option.bind_some] at hb
              rcases e10 rfl with ⟨y1, rfl, rfl⟩ | ⟨y1, rfl⟩
              · rw [if_pos y1] at hp
                refine ⟨_, 18 - (rs.length + 1), hb, by omega, Or.inr ⟨_, _, _, rs ++ [z.2], z.1 + 1, s', g', by rw [hlen'], by rw [hlen'], by omega, e9, by omega, hL', ?_⟩⟩
                rw [hlen', show 16 - (rs.length + 1) = m by omega]
                exact hp
              · rw [if_neg y1] at hp
                exact ⟨_, 0, hb, by omega, Or.inl ⟨_, _, _, _, _, _, _, _, (1, z.1), rfl, flt_n (by decide) (by decide) (by omega), hp.symm⟩⟩
  · rintro x (⟨k, t, u, r, a, s, g, z, rfl, h2⟩ | ⟨k, t, u, rs, a, s, g, rfl, h1, h2, h3, h4⟩)
    · refine ⟨(flt z, _), ?_, flt z, k, t, u, r, a, s, g, flt z, rfl, ?_⟩
      · show (gI [2] 3 _ (b + o)).bind _ = _
        rw [gI_2_o_3 b _ ho, Option.bind_some, stW_3]
      · rw [h2]
    · refine ⟨_, rfl, nI rs.length, k, t, u, rs.length, a, s, g, 0, rfl, ?_⟩
      rw [h4]
      exact ⟨rfl, rfl, h1, h2, h3⟩
end
