/-! law is answered alike -/
theorem pRule_fin {ch : Nat → Nat} {len : Nat} (h : ∀ a, len ≤ a → ch a = 256) {a : Nat} (hk : isKd (ch a) = true) : match pRule ch a with
    | .inl z => 1 ≤ z.1 ∧ z.1 ≤ 5 ∧ z.2 ≤ len
    | .inr z => z.1 ≤ len := by
  have ha : a < len := by
    rcases Nat.lt_or_ge a len with q | q
    · exact q
    · rw [h a q] at hk
      exact absurd hk (by decide)
  unfold pRule
  have h0 : fine len a (if ch a = 120 then (.inr (a + 1, []) : PR) else pSum ch 6 (a + 1)) := by
    by_cases e : ch a = 120
    · rw [if_pos e]
      exact ⟨Nat.lt_succ_self a, ha, Nat.zero_le _⟩
    · rw [if_neg e]
      have := pSum_fine h 6 (a := a + 1) ha
      revert this
      cases pSum ch 6 (a + 1) with
      | inl z => exact fun z => z
      | inr z => exact fun z => ⟨by have := z.1; omega, z.2.1, by have := z.2.2; omega⟩
  revert h0
  cases (if ch a = 120 then (.inr (a + 1, []) : PR) else pSum ch 6 (a + 1)) with
  | inl z => exact fun z => z
  | inr z =>
    intro h0
    dsimp only
    by_cases h40 : ch z.1 = 40
    · rw [if_pos h40]
      have h1 := pSom_fine h 5 (a := z.1 + 1) (at_in h h40 (by decide))
      revert h1
      cases pSom ch 5 (z.1 + 1) with
      | inl y => exact fun y => y
      | inr y =>
        intro h1
        dsimp only
        by_cases h41 : ch y.1 = 41
        · rw [if_pos h41]
          exact at_in h h41 (by decide)
        · rw [if_neg h41]
          exact ⟨by show 1 ≤ 1; decide, by show 1 ≤ 5; decide, h1.2.1⟩
    · rw [if_neg h40]
      exact ⟨by show 1 ≤ 1; decide, by show 1 ≤ 5; decide, h0.2.1⟩
theorem pLaw_fin {ch : Nat → Nat} {len : Nat} (h : ∀ a, len ≤ a → ch a = 256) : ∀ (k a : Nat) (rs : List Rul), a ≤ len → match pLaw ch k a rs with
    | .inl z => 1 ≤ z.1 ∧ z.1 ≤ 5 ∧ z.2 ≤ len
    | .inr rs' => rs.length < rs'.length
  | 0, a, rs, ha => by
    unfold pLaw
    cases isKd (ch a)
    · exact ⟨by show 1 ≤ 1; decide, by show 1 ≤ 5; decide, ha⟩
    · exact ⟨by show 1 ≤ 4; decide, by show 4 ≤ 5; decide, ha⟩
  | k + 1, a, rs, ha => by
    unfold pLaw
    cases hk : isKd (ch a) with
    | false => exact ⟨by show 1 ≤ 1; decide, by show 1 ≤ 5; decide, ha⟩
    | true =>
      rw [if_pos rfl]
      have h1 := pRule_fin h hk
      revert h1
      cases pRule ch a with
      | inl z => exact fun z => z
      | inr z =>
        intro h1
        dsimp only
        have hlen : (rs ++ [z.2]).length = rs.length + 1 := List.length_append
        by_cases h2 : ch z.1 = 256
        · rw [if_pos h2]
          dsimp only
          omega
        · rw [if_neg h2]
          by_cases h59 : ch z.1 = 59
          · rw [if_pos h59]
            have := pLaw_fin h k (z.1 + 1) (rs ++ [z.2]) (at_in h h59 (by decide))
            revert this
            cases pLaw ch k (z.1 + 1) (rs ++ [z.2]) with
            | inl y => exact fun y => y
            | inr y =>
              intro this
              have : (rs ++ [z.2]).length < y.length := this
              show rs.length < y.length
              omega
          · rw [if_neg h59]
            exact ⟨by show 1 ≤ 1; decide, by show 1 ≤ 5; decide, h1⟩
theorem flt_le {z : Nat × Nat} (h1 : 1 ≤ z.1) (h2 : z.1 ≤ 5) (h3 : z.2 ≤ 260) : flt z ≤ 0 := by
  obtain ⟨n, p⟩ := z
  exact (by decide +kernel : ∀ n, n < 6 → 1 ≤ n → ∀ p, p < 261 → (-1000 * nI n - nI p : Int32) ≤ 0) n (by dsimp only at h2; omega) h1 p (by dsimp only at h3; omega)
theorem nI_ge1 {n : Nat} (h : 1 ≤ n) (h2 : n ≤ 16) : ¬ nI n ≤ 0 := (by decide : ∀ n, n < 17 → 1 ≤ n → ¬ nI n ≤ (0 : Int32)) n (by omega) h
/-- the world after the class has read a law -/
def clW (w : WD) (o : Nat) (x : Int32) (k t u : Nat → Int32) (r a s : Nat) (g : Nat → Int32) (f : Int32) : WD := uI (stW (ruW (uI w o 1 x) o k t u r) o a s g f) 1 1 0
section
variable {w : WD} {o : Nat} {x : Int32} {k t u : Nat → Int32} {r a s : Nat} {g : Nat → Int32} {f : Int32}
theorem clW_frZ (ho : LW o) : frZ w (clW w o x k t u r a s g f) := by
  unfold clW stW ruW
  rcases ho with rfl | rfl
  · exact frZ_trans (frZ_trans (frZ_trans (frZ_trans (frZ_trans (frZ_trans (frZ_trans (frZ_trans (frZ_trans (frZ_uI w _ rfl) (frZ_uA _ _ rfl)) (frZ_uA _ _ rfl)) (frZ_uA _ _ rfl)) (frZ_uI _ _ rfl)) (frZ_uI _ _ rfl)) (frZ_uI _ _ rfl)) (frZ_uI _ _ rfl)) (frZ_uA _ _ rfl)) (frZ_uI _ _ rfl)
  · exact frZ_trans (frZ_trans (frZ_trans (frZ_trans (frZ_trans (frZ_trans (frZ_trans (frZ_trans (frZ_trans (frZ_uI w _ rfl) (frZ_uA _ _ rfl)) (frZ_uA _ _ rfl)) (frZ_uA _ _ rfl)) (frZ_uI _ _ rfl)) (frZ_uI _ _ rfl)) (frZ_uI _ _ rfl)) (frZ_uI _ _ rfl)) (frZ_uA _ _ rfl)) (frZ_uI _ _ rfl)
theorem clW_I {j i : Nat} (h1 : j ≠ o) (h2 : j ≠ 1) : (clW w o x k t u r a s g f).1 j i = w.1 j i := by
  show (if j = 1 ∧ i = 1 then 0 else if j = o ∧ i = 9 then nI s else if j = o ∧ i = 3 then f else if j = o ∧ i = 2 then nI a else if j = o ∧ i = 4 then nI r else if j = o ∧ i = 1 then x else w.1 j i) = _
  rw [if_neg (fun z => h2 z.1), if_neg (fun z => h1 z.1), if_neg (fun z => h1 z.1), if_neg (fun z => h1 z.1), if_neg (fun z => h1 z.1), if_neg (fun z => h1 z.1)]
theorem clW_A {j : Nat} (h1 : j ≤ o ∨ o + 4 < j) : (clW w o x k t u r a s g f).2.1 j = w.2.1 j := by
  show (if j = o + 4 then g else if j = o + 3 then u else if j = o + 2 then t else if j = o + 1 then k else w.2.1 j) = _
  rw [if_neg (by omega), if_neg (by omega), if_neg (by omega), if_neg (by omega)]
theorem clW_law (ho : LW o) : (clW w o x k t u r a s g f).1 o 4 = nI r ∧ (clW w o x k t u r a s g f).1 o 9 = nI s ∧ (clW w o x k t u r a s g f).2.1 (o + 1) = k ∧ (clW w o x k t u r a s g f).2.1 (o + 2) = t ∧ (clW w o x k t u r a s g f).2.1 (o + 3) = u ∧ (clW w o x k t u r a s g f).2.1 (o + 4) = g := by
  rcases ho with rfl | rfl
  · exact ⟨rfl, rfl, rfl, rfl, rfl, rfl⟩
  · exact ⟨rfl, rfl, rfl, rfl, rfl, rfl⟩
end
section
variable {b : Nat} {w : WD}
theorem op_law (h : Rel RLaw w) (x : Int32) : OP RLaw b w (fun hp => FX11_law hp (b + 0) x) (fun hp => FX12_law hp (b + 77) x) := by
  obtain ⟨t1, ⟨T, hT, eT⟩, t3, t4⟩ := h.tape
  have eT1 : w.1 1 1 = nI T := t1.trans eT
  by_cases e : ∃ k, 1 ≤ k ∧ k ≤ 240 ∧ x = nI k
  · obtain ⟨n, h1, hn, rfl⟩ := e
    rcases Nat.lt_or_ge T n with z | z
    · apply OPi (r := -1) (w1 := w) (w2 := w) ?_ ?_ h
      · unfold FX11_law
        rw [if_neg (Rnlt (n := 1) h1 (by omega)), if_neg (Lnlt (n := 240) hn), gR_11_0_0, Option.bind_some, gI_8_1_1, Option.bind_some, eT1, if_neg (nI_ge z (by omega))]
      · unfold FX12_law
        rw [in_yes (a := 1) (c := 240) h1 hn, Option.bind_some, if_neg n10, gI_12_77_14, Option.bind_some, eT, if_neg (nI_ge z (by omega))]
    · have bytes : ∀ i, ∃ c, (w.2.1 83 i &&& (255 : Int32)) = nI c ∧ c < 256 := fun i => by
        obtain ⟨c, hc, q⟩ := byte_any (w.2.1 83 i)
        exact ⟨c, q, hc⟩
      obtain ⟨v, hv⟩ := Classical.axiomOfChoice bytes
      obtain ⟨ch, hch⟩ : ∃ ch : Nat → Nat, ch = fun a => if a < n then v a else 256 := ⟨_, rfl⟩
      have hX : TX (w.2.1 83) n ch := by
        refine ⟨fun a ha => ?_, fun a ha => ?_⟩
        · rw [hch]
          dsimp only
          rw [if_pos ha]
          exact ⟨(hv a).2, (hv a).1⟩
        · rw [hch]
          dsimp only
          rw [if_neg (by omega)]
      have hX2 : TX (w.2.1 2) n ch := ⟨fun a ha => ⟨(hX.1 a ha).1, by rw [t3 a (by omega)]; exact (hX.1 a ha).2⟩, hX.2⟩
      have hle : nI n ≤ nI T := nI_le z (by omega)
      have fin := pLaw_fin hX.2 16 0 [] (Nat.zero_le n)
      obtain ⟨hS, ho⟩ : (w.2.2.2 = (35, 70) ∨ w.2.2.2 = (70, 35)) ∧ LW w.2.2.2.2 := ⟨h.1, by
        rcases h.1 with q | q
        · rw [q]; exact Or.inr rfl
        · rw [q]; exact Or.inl rfl⟩
      have hco : w.2.2.2.1 ≠ w.2.2.2.2 ∧ (w.2.2.2.1 + 4 ≤ w.2.2.2.2 ∨ w.2.2.2.2 + 4 < w.2.2.2.1) ∧ w.2.2.2.1 ≠ 1 ∧ w.2.2.2.2 ≠ 77 ∧ w.2.2.2.2 ≤ 70 ∧ w.2.2.2.1 ≤ 70 ∧ 35 ≤ w.2.2.2.2 := by
        rcases h.1 with q | q
        · rw [q]; decide
        · rw [q]; decide
      obtain ⟨ans, k, t, u, r, a, s, g, f, rd, sp⟩ := read_c (b := b) (w := w) ho hn hX2
      obtain ⟨o, eo⟩ : ∃ o, o = w.2.2.2.2 := ⟨_, rfl⟩
      obtain ⟨c, ec⟩ : ∃ c, c = w.2.2.2.1 := ⟨_, rfl⟩
      rw [← eo] at ho rd hco
      rw [← ec] at hco
      have hp6 : sI [8] 1 (mk b (stW (ruW (uI w o 1 (nI n)) o k t u r) o a s g f)) (b + 1) 0 = some (mk b (clW w o (nI n) k t u r a s g f)) := sI_8_1_1 b _ 0
      have start : FX11_law (mk b w) (b + 0) (nI n) = if ans ≤ 0 then some (ans, mk b (clW w o (nI n) k t u r a s g f)) else some (ans, mk b (uS (clW w o (nI n) k t u r a s g f) o c)) := by
        unfold FX11_law
        rw [if_neg (Rnlt (n := 1) h1 (by omega)), if_neg (Lnlt (n := 240) hn), gR_11_0_0, Option.bind_some, gI_8_1_1, Option.bind_some, eT1, if_pos hle, gR_spare, Option.bind_some, ← eo, rc_2_o b _ ho, rd, Option.bind_some]
        dsimp only
        rw [gR_11_0_0, Option.bind_some, hp6, Option.bind_some]
        by_cases q : ans ≤ 0
        · rw [if_pos q, if_pos q]
        · rw [if_neg q, if_neg q, gR_11_0_9, Option.bind_some, gR_law, Option.bind_some, Option.bind_some, gR_spare, Option.bind_some, sR_law, Option.bind_some]
          have e1 : (clW w o (nI n) k t u r a s g f).2.2.2.1 = c := ec.symm
          have e2 : (clW w o (nI n) k t u r a s g f).2.2.2.2 = o := eo.symm
          rw [sR_spare, Option.bind_some, e1, e2]
          rfl
      have cA : ∀ j, (j ≤ o ∨ o + 4 < j) → (clW w o (nI n) k t u r a s g f).2.1 j = w.2.1 j := fun j hj => clW_A hj
      have cI : ∀ j i, j ≠ o → j ≠ 1 → (clW w o (nI n) k t u r a s g f).1 j i = w.1 j i := fun j i h1 h2 => clW_I h1 h2
      have c1 : (clW w o (nI n) k t u r a s g f).1 1 1 = 0 := rfl
      have cZ : frZ w (clW w o (nI n) k t u r a s g f) := clW_frZ ho
      have cL := clW_law (w := w) (x := nI n) (k := k) (t := t) (u := u) (r := r) (a := a) (s := s) (g := g) (f := f) ho
      have cS : (clW w o (nI n) k t u r a s g f).2.2 = w.2.2 := rfl
      generalize clW w o (nI n) k t u r a s g f = W at *
      have m83 : W.2.1 83 = w.2.1 83 := cA 83 (Or.inr (by omega))
      have m14 : W.1 77 14 = w.1 77 14 := cI 77 14 (by omega) (by decide)
      cases hp : pLaw ch 16 0 [] with
      | inl y =>
        rw [hp] at fin sp
        have sp : ans = flt y := sp
        have fin : 1 ≤ y.1 ∧ y.1 ≤ 5 ∧ y.2 ≤ n := fin
        have hneg : ans ≤ 0 := by rw [sp]; exact flt_le fin.1 fin.2.1 (by omega)
        rw [if_pos hneg] at start
        obtain ⟨ans', w', rm, mZ, mI, mA, mS, m0, mr⟩ := law_m (b := b) (w := W) (n := n) (ch := ch) h1 hn (by rw [m83]; exact hX) (by rw [m14, eT]; exact hle)
        rw [hp] at mr
        obtain ⟨ea, m23, m90⟩ : ans' = flt y ∧ w'.1 77 23 = W.1 77 23 ∧ ∀ j, 90 ≤ j → j ≤ 94 → w'.2.1 j = W.2.1 j := mr
        rw [ea, ← sp] at rm
        refine OPi start rm (Rel_law h (frZ_trans cZ mZ) ?_ ⟨?_, ⟨0, by decide, ?_⟩, fun i hi => ?_, fun i hi => ?_⟩ ?_)
        · rw [mS, cS]; exact hS
        · rw [mI 1 1 (by decide), c1, m0]
        · rw [m0]; rfl
        · rw [mA 2 (Or.inl (by decide)), mA 83 (Or.inl (by decide)), m83, cA 2 (Or.inl (by omega))]
          exact t3 i hi
        · rw [mA 83 (Or.inl (by decide)), m83]
          exact t4 i hi
        · obtain ⟨n', kd, Wd, Td, k1, k2, k3, k4⟩ := h.2.2.2.2.2.2.2
          have eS : w'.2.2.2.1 = c := by rw [mS, cS]; exact ec.symm
          rw [← ec] at k2 k4
          refine ⟨n', kd, Wd, Td, k1, ?_, ?_, by rw [eS]; exact k4⟩
          · rw [eS, mI c 4 (by omega), mI c 9 (by omega), mA (c + 1) (Or.inl (by omega)), mA (c + 2) (Or.inl (by omega)), mA (c + 3) (Or.inl (by omega)), mA (c + 4) (Or.inl (by omega)), cI c 4 hco.1 hco.2.2.1, cI c 9 hco.1 hco.2.2.1, cA (c + 1) (by omega), cA (c + 2) (by omega), cA (c + 3) (by omega), cA (c + 4) (by omega)]
            exact k2
          · rw [m23, m90 91 (by decide) (by decide), m90 92 (by decide) (by decide), m90 93 (by decide) (by decide), m90 94 (by decide) (by decide), m90 90 (by decide) (by decide), cI 77 23 (by omega) (by decide), cA 91 (Or.inr (by omega)), cA 92 (Or.inr (by omega)), cA 93 (Or.inr (by omega)), cA 94 (Or.inr (by omega)), cA 90 (Or.inr (by omega))]
            exact k3
      | inr rs =>
        rw [hp] at fin sp
        obtain ⟨ea, er, hr16, hs, hat⟩ : ans = nI rs.length ∧ r = rs.length ∧ rs.length ≤ 16 ∧ s ≤ 240 ∧ LawAt g s k t u rs := sp
        have fin : 0 < rs.length := fin
        have hpos : ¬ ans ≤ 0 := by rw [ea]; exact nI_ge1 fin hr16
        rw [if_neg hpos] at start
        obtain ⟨ans', w', rm, mZ, mI, mA, mS, m0, mr⟩ := law_m (b := b) (w := uS W o c) (n := n) (ch := ch) h1 hn (by show TX (W.2.1 83) n ch; rw [m83]; exact hX) (by show nI n ≤ W.1 77 14; rw [m14, eT]; exact hle)
        rw [hp] at mr
        obtain ⟨ea', mlaw⟩ := mr
        rw [ea', ← ea] at rm
        have uI0 : ∀ j k, (uS W o c).1 j k = W.1 j k := fun _ _ => rfl
        have uA0 : ∀ j, (uS W o c).2.1 j = W.2.1 j := fun _ => rfl
        have uZ : frZ W (uS W o c) := ⟨fun _ _ _ => rfl, fun _ _ => rfl, rfl⟩
        have eS2 : w'.2.2.2 = (o, c) := by rw [mS]; rfl
        refine OPi start rm (Rel_law h (frZ_trans (frZ_trans cZ uZ) mZ) ?_ ⟨?_, ⟨0, by decide, ?_⟩, fun i hi => ?_, fun i hi => ?_⟩ ?_)
        · rw [eS2, eo, ec]
          rcases hS with q | q
          · rw [q]; exact Or.inr rfl
          · rw [q]; exact Or.inl rfl
        · rw [mI 1 1 (by decide), uI0, c1, m0]
        · rw [m0]; rfl
        · rw [mA 2 (Or.inl (by decide)), mA 83 (Or.inl (by decide)), uA0, uA0, m83, cA 2 (Or.inl (by omega))]
          exact t3 i hi
        · rw [mA 83 (Or.inl (by decide)), uA0, m83]
          exact t4 i hi
        · have eS : w'.2.2.2.1 = o := by rw [eS2]
          refine ⟨rs.length, fun j => (nth rs j).1, fun j => (nth rs j).2.1, fun j => (nth rs j).2.2, ?_, ?_, mlaw, by rw [eS]; exact ho⟩
          · exact pLaw_ok ch 16 0 [] rs (fun j hj => absurd hj (Nat.not_lt_zero j)) hp
          · rw [eS, mI o 4 (by omega), mI o 9 (by omega), mA (o + 1) (Or.inl (by omega)), mA (o + 2) (Or.inl (by omega)), mA (o + 3) (Or.inl (by omega)), mA (o + 4) (Or.inl (by omega)), uI0, uI0, uA0, uA0, uA0, uA0, cL.1, cL.2.1, cL.2.2.1, cL.2.2.2.1, cL.2.2.2.2.1, cL.2.2.2.2.2]
            exact ⟨hr16, by rw [er], s, hs, rfl, hat⟩
  · apply OPi (r := -1) (w1 := w) (w2 := w) ?_ ?_ h
    · unfold FX11_law
      by_cases c1 : x < 1
      · rw [if_pos c1]
      · by_cases c2 : 240 < x
        · rw [if_neg c1, if_pos c2]
        · exfalso
          apply e
          have z1 : (1 : Int32).toInt = 1 := by decide
          have z2 : (240 : Int32).toInt = 240 := by decide
          rw [fa_lt] at c1 c2
          have k := in_nat (v := x) (a := 1) (b := 240) (by decide) (by rw [fa_le]; show (1 : Int32).toInt ≤ _; omega) (by rw [fa_le]; show _ ≤ (240 : Int32).toInt; omega) (by decide)
          exact k
    · unfold FX12_law
      rw [in_no (a := 1) (c := 240) e, Option.bind_some, if_pos rfl]
end
