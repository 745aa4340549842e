/-! the reference reads a law -/
def pAft (ch : Nat → Nat) (k a : Nat) (rs : List Rul) : (Nat × Nat) ⊕ List Rul := if ch a = 256 then .inr rs else if ch a = 59 then pLaw ch k (a + 1) rs else .inl (1, a)
theorem pLaw_rul (ch : Nat → Nat) {k : Nat} (hk : k ≤ 16) (a : Nat) (rs : List Rul) : pLaw ch k a rs = (match pRul ch (16 - k) a with
    | .inl z => .inl z
    | .inr z => pAft ch (k - 1) z.1 (rs ++ [z.2])) := by
  cases k with
  | zero =>
    unfold pLaw pRul
    cases isKd (ch a)
    · rfl
    · rfl
  | succ k =>
    unfold pLaw pRul
    cases isKd (ch a)
    · rfl
    · rw [if_pos rfl, if_pos rfl, if_neg (by omega)]
      cases pRule ch a with
      | inl z => rfl
      | inr z => rfl
def LawAtM (g : Nat → Int32) (c : Nat) (l1 l2 l3 l4 : Nat → Int32) (rs : List Rul) : Prop := ∀ j, j < rs.length → l1 j = nI (nth rs j).1 ∧ ∃ p, l2 j = nI p ∧ layd cM g p (nth rs j).2.1 ∧ l3 j = nI (p + (nth rs j).2.1.length) ∧ layd cM g (p + (nth rs j).2.1.length) (nth rs j).2.2 ∧ l4 j = nI (p + (nth rs j).2.1.length + (nth rs j).2.2.length) ∧ p + (nth rs j).2.1.length + (nth rs j).2.2.length ≤ c
theorem LawAtM_app {g g' : Nat → Int32} {c : Nat} {l1 l2 l3 l4 : Nat → Int32} {rs : List Rul} {r : Rul} (h : LawAtM g c l1 l2 l3 l4 rs) (hg : ∀ i, i < c → g' i = g i) (h1 : layd cM g' c r.2.1) (h2 : layd cM g' (c + r.2.1.length) r.2.2) : LawAtM g' (c + r.2.1.length + r.2.2.length) (upd l1 rs.length (nI r.1)) (upd l2 rs.length (nI c)) (upd l3 rs.length (nI (c + r.2.1.length))) (upd l4 rs.length (nI (c + r.2.1.length + r.2.2.length))) (rs ++ [r]) := by
  intro j hj
  rw [List.length_append] at hj
  have hj : j < rs.length + 1 := hj
  rcases Nat.lt_or_ge j rs.length with y | y
  · rw [nth_app1 _ _ _ y, pk_un (by omega), pk_un (by omega), pk_un (by omega), pk_un (by omega)]
    obtain ⟨c1, p, c2, c3, c4, c5, c6, c7⟩ := h j y
    exact ⟨c1, p, c2, layd_cong _ _ (fun i h5 h6 => hg i (by omega)) c3, c4, layd_cong _ _ (fun i h5 h6 => hg i (by omega)) c5, c6, by omega⟩
  · have : j = rs.length := by omega
    rw [this, nth_app2, pk_us, pk_us, pk_us, pk_us]
    exact ⟨rfl, c, rfl, h1, rfl, h2, rfl, Nat.le_refl _⟩
theorem pLaw_ok (ch : Nat → Nat) : ∀ (k a : Nat) (rs rs' : List Rul), (∀ j, j < rs.length → okRul (nth rs j)) → pLaw ch k a rs = .inr rs' → ∀ j, j < rs'.length → okRul (nth rs' j)
  | 0, a, rs, rs', h, e => by
    unfold pLaw at e
    split at e <;> cases e
  | k + 1, a, rs, rs', h, e => by
    unfold pLaw at e
    split at e
    · rename_i hk
      cases hp : pRule ch a with
      | inl z => rw [hp] at e; cases e
      | inr z =>
        rw [hp] at e
        have hz := (pRule_E hk hp).1
        have h' : ∀ j, j < (rs ++ [z.2]).length → okRul (nth (rs ++ [z.2]) j) := by
          intro j hj
          rw [List.length_append] at hj
          have hj : j < rs.length + 1 := hj
          rcases Nat.lt_or_ge j rs.length with y | y
          · rw [nth_app1 _ _ _ y]
            exact h j y
          · have : j = rs.length := by omega
            rw [this, nth_app2]
            exact hz
        dsimp only at e
        split at e
        · have e := Sum.inr.inj e
          subst e
          exact h'
        · split at e
          · exact pLaw_ok ch k _ _ rs' h' e
          · cases e
    · cases e
section
variable {b : Nat} {w0 : WD} {len : Nat} {ch : Nat → Nat}
theorem takes_m (hT : TxM w0 len ch) {a d c n : Nat} {f v : Int32} {g h : Nat → Int32} (ha : a ≤ len) : FX12_takes (mk b (smW w0 a f v d c n g h)) (b + 77) (59 : Int32) = if ch a = 59 then some (1, mk b (smW w0 (a + 1) f v d c n g h)) else some (0, mk b (smW w0 a (flt (1, a)) v d c n g h)) := by
  have t59 : (txv (ch a) = (59 : Int32)) ↔ ch a = 59 := tq (chm_le hT.2.2 a) (by decide)
  unfold FX12_takes
  rw [rc_12_77, sm_here hT ha, Option.bind_some]
  by_cases q : ch a = 59
  · rw [if_pos (t59.mpr q), if_pos q, gI_12_77_15, Option.bind_some, sm_15, nI_1, sI_12_77_15, Option.bind_some, sm_u15]
  · rw [if_neg (fun z => q (t59.mp z)), if_neg q, gI_12_77_15, Option.bind_some, sm_15, rc_12_77]
    have e := sm_wrong (b := b) (w0 := w0) (a := a) (f := f) (v := v) (d := d) (c := c) (n := n) (g := g) (h := h) 1 a
    have e : FX12_wrongAt (mk b (smW w0 a f v d c n g h)) (b + 77) (1 : Int32) (nI a) = _ := e
    rw [e, Option.bind_some]
    unfold bz
    rw [if_pos (Or.inl rfl)]
/-- the loop over the rules -/
theorem rules_m (hT : TxM w0 len ch) (hl1 : 1 ≤ len) {d n : Nat} {f v : Int32} {g h l1 l2 l3 l4 : Nat → Int32} {Z : Type} (kf : Int32 × HP → Option Z) (hp0 : HP) (e0 : hp0 = mk b (smW (raW w0 l1 l2 l3 l4 0) 0 f v d 0 n g h)) : ∃ good W', (rc [12] hp0 (b + 77) (FX12_readsRule hp0 (b + 77))).bind (fun w7 => (lp (fun (s8 : Int32 × HP) => if s8.1 = 0 then some (Sum.inl (s8.1, s8.2)) else (gI [12] 15 s8.2 (b + 77)).bind (fun v43 => (gI [12] 16 s8.2 (b + 77)).bind (fun v44 => if v44 ≤ v43 then some (Sum.inl (s8.1, s8.2)) else (rc [12] s8.2 (b + 77) (FX12_takes s8.2 (b + 77) (59 : Int32))).bind (fun w45 => if w45.1 = 0 then some (Sum.inr ((0 : Int32), w45.2)) else (rc [12] w45.2 (b + 77) (FX12_readsRule w45.2 (b + 77))).bind (fun w46 => if w46.1 = 0 then some (Sum.inr ((0 : Int32), w46.2)) else some (Sum.inr ((1 : Int32), w46.2))))))) FU (w7.1, w7.2)).bind kf) = kf (good, mk b W') ∧ ((good = 0 ∧ ∃ z k1 k2 k3 k4 r a' v' d' c' n' g' h', pLaw ch 16 0 [] = .inl z ∧ W' = smW (raW w0 k1 k2 k3 k4 r) a' (flt z) v' d' c' n' g' h') ∨ (good = 1 ∧ ∃ rs k1 k2 k3 k4 a' f' v' d' c' n' g' h', pLaw ch 16 0 [] = .inr rs ∧ W' = smW (raW w0 k1 k2 k3 k4 rs.length) a' f' v' d' c' n' g' h' ∧ LawAtM g' c' k1 k2 k3 k4 rs ∧ c' ≤ 240 ∧ rs.length ≤ 16)) := by
  have hlen := hT.2.1
  subst e0
  -- what a rule leads to
  have step : ∀ (rs : List Rul) (k1 k2 k3 k4 : Nat → Int32) (a d c n : Nat) (f v : Int32) (g h : Nat → Int32), a ≤ len → c ≤ a → rs.length ≤ 16 → LawAtM g c k1 k2 k3 k4 rs → pLaw ch (16 - rs.length) a rs = pLaw ch 16 0 [] → ∃ r W', FX12_readsRule (mk b (smW (raW w0 k1 k2 k3 k4 rs.length) a f v d c n g h)) (b + 77) = some (r, mk b W') ∧ ((r = 0 ∧ ∃ z k1 k2 k3 k4 r a' v' d' c' n' g' h', pLaw ch 16 0 [] = .inl z ∧ W' = smW (raW w0 k1 k2 k3 k4 r) a' (flt z) v' d' c' n' g' h') ∨ (r = 1 ∧ ∃ (r : Rul) (k1 k2 k3 k4 : Nat → Int32) (a' : Nat) (f' v' : Int32) (d' c' n' : Nat) (g' h' : Nat → Int32), W' = smW (raW w0 k1 k2 k3 k4 (rs ++ [r]).length) a' f' v' d' c' n' g' h' ∧ LawAtM g' c' k1 k2 k3 k4 (rs ++ [r]) ∧ c' ≤ a' ∧ a' ≤ len ∧ rs.length < 16 ∧ pAft ch (16 - (rs ++ [r]).length) a' (rs ++ [r]) = pLaw ch 16 0 [])) := by
    intro rs k1 k2 k3 k4 a d c n f v g h ha hc hrs hL hp
    have rm := rule_m (b := b) (d := d) (n := n) (f := f) (v := v) (g := g) (h := h) (l1 := k1) (l2 := k2) (l3 := k3) (l4 := k4) hT ha hc hrs
    rw [pLaw_rul ch (by omega), show 16 - (16 - rs.length) = rs.length by omega] at hp
    cases hpr : pRul ch rs.length a with
    | inl z =>
      rw [hpr] at rm hp
      obtain ⟨a', v', d', c', n', g', h', k1, k2, k3, k4, r', q1⟩ := rm
      exact ⟨_, _, q1, Or.inl ⟨rfl, z, _, _, _, _, _, _, _, _, _, _, _, _, hp.symm, rfl⟩⟩
    | inr z =>
      rw [hpr] at rm hp
      obtain ⟨f', v', d', n', g', h', q1, q2, q3, q4, q5, q6⟩ := rm
      have hlt : rs.length < 16 := by
        rcases Nat.lt_or_ge rs.length 16 with y | y
        · exact y
        · have : rs.length = 16 := by omega
          unfold pRul at hpr
          rw [if_pos this] at hpr
          split at hpr <;> cases hpr
      have hl' : (rs ++ [z.2]).length = rs.length + 1 := by rw [List.length_append]; rfl
      refine ⟨_, _, q1, Or.inr ⟨rfl, z.2, _, _, _, _, z.1, f', v', d', _, n', g', h', by rw [hl'], LawAtM_app hL q2 q3 q4, q5, q6, hlt, ?_⟩⟩
      rw [hl', show 16 - (rs.length + 1) = 16 - rs.length - 1 by omega]
      exact hp
  obtain ⟨r1, W1, e1, e2⟩ := step [] l1 l2 l3 l4 0 d 0 n f v g h (Nat.zero_le _) (Nat.le_refl _) (by decide) (fun j hj => absurd hj (Nat.not_lt_zero j)) rfl
  have e1 : FX12_readsRule (mk b (smW (raW w0 l1 l2 l3 l4 0) 0 f v d 0 n g h)) (b + 77) = some (r1, mk b W1) := e1
  rw [rc_12_77, e1, Option.bind_some]
  have lem := lp_ex (body := fun (s8 : Int32 × HP) => if s8.1 = 0 then some (Sum.inl (s8.1, s8.2)) else (gI [12] 15 s8.2 (b + 77)).bind (fun v43 => (gI [12] 16 s8.2 (b + 77)).bind (fun v44 => if v44 ≤ v43 then some (Sum.inl (s8.1, s8.2)) else (rc [12] s8.2 (b + 77) (FX12_takes s8.2 (b + 77) (59 : Int32))).bind (fun w45 => if w45.1 = 0 then some (Sum.inr ((0 : Int32), w45.2)) else (rc [12] w45.2 (b + 77) (FX12_readsRule w45.2 (b + 77))).bind (fun w46 => if w46.1 = 0 then some (Sum.inr ((0 : Int32), w46.2)) else some (Sum.inr ((1 : Int32), w46.2)))))))
    (fun q s8 => ∃ good W', s8 = (good, mk b W') ∧ ((good = 0 ∧ ∃ z k1 k2 k3 k4 r a' v' d' c' n' g' h', pLaw ch 16 0 [] = .inl z ∧ W' = smW (raW w0 k1 k2 k3 k4 r) a' (flt z) v' d' c' n' g' h') ∨ (good = 1 ∧ ∃ (rs : List Rul) (k1 k2 k3 k4 : Nat → Int32) (a' : Nat) (f' v' : Int32) (d' c' n' : Nat) (g' h' : Nat → Int32), q = 18 - rs.length ∧ W' = smW (raW w0 k1 k2 k3 k4 rs.length) a' f' v' d' c' n' g' h' ∧ LawAtM g' c' k1 k2 k3 k4 rs ∧ c' ≤ a' ∧ a' ≤ len ∧ rs.length ≤ 16 ∧ pAft ch (16 - rs.length) a' rs = pLaw ch 16 0 [])))
    (fun x => ∃ good W', x = (good, mk b W') ∧ ((good = 0 ∧ ∃ z k1 k2 k3 k4 r a' v' d' c' n' g' h', pLaw ch 16 0 [] = .inl z ∧ W' = smW (raW w0 k1 k2 k3 k4 r) a' (flt z) v' d' c' n' g' h') ∨ (good = 1 ∧ ∃ rs k1 k2 k3 k4 a' f' v' d' c' n' g' h', pLaw ch 16 0 [] = .inr rs ∧ W' = smW (raW w0 k1 k2 k3 k4 rs.length) a' f' v' d' c' n' g' h' ∧ LawAtM g' c' k1 k2 k3 k4 rs ∧ c' ≤ 240 ∧ rs.length ≤ 16))) ?_ 17 (r1, mk b W1) ?_ FU (by decide)
  · obtain ⟨x, q1, good, W', rfl, q2⟩ := lem
    exact ⟨good, W', by rw [q1, Option.bind_some], q2⟩
  · rintro q s8 ⟨good, W', rfl, ⟨rfl, hz⟩ | ⟨rfl, rs, k1, k2, k3, k4, a', f', v', d', c', n', g', h', rfl, rfl, hL, hc, ha, hrs, hp⟩⟩
    · left
      exact ⟨_, if_pos rfl, 0, W', rfl, Or.inl ⟨rfl, hz⟩⟩
    · dsimp only
      have h16 : (smW (raW w0 k1 k2 k3 k4 rs.length) a' f' v' d' c' n' g' h').1 77 16 = nI len := hT.1
      rw [if_neg (by decide), gI_12_77_15, Option.bind_some, sm_15, gI_12_77_16, Option.bind_some, h16]
      rcases Nat.lt_or_ge a' len with hal | hal
      · right
        have hch := (hT.2.2.1 a' hal).1
        rw [if_neg (nI_ge hal (by omega)), rc_12_77, takes_m (ra_T hT) ha]
        unfold pAft at hp
        rw [if_neg (by omega)] at hp
        by_cases h59 : ch a' = 59
        · rw [if_pos h59] at hp ⊢
          rw [Option.bind_some]
          dsimp only
          rw [if_neg (by decide), rc_12_77]
          obtain ⟨r2, W2, s1, s2⟩ := step rs k1 k2 k3 k4 (a' + 1) d' c' n' f' v' g' h' hal (by omega) hrs hL hp
          rw [s1, Option.bind_some]
          dsimp only
          rcases s2 with ⟨rfl, hz⟩ | ⟨rfl, r, j1, j2, j3, j4, a2, f2, v2, d2, c2, n2, g2, h2, rfl, hL2, hc2, ha2, hlt, hp2⟩
          · rw [if_pos rfl]
            exact ⟨_, 0, rfl, by omega, 0, W2, rfl, Or.inl ⟨rfl, hz⟩⟩
          · rw [if_neg (by decide)]
            have hl' : (rs ++ [r]).length = rs.length + 1 := by rw [List.length_append]; rfl
            exact ⟨_, 18 - (rs ++ [r]).length, rfl, by omega, 1, _, rfl, Or.inr ⟨rfl, rs ++ [r], j1, j2, j3, j4, a2, f2, v2, d2, c2, n2, g2, h2, rfl, rfl, hL2, hc2, ha2, by omega, hp2⟩⟩
        · rw [if_neg h59] at hp ⊢
          rw [Option.bind_some]
          dsimp only
          rw [if_pos rfl]
          exact ⟨_, 0, rfl, by omega, 0, _, rfl, Or.inl ⟨rfl, (1, a'), _, _, _, _, _, _, _, _, _, _, _, _, hp.symm, rfl⟩⟩
      · left
        have : a' = len := by omega
        subst this
        rw [if_pos (Int32.le_refl _)]
        unfold pAft at hp
        rw [if_pos (hT.2.2.2 _ (Nat.le_refl _))] at hp
        exact ⟨_, rfl, 1, _, rfl, Or.inr ⟨rfl, rs, k1, k2, k3, k4, _, f', v', d', c', n', g', h', hp.symm, rfl, hL, by omega, hrs⟩⟩
  · rcases e2 with ⟨rfl, hz⟩ | ⟨rfl, r, j1, j2, j3, j4, a2, f2, v2, d2, c2, n2, g2, h2, rfl, hL2, hc2, ha2, hlt, hp2⟩
    · exact ⟨0, W1, rfl, Or.inl ⟨rfl, hz⟩⟩
    · exact ⟨1, _, rfl, Or.inr ⟨rfl, [r], j1, j2, j3, j4, a2, f2, v2, d2, c2, n2, g2, h2, rfl, rfl, hL2, hc2, ha2, by show 1 ≤ 16; decide, hp2⟩⟩
end
