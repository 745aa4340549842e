/-! call: dead, the class from the call on -/
def deadR (y : Nat → Nat) (n : Nat) (c : Nat → Nat → Nat) (a0 : Nat) (x r : Int32) : Prop := ((∃ j, j < n ∧ ¬ stN y j < 1024) ∧ r = -2) ∨ ((∀ j, j < n → stN y j < 1024) ∧ ((x = 10 ∧ ∃ q, bestRow c (stN y) n a0 q ∧ r = nI (pay c (stN y) q a0 n).2) ∨ (∃ i, i < n ∧ x = nI i ∧ ∃ q, bestRow c (stN y) n a0 q ∧ r = nI (q i)) ∨ (x ≠ 10 ∧ (¬ ∃ i, i < n ∧ x = nI i) ∧ r = -4)))
theorem deadR_one {y : Nat → Nat} {n : Nat} (hn : n ≤ 8) {c : Nat → Nat → Nat} {a0 : Nat} {x r r' : Int32} (h : deadR y n c a0 x r) (h' : deadR y n c a0 x r') : r = r' := by
  have ne : ∀ i, i < n → nI i ≠ 10 := fun i hi q => by
    have : i = 10 := nI_inj (by omega) (by decide) q
    omega
  rcases h with ⟨⟨j, hj, b1⟩, e1⟩ | ⟨g1, h⟩
  · rcases h' with ⟨_, e2⟩ | ⟨g2, _⟩
    · rw [e1, e2]
    · exact absurd (g2 j hj) b1
  · rcases h' with ⟨⟨j, hj, b1⟩, _⟩ | ⟨_, h'⟩
    · exact absurd (g1 j hj) b1
    · rcases h with ⟨rfl, q, hq, e1⟩ | ⟨i, hi, rfl, q, hq, e1⟩ | ⟨n1, n2, e1⟩
      · rcases h' with ⟨_, q', hq', e2⟩ | ⟨i, hi, z, _⟩ | ⟨n1, _⟩
        · rw [e1, e2, (best_one hq hq').1]
        · exact absurd z.symm (ne i hi)
        · exact absurd rfl n1
      · rcases h' with ⟨z, _⟩ | ⟨i', hi', z, q', hq', e2⟩ | ⟨_, n2, _⟩
        · exact absurd z (ne i hi)
        · have : i = i' := nI_inj (by omega) (by omega) z
          subst this
          rw [e1, e2, (best_one hq hq').2 i hi]
        · exact absurd ⟨i, hi, rfl⟩ n2
      · rcases h' with ⟨z, _⟩ | ⟨i', hi', z, _⟩ | ⟨_, _, e2⟩
        · exact absurd z n1
        · exact absurd ⟨i', hi', z⟩ n2
        · rw [e1, e2]
theorem two_nI (j : Nat) : (2 : Int32) * nI j = nI (2 * j) := by rw [fa_lit 2, pk_mul]
theorem st_nI (y : Nat → Nat) (j : Nat) : (nI (y (2 * j)) * (256 : Int32)) + nI (y (2 * j + 1)) = nI (stN y j) := by
  rw [fa_lit 256, pk_mul, nI_add]
  rfl
theorem out2 {b : Nat} {X : Option (Int32 × HP)} {P : Int32 → WD → Prop} (h : ∃ z, X = some z ∧ ∃ wc, z.2 = mk b wc ∧ P z.1 wc) : ∃ r wc, X = some (r, mk b wc) ∧ P r wc := by
  obtain ⟨z, e1, wc, e2, e3⟩ := h
  exact ⟨z.1, wc, by rw [← e2]; exact e1, e3⟩
section
variable {RL : WD → Prop} {b : Nat} {w : WD}
theorem dead_c (h : Rel RL w) {n : Nat} (h1 : 1 ≤ n) (hn : n ≤ 8) {T : Nat} (hT : T < 261) (eT : w.1 1 1 = nI T) (h2n : 2 * n ≤ T) {y : Nat → Nat} (hy : ∀ i, i < 260 → (w.2.1 83 i &&& (255 : Int32)) = nI (y i) ∧ y i < 256) {a0 : Nat} (ha : a0 < 1024) (est : w.1 68 0 = nI a0) (x : Int32) : ∃ r wc, FX11_dead (mk b w) (b + 0) (nI n) x = some (r, mk b wc) ∧ sim (uI w 1 1 0) wc ∧ deadR y n (fun a j => prS (w.2.1 78) (a ^^^ stN y j)) a0 x r := by
  obtain ⟨t1, _, t3, t4⟩ := h.tape
  unfold FX11_dead
  rw [if_neg (Rnlt (n := 1) h1 (by omega)), if_neg (Lnlt (n := 8) hn), gR_11_0_0, Option.bind_some, gI_8_1_1, Option.bind_some, eT, two_nI, if_pos (nI_le h2n (by omega)), Option.bind_some, sI_8_1_1, Option.bind_some]
  refine out2 (P := fun r wc => sim (uI w 1 1 0) wc ∧ deadR y n (fun a j => prS (w.2.1 78) (a ^^^ stN y j)) a0 x r) ?_
  refine lpb_ex (fun k (t : Int32 × HP) => ∃ i a, k = n - i ∧ i ≤ n ∧ t = (nI i, mk b (uA (uI w 1 1 0) 65 a)) ∧ ∀ j, j < i → stN y j < 1024 ∧ a j = nI (stN y j)) (fun z => match z with
    | .inl z => ∃ a, z = (-2, mk b (uA (uI w 1 1 0) 65 a)) ∧ ∃ j, j < n ∧ ¬ stN y j < 1024
    | .inr u => ∃ a, u = mk b (uA (uI w 1 1 0) 65 a) ∧ ∀ j, j < n → stN y j < 1024 ∧ a j = nI (stN y j)) _ n (Nat.lt_of_le_of_lt hn (by decide)) ⟨0, w.2.1 65, rfl, by omega, by rw [show w.2.1 65 = (uI w 1 1 0).2.1 65 from rfl, uA_id]; rfl, fun j hj => absurd hj (Nat.not_lt_zero j)⟩ ?_ ?_
  · rintro k t ⟨i, a, rfl, hi, rfl, hA⟩
    try dsimp only
    by_cases e : i = n
    · left
      rw [if_pos (nI_le (by omega) (by omega))]
      exact ⟨_, rfl, a, rfl, by rw [← e]; exact hA⟩
    · have b1 := (hy (2 * i) (by omega)).2
      have b2 := (hy (2 * i + 1) (by omega)).2
      have b3 : stN y i < 65536 := by unfold stN; omega
      rw [if_neg (nI_ge (by omega) (by omega)), gR_11_0_0, Option.bind_some, two_nI, rc_8_1, at_mk (show 2 * i < 260 by omega), Option.bind_some, Option.bind_some, nI_1, rc_8_1, at_mk (show 2 * i + 1 < 260 by omega), Option.bind_some, show (uA (uI w 1 1 0) 65 a).2.1 2 (2 * i) = w.2.1 2 (2 * i) from rfl, show (uA (uI w 1 1 0) 65 a).2.1 2 (2 * i + 1) = w.2.1 2 (2 * i + 1) from rfl, t3 _ (by omega), t3 _ (by omega), (hy _ (by omega)).1, (hy _ (by omega)).1, st_nI, vl_eq]
      by_cases q : stN y i < 1024
      · right
        rw [if_pos (Rlt (n := 1024) q), gR_11_0_11, Option.bind_some, gR_9_64_0, Option.bind_some, wrI_mk (n := 8) (by decide +kernel) b _ (show i < 8 by omega), Option.bind_some, uA_at, uA_uA, vl_eq, nI_1]
        refine ⟨_, n - (i + 1), rfl, by omega, i + 1, _, rfl, by omega, rfl, fun j hj => ?_⟩
        unfold upd
        by_cases z : j = i
        · rw [if_pos z, z]; exact ⟨q, rfl⟩
        · rw [if_neg z]; exact hA j (by omega)
      · left
        rw [if_neg (Rnlt (n := 1024) (by omega) (by omega))]
        exact ⟨_, rfl, a, rfl, i, by omega, q⟩
  · intro z hz
    cases z with
    | inl z =>
      obtain ⟨a, rfl, hbad⟩ := hz
      exact ⟨_, rfl, _, rfl, sP_uA _ _ rfl, Or.inl ⟨hbad, rfl⟩⟩
    | inr u =>
      obtain ⟨a, rfl, hA⟩ := hz
      have est2 : (uA (uI w 1 1 0) 65 a).1 68 0 = nI a0 := est
      obtain ⟨q, w2, d1, d2, d3, d4⟩ := deadC_mk (b := b) (w := uA (uI w 1 1 0) 65 a) (R_price_of h.price rfl rfl rfl rfl rfl) h1 hn (y := y) (fun j hj => ⟨(hA j hj).1, by rw [uA_at]; exact (hA j hj).2⟩) ha (c := fun a j => prS (w.2.1 78) (a ^^^ stN y j)) rfl
      have hs2 : sim (uI w 1 1 0) w2 := sP_trans (sP_uA _ _ rfl) d1
      unfold lk
      try dsimp only
      rw [jn_eq]
      try dsimp only
      rw [gR_11_0_11, Option.bind_some, gR_11_0_12, Option.bind_some, gI_6_68_0, Option.bind_some, est2, gR_11_0_4, Option.bind_some, rc_9_64, d4, Option.bind_some]
      by_cases e10 : x = 10
      · rw [if_pos e10, if_pos e10]
        exact ⟨_, rfl, w2, rfl, hs2, Or.inr ⟨fun j hj => (hA j hj).1, Or.inl ⟨e10, q, d2, rfl⟩⟩⟩
      · rw [if_neg e10, if_neg e10]
        by_cases ei : ∃ i, i < n ∧ x = nI i
        · obtain ⟨i, hi, rfl⟩ := ei
          rw [if_neg (nI_pos (by omega)), if_pos (nI_lt hi (by omega)), gR_11_0_11, Option.bind_some, gR_9_64_1, Option.bind_some, rdN_mk (t := 0) (n := 8) (by decide +kernel) (by decide) b _ (show i < 8 by omega), Option.bind_some]
          exact ⟨_, rfl, w2, rfl, hs2, Or.inr ⟨fun j hj => (hA j hj).1, Or.inr (Or.inl ⟨i, hi, rfl, q, d2, d3 i hi⟩)⟩⟩
        · refine ⟨(-4, mk b (uA (uI w 1 1 0) 65 a)), ?_, _, rfl, sP_uA _ _ rfl, Or.inr ⟨fun j hj => (hA j hj).1, Or.inr (Or.inr ⟨e10, ei, rfl⟩)⟩⟩
          rcases ix_out (n := n) (by omega) ei with z | ⟨z1, z2⟩
          · rw [if_pos z]
          · rw [if_neg z1, if_neg]
            intro z
            rw [fa_lt] at z
            have z2 : nI n ≤ x := z2
            rw [fa_le] at z2
            omega
end
