/-! call: dead, the reference: the next row -/
theorem less2 : ∀ n, n < 9 → 1 ≤ n → nI n - (2 : Int32) = nI (n - 1) - (1 : Int32) ∧ nI n - (1 : Int32) = nI (n - 1) := by decide +kernel
theorem m1_neg : nI 0 - (1 : Int32) = -1 := by decide
section
variable {RL : WD → Prop} {b : Nat} {w : WD}
theorem changes_mk {n : Nat} (hn : n ≤ 8) {r : Nat → Nat} (ha : ∀ k, k < n → w.2.1 101 k = nI (r k)) {x y : Nat} (hx : x < n) (hy : y < n) : ∃ a, FX12_changes (mk b w) (b + 77) (nI x) (nI y) = some (mk b (uA w 101 a)) ∧ ∀ k, k < n → a k = nI (swp r x y k) := by
  unfold FX12_changes
  rw [gR_12_77_54, Option.bind_some, rdN_mk (t := 0) (n := 8) (by decide +kernel) (by decide) b _ (show x < 8 by omega), Option.bind_some, Option.bind_some, Option.bind_some, rdN_mk (t := 0) (n := 8) (by decide +kernel) (by decide) b _ (show y < 8 by omega), Option.bind_some, wrI_mk (n := 8) (by decide +kernel) b _ (show x < 8 by omega), Option.bind_some, gR_12_77_54, Option.bind_some, wrI_mk (n := 8) (by decide +kernel) b _ (show y < 8 by omega), Option.bind_some, uA_at, uA_uA]
  refine ⟨_, rfl, fun k hk => ?_⟩
  unfold upd swp
  by_cases q : k = y
  · rw [if_pos q, ha x hx]
    by_cases q2 : k = x
    · rw [if_pos q2, ← q, ← q2]
    · rw [if_neg q2, if_pos q]
  · rw [if_neg q]
    by_cases q2 : k = x
    · rw [if_pos q2, if_pos q2, ha y hy]
    · rw [if_neg q2, if_neg q2, if_neg q, ha k hk]
def goP (b : Nat) (w : WD) (n : Nat) (r : Nat → Nat) (z : Int32 × HP) : Prop := (z = (0, mk b w) ∧ ∀ r', isRow n r' → ¬ lexLt n r r') ∨ ∃ r2 a, z = (1, mk b (uA w 101 a)) ∧ isRow n r2 ∧ (∀ k, k < n → a k = nI (r2 k)) ∧ lexLt n r r2 ∧ ∀ r', isRow n r' → lexLt n r r' → ¬ lexLt n r' r2
theorem goes_mk {n : Nat} (h1 : 1 ≤ n) (hn : n ≤ 8) {r : Nat → Nat} (hr : isRow n r) (ha : ∀ k, k < n → w.2.1 101 k = nI (r k)) : ∃ z, FX12_goesNext (mk b w) (b + 77) (nI n) = some z ∧ goP b w n r z := by
  have small : ∀ k, k < n → r k < 8 := fun k hk => by have := hr.1 k hk; omega
  unfold FX12_goesNext
  rw [vl_eq, (less2 n (by omega) h1).1, (less2 n (by omega) h1).2]
  refine lpb_ex (fun k (t : Int32) => t = nI k - (1 : Int32) ∧ k < n ∧ ∀ m, k ≤ m → m + 1 < n → r (m + 1) < r m) (fun x => (x = -1 ∧ ∀ m, m + 1 < n → r (m + 1) < r m) ∨ ∃ i, x = nI i ∧ i + 1 < n ∧ r i < r (i + 1) ∧ ∀ k, i < k → k + 1 < n → r (k + 1) < r k) _ (n - 1) (Nat.lt_of_lt_of_le (show n - 1 < 8 by omega) (by decide)) ⟨rfl, by omega, fun m h2 h3 => by omega⟩ ?_ ?_
  · rintro k t ⟨rfl, hk, hd⟩
    rcases (show k = 0 ∨ ∃ i, k = i + 1 from by cases k with
      | zero => exact Or.inl rfl
      | succ i => exact Or.inr ⟨i, rfl⟩) with rfl | ⟨i, rfl⟩
    · left
      rw [m1_neg, if_pos (show (-1 : Int32) < 0 by decide)]
      exact ⟨_, rfl, Or.inl ⟨rfl, fun m hm => hd m (Nat.zero_le m) hm⟩⟩
    · rw [nI_p, if_neg (nI_pos (by omega)), gR_12_77_54, Option.bind_some, rdN_mk (t := 0) (n := 8) (by decide +kernel) (by decide) b _ (show i < 8 by omega), Option.bind_some, Option.bind_some, nI_1, rdN_mk (t := 0) (n := 8) (by decide +kernel) (by decide) b _ (show i + 1 < 8 by omega), Option.bind_some, ha i (by omega), ha (i + 1) hk]
      have s1 := small i (by omega)
      have s2 := small (i + 1) hk
      by_cases q : r i ≤ r (i + 1)
      · left
        rw [if_pos (nI_le q (by omega))]
        refine ⟨_, rfl, Or.inr ⟨i, rfl, hk, ?_, fun k h2 h3 => hd k (by omega) h3⟩⟩
        have : r i ≠ r (i + 1) := fun e => by
          have := hr.2 i (i + 1) (by omega) hk e
          omega
        omega
      · right
        rw [if_neg (nI_ge (by omega) (by omega)), vl_eq]
        refine ⟨_, i, rfl, by omega, rfl, by omega, fun m h2 h3 => ?_⟩
        by_cases e : m = i
        · rw [e]; omega
        · exact hd m (by omega) h3
  · rintro x (⟨rfl, hd⟩ | ⟨i, rfl, hi, hp, hd⟩)
    · rw [if_neg (show ¬ (0 : Int32) ≤ -1 by decide)]
      exact ⟨_, rfl, Or.inl ⟨rfl, fun r' h' => row_last hr hd h'⟩⟩
    · have s1 := small i (by omega)
      rw [if_pos (Lle (n := 0) (Nat.zero_le i) (by omega)), vl_eq]
      refine lpb_ex (fun j (t : Int32) => t = nI j ∧ i < j ∧ j < n ∧ ∀ k, j < k → k < n → r k < r i) (fun x => ∃ j, x = nI j ∧ i < j ∧ j < n ∧ r i < r j ∧ ∀ k, j < k → k < n → r k < r i) _ (n - 1) (Nat.lt_of_lt_of_le (show n - 1 < 8 by omega) (by decide)) ⟨rfl, by omega, by omega, fun k h2 h3 => by omega⟩ ?_ ?_
      · rintro j t ⟨rfl, hij, hj, hl⟩
        have s2 := small j hj
        rw [gR_12_77_54, Option.bind_some, rdN_mk (t := 0) (n := 8) (by decide +kernel) (by decide) b _ (show j < 8 by omega), Option.bind_some, Option.bind_some, rdN_mk (t := 0) (n := 8) (by decide +kernel) (by decide) b _ (show i < 8 by omega), Option.bind_some, ha i (by omega), ha j hj]
        by_cases q : r i ≤ r j
        · left
          rw [if_pos (nI_le q (by omega))]
          refine ⟨_, rfl, j, rfl, hij, hj, ?_, hl⟩
          have : r i ≠ r j := fun e => by
            have := hr.2 i j (by omega) hj e
            omega
          omega
        · right
          obtain ⟨j, rfl⟩ : ∃ j', j = j' + 1 := ⟨j - 1, by omega⟩
          rw [if_neg (nI_ge (by omega) (by omega)), vl_eq, nI_p]
          have hne : i ≠ j := fun e => by rw [e] at hp q; omega
          refine ⟨_, j, rfl, by omega, rfl, by omega, by omega, fun k h2 h3 => ?_⟩
          by_cases e : k = j + 1
          · rw [e]; omega
          · exact hl k (by omega) h3
      · rintro x ⟨j, rfl, hij, hj, hgt, hl⟩
        obtain ⟨a, c1, c2⟩ := changes_mk (b := b) hn ha (show i < n by omega) hj
        obtain ⟨g1, g2⟩ := nxr_next hr hd hij hj hgt hl
        have grow := nxr_row hr (show i < n by omega) hj
        try dsimp only
        rw [rc_12_77, c1, Option.bind_some, vl_eq, vl_eq, nI_1]
        refine lpb_ex (fun k (t : Int32 × Int32 × HP) => ∃ u a, k = 8 - u ∧ 2 * u + i + 1 ≤ n ∧ t = (nI (i + 1 + u), nI (n - 1 - u), mk b (uA w 101 a)) ∧ ∀ m, m < n → a m = nI (if i < m ∧ (m < i + 1 + u ∨ n - 1 - u < m) then swp r i j (i + n - m) else swp r i j m)) (fun y => ∃ a, y = mk b (uA w 101 a) ∧ ∀ m, m < n → a m = nI (nxr n r i j m)) _ 8 (by decide) ⟨0, a, rfl, by omega, rfl, fun m hm => ?_⟩ ?_ ?_
        · rw [c2 m hm, if_neg (by omega)]
        · rintro k t ⟨u, a, rfl, hu, rfl, hA⟩
          try dsimp only
          by_cases q : n - 1 - u ≤ i + 1 + u
          · left
            rw [if_pos (nI_le q (by omega))]
            refine ⟨_, rfl, a, rfl, fun m hm => ?_⟩
            rw [hA m hm]
            refine congrArg nI ?_
            unfold nxr
            by_cases z : m ≤ i
            · rw [if_pos z, if_neg (by omega)]
            · rw [if_neg z]
              by_cases y : m < i + 1 + u ∨ n - 1 - u < m
              · rw [if_pos ⟨by omega, y⟩]
              · rw [if_neg (by omega), show i + n - m = m by omega]
          · right
            obtain ⟨H, hH⟩ : ∃ H, n - 1 - u = H + 1 := ⟨n - 1 - u - 1, by omega⟩
            obtain ⟨a2, d1, d2⟩ := changes_mk (b := b) (w := uA w 101 a) (n := n) hn (r := fun m => if i < m ∧ (m < i + 1 + u ∨ n - 1 - u < m) then swp r i j (i + n - m) else swp r i j m) (fun m hm => by rw [uA_at]; exact hA m hm) (show i + 1 + u < n by omega) (show n - 1 - u < n by omega)
            rw [if_neg (nI_ge (by omega) (by omega)), rc_12_77, d1, Option.bind_some, vl_eq, vl_eq, nI_1, uA_uA]
            refine ⟨_, 8 - (u + 1), rfl, by omega, u + 1, a2, rfl, by omega, ?_, fun m hm => ?_⟩
            · rw [hH, ← Int32.sub_eq_add_neg, nI_p, show n - 1 - (u + 1) = H by omega, show i + 1 + u + 1 = i + 1 + (u + 1) by omega]
            · rw [d2 m hm]
              refine congrArg nI ?_
              clear hA d1 d2 c1 c2 g1 g2 grow
              generalize swp r i j = Q
              unfold swp
              by_cases z1 : m = i + 1 + u
              · rw [if_pos z1]
                show (if i < n - 1 - u ∧ (n - 1 - u < i + 1 + u ∨ n - 1 - u < n - 1 - u) then Q (i + n - (n - 1 - u)) else Q (n - 1 - u)) = _
                rw [if_neg (show ¬ (i < n - 1 - u ∧ (n - 1 - u < i + 1 + u ∨ n - 1 - u < n - 1 - u)) by omega), if_pos (show i < m ∧ (m < i + 1 + (u + 1) ∨ n - 1 - (u + 1) < m) by omega), show i + n - m = n - 1 - u by omega]
              · by_cases z2 : m = n - 1 - u
                · rw [if_neg z1, if_pos z2]
                  show (if i < i + 1 + u ∧ (i + 1 + u < i + 1 + u ∨ n - 1 - u < i + 1 + u) then Q (i + n - (i + 1 + u)) else Q (i + 1 + u)) = _
                  rw [if_neg (show ¬ (i < i + 1 + u ∧ (i + 1 + u < i + 1 + u ∨ n - 1 - u < i + 1 + u)) by omega), if_pos (show i < m ∧ (m < i + 1 + (u + 1) ∨ n - 1 - (u + 1) < m) by omega), show i + n - m = i + 1 + u by omega]
                · rw [if_neg z1, if_neg z2]
                  show (if i < m ∧ (m < i + 1 + u ∨ n - 1 - u < m) then Q (i + n - m) else Q m) = _
                  by_cases z3 : i < m ∧ (m < i + 1 + u ∨ n - 1 - u < m)
                  · rw [if_pos z3, if_pos (show i < m ∧ (m < i + 1 + (u + 1) ∨ n - 1 - (u + 1) < m) by omega)]
                  · rw [if_neg z3, if_neg (show ¬ (i < m ∧ (m < i + 1 + (u + 1) ∨ n - 1 - (u + 1) < m)) by omega)]
        · rintro y ⟨a, rfl, hA⟩
          exact ⟨_, rfl, Or.inr ⟨_, a, rfl, grow, hA, g1, g2⟩⟩
end
