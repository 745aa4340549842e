/-! call: dead, both sides from the call on -/
theorem sim_eT {u v : WD} (h : sim u v) : simP eT eAT eL u v := ⟨fun j k e => h.1 j k (by unfold eT at e; rw [Bool.and_eq_true, Bool.and_eq_true] at e; exact e.1.1), fun j e => h.2.1 j (by unfold eAT at e; rw [Bool.and_eq_true, Bool.and_eq_true] at e; exact e.1.1), h.2.2.1, h.2.2.2⟩
section
variable {RL : WD → Prop} {b : Nat} {w : WD}
theorem deadM_mk (hp : ∀ i, i < 10 → sm (w.2.1 78 i) 100) {n : Nat} (h1 : 1 ≤ n) (hn : n ≤ 8) {y : Nat → Nat} (hy : ∀ i, i < 260 → (w.2.1 83 i &&& (255 : Int32)) = nI (y i)) {a0 : Nat} (est : w.1 77 7 = nI a0) {c : Nat → Nat → Nat} (ec : c = fun a j => prS (w.2.1 78) (a ^^^ stN y j)) : ∃ q w2, sim w w2 ∧ bestRow c (stN y) n a0 q ∧ (∀ i, i < n → w2.2.1 102 i = nI (q i)) ∧ ∀ K : Int32 × HP → Option (Int32 × HP), ((lp (fun (s6 : Int32 × HP) => if nI n ≤ s6.1 then some (Sum.inl s6.2) else (gR [12] 54 s6.2 (b + 77)).bind (fun v24 => (wrI s6.2 v24 s6.1 s6.1).bind (fun hp25 => vl (s6.1 + (1 : Int32)) (fun x26 => some (Sum.inr (x26, hp25)))))) FU ((0 : Int32), mk b w)).bind (fun (y7 : HP) => (lp (deadB b (nI n)) FU ((1000000 : Int32), (1 : Int32), y7)).bind K)) = K (nI (pay c (stN y) q a0 n).2, mk b w2) := by
  have fill : ∃ a, (∀ i, i < n → a i = nI i) ∧ lp (fun (s6 : Int32 × HP) => if nI n ≤ s6.1 then some (Sum.inl (β := Int32 × HP) s6.2) else (gR [12] 54 s6.2 (b + 77)).bind (fun v24 => (wrI s6.2 v24 s6.1 s6.1).bind (fun hp25 => vl (s6.1 + (1 : Int32)) (fun x26 => some (Sum.inr (x26, hp25)))))) FU ((0 : Int32), mk b w) = some (mk b (uA w 101 a)) := by
    have main := lp_ex (body := fun (s6 : Int32 × HP) => if nI n ≤ s6.1 then some (Sum.inl (β := Int32 × HP) s6.2) else (gR [12] 54 s6.2 (b + 77)).bind (fun v24 => (wrI s6.2 v24 s6.1 s6.1).bind (fun hp25 => vl (s6.1 + (1 : Int32)) (fun x26 => some (Sum.inr (x26, hp25)))))) (fun k (t : Int32 × HP) => ∃ i a, k = n - i ∧ i ≤ n ∧ t = (nI i, mk b (uA w 101 a)) ∧ ∀ j, j < i → a j = nI j) (fun x => ∃ a, (∀ i, i < n → a i = nI i) ∧ x = mk b (uA w 101 a)) (by
      rintro k t ⟨i, a, rfl, hi, rfl, hA⟩
      try dsimp only
      by_cases e : i = n
      · left
        rw [if_pos (nI_le (by omega) (by omega))]
        exact ⟨_, rfl, a, by rw [← e]; exact hA, rfl⟩
      · right
        rw [if_neg (nI_ge (by omega) (by omega)), gR_12_77_54, Option.bind_some, wrI_mk (n := 8) (by decide +kernel) b _ (show i < 8 by omega), Option.bind_some, uA_at, uA_uA, vl_eq, nI_1]
        refine ⟨_, n - (i + 1), rfl, by omega, i + 1, _, rfl, by omega, rfl, fun j hj => ?_⟩
        unfold upd
        by_cases z : j = i
        · rw [if_pos z, z]
        · rw [if_neg z]; exact hA j (by omega)) n (0, mk b w) ⟨0, w.2.1 101, rfl, by omega, by rw [uA_id]; rfl, fun j hj => absurd hj (Nat.not_lt_zero j)⟩ FU (Nat.lt_of_le_of_lt hn (by decide))
    obtain ⟨x, e1, a, e2, rfl⟩ := main
    exact ⟨a, e2, e1⟩
  obtain ⟨a, hA, e1⟩ := fill
  obtain ⟨x, e2, q, w2, rfl, e3, e4, e5⟩ := deadL_mk (b := b) (w := uA w 101 a) hp h1 hn hy est (c := c) ec (fun i hi => by rw [uA_at]; exact hA i hi)
  refine ⟨q, w2, sP_trans (sP_uA w _ rfl) e3, e4, e5, fun K => ?_⟩
  rw [e1, Option.bind_some, e2, Option.bind_some]
theorem deadC_mk (hP : R_price w) {n : Nat} (h1 : 1 ≤ n) (hn : n ≤ 8) {y : Nat → Nat} (hs : ∀ j, j < n → stN y j < 1024 ∧ w.2.1 65 j = nI (stN y j)) {a0 : Nat} (ha : a0 < 1024) {c : Nat → Nat → Nat} (ec : c = fun a j => prS (w.2.1 78) (a ^^^ stN y j)) : ∃ q w2, sim w w2 ∧ bestRow c (stN y) n a0 q ∧ (∀ i, i < n → w2.2.1 66 i = nI (q i)) ∧ FX9_find (mk b w) (b + 64) (nI a0) (nI n) (b + 25) = some (nI (pay c (stN y) q a0 n).2, mk b w2) := by
  have hc : ∀ a j, c a j ≤ 990 := fun a j => by rw [ec]; exact prS_le hP.2.1 _
  obtain ⟨r, a, e1, e2⟩ := tour_mk (b := b) hP h1 hn hs ha ec
  refine ⟨rW c (stN y) n a0, uA (uA w 67 a) 66 r, sP_trans (sP_uA w _ rfl) (sP_uA _ _ rfl), rW_best hn hc (fun j hj => (hs j hj).1) ha, fun i hi => by rw [uA_at]; exact e2 i hi, ?_⟩
  rw [e1]
  have e : (wk c (stN y) n a0 n).2.2 = (pay c (stN y) (rW c (stN y) n a0) a0 n).2 := by rw [wk_pay n]
  rw [e]
end
