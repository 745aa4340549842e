/-! a turn of isTrue that counts -/
theorem dvm : ∀ t, t < 11 → ∀ k, k < 10 → dvI (nI (100 * t + 100 + k)) (100 : Int32) = some (nI (t + 1)) ∧ rmI (nI (100 * t + 100 + k)) (100 : Int32) = some (nI k) := by decide +kernel
section
variable {b : Nat} {W : WD}
theorem it_many {st t k : Nat} {S xs : List Bool} {i n : Nat} (hi : i < n) (hn : n ≤ 100) (h40 : W.1 77 40 = nI n) (ht : t ≤ 10) (hk : k < 10) (hc : W.2.1 97 i = nI (100 * t + 100 + k)) (hx : xs.length = t) (hS : (xs ++ S).length ≤ 100) (hS2 : S.length < 100) (hs : stkB (W.2.1 100) (xs ++ S)) : itB (b + 77) (nI st) (nI (xs ++ S).length, nI i, mk b W) = some (.inr (nI (S.length + 1), nI (i + 1), mk b (uA W 100 (upd (W.2.1 100) S.length (if decide (k ≤ cT xs) then 1 else 0))))) := by
  have hla : (xs ++ S).length = xs.length + S.length := List.length_append
  have hct := cT_le xs
  have wr : ∀ v : Int32, v = (if decide (k ≤ cT xs) then 1 else 0) → (wrZ (mk b W) (b + 100) (nI S.length) v).bind (fun hp41 => vl (nI S.length + (1 : Int32)) (fun x42 => vl (nI i + (1 : Int32)) (fun x43 => some (Sum.inr (α := HP) (x42, x43, hp41))))) = some (.inr (nI (S.length + 1), nI (i + 1), mk b (uA W 100 (upd (W.2.1 100) S.length (if decide (k ≤ cT xs) then 1 else 0))))) := by
    intro v hv
    subst hv
    rw [wrZ_mk (j := 100) (n := 100) (by decide +kernel) b _ hS2 (by cases decide (k ≤ cT xs); exact Or.inl rfl; exact Or.inr rfl), Option.bind_some, vl_eq, vl_eq, nI_1, nI_1]
  have e36 : nI (xs ++ S).length - nI t = nI S.length := by
    rw [hla, hx, Nat.add_comm, ← nI_add, Int32.add_sub_cancel]
  have cn := cn_lp (b := b) (W := W) hS xs S 0 0 t hs (by omega) (by omega) (by omega) FU (Nat.lt_of_le_of_lt (show xs.length ≤ 10 by omega) (by decide))
  rw [Nat.zero_add] at cn
  unfold itB
  dsimp only
  rw [gI_12_77_40, Option.bind_some, h40, if_neg (nI_ge hi (by omega)), gR_12_77_37, Option.bind_some, rdN_mk (t := 0) (j := 97) (n := 100) (by decide +kernel) (by decide) b _ (by omega), Option.bind_some, hc]
  rw [if_neg (show ¬ nI (100 * t + 100 + k) < (100 : Int32) from nI_nlt (a := 100 * t + 100 + k) (b := 100) (by omega) (by omega)), (dvm t (by omega) k hk).1, Option.bind_some, vl_eq, nI_s1]
  refine bS cn ?_
  rw [vl_eq, e36, gR_12_77_44, Option.bind_some, (dvm t (by omega) k hk).2, Option.bind_some, jn_eq]
  by_cases q : k ≤ cT xs
  · rw [if_neg (nI_nlt q (by omega))]
    exact wr _ (by rw [decide_eq_true q]; rfl)
  · rw [if_pos (nI_lt (show cT xs < k by omega) (by omega))]
    exact wr _ (by rw [decide_eq_false q]; rfl)
end
