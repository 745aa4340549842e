/-! the reference counts truths -/
def cnB (p0 : Nat) (hp : HP) (sp x33 : Int32) : Int32 × Int32 → Option (Int32 ⊕ (Int32 × Int32)) := (fun (s34 : Int32 × Int32) => if x33 ≤ s34.2 then some (Sum.inl s34.1) else (gR [12] 44 hp p0).bind (fun v44 => (rdN 2 hp v44 ((sp - (1 : Int32)) - s34.2)).bind (fun v45 => if v45 = 0 then vl (s34.1 + (0 : Int32)) (fun x46 => vl (s34.2 + (1 : Int32)) (fun x47 => some (Sum.inr (x46, x47)))) else vl (s34.1 + (1 : Int32)) (fun x48 => vl (s34.2 + (1 : Int32)) (fun x49 => some (Sum.inr (x48, x49)))))))
theorem cT_le : ∀ xs : List Bool, cT xs ≤ xs.length
  | [] => Nat.le_refl 0
  | x :: xs => by
    have := cT_le xs
    have h2 : x.toNat ≤ 1 := Bool.toNat_le x
    show x.toNat + cT xs ≤ xs.length + 1
    omega
section
variable {b : Nat} {W : WD}
/-- the first i of the truths on top -/
theorem cn_lp {N0 : Nat} (hN0 : N0 ≤ 100) : ∀ (ys S : List Bool) (i c t : Nat), stkB (W.2.1 100) (ys ++ S) → (ys ++ S).length + i = N0 → ys.length + i = t → c + cT ys ≤ 100 → ∀ M, ys.length < M → lp (cnB (b + 77) (mk b W) (nI N0) (nI t)) M (nI c, nI i) = some (nI (c + cT ys))
  | [], S, i, c, t, h, hN, ht, hc, M, hM => by
    obtain ⟨M', rfl⟩ : ∃ M', M = M' + 1 := ⟨M - 1, by have : 0 < M := hM; omega⟩
    have ht : i = t := by rw [← ht]; show i = 0 + i; omega
    subst ht
    refine lp_out ?_
    unfold cnB
    dsimp only
    rw [if_pos (Int32.le_refl _)]
    rfl
  | x :: ys, S, i, c, t, h, hN, ht, hc, M, hM => by
    rw [List.length_cons] at ht hM
    rw [List.cons_append, List.length_cons] at hN
    obtain ⟨M', rfl⟩ : ∃ M', M = M' + 1 := ⟨M - 1, by omega⟩
    have hx : W.2.1 100 (ys ++ S).length = (if x then 1 else 0) := h.1
    have hc : c + (x.toNat + cT ys) ≤ 100 := hc
    have hla : (ys ++ S).length = ys.length + S.length := List.length_append
    have e1 : (nI N0 - (1 : Int32)) - nI i = nI (ys ++ S).length := by
      rw [← hN, show (ys ++ S).length + 1 + i = ((ys ++ S).length + i) + 1 by omega, nI_s1]
      rw [← nI_add, Int32.add_sub_cancel]
    have step : cnB (b + 77) (mk b W) (nI N0) (nI t) (nI c, nI i) = some (.inr (nI (c + x.toNat), nI (i + 1))) := by
      unfold cnB
      dsimp only
      rw [if_neg (nI_ge (show i < t by omega) (by omega)), gR_12_77_44, Option.bind_some, e1, rdN_mk (t := 2) (j := 100) (n := 100) (by decide +kernel) (by decide) b _ (by omega), Option.bind_some, hx]
      cases x with
      | false => rw [if_pos (by decide), vl_eq, vl_eq, nI_1, Int32.add_zero]; rfl
      | true => rw [if_neg (by decide), vl_eq, vl_eq, nI_1, nI_1]; rfl
    rw [lp_one step]
    have := cn_lp hN0 ys S (i + 1) (c + x.toNat) t h.2 (by omega) (by omega) (by omega) M' (by omega)
    rw [this, Nat.add_assoc]
    rfl
end
