/-! the reference reckons a formula in a state -/
def itB (p0 : Nat) (p1 : Int32) : Int32 × Int32 × HP → Option (HP ⊕ (Int32 × Int32 × HP)) := (fun (s1 : Int32 × Int32 × HP) => (gI [12] 40 s1.2.2 p0).bind (fun v5 => if v5 ≤ s1.2.1 then some (Sum.inl s1.2.2) else (gR [12] 37 s1.2.2 p0).bind (fun v6 => (rdN 0 s1.2.2 v6 s1.2.1).bind (fun v7 => if v7 < (100 : Int32) then if (30 : Int32) ≤ v7 then if v7 = (33 : Int32) then (gR [12] 44 s1.2.2 p0).bind (fun v8 => (gR [12] 44 s1.2.2 p0).bind (fun v9 => (rdN 2 s1.2.2 v9 (s1.1 - (1 : Int32))).bind (fun v10 => jn (A := Int32) (fun a11 => (wrZ s1.2.2 v8 (s1.1 - (1 : Int32)) a11).bind (fun hp13 => vl (s1.2.1 + (1 : Int32)) (fun x14 => some (Sum.inr (s1.1, x14, hp13))))) (fun J12 => if v10 = 0 then J12 (1 : Int32) else J12 (0 : Int32))))) else vl (s1.1 - (1 : Int32)) (fun x15 => (gR [12] 44 s1.2.2 p0).bind (fun v16 => (rdN 2 s1.2.2 v16 (x15 - (1 : Int32))).bind (fun v17 => (gR [12] 44 s1.2.2 p0).bind (fun v18 => (rdN 2 s1.2.2 v18 x15).bind (fun v19 => (gR [12] 44 s1.2.2 p0).bind (fun v20 => jn (A := Int32) (fun a21 => (wrZ s1.2.2 v20 (x15 - (1 : Int32)) a21).bind (fun hp23 => vl (s1.2.1 + (1 : Int32)) (fun x24 => some (Sum.inr (x15, x24, hp23))))) (fun J22 => if v7 = (30 : Int32) then if v17 = 0 then J22 (0 : Int32) else if v19 = 0 then J22 (0 : Int32) else J22 (1 : Int32) else if v7 = (31 : Int32) then if v17 = v19 then J22 (0 : Int32) else J22 (1 : Int32) else if v17 = 0 then if v19 = 0 then J22 (0 : Int32) else J22 (1 : Int32) else J22 (1 : Int32)))))))) else (gR [12] 44 s1.2.2 p0).bind (fun v25 => jn (A := Int32) (fun a26 => (wrZ s1.2.2 v25 s1.1 a26).bind (fun hp28 => vl (s1.1 + (1 : Int32)) (fun x29 => vl (s1.2.1 + (1 : Int32)) (fun x30 => some (Sum.inr (x29, x30, hp28)))))) (fun J27 => if (20 : Int32) ≤ v7 then if v7 = (21 : Int32) then J27 (1 : Int32) else J27 (0 : Int32) else (FX12_has p1 v7).bind (fun v31 => J27 v31))) else (dvI v7 (100 : Int32)).bind (fun v32 => vl (v32 - (1 : Int32)) (fun x33 => (lp (fun (s34 : Int32 × Int32) => if x33 ≤ s34.2 then some (Sum.inl s34.1) else (gR [12] 44 s1.2.2 p0).bind (fun v44 => (rdN 2 s1.2.2 v44 ((s1.1 - (1 : Int32)) - s34.2)).bind (fun v45 => if v45 = 0 then vl (s34.1 + (0 : Int32)) (fun x46 => vl (s34.2 + (1 : Int32)) (fun x47 => some (Sum.inr (x46, x47)))) else vl (s34.1 + (1 : Int32)) (fun x48 => vl (s34.2 + (1 : Int32)) (fun x49 => some (Sum.inr (x48, x49))))))) FU ((0 : Int32), (0 : Int32))).bind (fun (y35 : Int32) => vl (s1.1 - x33) (fun x36 => (gR [12] 44 s1.2.2 p0).bind (fun v37 => (rmI v7 (100 : Int32)).bind (fun v38 => jn (A := Int32) (fun a39 => (wrZ s1.2.2 v37 x36 a39).bind (fun hp41 => vl (x36 + (1 : Int32)) (fun x42 => vl (s1.2.1 + (1 : Int32)) (fun x43 => some (Sum.inr (x42, x43, hp41)))))) (fun J40 => if y35 < v38 then J40 (0 : Int32) else J40 (1 : Int32))))))))))))
/-- the stack of truths, top first -/
def stkB (g : Nat → Int32) : List Bool → Prop
  | [] => True
  | x :: S => g S.length = (if x then 1 else 0) ∧ stkB g S
theorem stkB_cong {g g' : Nat → Int32} : ∀ (S : List Bool), (∀ i, i < S.length → g' i = g i) → stkB g S → stkB g' S
  | [], _, _ => trivial
  | x :: S, e, q => ⟨(e S.length (by rw [List.length_cons]; omega)).trans q.1, stkB_cong S (fun i hi => e i (by rw [List.length_cons]; omega)) q.2⟩
theorem stkB_push {g : Nat → Int32} {S : List Bool} (h : stkB g S) (x : Bool) : stkB (upd g S.length (if x then 1 else 0)) (x :: S) := by
  refine ⟨?_, stkB_cong S (fun i hi => ?_) h⟩
  · unfold upd
    rw [if_pos rfl]
  · unfold upd
    rw [if_neg (by omega)]
theorem stkB_drop {g : Nat → Int32} : ∀ (xs S : List Bool), stkB g (xs ++ S) → stkB g S
  | [], S, h => h
  | _ :: xs, S, h => stkB_drop xs S h.2
section
variable {b : Nat} {W : WD}
theorem it_push {st c : Nat} {S : List Bool} {i n : Nat} (hst : st < 1024) (hi : i < n) (hn : n ≤ 100) (h40 : W.1 77 40 = nI n) (hc : W.2.1 97 i = nI c) (hS : S.length < 100) {x : Bool} (h : (c < 10 ∧ x = st.testBit c) ∨ (c = 20 ∧ x = false) ∨ (c = 21 ∧ x = true)) : itB (b + 77) (nI st) (nI S.length, nI i, mk b W) = some (.inr (nI (S.length + 1), nI (i + 1), mk b (uA W 100 (upd (W.2.1 100) S.length (if x then 1 else 0))))) := by
  have wr : ∀ v : Int32, v = (if x then 1 else 0) → (wrZ (mk b W) (b + 100) (nI S.length) v).bind (fun hp28 => vl (nI S.length + (1 : Int32)) (fun x29 => vl (nI i + (1 : Int32)) (fun x30 => some (Sum.inr (α := HP) (x29, x30, hp28))))) = some (.inr (nI (S.length + 1), nI (i + 1), mk b (uA W 100 (upd (W.2.1 100) S.length (if x then 1 else 0))))) := by
    intro v hv
    subst hv
    rw [wrZ_mk (j := 100) (n := 100) (by decide +kernel) b _ hS (by cases x; exact Or.inl rfl; exact Or.inr rfl), Option.bind_some, vl_eq, vl_eq, nI_1, nI_1]
  unfold itB
  dsimp only
  rw [gI_12_77_40, Option.bind_some, h40, if_neg (nI_ge hi (by omega)), gR_12_77_37, Option.bind_some, rdN_mk (t := 0) (j := 97) (n := 100) (by decide +kernel) (by decide) b _ (by omega), Option.bind_some, hc]
  have c22 : c < 22 := by omega
  rw [if_pos (show nI c < (100 : Int32) from nI_lt (a := c) (b := 100) (by omega) (by decide)), if_neg (show ¬ (30 : Int32) ≤ nI c from nI_ge (a := c) (b := 30) (by omega) (by decide)), gR_12_77_44, Option.bind_some, jn_eq]
  rcases h with ⟨h1, h2⟩ | ⟨h1, h2⟩ | ⟨h1, h2⟩
  · rw [if_neg (show ¬ (20 : Int32) ≤ nI c from nI_ge (a := c) (b := 20) (by omega) (by decide))]
    refine bS (has_eq (nI st) (k := c) (by omega)) ?_
    exact wr _ (by rw [h2, bt_nI st (by omega)])
  · subst h1
    rw [if_pos (by decide), if_neg (by decide)]
    exact wr _ (by rw [h2]; rfl)
  · subst h1
    rw [if_pos (by decide), if_pos (by decide)]
    exact wr _ (by rw [h2]; rfl)
theorem it_not {st : Nat} {S : List Bool} {x : Bool} {i n : Nat} (hi : i < n) (hn : n ≤ 100) (h40 : W.1 77 40 = nI n) (hc : W.2.1 97 i = nI 33) (hS : S.length < 100) (hk : stkB (W.2.1 100) (x :: S)) : itB (b + 77) (nI st) (nI (S.length + 1), nI i, mk b W) = some (.inr (nI (S.length + 1), nI (i + 1), mk b (uA W 100 (upd (W.2.1 100) S.length (if !x then 1 else 0))))) := by
  unfold itB
  dsimp only
  rw [gI_12_77_40, Option.bind_some, h40, if_neg (nI_ge hi (by omega)), gR_12_77_37, Option.bind_some, rdN_mk (t := 0) (j := 97) (n := 100) (by decide +kernel) (by decide) b _ (by omega), Option.bind_some, hc]
  rw [if_pos (by decide), if_pos (by decide), if_pos (by decide), gR_12_77_44, Option.bind_some, Option.bind_some, nI_s1, rdN_mk (t := 2) (j := 100) (n := 100) (by decide +kernel) (by decide) b _ hS, Option.bind_some, hk.1, jn_eq]
  cases x with
  | true =>
    rw [if_neg (by decide)]
    dsimp only
    rw [wrZ_mk (j := 100) (n := 100) (by decide +kernel) b _ hS (Or.inl rfl), Option.bind_some, vl_eq, nI_1]
    rfl
  | false =>
    rw [if_pos (by decide)]
    dsimp only
    rw [wrZ_mk (j := 100) (n := 100) (by decide +kernel) b _ hS (Or.inr rfl), Option.bind_some, vl_eq, nI_1]
    rfl
def bop (c : Nat) (x y : Bool) : Bool := if c = 30 then x && y else if c = 31 then xor x y else x || y
theorem it_bin {st c : Nat} (hcc : c = 30 ∨ c = 31 ∨ c = 32) {S : List Bool} {x y : Bool} {i n : Nat} (hi : i < n) (hn : n ≤ 100) (h40 : W.1 77 40 = nI n) (hc : W.2.1 97 i = nI c) (hS : S.length + 1 < 100) (hk : stkB (W.2.1 100) (y :: x :: S)) : itB (b + 77) (nI st) (nI (S.length + 2), nI i, mk b W) = some (.inr (nI (S.length + 1), nI (i + 1), mk b (uA W 100 (upd (W.2.1 100) S.length (if bop c x y then 1 else 0))))) := by
  have k1 : W.2.1 100 (S.length + 1) = (if y then 1 else 0) := hk.1
  have k2 : W.2.1 100 S.length = (if x then 1 else 0) := hk.2.1
  have wr : ∀ v : Int32, v = (if bop c x y then 1 else 0) → (wrZ (mk b W) (b + 100) (nI S.length) v).bind (fun hp23 => vl (nI i + (1 : Int32)) (fun x24 => some (Sum.inr (α := HP) (nI (S.length + 1), x24, hp23)))) = some (.inr (nI (S.length + 1), nI (i + 1), mk b (uA W 100 (upd (W.2.1 100) S.length (if bop c x y then 1 else 0))))) := by
    intro v hv
    subst hv
    rw [wrZ_mk (j := 100) (n := 100) (by decide +kernel) b _ (by omega) (by cases bop c x y; exact Or.inl rfl; exact Or.inr rfl), Option.bind_some, vl_eq, nI_1]
  unfold itB
  dsimp only
  rw [gI_12_77_40, Option.bind_some, h40, if_neg (nI_ge hi (by omega)), gR_12_77_37, Option.bind_some, rdN_mk (t := 0) (j := 97) (n := 100) (by decide +kernel) (by decide) b _ (by omega), Option.bind_some, hc]
  have n33 : ¬ nI c = (33 : Int32) := by rcases hcc with rfl | rfl | rfl <;> decide
  have l100 : nI c < (100 : Int32) := by rcases hcc with rfl | rfl | rfl <;> decide
  have g30 : (30 : Int32) ≤ nI c := by rcases hcc with rfl | rfl | rfl <;> decide
  rw [if_pos l100, if_pos g30, if_neg n33, vl_eq, show nI (S.length + 2) - (1 : Int32) = nI (S.length + 1) from nI_s1 _, gR_12_77_44, Option.bind_some, nI_s1, rdN_mk (t := 2) (j := 100) (n := 100) (by decide +kernel) (by decide) b _ (by omega), Option.bind_some, Option.bind_some, rdN_mk (t := 2) (j := 100) (n := 100) (by decide +kernel) (by decide) b _ hS, Option.bind_some, Option.bind_some, k1, k2, jn_eq]
  rcases hcc with rfl | rfl | rfl
  · rw [if_pos (by decide)]
    cases x <;> cases y
    · rw [if_pos (by decide)]; exact wr _ rfl
    · rw [if_pos (by decide)]; exact wr _ rfl
    · rw [if_neg (by decide), if_pos (by decide)]; exact wr _ rfl
    · rw [if_neg (by decide), if_neg (by decide)]; exact wr _ rfl
  · rw [if_neg (by decide), if_pos (by decide)]
    cases x <;> cases y
    · rw [if_pos (by decide)]; exact wr _ rfl
    · rw [if_neg (by decide)]; exact wr _ rfl
    · rw [if_neg (by decide)]; exact wr _ rfl
    · rw [if_pos (by decide)]; exact wr _ rfl
  · rw [if_neg (by decide), if_neg (by decide)]
    cases x <;> cases y
    · rw [if_pos (by decide), if_pos (by decide)]; exact wr _ rfl
    · rw [if_pos (by decide), if_neg (by decide)]; exact wr _ rfl
    · rw [if_neg (by decide)]; exact wr _ rfl
    · rw [if_neg (by decide)]; exact wr _ rfl
end
