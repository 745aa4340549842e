/-! the reference's loop over a formula -/
def frB (p0 : Nat) : Int32 × HP → Option ((Int32 × HP) ⊕ (Int32 × HP)) := (fun (s8 : Int32 × HP) => if s8.1 = 0 then some (Sum.inl (s8.1, s8.2)) else (gI [12] 15 s8.2 p0).bind (fun v22 => (gI [12] 16 s8.2 p0).bind (fun v23 => if v23 ≤ v22 then some (Sum.inl (s8.1, s8.2)) else (gI [12] 43 s8.2 p0).bind (fun v24 => if v24 = 0 then (rc [12] s8.2 p0 (FX12_readsSign s8.2 p0)).bind (fun w25 => some (Sum.inr (w25.1, w25.2))) else (rc [12] s8.2 p0 (FX12_readsPiece s8.2 p0)).bind (fun w26 => some (Sum.inr (w26.1, w26.2)))))))
def frK (p0 : Nat) : Int32 × HP → Option (Int32 × HP) := (fun (y9 : Int32 × HP) => if y9.1 = 0 then (gI [12] 17 y9.2 p0).bind (fun v10 => some (v10, y9.2)) else (gI [12] 43 y9.2 p0).bind (fun v11 => jn (A := HP) (fun a12 => (gI [12] 43 a12 p0).bind (fun v14 => jn (A := Unit) (fun a15 => (gI [12] 15 a12 p0).bind (fun v17 => (rc [12] a12 p0 (FX12_wrongAt a12 p0 (1 : Int32) v17)).bind (fun w18 => (gI [12] 17 w18.2 p0).bind (fun v19 => some (v19, w18.2))))) (fun J16 => if v14 = 0 then (gI [12] 41 a12 p0).bind (fun v20 => if v20 ≤ 0 then some ((0 : Int32), a12) else J16 ()) else J16 ()))) (fun J13 => if v11 = 0 then (rc [12] y9.2 p0 (FX12_laysTo y9.2 p0 (32 : Int32))).bind (fun w21 => J13 w21) else J13 y9.2)))
def atN (W : WD) : Nat := (W.1 77 15).toBitVec.toNat
theorem atN_nI {a : Nat} (h : a ≤ 100) : (nI a).toBitVec.toNat = a := (by decide +kernel : ∀ a, a < 101 → (nI a).toBitVec.toNat = a) a (by omega)
theorem atN_FS {w0 W : WD} {len a d : Nat} {z : Int32} {L : List Nat} {s : List (Nat × Nat)} (h : FS w0 W len a z d L s) (ha : a ≤ 100) : atN W = a := by
  unfold atN
  rw [h.2.2.1, atN_nI ha]
def Reach (b : Nat) (W W' : WD) : Prop := ∃ m, m + atN W ≤ atN W' ∧ ∀ N, lp (frB (b + 77)) (N + m) ((1 : Int32), mk b W) = lp (frB (b + 77)) N ((1 : Int32), mk b W')
def FailR (b : Nat) (w0 W : WD) (z : Nat × Nat) : Prop := ∃ m W', m + atN W ≤ 102 ∧ frY w0 W' ∧ ∀ N, m ≤ N → (lp (frB (b + 77)) N ((1 : Int32), mk b W)).bind (frK (b + 77)) = some (flt z, mk b W')
section
variable {b : Nat} {w0 W W' : WD} {len a : Nat} {ch : Nat → Nat} {L : List Nat} {s : List (Nat × Nat)} {d : Nat}
theorem Reach_refl (W : WD) : Reach b W W := ⟨0, by omega, fun _ => rfl⟩
theorem Reach_trans {W1 W2 W3 : WD} (h : Reach b W1 W2) (h2 : Reach b W2 W3) : Reach b W1 W3 := by
  obtain ⟨m, l, h⟩ := h
  obtain ⟨m2, l2, h2⟩ := h2
  exact ⟨m2 + m, by omega, fun N => by rw [← Nat.add_assoc, h, h2]⟩
theorem Reach_fail {z : Nat × Nat} (h : Reach b W W') (h2 : FailR b w0 W' z) : FailR b w0 W z := by
  obtain ⟨m, l, h⟩ := h
  obtain ⟨m2, W2, l2, f, h2⟩ := h2
  refine ⟨m2 + m, W2, by omega, f, fun N hN => ?_⟩
  obtain ⟨M, rfl⟩ : ∃ M, N = M + m := ⟨N - m, by omega⟩
  rw [h]
  exact h2 M (by omega)
theorem frB_piece (h : FS w0 W len a 1 d L s) (ha : a < len) (hl : len ≤ 100) {r : Int32} (e : FX12_readsPiece (mk b W) (b + 77) = some (r, mk b W')) : frB (b + 77) ((1 : Int32), mk b W) = some (.inr (r, mk b W')) := by
  unfold frB
  dsimp only
  rw [if_neg (by decide), gI_12_77_15, Option.bind_some, gI_12_77_16, Option.bind_some, h.2.1, h.2.2.1, if_neg (nI_ge ha (by omega)), gI_12_77_43, Option.bind_some, h.2.2.2.1, if_neg (by decide), rc_12_77, e, Option.bind_some]
theorem frB_sign (h : FS w0 W len a 0 d L s) (ha : a < len) (hl : len ≤ 100) {r : Int32} (e : FX12_readsSign (mk b W) (b + 77) = some (r, mk b W')) : frB (b + 77) ((1 : Int32), mk b W) = some (.inr (r, mk b W')) := by
  unfold frB
  dsimp only
  rw [if_neg (by decide), gI_12_77_15, Option.bind_some, gI_12_77_16, Option.bind_some, h.2.1, h.2.2.1, if_neg (nI_ge ha (by omega)), gI_12_77_43, Option.bind_some, h.2.2.2.1, if_pos rfl, rc_12_77, e, Option.bind_some]
theorem frB_end {z : Int32} (h : FS w0 W len len z d L s) : frB (b + 77) ((1 : Int32), mk b W) = some (.inl ((1 : Int32), mk b W)) := by
  unfold frB
  dsimp only
  rw [if_neg (by decide), gI_12_77_15, Option.bind_some, gI_12_77_16, Option.bind_some, h.2.1, h.2.2.1, if_pos (Int32.le_refl _)]
theorem fail_of {z : Nat × Nat} {z0 : Int32} (h : FS w0 W len a z0 d L s) (ha : a ≤ 100) (e : frB (b + 77) ((1 : Int32), mk b W) = some (.inr (0, mk b W'))) (h17 : W'.1 77 17 = flt z) (hf : frY w0 W') : FailR b w0 W z := by
  refine ⟨2, W', by rw [atN_FS h ha]; omega, hf, fun N hN => ?_⟩
  obtain ⟨M, rfl⟩ : ∃ M, N = M + 1 + 1 := ⟨N - 2, by omega⟩
  have e2 : frB (b + 77) ((0 : Int32), mk b W') = some (.inl ((0 : Int32), mk b W')) := by
    unfold frB
    dsimp only
    rw [if_pos rfl]
  rw [lp_one e, lp_out e2, Option.bind_some]
  unfold frK
  dsimp only
  rw [if_pos rfl, gI_12_77_17, Option.bind_some, h17]
theorem reach_of {z0 z1 : Int32} {a1 d1 : Nat} {L1 : List Nat} {s1 : List (Nat × Nat)} (h : FS w0 W len a z0 d L s) (h1 : FS w0 W' len a1 z1 d1 L1 s1) (ha : a < a1) (ha1 : a1 ≤ 100) (e : frB (b + 77) ((1 : Int32), mk b W) = some (.inr (1, mk b W'))) : Reach b W W' := ⟨1, by rw [atN_FS h (by omega), atN_FS h1 ha1]; omega, fun N => lp_one e⟩
theorem end_1 (h : FS w0 W len len 1 d L s) (hl : len ≤ 100) : FailR b w0 W (1, len) := by
  refine ⟨1, uI W 77 17 (flt (1, len)), by rw [atN_FS h hl]; omega, (FS_17 h _).1, fun N hN => ?_⟩
  obtain ⟨M, rfl⟩ : ∃ M, N = M + 1 := ⟨N - 1, by omega⟩
  rw [lp_out (frB_end h), Option.bind_some]
  unfold frK
  dsimp only
  rw [if_neg (by decide), gI_12_77_43, Option.bind_some, h.2.2.2.1, jn_eq, if_neg (by decide)]
  dsimp only
  rw [gI_12_77_43, Option.bind_some, h.2.2.2.1, jn_eq, if_neg (by decide)]
  dsimp only
  rw [gI_12_77_15, Option.bind_some, h.2.2.1, rc_12_77]
  refine bS (sf_wrong 1 len) ?_
  rw [gI_12_77_17, Option.bind_some]
  rfl
theorem end_0 (h : FS w0 W len len 0 d L s) (hl : len ≤ 100) (hLs : L.length + s.length ≤ 100) (hs : sgn s) : ∃ W1, FS w0 W1 len len 0 d (lpop 32 L s).1 (lpop 32 L s).2 ∧ ∀ N, 1 ≤ N → (lp (frB (b + 77)) N ((1 : Int32), mk b W)).bind (frK (b + 77)) = if (lpop 32 L s).2.length = 0 then some (0, mk b W1) else some (flt (1, len), mk b (uI W1 77 17 (flt (1, len)))) := by
  have hlen := lpop_len 32 s L
  obtain ⟨W1, r1, r2⟩ := sf_laysTo (b := b) (p := 32) (by decide) h hLs hs
  have r1 : FX12_laysTo (mk b W) (b + 77) (32 : Int32) = some (mk b W1) := r1
  refine ⟨W1, r2, fun N hN => ?_⟩
  obtain ⟨M, rfl⟩ : ∃ M, N = M + 1 := ⟨N - 1, by omega⟩
  rw [lp_out (frB_end h), Option.bind_some]
  unfold frK
  dsimp only
  rw [if_neg (by decide), gI_12_77_43, Option.bind_some, h.2.2.2.1, jn_eq, if_pos rfl, rc_12_77, r1, Option.bind_some]
  dsimp only
  rw [gI_12_77_43, Option.bind_some, r2.2.2.2.1, jn_eq, if_pos rfl, gI_12_77_41, Option.bind_some, r2.2.2.2.2.2.2.1]
  by_cases q : (lpop 32 L s).2.length = 0
  · rw [if_pos q, q, if_pos (by decide)]
  · rw [if_neg q, if_neg (show ¬ nI (lpop 32 L s).2.length ≤ (0 : Int32) from nI_ge (a := 0) (b := (lpop 32 L s).2.length) (by omega) (by omega))]
    dsimp only
    rw [gI_12_77_15, Option.bind_some, r2.2.2.1, rc_12_77]
    refine bS (sf_wrong 1 len) ?_
    rw [gI_12_77_17, Option.bind_some]
    rfl
theorem end_bad (h : FS w0 W len len 0 d L s) (hl : len ≤ 100) (hLs : L.length + s.length ≤ 100) (hs : sgn s) (hn : (lpop 32 L s).2.length ≠ 0) : FailR b w0 W (1, len) := by
  obtain ⟨W1, r1, r2⟩ := end_0 (b := b) h hl hLs hs
  refine ⟨1, uI W1 77 17 (flt (1, len)), by rw [atN_FS h hl]; omega, (FS_17 r1 _).1, fun N hN => ?_⟩
  rw [r2 N hN, if_neg hn]
end
/-! the stack of signs that wait, and what is laid -/
def cod (o : Option FV) : List Nat := match o with
  | none => []
  | some y => y.2
def wtc (k : Nat) (o : Option FV) (s : List (Nat × Nat)) : List (Nat × Nat) := match o with
  | none => s
  | some _ => (k, 1) :: s
def bas : List (Nat × Nat) → Prop
  | [] => True
  | x :: _ => 90 ≤ x.1
theorem lpop_base {p : Nat} (hp : p ≤ 32) {s : List (Nat × Nat)} (hs : bas s) (L : List Nat) : lpop p L s = (L, s) := by
  cases s with
  | nil => rfl
  | cons x s =>
    have hs : 90 ≤ x.1 := hs
    show (if 30 ≤ x.1 ∧ x.1 ≤ p then _ else _) = _
    rw [if_neg (by omega)]
theorem lpop_w {p k : Nat} (h1 : 30 ≤ k) (h2 : k ≤ p) (op : Bool → Bool → Bool) (o : Option FV) (L : List Nat) (x : FV) (s : List (Nat × Nat)) : lpop p (L ++ cod o ++ x.2) (wtc k o s) = lpop p (L ++ (fjn k op o x).2) s := by
  cases o with
  | none =>
    show lpop p (L ++ [] ++ x.2) s = _
    rw [List.append_nil]
    rfl
  | some y =>
    show (if 30 ≤ k ∧ k ≤ p then lpop p (L ++ y.2 ++ x.2 ++ [k]) s else _) = lpop p (L ++ (y.2 ++ x.2 ++ [k])) s
    rw [if_pos ⟨h1, h2⟩, List.append_assoc L, List.append_assoc L]
theorem lpop_st {p k : Nat} (h : p < k) (o : Option FV) (L : List Nat) (s : List (Nat × Nat)) (hs : lpop p L s = (L, s)) : lpop p L (wtc k o s) = (L, wtc k o s) := by
  cases o with
  | none => exact hs
  | some y =>
    show (if 30 ≤ k ∧ k ≤ p then _ else _) = _
    rw [if_neg (by omega)]
    rfl
def st3 (oS oO oA : Option FV) (s : List (Nat × Nat)) : List (Nat × Nat) := wtc 30 oA (wtc 31 oO (wtc 32 oS s))
def cd3 (L : List Nat) (oS oO oA : Option FV) (C : FV) : List Nat := L ++ cod oS ++ cod oO ++ cod oA ++ C.2
theorem pop_30 {s : List (Nat × Nat)} (hs : bas s) (L : List Nat) (oS oO oA : Option FV) (C : FV) : lpop 30 (cd3 L oS oO oA C) (st3 oS oO oA s) = (L ++ cod oS ++ cod oO ++ (fA oA C).2, st3 oS oO none s) := by
  unfold cd3 st3
  rw [lpop_w (Nat.le_refl 30) (Nat.le_refl 30) (fun p q => p && q)]
  exact lpop_st (by decide) oO _ _ (lpop_st (by decide) oS _ _ (lpop_base (by decide) hs _))
theorem pop_31 {s : List (Nat × Nat)} (hs : bas s) (L : List Nat) (oS oO oA : Option FV) (C : FV) : lpop 31 (cd3 L oS oO oA C) (st3 oS oO oA s) = (L ++ cod oS ++ (fO oO oA C).2, st3 oS none none s) := by
  unfold cd3 st3
  rw [lpop_w (p := 31) (k := 30) (by decide) (by decide) (fun p q => p && q), show fjn 30 (fun p q => p && q) oA C = fA oA C from rfl, lpop_w (p := 31) (k := 31) (by decide) (by decide) (fun p q => xor p q)]
  exact lpop_st (by decide) oS _ _ (lpop_base (by decide) hs _)
theorem pop_32 {s : List (Nat × Nat)} (hs : bas s) (L : List Nat) (oS oO oA : Option FV) (C : FV) : lpop 32 (cd3 L oS oO oA C) (st3 oS oO oA s) = (L ++ (fS oS oO oA C).2, s) := by
  unfold cd3 st3
  rw [lpop_w (p := 32) (k := 30) (by decide) (by decide) (fun p q => p && q), show fjn 30 (fun p q => p && q) oA C = fA oA C from rfl, lpop_w (p := 32) (k := 31) (by decide) (by decide) (fun p q => xor p q), show fjn 31 (fun p q => xor p q) oO (fA oA C) = fO oO oA C from rfl, lpop_w (p := 32) (k := 32) (by decide) (by decide) (fun p q => p || q)]
  exact lpop_base (by decide) hs _
