/-! the law's codes as lists: kind and argument; a skip's argument is how many codes it passes over -/
def reck (k : Nat) (x y : Int32) : Option Int32 := if k = 2 then some (x + y) else if k = 3 then some (x - y) else if k = 4 then some (x * y) else if k = 7 then some (if y ≤ x then 0 else 1) else if k = 8 then some (if x ≤ y then 0 else 1) else if k = 9 then some (if x = y then 1 else 0) else if y = 0 then none else if k = 5 then some (x / y) else some (x - x / y * y)
abbrev Cds : Type := List (Nat × Nat)
def stp (f : Nat → Int32) (go : Nat → List Int32 → Option Int32 → Prop) (len : Nat) (c : Nat × Nat) (st : List Int32) (r : Option Int32) : Prop :=
  (c.1 = 0 ∧ c.2 < 100000 ∧ st.length ≤ 30 ∧ go 0 (nI c.2 :: st) r) ∨
  (c.1 = 1 ∧ c.2 < 8 ∧ st.length ≤ 30 ∧ go 0 (f c.2 :: st) r) ∨
  (2 ≤ c.1 ∧ c.1 ≤ 9 ∧ c.2 = 0 ∧ ∃ x y st', st = y :: x :: st' ∧ ((reck c.1 x y = none ∧ r = none) ∨ ∃ z, reck c.1 x y = some z ∧ go 0 (z :: st') r)) ∨
  (c.1 = 10 ∧ c.2 = 0 ∧ ∃ x st', st = x :: st' ∧ go 0 ((1 - x) :: st') r) ∨
  (c.1 = 11 ∧ c.2 ≤ len ∧ ∃ x st', st = x :: st' ∧ ((x = 0 ∧ go c.2 (x :: st') r) ∨ (x = 1 ∧ go 0 st' r))) ∨
  (c.1 = 12 ∧ c.2 ≤ len ∧ ∃ x st', st = x :: st' ∧ ((x = 1 ∧ go c.2 (x :: st') r) ∨ (x = 0 ∧ go 0 st' r)))
def gon (f : Nat → Int32) : Cds → Nat → List Int32 → Option Int32 → Prop
  | [], _, st, r => ∃ x, st = [x] ∧ r = some x
  | c :: l, 0, st, r => stp f (gon f l) l.length c st r
  | _ :: l, s + 1, st, r => gon f l s st r
def sg (k : Nat) : Nat := if k = 2 then 43 else if k = 3 then 45 else if k = 4 then 42 else if k = 5 then 47 else if k = 6 then 37 else if k = 7 then 60 else if k = 8 then 62 else if k = 9 then 61 else 33
def cC (i : Nat) (c : Nat × Nat) : Int32 := if c.1 = 0 then nI c.2 else if c.1 = 1 then nI (100000 + c.2) else if c.1 = 11 then -1000 - nI (i + 1 + c.2) else if c.1 = 12 then -2000 - nI (i + 1 + c.2) else -(nI (sg c.1))
def cM (i : Nat) (c : Nat × Nat) : Int32 := nI (1048576 * c.1 + (if c.1 = 11 ∨ c.1 = 12 then i + 1 + c.2 else c.2))
def layd (enc : Nat → Nat × Nat → Int32) (g : Nat → Int32) : Nat → Cds → Prop
  | _, [] => True
  | p, c :: l => g p = enc p c ∧ layd enc g (p + 1) l
/-! the class's little machine -/
def runD (p0 : Nat) (v11 : Int32) (s3 : Int32 × Int32 × Int32 × HP) : Option ((Int32 × HP) ⊕ (Int32 × Int32 × Int32 × HP)) := if v11 < 0 then if (-1000 : Int32) < v11 then if v11 = (-33 : Int32) then vl ((1 : Int32) - s3.1) (fun x12 => vl (s3.2.2.1 + (1 : Int32)) (fun x13 => some (Sum.inr (x12, s3.2.1, x13, s3.2.2.2)))) else vl (s3.2.1 + (-1 : Int32)) (fun x14 => (gR [2] 11 s3.2.2.2 p0).bind (fun v15 => (rdN 0 s3.2.2.2 v15 (x14 &&& (31 : Int32))).bind (fun v16 => (rc [2] s3.2.2.2 p0 (FX2_reckon s3.2.2.2 p0 v16 (-v11) s3.1)).bind (fun w17 => vl (s3.2.2.1 + (1 : Int32)) (fun x18 => some (Sum.inr (w17.1, x14, x18, w17.2))))))) else jn (A := Int32) (fun a19 => jn (A := Int32) (fun a21 => if a21 = a19 then jn (A := Int32) (fun a23 => vl (mxI s3.2.2.1 ((a23 - v11) - (1 : Int32))) (fun x25 => vl (x25 + (1 : Int32)) (fun x26 => some (Sum.inr (s3.1, s3.2.1, x26, s3.2.2.2))))) (fun J24 => if a19 = 0 then J24 (-1000 : Int32) else J24 (-2000 : Int32)) else vl (s3.2.1 + (-1 : Int32)) (fun x27 => (gR [2] 11 s3.2.2.2 p0).bind (fun v28 => (rdN 0 s3.2.2.2 v28 (x27 &&& (31 : Int32))).bind (fun v29 => vl (s3.2.2.1 + (1 : Int32)) (fun x30 => some (Sum.inr (v29, x27, x30, s3.2.2.2))))))) (fun J22 => if s3.1 = 0 then J22 (0 : Int32) else J22 (1 : Int32))) (fun J20 => if (-2000 : Int32) < v11 then J20 (0 : Int32) else J20 (1 : Int32)) else (gR [2] 11 s3.2.2.2 p0).bind (fun v31 => (wrI s3.2.2.2 v31 (s3.2.1 &&& (31 : Int32)) s3.1).bind (fun hp32 => vl (s3.2.1 + (1 : Int32)) (fun x33 => if (100000 : Int32) ≤ v11 then (gR [2] 10 hp32 p0).bind (fun v34 => (rdN 0 hp32 v34 ((v11 - (100000 : Int32)) &&& (7 : Int32))).bind (fun v35 => vl (s3.2.2.1 + (1 : Int32)) (fun x36 => some (Sum.inr (v35, x33, x36, hp32))))) else vl (s3.2.2.1 + (1 : Int32)) (fun x37 => some (Sum.inr (v11, x33, x37, hp32))))))
def runB (p0 : Nat) : Int32 × Int32 × Int32 × HP → Option ((Int32 × HP) ⊕ (Int32 × Int32 × Int32 × HP)) := (fun (s3 : Int32 × Int32 × Int32 × HP) => (gI [2] 9 s3.2.2.2 p0).bind (fun v6 => if v6 ≤ s3.2.2.1 then some (Sum.inl (s3.1, s3.2.2.2)) else (gR [2] 8 s3.2.2.2 p0).bind (fun v7 => (rdN 0 s3.2.2.2 v7 s3.2.2.1).bind (fun v8 => if v8 = (-41 : Int32) then some (Sum.inl (s3.1, s3.2.2.2)) else (gI [2] 12 s3.2.2.2 p0).bind (fun v9 => if v9 = 0 then (gR [2] 8 s3.2.2.2 p0).bind (fun v10 => (rdN 0 s3.2.2.2 v10 s3.2.2.1).bind (fun v11 => runD p0 v11 s3)) else some (Sum.inl (s3.1, s3.2.2.2)))))))
theorem run_body (hp : HP) (p0 : Nat) (p1 : Int32) : FX2_run hp p0 p1 = (sZ [2] 12 hp p0 (0 : Int32)).bind (fun hp1 => (lp (runB p0) FU ((0 : Int32), (0 : Int32), mxI (0 : Int32) p1, hp1)).bind (fun (y4 : Int32 × HP) => (gI [2] 12 y4.2 p0).bind (fun v5 => if v5 = 0 then some (y4.1, y4.2) else some ((0 : Int32), y4.2)))) := rfl
def lawS (w : WD) (o : Nat) (g : Nat → Int32) (z : Int32) : WD := uA (uI w o 12 z) (o + 6) g
def SC (g : Nat → Int32) : Int32 → List Int32 → Prop
  | _, [] => True
  | v, x :: st => v = x ∧ SC g (g st.length) st
theorem SC_upd {g : Nat → Int32} {n : Nat} {u : Int32} : ∀ (st : List Int32) (v : Int32), st.length ≤ n → SC g v st → SC (upd g n u) v st
  | [], _, _, _ => trivial
  | x :: st, v, h, ⟨h1, h2⟩ => by
    have hn : st.length < n := h
    refine ⟨h1, ?_⟩
    rw [pk_un (by omega)]
    exact SC_upd st _ (by omega) h2
theorem SC_push {g : Nat → Int32} {v x : Int32} {st : List Int32} (h : SC g v st) : SC (upd g st.length v) x (x :: st) := by
  refine ⟨rfl, ?_⟩
  rw [pk_us]
  exact SC_upd st v (Nat.le_refl _) h
section
variable {b : Nat} {w : WD} {o : Nat} {g : Nat → Int32} {z : Int32}
theorem okL4 (ho : LW o) : okA 0 (o + 4) 240 = true := by rcases ho with rfl | rfl <;> decide +kernel
theorem okL5 (ho : LW o) : okA 0 (o + 5) 8 = true := by rcases ho with rfl | rfl <;> decide +kernel
theorem okL6 (ho : LW o) : okA 0 (o + 6) 32 = true := by rcases ho with rfl | rfl <;> decide +kernel
theorem okL1 (ho : LW o) : okA 0 (o + 1) 16 = true := by rcases ho with rfl | rfl <;> decide +kernel
theorem okL2 (ho : LW o) : okA 0 (o + 2) 16 = true := by rcases ho with rfl | rfl <;> decide +kernel
theorem okL3 (ho : LW o) : okA 0 (o + 3) 16 = true := by rcases ho with rfl | rfl <;> decide +kernel
theorem lawS_I {k : Nat} (hk : k ≠ 12) : (lawS w o g z).1 o k = w.1 o k := by
  show (if o = o ∧ k = 12 then z else w.1 o k) = _
  rw [if_neg (fun q => hk q.2)]
theorem lawS_12 : (lawS w o g z).1 o 12 = z := by
  show (if o = o ∧ 12 = 12 then z else w.1 o 12) = _
  rw [if_pos ⟨rfl, rfl⟩]
theorem lawS_A {j : Nat} (h : j ≠ o + 6) : (lawS w o g z).2.1 j = w.2.1 j := by
  show (if j = o + 6 then g else w.2.1 j) = _
  rw [if_neg h]
theorem lawS_st : (lawS w o g z).2.1 (o + 6) = g := by
  show (if o + 6 = o + 6 then g else w.2.1 (o + 6)) = _
  rw [if_pos rfl]
theorem lawS_uI (z' : Int32) : uI (lawS w o g z) o 12 z' = lawS w o g z' := by
  unfold lawS uI uA
  congr 1
  funext j k
  dsimp only
  split
  · rfl
  · rfl
theorem lawS_uA (g' : Nat → Int32) : uA (lawS w o g z) (o + 6) g' = lawS w o g' z := by
  unfold lawS
  rw [uA_uA]
theorem lawS_eq : uI w o 12 z = lawS w o (w.2.1 (o + 6)) z := by
  unfold lawS
  have e : ∀ (v : WD) (j : Nat) (h : Nat → Int32), v.2.1 j = h → uA v j h = v := by
    intro v j h q
    unfold uA
    have : (fun j' => if j' = j then h else v.2.1 j') = v.2.1 := by
      funext j'
      split
      · rename_i e; rw [e, q]
      · rfl
    rw [this]
  exact (e _ _ _ rfl).symm
theorem cJ11 : ∀ t, t < 300 → (-1000 - nI t : Int32) < 0 ∧ ¬ (-1000 : Int32) < -1000 - nI t ∧ (-2000 : Int32) < -1000 - nI t ∧ (-1000 - (-1000 - nI t) : Int32) = nI t ∧ (-1000 - nI t : Int32) ≠ -41 := by decide +kernel
theorem cJ12 : ∀ t, t < 300 → (-2000 - nI t : Int32) < 0 ∧ ¬ (-1000 : Int32) < -2000 - nI t ∧ ¬ (-2000 : Int32) < -2000 - nI t ∧ (-2000 - (-2000 - nI t) : Int32) = nI t ∧ (-2000 - nI t : Int32) ≠ -41 := by decide +kernel
theorem and31 : ∀ n, n < 32 → nI n &&& (31 : Int32) = nI n := by decide +kernel
theorem nI_m1 (n : Nat) : nI (n + 1) + (-1 : Int32) = nI n := by
  rw [← nI_pred n]
  exact (Int32.sub_eq_add_neg _ _).symm
theorem runB_go (ho : LW o) {sz p : Nat} (hsz : w.1 o 9 = nI sz) (h : p < sz) (h2 : sz ≤ 240) {c : Int32} (hc : w.2.1 (o + 4) p = c) (hn : c ≠ -41) (v t : Int32) : runB (b + o) (v, t, nI p, mk b (lawS w o g 0)) = runD (b + o) c (v, t, nI p, mk b (lawS w o g 0)) := by
  unfold runB
  dsimp only
  rw [gI_2_o_9 b _ ho, Option.bind_some, lawS_I (by decide), hsz, if_neg (nI_ge h (by omega)), gR_2_o_8 b _ ho, Option.bind_some, rdN_mk (okL4 ho) (by decide) b _ (by omega), Option.bind_some, lawS_A (by omega), hc, if_neg hn, gI_2_o_12 b _ ho, Option.bind_some, lawS_12, if_pos rfl, Option.bind_some, rdN_mk (okL4 ho) (by decide) b _ (by omega), Option.bind_some, lawS_A (by omega), hc]
theorem runB_end (ho : LW o) {sz p : Nat} (hsz : w.1 o 9 = nI sz) (h : p < sz) (h2 : sz ≤ 240) (hc : w.2.1 (o + 4) p = -41) (v t : Int32) : runB (b + o) (v, t, nI p, mk b (lawS w o g z)) = some (.inl (v, mk b (lawS w o g z))) := by
  unfold runB
  dsimp only
  rw [gI_2_o_9 b _ ho, Option.bind_some, lawS_I (by decide), hsz, if_neg (nI_ge h (by omega)), gR_2_o_8 b _ ho, Option.bind_some, rdN_mk (okL4 ho) (by decide) b _ (by omega), Option.bind_some, lawS_A (by omega), hc, if_pos rfl]
theorem runB_ref (ho : LW o) {sz p : Nat} (hsz : w.1 o 9 = nI sz) (h : p < sz) (h2 : sz ≤ 240) (v t : Int32) : runB (b + o) (v, t, nI p, mk b (lawS w o g 1)) = some (.inl (v, mk b (lawS w o g 1))) := by
  unfold runB
  dsimp only
  rw [gI_2_o_9 b _ ho, Option.bind_some, lawS_I (by decide), hsz, if_neg (nI_ge h (by omega)), gR_2_o_8 b _ ho, Option.bind_some, rdN_mk (okL4 ho) (by decide) b _ (by omega), Option.bind_some, gI_2_o_12 b _ ho, Option.bind_some, lawS_12]
  by_cases e : (lawS w o g 1).2.1 (o + 4) p = -41
  · rw [if_pos e]
  · rw [if_neg e, if_neg (by decide)]
theorem reckC (ho : LW o) {k : Nat} (h1 : 2 ≤ k) (h2 : k ≤ 9) (x y : Int32) : FX2_reckon (mk b (lawS w o g 0)) (b + o) x (nI (sg k)) y = some (match reck k x y with
    | none => ((0 : Int32), mk b (lawS w o g 1))
    | some q => (q, mk b (lawS w o g 0))) := by
  unfold FX2_reckon reck
  have hk : k = 2 ∨ k = 3 ∨ k = 4 ∨ k = 5 ∨ k = 6 ∨ k = 7 ∨ k = 8 ∨ k = 9 := by omega
  rcases hk with rfl | rfl | rfl | rfl | rfl | rfl | rfl | rfl
  · rfl
  · rfl
  · rfl
  · by_cases e : y = 0
    · rw [if_neg (by decide), if_neg (by decide), if_neg (by decide), if_neg (by decide), if_neg (by decide), if_neg (by decide), if_pos e, if_neg (by decide), if_neg (by decide), if_neg (by decide), if_neg (by decide), if_neg (by decide), if_neg (by decide), if_pos e, sZ_mk (by rcases ho with rfl | rfl <;> decide +kernel) b _ (Or.inr rfl), Option.bind_some, lawS_uI]
    · rw [if_neg (by decide), if_neg (by decide), if_neg (by decide), if_neg (by decide), if_neg (by decide), if_neg (by decide), if_neg e, if_pos (by decide), if_neg (by decide), if_neg (by decide), if_neg (by decide), if_neg (by decide), if_neg (by decide), if_neg (by decide), if_neg e, if_pos rfl]
      unfold dvI
      rw [if_neg e, Option.bind_some]
  · by_cases e : y = 0
    · rw [if_neg (by decide), if_neg (by decide), if_neg (by decide), if_neg (by decide), if_neg (by decide), if_neg (by decide), if_pos e, if_neg (by decide), if_neg (by decide), if_neg (by decide), if_neg (by decide), if_neg (by decide), if_neg (by decide), if_pos e, sZ_mk (by rcases ho with rfl | rfl <;> decide +kernel) b _ (Or.inr rfl), Option.bind_some, lawS_uI]
    · rw [if_neg (by decide), if_neg (by decide), if_neg (by decide), if_neg (by decide), if_neg (by decide), if_neg (by decide), if_neg e, if_neg (by decide), if_neg (by decide), if_neg (by decide), if_neg (by decide), if_neg (by decide), if_neg (by decide), if_neg (by decide), if_neg e, if_neg (by decide)]
      unfold rmI
      rw [if_neg e, Option.bind_some]
  · by_cases e : y ≤ x
    · simp only [e, if_true]; rfl
    · simp only [e, if_false]; rfl
  · by_cases e : x ≤ y
    · simp only [e, if_true]; rfl
    · simp only [e, if_false]; rfl
  · by_cases e : x = y
    · simp only [e, if_true]; rfl
    · simp only [e, if_false]; rfl
end
section
variable {b : Nat} {w : WD} {o : Nat} {g : Nat → Int32}
theorem runD_num (ho : LW o) {a n p : Nat} (ha : a < 100000) (hn : n < 32) (v : Int32) : runD (b + o) (nI a) (v, nI n, nI p, mk b (lawS w o g 0)) = some (.inr (nI a, nI (n + 1), nI (p + 1), mk b (lawS w o (upd g n v) 0))) := by
  unfold runD
  dsimp only
  rw [if_neg (nI_pos (by omega)), gR_2_o_11 b _ ho, Option.bind_some, and31 n hn, wrI_mk (okL6 ho) b _ hn, Option.bind_some, vl_eq, if_neg (Lnle ha), vl_eq, nI_1, nI_1, lawS_st, lawS_uA]
theorem runD_lt (ho : LW o) {a n p : Nat} (ha : a < 8) (hn : n < 32) (v : Int32) : runD (b + o) (nI (100000 + a)) (v, nI n, nI p, mk b (lawS w o g 0)) = some (.inr (w.2.1 (o + 5) a, nI (n + 1), nI (p + 1), mk b (lawS w o (upd g n v) 0))) := by
  unfold runD
  dsimp only
  have hb : 100000 + a < 2 ^ 31 := by omega
  have hle : (100000 : Int32) ≤ nI (100000 + a) := nI_le (a := 100000) (Nat.le_add_right _ _) hb
  have e : (nI (100000 + a) - (100000 : Int32)) &&& 7 = nI a := (by decide +kernel : ∀ a, a < 8 → (nI (100000 + a) - (100000 : Int32)) &&& 7 = nI a) a ha
  rw [if_neg (nI_pos (by omega)), gR_2_o_11 b _ ho, Option.bind_some, and31 n hn, wrI_mk (okL6 ho) b _ hn, Option.bind_some, vl_eq, if_pos hle, e, gR_2_o_10 b _ ho, Option.bind_some, rdN_mk (okL5 ho) (by decide) b _ ha, Option.bind_some, vl_eq, nI_1, nI_1, lawS_st, lawS_uA, lawS_A (by omega)]
theorem runD_neg {n p : Nat} (v : Int32) : runD (b + o) (-(nI 33)) (v, nI n, nI p, mk b (lawS w o g 0)) = some (.inr (1 - v, nI n, nI (p + 1), mk b (lawS w o g 0))) := by
  unfold runD
  dsimp only
  rw [if_pos (by decide), if_pos (by decide), if_pos (by decide), vl_eq, vl_eq, nI_1]
theorem runD_op (ho : LW o) {k n p : Nat} (h1 : 2 ≤ k) (h2 : k ≤ 9) (hn : n < 32) (y : Int32) : runD (b + o) (-(nI (sg k))) (y, nI (n + 1), nI p, mk b (lawS w o g 0)) = some (.inr (match reck k (g n) y with
    | none => (0, nI n, nI (p + 1), mk b (lawS w o g 1))
    | some q => (q, nI n, nI (p + 1), mk b (lawS w o g 0)))) := by
  have hs : (-(nI (sg k)) : Int32) < 0 ∧ (-1000 : Int32) < -(nI (sg k)) ∧ ¬ (-(nI (sg k)) = (-33 : Int32)) ∧ -(-(nI (sg k))) = nI (sg k) := by
    have hk : k = 2 ∨ k = 3 ∨ k = 4 ∨ k = 5 ∨ k = 6 ∨ k = 7 ∨ k = 8 ∨ k = 9 := by omega
    rcases hk with rfl | rfl | rfl | rfl | rfl | rfl | rfl | rfl <;> decide
  unfold runD
  dsimp only
  rw [if_pos hs.1, if_pos hs.2.1, if_neg hs.2.2.1, vl_eq, nI_m1, and31 n hn, gR_2_o_11 b _ ho, Option.bind_some, rdN_mk (okL6 ho) (by decide) b _ hn, Option.bind_some, lawS_st, hs.2.2.2, rc_2_o b _ ho, reckC ho h1 h2, Option.bind_some, vl_eq, nI_1]
  cases reck k (g n) y <;> rfl
theorem runD_and0 {t n p : Nat} (ht : p < t) (h3 : t < 300) : runD (b + o) (-1000 - nI t) (0, nI n, nI p, mk b (lawS w o g 0)) = some (.inr (0, nI n, nI t, mk b (lawS w o g 0))) := by
  obtain ⟨e1, e2, e3, e4, _⟩ := cJ11 t h3
  unfold runD
  dsimp only
  obtain ⟨t, rfl⟩ : ∃ u, t = u + 1 := ⟨t - 1, by omega⟩
  rw [if_pos e1, if_neg e2, jn_eq, if_pos e3]
  dsimp only
  rw [jn_eq, if_pos rfl]
  dsimp only
  rw [if_pos rfl, jn_eq, if_pos rfl]
  dsimp only
  rw [e4, nI_pred, vl_eq, vl_eq]
  have em : mxI (nI p) (nI t) = nI t := by
    unfold mxI
    split
    · rfl
    · rename_i q
      rw [nI_ltI (by omega) (by omega)] at q
      have : p = t := by omega
      rw [this]
  rw [em, nI_1]
theorem runD_and1 (ho : LW o) {t n p : Nat} (h3 : t < 300) (hn : n < 32) : runD (b + o) (-1000 - nI t) (1, nI (n + 1), nI p, mk b (lawS w o g 0)) = some (.inr (g n, nI n, nI (p + 1), mk b (lawS w o g 0))) := by
  obtain ⟨e1, e2, e3, e4, _⟩ := cJ11 t h3
  unfold runD
  dsimp only
  rw [if_pos e1, if_neg e2, jn_eq, if_pos e3]
  dsimp only
  rw [jn_eq, if_neg (by decide)]
  dsimp only
  rw [if_neg (by decide), vl_eq, nI_m1, and31 n hn, gR_2_o_11 b _ ho, Option.bind_some, rdN_mk (okL6 ho) (by decide) b _ hn, Option.bind_some, lawS_st, vl_eq, nI_1]
theorem runD_or1 {t n p : Nat} (ht : p < t) (h3 : t < 300) : runD (b + o) (-2000 - nI t) (1, nI n, nI p, mk b (lawS w o g 0)) = some (.inr (1, nI n, nI t, mk b (lawS w o g 0))) := by
  obtain ⟨e1, e2, e3, e4, _⟩ := cJ12 t h3
  unfold runD
  dsimp only
  obtain ⟨t, rfl⟩ : ∃ u, t = u + 1 := ⟨t - 1, by omega⟩
  rw [if_pos e1, if_neg e2, jn_eq, if_neg e3]
  dsimp only
  rw [jn_eq, if_neg (by decide)]
  dsimp only
  rw [if_pos rfl, jn_eq, if_neg (by decide)]
  dsimp only
  rw [e4, nI_pred, vl_eq, vl_eq]
  have em : mxI (nI p) (nI t) = nI t := by
    unfold mxI
    split
    · rfl
    · rename_i q
      rw [nI_ltI (by omega) (by omega)] at q
      have : p = t := by omega
      rw [this]
  rw [em, nI_1]
theorem runD_or0 (ho : LW o) {t n p : Nat} (h3 : t < 300) (hn : n < 32) : runD (b + o) (-2000 - nI t) (0, nI (n + 1), nI p, mk b (lawS w o g 0)) = some (.inr (g n, nI n, nI (p + 1), mk b (lawS w o g 0))) := by
  obtain ⟨e1, e2, e3, e4, _⟩ := cJ12 t h3
  unfold runD
  dsimp only
  rw [if_pos e1, if_neg e2, jn_eq, if_neg e3]
  dsimp only
  rw [jn_eq, if_pos rfl]
  dsimp only
  rw [if_neg (by decide), vl_eq, nI_m1, and31 n hn, gR_2_o_11 b _ ho, Option.bind_some, rdN_mk (okL6 ho) (by decide) b _ hn, Option.bind_some, lawS_st, vl_eq, nI_1]
theorem lp_one {S X : Type} {body : S → Option (X ⊕ S)} {N : Nat} {s s' : S} (h : body s = some (.inr s')) : lp body (N + 1) s = lp body N s' := by
  rw [lp, h]
  rfl
theorem lp_out {S X : Type} {body : S → Option (X ⊕ S)} {N : Nat} {s : S} {x : X} (h : body s = some (.inl x)) : lp body (N + 1) s = some x := by
  rw [lp, h]
  rfl
theorem runC (ho : LW o) {sz : Nat} (hsz : w.1 o 9 = nI sz) (h240 : sz ≤ 240) : ∀ (m : Cds) (p s : Nat) (st : List Int32) (v : Int32) (g : Nat → Int32) (r : Option Int32) (N : Nat), layd cC (w.2.1 (o + 4)) p m → p + m.length < sz → w.2.1 (o + 4) (p + m.length) = -41 → gon (w.2.1 (o + 5)) m s st r → s ≤ m.length → m.length - s + 2 ≤ N → SC g v st → st.length ≤ 31 → ∃ v' g' z', lp (runB (b + o)) N (v, nI st.length, nI (p + s), mk b (lawS w o g 0)) = some (v', mk b (lawS w o g' z')) ∧ ((r = none ∧ z' = 1) ∨ (r = some v' ∧ z' = 0)) := by
  intro m
  induction m with
  | nil =>
    intro p s st v g r N _ hp he hg hs hN hst _
    have hs0 : s = 0 := Nat.le_zero.mp hs
    subst hs0
    obtain ⟨N, rfl⟩ : ∃ n, N = n + 1 := ⟨N - 1, by omega⟩
    obtain ⟨x, rfl, rfl⟩ := hg
    refine ⟨v, g, 0, ?_, Or.inr ⟨by rw [hst.1], rfl⟩⟩
    exact lp_out (runB_end ho hsz hp h240 he v _)
  | cons c l ih =>
    intro p s st v g r N hl hp he hg hs hN hst hlen
    obtain ⟨hc, hl⟩ := hl
    have hp' : p + 1 + l.length < sz := by rw [List.length_cons] at hp; omega
    have he' : w.2.1 (o + 4) (p + 1 + l.length) = -41 := by rw [List.length_cons] at he; rw [show p + 1 + l.length = p + (l.length + 1) by omega]; exact he
    cases s with
    | succ s =>
      have := ih (p + 1) s st v g r N hl hp' he' hg (by rw [List.length_cons] at hs; omega) (by rw [List.length_cons] at hN; omega) hst hlen
      rw [show p + (s + 1) = p + 1 + s by omega]
      exact this
    | zero =>
      rw [List.length_cons] at hN
      obtain ⟨N, rfl⟩ : ∃ n, N = n + 1 := ⟨N - 1, by omega⟩
      have hpz : p < sz := by omega
      rcases hg with ⟨k, h1, h2, h3⟩ | ⟨k, h1, h2, h3⟩ | ⟨k1, k2, k3, x, y, st', rfl, h3⟩ | ⟨k, k2, x, st', rfl, h3⟩ | ⟨k, h1, x, st', rfl, h3⟩ | ⟨k, h1, x, st', rfl, h3⟩
      · have ec : w.2.1 (o + 4) p = nI c.2 := by rw [hc]; unfold cC; rw [if_pos k]
        have := ih (p + 1) 0 (nI c.2 :: st) (nI c.2) (upd g st.length v) r N hl hp' he' h3 (by omega) (by omega) (SC_push hst) (by rw [List.length_cons]; omega)
        rw [show p + 0 = p from rfl, lp_one ((runB_go ho hsz hpz h240 ec (fun q => nI_pos (n := c.2) (by omega) (by rw [q]; decide)) v _).trans (runD_num ho h1 (by omega) v))]
        exact this
      · have ec : w.2.1 (o + 4) p = nI (100000 + c.2) := by rw [hc]; unfold cC; rw [if_neg (by omega), if_pos k]
        have := ih (p + 1) 0 (w.2.1 (o + 5) c.2 :: st) (w.2.1 (o + 5) c.2) (upd g st.length v) r N hl hp' he' h3 (by omega) (by omega) (SC_push hst) (by rw [List.length_cons]; omega)
        rw [show p + 0 = p from rfl, lp_one ((runB_go ho hsz hpz h240 ec (fun q => nI_pos (n := 100000 + c.2) (by omega) (by rw [q]; decide)) v _).trans (runD_lt ho h1 (by omega) v))]
        exact this
      · have ec : w.2.1 (o + 4) p = -(nI (sg c.1)) := by rw [hc]; unfold cC; rw [if_neg (by omega), if_neg (by omega), if_neg (by omega), if_neg (by omega)]
        have en : -(nI (sg c.1)) ≠ (-41 : Int32) := by
          have hk : c.1 = 2 ∨ c.1 = 3 ∨ c.1 = 4 ∨ c.1 = 5 ∨ c.1 = 6 ∨ c.1 = 7 ∨ c.1 = 8 ∨ c.1 = 9 := by omega
          rcases hk with e | e | e | e | e | e | e | e <;> rw [e] <;> decide
        obtain ⟨q1, q2, q3⟩ := hst
        have q2' : g (st'.length + 1) = x := q2
        subst q1
        have hd := runD_op (b := b) (w := w) (g := g) ho (n := st'.length + 1) (p := p) k1 k2 (by rw [List.length_cons, List.length_cons] at hlen; omega) v
        rw [q2'] at hd
        have hgo := (runB_go (b := b) (g := g) ho hsz hpz h240 ec en v (nI (st'.length + 1 + 1))).trans hd
        rw [show p + 0 = p from rfl]
        show ∃ v' g' z', lp (runB (b + o)) (N + 1) (v, nI (st'.length + 1 + 1), nI p, mk b (lawS w o g 0)) = _ ∧ _
        rw [lp_one hgo]
        rcases h3 with ⟨h3, rfl⟩ | ⟨q, h3, h4⟩
        · rw [h3]
          obtain ⟨N, rfl⟩ : ∃ n, N = n + 1 := ⟨N - 1, by omega⟩
          exact ⟨0, g, 1, lp_out (runB_ref ho hsz (by omega) h240 _ _), Or.inl ⟨rfl, rfl⟩⟩
        · rw [h3]
          exact ih (p + 1) 0 (q :: st') q g r N hl hp' he' h4 (by omega) (by omega) ⟨rfl, q3⟩ (by rw [List.length_cons, List.length_cons] at hlen; rw [List.length_cons]; omega)
      · have ec : w.2.1 (o + 4) p = -(nI 33) := by rw [hc]; unfold cC; rw [if_neg (by omega), if_neg (by omega), if_neg (by omega), if_neg (by omega), k]; rfl
        obtain ⟨q1, q2⟩ := hst
        subst q1
        have := ih (p + 1) 0 ((1 - v) :: st') (1 - v) g r N hl hp' he' h3 (by omega) (by omega) ⟨rfl, q2⟩ hlen
        rw [show p + 0 = p from rfl, lp_one ((runB_go ho hsz hpz h240 ec (by decide) v _).trans (runD_neg v))]
        exact this
      · have ec : w.2.1 (o + 4) p = -1000 - nI (p + 1 + c.2) := by rw [hc]; unfold cC; rw [if_neg (by omega), if_neg (by omega), if_pos k]
        have ht : p + 1 + c.2 < 300 := by omega
        obtain ⟨q1, q2⟩ := hst
        subst q1
        have hgo := fun (v t : Int32) => runB_go (b := b) (g := g) ho hsz hpz h240 ec (cJ11 _ ht).2.2.2.2 v t
        rw [show p + 0 = p from rfl]
        rcases h3 with ⟨rfl, h3⟩ | ⟨rfl, h3⟩
        · rw [lp_one ((hgo _ _).trans (runD_and0 (by omega) ht))]
          exact ih (p + 1) c.2 (0 :: st') 0 g r N hl hp' he' h3 h1 (by omega) ⟨rfl, q2⟩ hlen
        · show ∃ v' g' z', lp (runB (b + o)) (N + 1) (1, nI (st'.length + 1), nI p, mk b (lawS w o g 0)) = _ ∧ _
          rw [lp_one ((hgo _ _).trans (runD_and1 ho ht (by rw [List.length_cons] at hlen; omega)))]
          exact ih (p + 1) 0 st' (g st'.length) g r N hl hp' he' h3 (by omega) (by omega) q2 (by rw [List.length_cons] at hlen; omega)
      · have ec : w.2.1 (o + 4) p = -2000 - nI (p + 1 + c.2) := by rw [hc]; unfold cC; rw [if_neg (by omega), if_neg (by omega), if_neg (by omega), if_pos k]
        have ht : p + 1 + c.2 < 300 := by omega
        obtain ⟨q1, q2⟩ := hst
        subst q1
        have hgo := fun (v t : Int32) => runB_go (b := b) (g := g) ho hsz hpz h240 ec (cJ12 _ ht).2.2.2.2 v t
        rw [show p + 0 = p from rfl]
        rcases h3 with ⟨rfl, h3⟩ | ⟨rfl, h3⟩
        · rw [lp_one ((hgo _ _).trans (runD_or1 (by omega) ht))]
          exact ih (p + 1) c.2 (1 :: st') 1 g r N hl hp' he' h3 h1 (by omega) ⟨rfl, q2⟩ hlen
        · show ∃ v' g' z', lp (runB (b + o)) (N + 1) (0, nI (st'.length + 1), nI p, mk b (lawS w o g 0)) = _ ∧ _
          rw [lp_one ((hgo _ _).trans (runD_or0 ho ht (by rw [List.length_cons] at hlen; omega)))]
          exact ih (p + 1) 0 st' (g st'.length) g r N hl hp' he' h3 (by omega) (by omega) q2 (by rw [List.length_cons] at hlen; omega)
theorem run_mk (ho : LW o) {sz : Nat} (hsz : w.1 o 9 = nI sz) (h240 : sz ≤ 240) {m : Cds} {p : Nat} {r : Option Int32} (hl : layd cC (w.2.1 (o + 4)) p m) (hp : p + m.length < sz) (he : w.2.1 (o + 4) (p + m.length) = -41) (hg : gon (w.2.1 (o + 5)) m 0 [] r) : ∃ g' z', FX2_run (mk b w) (b + o) (nI p) = some (r.getD 0, mk b (lawS w o g' z')) := by
  have hm : mxI (0 : Int32) (nI p) = nI p := by
    unfold mxI
    split
    · rfl
    · rename_i q
      rw [show (0 : Int32) = nI 0 from rfl, nI_ltI (by omega) (by omega)] at q
      have : p = 0 := by omega
      rw [this]; rfl
  obtain ⟨v', g', z', e1, e2⟩ := runC (b := b) ho hsz h240 m p 0 [] 0 (w.2.1 (o + 6)) r FU hl hp he hg (Nat.zero_le _) (by unfold FU; omega) trivial (by decide)
  refine ⟨g', z', ?_⟩
  rw [run_body, sZ_mk (by rcases ho with rfl | rfl <;> decide +kernel) b _ (Or.inl rfl), Option.bind_some, lawS_eq, hm]
  have e1' : lp (runB (b + o)) FU ((0 : Int32), (0 : Int32), nI p, mk b (lawS w o (w.2.1 (o + 6)) 0)) = some (v', mk b (lawS w o g' z')) := e1
  rw [e1', Option.bind_some]
  dsimp only
  rw [gI_2_o_12 b _ ho, Option.bind_some, lawS_12]
  rcases e2 with ⟨rfl, rfl⟩ | ⟨rfl, rfl⟩
  · rw [if_neg (by decide)]; rfl
  · rw [if_pos rfl]; rfl
end
