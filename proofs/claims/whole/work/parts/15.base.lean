/-! THE WORLD AS ONE VALUE. w = (int fields by cell and place, int arrays by cell, long arrays by cell, (cell of the law, cell of the spare one)); mk b w: the known heap that holds it from the address b on. The functions F of the methods are run over 'mk b w'. -/
abbrev WD : Type := (Nat → Nat → Int32) × (Nat → Nat → Int32) × (Nat → Nat → Int64) × (Nat × Nat)
abbrev CT : Type := (Nat × List Nat) ⊕ (Nat × Nat)
/-- the cells in the order of their making: 0 to 76 the class's, 77 to 105 the reference's. A field: 0 a number; 1, 2 the law, the spare one; o + 3 the cell o -/
def lay : List CT := [
  .inl (11, [4, 6, 8, 18, 28, 33, 34, 35, 36, 37, 54, 67, 71, 72, 0, 2]),
  .inl (8, [5, 0]),
  .inr (1, 260),
  .inl (1, [4, 0, 0, 0, 7, 0]),
  .inr (3, 16),
  .inl (0, [9, 0]),
  .inr (4, 8),
  .inr (3, 16),
  .inr (3, 16),
  .inr (3, 16),
  .inr (3, 16),
  .inr (3, 16),
  .inr (3, 16),
  .inr (3, 16),
  .inr (3, 16),
  .inl (0, [19, 0]),
  .inr (4, 8),
  .inr (3, 16),
  .inr (3, 16),
  .inr (3, 16),
  .inr (3, 16),
  .inr (3, 16),
  .inr (3, 16),
  .inr (3, 16),
  .inr (3, 16),
  .inl (3, [29, 30, 31, 32]),
  .inr (0, 10),
  .inr (0, 64),
  .inr (0, 16),
  .inr (0, 64),
  .inr (3, 16),
  .inr (3, 16),
  .inr (3, 16),
  .inr (3, 16),
  .inl (5, [1, 0, 0, 0, 0, 0, 0, 45, 46, 8, 33, 28, 47]),
  .inl (2, [4, 0, 0, 0, 0, 39, 40, 41, 42, 0, 43, 44, 0]),
  .inr (0, 16),
  .inr (0, 16),
  .inr (0, 16),
  .inr (0, 240),
  .inr (0, 8),
  .inr (0, 32),
  .inr (0, 5),
  .inr (0, 5),
  .inr (5, 6),
  .inl (6, [0, 0, 0, 0, 0, 0]),
  .inl (6, [0, 0, 0, 0, 0, 0]),
  .inl (6, [0, 0, 0, 0, 0, 0]),
  .inl (6, [0, 0, 0, 0, 0, 0]),
  .inl (6, [0, 0, 0, 0, 0, 0]),
  .inl (6, [0, 0, 0, 0, 0, 0]),
  .inl (10, [0, 0, 0, 55]),
  .inr (4, 11),
  .inr (3, 16),
  .inr (3, 16),
  .inr (3, 16),
  .inr (3, 16),
  .inr (3, 16),
  .inr (3, 16),
  .inr (3, 16),
  .inr (3, 16),
  .inr (3, 16),
  .inr (3, 16),
  .inr (3, 16),
  .inl (9, [68, 69, 70]),
  .inr (0, 8),
  .inr (0, 8),
  .inr (0, 2048),
  .inl (6, [0, 0, 0, 0, 0, 0]),
  .inl (6, [0, 0, 0, 0, 0, 0]),
  .inl (2, [4, 0, 0, 0, 0, 74, 75, 76, 77, 0, 78, 79, 0]),
  .inr (0, 16),
  .inr (0, 16),
  .inr (0, 16),
  .inr (0, 240),
  .inr (0, 8),
  .inr (0, 32),
  .inl (12, [81, 82, 83, 84, 85, 0, 0, 0, 0, 0, 0, 0, 0, 86, 0, 0, 0, 0, 0, 0, 0, 0, 0, 0, 87, 88, 89, 90, 91, 92, 93, 94, 95, 96, 97, 98, 99, 100, 101, 102, 0, 0, 0, 0, 103, 0, 0, 0, 0, 0, 0, 0, 0, 0, 104, 105, 106, 107, 108, 0, 0, 0, 0, 0, 0, 0]),
  .inr (0, 10),
  .inr (2, 8192),
  .inr (2, 8192),
  .inr (2, 1024),
  .inr (2, 1024),
  .inr (1, 260),
  .inr (0, 260),
  .inr (0, 260),
  .inr (0, 16),
  .inr (0, 16),
  .inr (0, 16),
  .inr (0, 16),
  .inr (0, 260),
  .inr (0, 16),
  .inr (0, 16),
  .inr (0, 16),
  .inr (0, 16),
  .inr (0, 260),
  .inr (0, 8),
  .inr (0, 100),
  .inr (0, 100),
  .inr (0, 100),
  .inr (2, 100),
  .inr (0, 8),
  .inr (0, 8),
  .inr (0, 8),
  .inr (0, 1024),
  .inr (2, 1024)]
def fv (b : Nat) (w : WD) (j k e : Nat) : Value := match e with
  | 0 => .int (w.1 j k)
  | 1 => .ref (b + w.2.2.2.1)
  | 2 => .ref (b + w.2.2.2.2)
  | o + 3 => .ref (b + o)
def ac (b : Nat) (w : WD) (j t : Nat) : (Nat → Int32) ⊕ (Nat → Int64) ⊕ (Nat → UInt32) ⊕ (Nat → UInt64) ⊕ (Nat → Option Nat) :=
  if t = 3 then .inr (.inl (w.2.2.1 j)) else if t < 3 then .inl (w.2.1 j) else .inr (.inr (.inr (.inr (fun i => some (b + (j + 1 + i))))))
def cell (b : Nat) (w : WD) (j : Nat) (c : CT) : AE := match c with
  | .inl (ci, es) => .inr (ci, es.mapIdx (fun k e => fv b w j k e))
  | .inr (t, n) => .inl (t, n, ac b w j t)
def mk (b : Nat) (w : WD) : HP := fun q => if b ≤ q then (lay[q - b]?).map (cell b w (q - b)) else none
theorem mk_at (b : Nat) (w : WD) (j : Nat) : mk b w (b + j) = (lay[j]?).map (cell b w j) := by
  unfold mk
  rw [if_pos (Nat.le_add_right b j), Nat.add_sub_cancel_left]
def uI (w : WD) (j k : Nat) (v : Int32) : WD := (fun j' k' => if j' = j ∧ k' = k then v else w.1 j' k', w.2)
def uA (w : WD) (j : Nat) (f : Nat → Int32) : WD := (w.1, fun j' => if j' = j then f else w.2.1 j', w.2.2)
def uL (w : WD) (j : Nat) (f : Nat → Int64) : WD := (w.1, w.2.1, fun j' => if j' = j then f else w.2.2.1 j', w.2.2.2)
def uS (w : WD) (a s : Nat) : WD := (w.1, w.2.1, w.2.2.1, (a, s))
def okO (cs : List Nat) (j : Nat) : Bool := match lay[j]? with
  | some (.inl (c, _)) => decide (c ∈ cs)
  | _ => false
def okE (cs : List Nat) (j k e : Nat) : Bool := match lay[j]? with
  | some (.inl (c, es)) => decide (c ∈ cs) && decide (es[k]? = some e)
  | _ => false
def okA (t j n : Nat) : Bool := match lay[j]? with
  | some (.inr (t', n')) => decide (t' = t) && (decide (n' = n) && decide (n < 1000000))
  | _ => false
theorem okE_get {cs : List Nat} {j k e : Nat} (h : okE cs j k e = true) : ∃ c es, lay[j]? = some (.inl (c, es)) ∧ c ∈ cs ∧ es[k]? = some e := by
  unfold okE at h
  split at h
  · rename_i c es q
    simp only [Bool.and_eq_true, decide_eq_true_eq] at h
    exact ⟨c, es, q, h.1, h.2⟩
  · cases h
theorem okA_get {t j n : Nat} (h : okA t j n = true) : lay[j]? = some (.inr (t, n)) ∧ n < 1000000 := by
  unfold okA at h
  split at h
  · rename_i t' n' q
    simp only [Bool.and_eq_true, decide_eq_true_eq] at h
    obtain ⟨h1, h2, h3⟩ := h
    subst h1; subst h2
    exact ⟨q, h3⟩
  · cases h
theorem gV_mk {cs : List Nat} {j k e : Nat} (h : okE cs j k e = true) (b : Nat) (w : WD) : gV cs k (mk b w) (b + j) = some (fv b w j k e) := by
  obtain ⟨c, es, h1, h2, h3⟩ := okE_get h
  unfold gV
  rw [mk_at, h1]
  show (if c ∈ cs then (es.mapIdx (fun k e => fv b w j k e))[k]? else none) = _
  rw [if_pos h2, List.getElem?_mapIdx, h3]
  rfl
theorem gI_mk {cs : List Nat} {j k : Nat} (h : okE cs j k 0 = true) (b : Nat) (w : WD) : gI cs k (mk b w) (b + j) = some (w.1 j k) := by
  unfold gI
  rw [gV_mk h]
  rfl
theorem gR_mk {cs : List Nat} {j k : Nat} (o : Nat) (h : okE cs j k (o + 3) = true) (b : Nat) (w : WD) : gR cs k (mk b w) (b + j) = some (b + o) := by
  unfold gR
  rw [gV_mk h]
  rfl
theorem gR_law (b : Nat) (w : WD) : gR [5] 0 (mk b w) (b + 34) = some (b + w.2.2.2.1) := by
  unfold gR
  rw [gV_mk (e := 1) (by decide +kernel)]
  rfl
theorem gR_spare (b : Nat) (w : WD) : gR [11] 15 (mk b w) (b + 0) = some (b + w.2.2.2.2) := by
  unfold gR
  rw [gV_mk (e := 2) (by decide +kernel)]
  rfl
theorem isO_mk {cs : List Nat} {j : Nat} (h : okO cs j = true) (b : Nat) (w : WD) : isO cs (mk b w) (b + j) = true := by
  unfold okO at h
  unfold isO
  rw [mk_at]
  split at h
  · rename_i c es q
    rw [q]
    exact h
  · cases h
theorem rc_mk {X : Type} {cs : List Nat} {j : Nat} (h : okO cs j = true) (b : Nat) (w : WD) (o : Option X) : rc cs (mk b w) (b + j) o = o := by
  unfold rc
  rw [isO_mk h, if_pos rfl]
theorem cell_uI {b : Nat} {w : WD} {j k : Nat} {v : Int32} {j' : Nat} (h : j' ≠ j) (c : CT) : cell b (uI w j k v) j' c = cell b w j' c := by
  rcases c with ⟨ci, es⟩ | ⟨t, n⟩
  · show Sum.inr (ci, _) = Sum.inr (ci, _)
    congr 2
    refine List.ext_getElem? (fun i => ?_)
    rw [List.getElem?_mapIdx, List.getElem?_mapIdx]
    congr 1
    funext e
    unfold fv
    split
    · show Value.int (if j' = j ∧ i = k then v else w.1 j' i) = _
      rw [if_neg (fun q => h q.1)]
    · rfl
    · rfl
    · rfl
  · rfl
theorem mk_ext {b : Nat} {w w' : WD} {j : Nat} {x : AE} (hj : (lay[j]?).map (cell b w' j) = some x) (ho : ∀ j', j' ≠ j → ∀ c, lay[j']? = some c → cell b w' j' c = cell b w j' c) : upH (mk b w) (b + j) x = mk b w' := by
  funext q
  unfold upH
  by_cases e : q = b + j
  · subst e
    rw [if_pos rfl, mk_at, hj]
  · rw [if_neg e]
    unfold mk
    split
    · rename_i hq
      cases hl : lay[q - b]? with
      | none => rfl
      | some c =>
        show some _ = some _
        rw [ho (q - b) (by omega) c hl]
    · rfl
theorem sI_mk {cs : List Nat} {j k : Nat} (h : okE cs j k 0 = true) (b : Nat) (w : WD) (v : Int32) : sI cs k (mk b w) (b + j) v = some (mk b (uI w j k v)) := by
  obtain ⟨c, es, h1, h2, h3⟩ := okE_get h
  have hk : k < es.length := (List.getElem?_eq_some_iff.mp h3).1
  unfold sI sV
  rw [mk_at, h1]
  show (if c ∈ cs ∧ k < (es.mapIdx (fun k e => fv b w j k e)).length then _ else none) = _
  rw [if_pos ⟨h2, by rw [List.length_mapIdx]; exact hk⟩]
  congr 1
  refine mk_ext ?_ (fun j' hj c _ => cell_uI hj c)
  rw [h1]
  show some (Sum.inr (c, _)) = some (Sum.inr (c, _))
  congr 3
  refine List.ext_getElem? (fun i => ?_)
  rw [List.getElem?_set, List.getElem?_mapIdx, List.getElem?_mapIdx]
  by_cases e : k = i
  · subst e
    rw [if_pos rfl, if_pos (by rw [List.length_mapIdx]; exact hk), h3]
    show some (Value.int (if j = j ∧ k = k then v else w.1 j k)) = _
    rw [if_pos ⟨rfl, rfl⟩]
  · rw [if_neg e]
    congr 1
    funext e'
    unfold fv
    split
    · show Value.int (if j = j ∧ i = k then v else w.1 j i) = _
      rw [if_neg (fun q => e q.2.symm)]
    · rfl
    · rfl
    · rfl
theorem sZ_mk {cs : List Nat} {j k : Nat} (h : okE cs j k 0 = true) (b : Nat) (w : WD) {v : Int32} (hv : v = 0 ∨ v = 1) : sZ cs k (mk b w) (b + j) v = some (mk b (uI w j k v)) := by
  unfold sZ
  rw [if_pos hv]
  exact sI_mk h b w v
theorem fv_uS {b : Nat} {w : WD} {j k e a s : Nat} (h1 : e = 1 → a = w.2.2.2.1) (h2 : e = 2 → s = w.2.2.2.2) : fv b (uS w a s) j k e = fv b w j k e := by
  unfold fv
  split
  · rfl
  · show Value.ref (b + a) = _
    rw [h1 rfl]
  · show Value.ref (b + s) = _
    rw [h2 rfl]
  · rfl

theorem rdN_mk {t j n : Nat} (h : okA t j n = true) (ht : t < 3) (b : Nat) (w : WD) {i : Nat} (hi : i < n) : rdN t (mk b w) (b + j) (nI i) = some (w.2.1 j i) := by
  obtain ⟨h1, hn⟩ := okA_get h
  unfold rdN
  rw [mk_at, h1]
  show (match (some (Sum.inl (t, n, ac b w j t)) : Option AE) with
    | some (.inl (t', n, .inl f)) => if t' = t ∧ ¬ (nI i < 0 ∨ n ≤ (nI i).toNatClampNeg) then some (f (nI i).toNatClampNeg) else none
    | _ => none) = _
  have e : ac b w j t = .inl (w.2.1 j) := by
    unfold ac
    rw [if_neg (by omega), if_pos ht]
  rw [e]
  show (if t = t ∧ ¬ (nI i < 0 ∨ n ≤ (nI i).toNatClampNeg) then some (w.2.1 j (nI i).toNatClampNeg) else none) = _
  rw [if_pos ⟨rfl, nI_in hi (by omega)⟩, nI_clamp (by omega)]
theorem rdL_mk {j n : Nat} (h : okA 3 j n = true) (b : Nat) (w : WD) {i : Nat} (hi : i < n) : rdL (mk b w) (b + j) (nI i) = some (w.2.2.1 j i) := by
  obtain ⟨h1, hn⟩ := okA_get h
  unfold rdL
  rw [mk_at, h1]
  show (if 3 = 3 ∧ ¬ (nI i < 0 ∨ n ≤ (nI i).toNatClampNeg) then some (w.2.2.1 j (nI i).toNatClampNeg) else none) = _
  rw [if_pos ⟨rfl, nI_in hi (by omega)⟩, nI_clamp (by omega)]
theorem rdA_mk {t j n : Nat} (h : okA t j n = true) (ht : 3 < t) (b : Nat) (w : WD) {i : Nat} (hi : i < n) : rdA t (mk b w) (b + j) (nI i) = some (b + (j + 1 + i)) := by
  obtain ⟨h1, hn⟩ := okA_get h
  unfold rdA
  rw [mk_at, h1]
  show (match (some (Sum.inl (t, n, ac b w j t)) : Option AE) with
    | some (.inl (t', n, .inr (.inr (.inr (.inr f))))) => if t' = t ∧ ¬ (nI i < 0 ∨ n ≤ (nI i).toNatClampNeg) then f (nI i).toNatClampNeg else none
    | _ => none) = _
  have e : ac b w j t = .inr (.inr (.inr (.inr (fun i => some (b + (j + 1 + i)))))) := by
    unfold ac
    rw [if_neg (by omega), if_neg (by omega)]
  rw [e]
  show (if t = t ∧ ¬ (nI i < 0 ∨ n ≤ (nI i).toNatClampNeg) then some (b + (j + 1 + (nI i).toNatClampNeg)) else none) = _
  rw [if_pos ⟨rfl, nI_in hi (by omega)⟩, nI_clamp (by omega)]
theorem cell_uA {b : Nat} {w : WD} {j : Nat} {f : Nat → Int32} {j' : Nat} (h : j' ≠ j) (c : CT) : cell b (uA w j f) j' c = cell b w j' c := by
  rcases c with ⟨ci, es⟩ | ⟨t, n⟩
  · rfl
  · show Sum.inl (t, n, ac b (uA w j f) j' t) = Sum.inl (t, n, ac b w j' t)
    unfold ac
    show Sum.inl (t, n, if t = 3 then _ else if t < 3 then Sum.inl (if j' = j then f else w.2.1 j') else _) = _
    rw [if_neg h]
    rfl
theorem cell_uL {b : Nat} {w : WD} {j : Nat} {f : Nat → Int64} {j' : Nat} (h : j' ≠ j) (c : CT) : cell b (uL w j f) j' c = cell b w j' c := by
  rcases c with ⟨ci, es⟩ | ⟨t, n⟩
  · rfl
  · show Sum.inl (t, n, ac b (uL w j f) j' t) = Sum.inl (t, n, ac b w j' t)
    unfold ac
    show Sum.inl (t, n, if t = 3 then Sum.inr (Sum.inl (if j' = j then f else w.2.2.1 j')) else _) = _
    rw [if_neg h]
    rfl
theorem mk_uA {b : Nat} {w : WD} {t j n : Nat} (h : lay[j]? = some (.inr (t, n))) (ht : t < 3) (f : Nat → Int32) : upH (mk b w) (b + j) (.inl (t, n, .inl f)) = mk b (uA w j f) := by
  refine mk_ext ?_ (fun j' hj c _ => cell_uA hj c)
  rw [h]
  show some (Sum.inl (t, n, ac b (uA w j f) j t)) = _
  unfold ac
  rw [if_neg (by omega), if_pos ht]
  show some (Sum.inl (t, n, Sum.inl (if j = j then f else w.2.1 j))) = _
  rw [if_pos rfl]
theorem mk_uL {b : Nat} {w : WD} {j n : Nat} (h : lay[j]? = some (.inr (3, n))) (f : Nat → Int64) : upH (mk b w) (b + j) (.inl (3, n, .inr (.inl f))) = mk b (uL w j f) := by
  refine mk_ext ?_ (fun j' hj c _ => cell_uL hj c)
  rw [h]
  show some (Sum.inl (3, n, ac b (uL w j f) j 3)) = _
  unfold ac
  rw [if_pos rfl]
  show some (Sum.inl (3, n, Sum.inr (Sum.inl (if j = j then f else w.2.2.1 j)))) = _
  rw [if_pos rfl]
theorem ac_n {b : Nat} {w : WD} {j t : Nat} (ht : t < 3) : ac b w j t = .inl (w.2.1 j) := by
  unfold ac
  rw [if_neg (by omega), if_pos ht]
theorem wrI_mk {j n : Nat} (h : okA 0 j n = true) (b : Nat) (w : WD) {i : Nat} (hi : i < n) (x : Int32) : wrI (mk b w) (b + j) (nI i) x = some (mk b (uA w j (upd (w.2.1 j) i x))) := by
  obtain ⟨h1, hn⟩ := okA_get h
  unfold wrI
  rw [mk_at, h1]
  show (if 0 = 0 ∧ ¬ (nI i < 0 ∨ n ≤ (nI i).toNatClampNeg) then some (upH (mk b w) (b + j) (.inl (0, n, .inl (upd (w.2.1 j) (nI i).toNatClampNeg x)))) else none) = _
  rw [if_pos ⟨rfl, nI_in hi (by omega)⟩, nI_clamp (by omega), mk_uA h1 (by decide)]
theorem wrB_mk {j n : Nat} (h : okA 1 j n = true) (b : Nat) (w : WD) {i : Nat} (hi : i < n) (x : Int32) : wrB (mk b w) (b + j) (nI i) x = some (mk b (uA w j (upd (w.2.1 j) i x.toInt8.toInt32))) := by
  obtain ⟨h1, hn⟩ := okA_get h
  unfold wrB
  rw [mk_at, h1]
  show (if 1 = 1 ∧ ¬ (nI i < 0 ∨ n ≤ (nI i).toNatClampNeg) then some (upH (mk b w) (b + j) (.inl (1, n, .inl (upd (w.2.1 j) (nI i).toNatClampNeg x.toInt8.toInt32)))) else none) = _
  rw [if_pos ⟨rfl, nI_in hi (by omega)⟩, nI_clamp (by omega), mk_uA h1 (by decide)]
theorem wrZ_mk {j n : Nat} (h : okA 2 j n = true) (b : Nat) (w : WD) {i : Nat} (hi : i < n) {x : Int32} (hx : x = 0 ∨ x = 1) : wrZ (mk b w) (b + j) (nI i) x = some (mk b (uA w j (upd (w.2.1 j) i x))) := by
  obtain ⟨h1, hn⟩ := okA_get h
  unfold wrZ
  rw [mk_at, h1]
  show (if 2 = 2 ∧ ¬ (nI i < 0 ∨ n ≤ (nI i).toNatClampNeg) ∧ (x = 0 ∨ x = 1) then some (upH (mk b w) (b + j) (.inl (2, n, .inl (upd (w.2.1 j) (nI i).toNatClampNeg x)))) else none) = _
  rw [if_pos ⟨rfl, nI_in hi (by omega), hx⟩, nI_clamp (by omega), mk_uA h1 (by decide)]
theorem wrL_mk {j n : Nat} (h : okA 3 j n = true) (b : Nat) (w : WD) {i : Nat} (hi : i < n) (x : Int64) : wrL (mk b w) (b + j) (nI i) x = some (mk b (uL w j (vp_updL (w.2.2.1 j) i x))) := by
  obtain ⟨h1, hn⟩ := okA_get h
  unfold wrL
  rw [mk_at, h1]
  show (if 3 = 3 ∧ ¬ (nI i < 0 ∨ n ≤ (nI i).toNatClampNeg) then some (upH (mk b w) (b + j) (.inl (3, n, .inr (.inl (vp_updL (w.2.2.1 j) (nI i).toNatClampNeg x))))) else none) = _
  rw [if_pos ⟨rfl, nI_in hi (by omega)⟩, nI_clamp (by omega), mk_uL h1]
theorem alN_mk {t j n : Nat} (h : okA t j n = true) (b : Nat) (w : WD) : alN t (mk b w) (b + j) = some (nI n) := by
  obtain ⟨h1, hn⟩ := okA_get h
  unfold alN
  rw [mk_at, h1]
  show (if t = t then some (Int32.ofNat n) else none) = _
  rw [if_pos rfl]
  rfl
theorem cpL_mk {s d : Nat} (hs : okA 3 s 16 = true) (hd : okA 3 d 16 = true) (b : Nat) (w : WD) : cpL (mk b w) (b + s) 0 (b + d) 0 16 = some (mk b (uL w d (va_cpy (w.2.2.1 s) (w.2.2.1 d) 0 0 16))) := by
  have h1 := (okA_get hs).1
  have h2 := (okA_get hd).1
  unfold cpL
  rw [mk_at, mk_at, h1, h2]
  show (if 3 = 3 ∧ 3 = 3 ∧ ¬ (0 : Int32) < 0 ∧ ¬ (0 : Int32) < 0 ∧ ¬ (16 : Int32) < 0 ∧ (0 : Int32).toNatClampNeg + (16 : Int32).toNatClampNeg ≤ 16 ∧ (0 : Int32).toNatClampNeg + (16 : Int32).toNatClampNeg ≤ 16 then some (upH (mk b w) (b + d) (.inl (3, 16, .inr (.inl (va_cpy (w.2.2.1 s) (w.2.2.1 d) (0 : Int32).toNatClampNeg (0 : Int32).toNatClampNeg (16 : Int32).toNatClampNeg))))) else none) = _
  rw [if_pos (by decide)]
  show some (upH (mk b w) (b + d) (.inl (3, 16, .inr (.inl (va_cpy (w.2.2.1 s) (w.2.2.1 d) 0 0 16))))) = _
  rw [mk_uL h2]
theorem cpI_mk {s d : Nat} (hs : okA 0 s 5 = true) (hd : okA 0 d 5 = true) (b : Nat) (w : WD) : cpI (mk b w) (b + s) 0 (b + d) 0 5 = some (mk b (uA w d (va_cpy (w.2.1 s) (w.2.1 d) 0 0 5))) := by
  have h1 := (okA_get hs).1
  have h2 := (okA_get hd).1
  unfold cpI
  rw [mk_at, mk_at, h1, h2]
  show (if 0 = 0 ∧ 0 = 0 ∧ ¬ (0 : Int32) < 0 ∧ ¬ (0 : Int32) < 0 ∧ ¬ (5 : Int32) < 0 ∧ (0 : Int32).toNatClampNeg + (5 : Int32).toNatClampNeg ≤ 5 ∧ (0 : Int32).toNatClampNeg + (5 : Int32).toNatClampNeg ≤ 5 then some (upH (mk b w) (b + d) (.inl (0, 5, .inl (va_cpy (w.2.1 s) (w.2.1 d) (0 : Int32).toNatClampNeg (0 : Int32).toNatClampNeg (5 : Int32).toNatClampNeg)))) else none) = _
  rw [if_pos (by decide)]
  show some (upH (mk b w) (b + d) (.inl (0, 5, .inl (va_cpy (w.2.1 s) (w.2.1 d) 0 0 5)))) = _
  rw [mk_uA h2 (by decide)]
/-! loops -/
theorem lp_for {S X : Type} {body : S → Option (X ⊕ S)} (f : Nat → S) {x : X} (n : Nat) (hb : ∀ i, i < n → body (f i) = some (.inr (f (i + 1)))) (hx : body (f n) = some (.inl x)) {N : Nat} (hN : n < N) {s0 : S} (h0 : f 0 = s0) : lp body N s0 = some x := by
  subst h0
  have key : ∀ (d i N : Nat), i + d = n → d < N → lp body N (f i) = some x := by
    intro d
    induction d with
    | zero =>
      intro i N h1 h2
      obtain ⟨N, rfl⟩ := Nat.exists_eq_succ_of_ne_zero (Nat.ne_of_gt h2)
      have e : i = n := by omega
      subst e
      unfold lp
      rw [hx]
      rfl
    | succ d ih =>
      intro i N h1 h2
      obtain ⟨N, rfl⟩ := Nat.exists_eq_succ_of_ne_zero (Nat.ne_of_gt (Nat.lt_of_le_of_lt (Nat.zero_le _) h2))
      unfold lp
      rw [hb i (by omega)]
      exact ih (i + 1) N (by omega) (by omega)
  exact key n 0 N (by omega) hN
theorem lp_ex {S X : Type} {body : S → Option (X ⊕ S)} (I : Nat → S → Prop) (R : X → Prop) (hstep : ∀ k s, I k s → (∃ x, body s = some (.inl x) ∧ R x) ∨ ∃ s' k', body s = some (.inr s') ∧ k' < k ∧ I k' s') : ∀ (n : Nat) (s0 : S), I n s0 → ∀ N, n < N → ∃ x, lp body N s0 = some x ∧ R x := by
  intro n
  induction n using Nat.strongRecOn with
  | ind n ih =>
    intro s0 h0 N hN
    obtain ⟨N, rfl⟩ := Nat.exists_eq_succ_of_ne_zero (Nat.ne_of_gt (Nat.lt_of_le_of_lt (Nat.zero_le _) hN))
    unfold lp
    rcases hstep n s0 h0 with ⟨x, hx, hr⟩ | ⟨s', k', hs, hk, hI⟩
    · rw [hx]
      exact ⟨x, rfl, hr⟩
    · rw [hs]
      exact ih k' hk s' hI N (by omega)
theorem lpb_for {S X Z : Type} {body : S → Option (X ⊕ S)} {kf : X → Option Z} {N : Nat} {s0 : S} {r : Option Z} (f : Nat → S) (x : X) (n : Nat) (h0 : f 0 = s0) (hN : n < N) (hb : ∀ i, i < n → body (f i) = some (.inr (f (i + 1)))) (hx : body (f n) = some (.inl x)) (hk : kf x = r) : (lp body N s0).bind kf = r := by
  rw [lp_for f n hb hx hN h0]
  exact hk
/-- a fold -/
def fld {A : Type} (st : Nat → A → A) : Nat → A → A
  | 0, a => a
  | n + 1, a => st n (fld st n a)
/-- a loop over a counter behind a value -/
theorem lpb_fld {A X Z : Type} {body : A × Int32 → Option (X ⊕ (A × Int32))} {kf : X → Option Z} {N : Nat} {a0 : A} {r : Option Z} (st : Nat → A → A) (out : A → X) (n : Nat) (hN : n < N) (hb : ∀ i, i < n → ∀ a, body (a, nI i) = some (.inr (st i a, nI (i + 1)))) (hx : ∀ a, body (a, nI n) = some (.inl (out a))) (hk : kf (out (fld st n a0)) = r) : (lp body N (a0, 0)).bind kf = r :=
  lpb_for (fun i => (fld st i a0, nI i)) (out (fld st n a0)) n rfl hN (fun i hi => hb i hi _) (hx _) hk
/-- a loop over a counter ahead of a value -/
theorem lpb_fld' {A X Z : Type} {body : Int32 × A → Option (X ⊕ (Int32 × A))} {kf : X → Option Z} {N : Nat} {a0 : A} {r : Option Z} (st : Nat → A → A) (out : A → X) (n : Nat) (hN : n < N) (hb : ∀ i, i < n → ∀ a, body (nI i, a) = some (.inr (nI (i + 1), st i a))) (hx : ∀ a, body (nI n, a) = some (.inl (out a))) (hk : kf (out (fld st n a0)) = r) : (lp body N (0, a0)).bind kf = r :=
  lpb_for (fun i => (nI i, fld st i a0)) (out (fld st n a0)) n rfl hN (fun i hi => hb i hi _) (hx _) hk
