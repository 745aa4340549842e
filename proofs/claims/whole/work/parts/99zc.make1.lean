/-! MAKING: the known heap as a list of cells from the floor on; rows for what makes cells -/
def hl (b : Nat) (L : List AE) : HP := fun q => if b ≤ q then L[q - b]? else none
theorem hl_at (b : Nat) (L : List AE) (j : Nat) : hl b L (b + j) = L[j]? := by
  unfold hl
  rw [if_pos (Nat.le_add_right b j), Nat.add_sub_cancel_left]
theorem hl_up {b : Nat} {L : List AE} {j : Nat} {x : AE} (h : j < L.length) : upH (hl b L) (b + j) x = hl b (L.set j x) := by
  funext q
  unfold upH hl
  by_cases c : b ≤ q
  · obtain ⟨i, rfl⟩ : ∃ i, q = b + i := ⟨q - b, by omega⟩
    rw [if_pos c, if_pos c, Nat.add_sub_cancel_left, List.getElem?_set]
    by_cases d : j = i
    · rw [if_pos (by omega), if_pos d, if_pos h]
    · rw [if_neg (by omega), if_neg d]
  · rw [if_neg c, if_neg c, if_neg (by omega)]
/-- the cells as the kit's worlds have them -/
def wll (tg : Nat → ClassId) (b : Nat) (L : List AE) : va_W := L.mapIdx (fun j x => (b + j, cvE tg x))
theorem wll_at {tg : Nat → ClassId} {b : Nat} {L : List AE} {k : Nat} : (wll tg b L)[k]? = (L[k]?).map (fun x => (b + k, cvE tg x)) := by
  unfold wll
  rw [List.getElem?_mapIdx]
theorem wll_set {tg : Nat → ClassId} {b : Nat} {L : List AE} {j : Nat} {x : AE} : (wll tg b L).set j (b + j, cvE tg x) = wll tg b (L.set j x) := by
  refine List.ext_getElem? (fun k => ?_)
  rw [wll_at, List.getElem?_set, List.getElem?_set]
  by_cases c : j = k
  · subst c
    rw [if_pos rfl, if_pos rfl]
    unfold wll
    rw [List.length_mapIdx]
    split
    · rfl
    · rfl
  · rw [if_neg c, if_neg c, wll_at]
theorem wll_push {tg : Nat → ClassId} {b : Nat} {L : List AE} {x : AE} : wll tg b L ++ [(b + L.length, cvE tg x)] = wll tg b (L ++ [x]) := by
  unfold wll
  rw [List.mapIdx_concat]
section
variable {V : VT} {L : List AE} {H : Heap} {locs : List Loc}
theorem wll_P (h : hOK V (hl (vBs V) L) H) : va_P (vDa V) cls (wll (vTg V) (vBs V) L) H := by
  intro k q hk
  rw [wll_at] at hk
  cases hx : L[k]? with
  | none => rw [hx] at hk; cases hk
  | some x =>
    rw [hx] at hk
    cases hk
    exact h.1 _ _ (by rw [hl_at]; exact hx)
theorem wll_D : va_D (fun q => vBs V ≤ q) (wll (vTg V) (vBs V) L) := by
  refine ⟨fun i j p q hi hj e => ?_, fun k q hk => ?_⟩
  · rw [wll_at] at hi hj
    cases h1 : L[i]? with
    | none => rw [h1] at hi; cases hi
    | some x =>
      cases h2 : L[j]? with
      | none => rw [h2] at hj; cases hj
      | some y =>
        rw [h1] at hi
        rw [h2] at hj
        cases hi
        cases hj
        have e : vBs V + i = vBs V + j := e
        omega
  · rw [wll_at] at hk
    cases h1 : L[k]? with
    | none => rw [h1] at hk; cases hk
    | some x =>
      rw [h1] at hk
      cases hk
      exact Nat.le_add_right _ _
theorem wll_OK (h : va_P (vDa V) cls (wll (vTg V) (vBs V) L) H) : hOK V (hl (vBs V) L) H := by
  have key : ∀ q x, hl (vBs V) L q = some x → vBs V ≤ q ∧ L[q - vBs V]? = some x := by
    intro q x hq
    unfold hl at hq
    split at hq
    · rename_i c; exact ⟨c, hq⟩
    · cases hq
  refine ⟨fun q x hq => ?_, fun q x hq => (key q x hq).1⟩
  obtain ⟨c, e⟩ := key q x hq
  have := h (q - vBs V) (vBs V + (q - vBs V), cvE (vTg V) x) (by rw [wll_at, e]; rfl)
  rw [show vBs V + (q - vBs V) = q by omega] at this
  exact this
theorem wll_lt {k : Nat} (h : va_P (vDa V) cls (wll (vTg V) (vBs V) L) H) (hk : k < L.length) : vBs V + k < H.size := by
  have := h k (vBs V + k, cvE (vTg V) L[k]) (by rw [wll_at, List.getElem?_eq_getElem hk]; rfl)
  exact this.lt
/-- the heap is just as large as the list says -/
theorem sz_of {cc : ByteArray} {own : String} {nL Lv : Nat} {ret : Option FieldType} {n : Nat × Nat} {T : State} {locs' : List Loc} (hC : CX V cc own nL ret Lv) (hT : ST V (hl (vBs V) L) H locs) (hz : (vSt V).heap.size + n.1 = vBs V + L.length) (he : T.heap = H) (X : Stand (vPr V) (vLa V) (vEn V) (vRo V) (vSt V) (vMi V) (vAr V) (vBe V) (vMe V) (vCo V) T locs' n.1 n.2) : H.size = vBs V + L.length := by
  have h1 : H.size ≤ vBs V + L.length := by
    have := X.heapSize
    rw [he] at this
    omega
  have h2 : vBs V ≤ (vSt V).heap.size := hC.2.2.2.2.2.2.2.1
  have h3 : (vSt V).heap.size ≤ H.size := hT.2.1
  by_cases c : L.length = 0
  · omega
  · have := wll_lt (wll_P hT.1) (show L.length - 1 < L.length by omega)
    omega
/-- where a new cell lies -/
theorem q_eq {q : Nat} {e : va_E} (hP : va_P (vDa V) cls (wll (vTg V) (vBs V) L ++ [(q, e)]) H) (hD : va_D (fun q => vBs V ≤ q) (wll (vTg V) (vBs V) L ++ [(q, e)])) (hs : H.size ≤ vBs V + L.length + 1) : q = vBs V + L.length := by
  have hlen : (wll (vTg V) (vBs V) L).length = L.length := by unfold wll; rw [List.length_mapIdx]
  have hat : (wll (vTg V) (vBs V) L ++ [(q, e)])[L.length]? = some (q, e) := by
    rw [List.getElem?_append_right (by omega), hlen, Nat.sub_self]
    rfl
  have h1 : q < H.size := (hP _ _ hat).lt
  have h2 : vBs V ≤ q := hD.2 _ _ hat
  rcases Nat.lt_or_ge q (vBs V + L.length) with z | z
  · exfalso
    have hi : q - vBs V < L.length := by omega
    have := hD.1 (q - vBs V) L.length (q, cvE (vTg V) L[q - vBs V]) (q, e) (by
      rw [List.getElem?_append_left (by omega), wll_at, List.getElem?_eq_getElem hi, show vBs V + (q - vBs V) = q by omega]
      rfl) hat rfl
    omega
  · omega
end
