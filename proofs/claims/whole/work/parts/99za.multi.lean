/-! an array of arrays is made -/
section
variable {p : Program} {l : Launch} {e : Env} {R : Room} {s : State} {m : MethodId} {args : Array Value} {below : List Frame} {meth : Method} {c : Code} {locs : List Loc} {cells slots : Nat}
/-- the machine's states while rows are laid into the outer array -/
def mrS (T₁ : State) (cA cI : ClassId) (N K h : Nat) (dv : Value) : Nat → State
  | 0 => T₁.pushCell { cls := cA, slots := Array.replicate N .null }
  | i + 1 => ((mrS T₁ cA cI N K h dv i).pushCell { cls := cI, slots := Array.replicate K dv }).setCell h ((arrV cA N (fun j => if j < i then .ref (h + 1 + j) else .null)).setSlot i (.ref (mrS T₁ cA cI N K h dv i).heap.size))
/-- what holds of the i-th -/
def mrI (p : Program) (l : Launch) (e : Env) (R : Room) (s : State) (m : MethodId) (args : Array Value) (below : List Frame) (meth : Method) (c : Code) (locs : List Loc) (cells slots : Nat) (T : State) (vm₁ : Vm) (cA cI : ClassId) (N K h : Nat) (dv : Value) (i : Nat) (T' : State) : Prop :=
  ∃ L : List Loc, Stand p l e R s m args below meth c T' (locs ++ L) (cells + 1 + i) (slots + N + i * K) ∧ (∀ q ∈ L, s.heap.size ≤ q.base) ∧ T'.vm = vm₁ ∧ T'.heap.size = h + 1 + i ∧ (∀ q, q < h → T'.heap[q]? = T.heap[q]?) ∧
    T'.heap[h]? = some (arrV cA N (fun j => if j < i then .ref (h + 1 + j) else .null)) ∧ ∀ j, j < i → T'.heap[h + 1 + j]? = some (arrV cI K (fun _ => dv))
theorem mr_make1 {cI cE : ClassId} {kI : Class} {t : FieldType} {k : Int32} {K : Nat} {S : State} {E : CtlPost} {d : Bool} {acts : List Action} {Q : Addr → Pre} (hkI : S.vm.classes[cI]? = some kI) (hkind : kI.kind = .array cE t) (hk0 : ¬ k < 0) (hK : k.toNatClampNeg = K) (hlimit : ¬ K > e.platform.arrayLengthLimit) (hheap : ¬ K * componentBytes t > e.platform.maxHeapBytes) (hcells : S.heap.size < e.platform.maxCells) (hslots : S.slotsUsed + K ≤ e.platform.maxSlots) (hfit : fits t (defaultValue t) = true)
    (hq : ∀ acts', Q S.heap.size d acts' (S.pushCell { cls := cI, slots := Array.replicate K (defaultValue t) })) : wp (multianewarray.make cI [k]) Q E e d acts S := by
  subst hK
  simp only [multianewarray.make, wp_bind', W.ite, hk0, if_false, wp_pure', W.theClass, hkI, Option.some.injEq, exists_eq_left', hkind]
  exact W.newArray_of hkI hkind hlimit hheap hcells hslots hfit hq
theorem mr_next {T : State} {vm₁ : Vm} {cA cI : ClassId} {N K h i : Nat} {dv : Value} {T₁ : State} (hsh : s.heap.size ≤ h) (hI : mrI p l e R s m args below meth c locs cells slots T vm₁ cA cI N K h dv i (mrS T₁ cA cI N K h dv i)) : mrI p l e R s m args below meth c locs cells slots T vm₁ cA cI N K h dv (i + 1) (mrS T₁ cA cI N K h dv (i + 1)) := by
  have hS : mrS T₁ cA cI N K h dv (i + 1) = ((mrS T₁ cA cI N K h dv i).pushCell { cls := cI, slots := Array.replicate K dv }).setCell h ((arrV cA N (fun j => if j < i then .ref (h + 1 + j) else .null)).setSlot i (.ref (mrS T₁ cA cI N K h dv i).heap.size)) := rfl
  rw [hS]
  generalize mrS T₁ cA cI N K h dv i = T' at hI ⊢
  obtain ⟨L, X, hL, hvm, hsz, hold, hout, hin⟩ := hI
  have hmul2 : (i + 1) * K = i * K + K := Nat.succ_mul i K
  have X₁ := X.pushed { cls := cI, slots := Array.replicate K dv }
  have hlt : h < T'.heap.size := by omega
  have hout₁ : (T'.pushCell { cls := cI, slots := Array.replicate K dv }).heap[h]? = some (arrV cA N (fun j => if j < i then .ref (h + 1 + j) else .null)) := by
    rw [State.heap_pushCell_of_lt (h := hlt)]; exact hout
  have X₂ := X₁.stored hout₁ i (.ref T'.heap.size)
  refine ⟨L ++ [⟨h, i⟩], ?_, ?_, ?_, ?_, ?_, ?_, ?_⟩
  · rw [← List.append_assoc]
    have z : slots + N + (i + 1) * K = slots + N + i * K + ({ cls := cI, slots := Array.replicate K dv } : Cell).slots.size := by
      show _ = _ + (Array.replicate K dv).size
      rw [Array.size_replicate]; omega
    rw [z]
    exact X₂
  · intro q hq
    rcases List.mem_append.mp hq with z | z
    · exact hL q z
    · rw [List.mem_singleton] at z
      rw [z]; exact hsh
  · exact hvm
  · show (Array.setIfInBounds _ _ _).size = _
    rw [Array.size_setIfInBounds]
    show (T'.heap.push _).size = _
    rw [Array.size_push]; omega
  · intro q hq
    have z1 : h ≠ q := Nat.ne_of_gt hq
    have z2 : q < T'.heap.size := Nat.lt_trans hq hlt
    rw [State.heap_setCell_other z1, State.heap_pushCell_of_lt (h := z2)]
    exact hold q hq
  · rw [State.heap_setCell_self hout₁, arrV_store]
    congr 2
    funext j
    unfold updV
    by_cases z : j = i
    · dsimp only
      rw [if_pos z, if_pos (by omega), z, hsz]
    · rw [if_neg z]
      dsimp only
      by_cases z2 : j < i
      · rw [if_pos z2, if_pos (by omega)]
      · rw [if_neg z2, if_neg (by omega)]
  · intro j hj
    have z1 : h ≠ h + 1 + j := by omega
    rw [State.heap_setCell_other z1]
    rcases Nat.lt_or_ge j i with z | z
    · have z2 : h + 1 + j < T'.heap.size := by omega
      rw [State.heap_pushCell_of_lt (h := z2)]
      exact hin j z
    · have : h + 1 + j = T'.heap.size := by omega
      rw [this, State.heap_pushCell_size, ← arrV_new]
theorem mr_step {T : State} {vm₁ : Vm} {g2 : JFrame} {cA cI cE : ClassId} {kA kI : Class} {t : FieldType} {N K h i : Nat} {k : Int32} {T₁ : State} {E : CtlPost} {d : Bool} {acts : List Action} {Q : ForInStep PUnit → Pre} (hT : T.heap.size = h) (hsh : s.heap.size ≤ h)
    (hkA : vm₁.classes[cA]? = some kA) (hkindA : kA.kind = .array cI (.array t)) (hkI : vm₁.classes[cI]? = some kI) (hkindI : kI.kind = .array cE t) (hk0 : ¬ k < 0) (hK : k.toNatClampNeg = K) (hbK : K * componentBytes t ≤ 536870912) (hlK : K ≤ 536870912) (hfit : fits t (defaultValue t) = true)
    (hcells : cells + (1 + N) ≤ R.cells) (hslots : slots + (N + N * K) ≤ R.slots) (hi : i < N) (hI : mrI p l e R s m args below meth c locs cells slots T vm₁ cA cI N K h (defaultValue t) i (mrS T₁ cA cI N K h (defaultValue t) i))
    (hq : ∀ d' acts', mrI p l e R s m args below meth c locs cells slots T vm₁ cA cI N K h (defaultValue t) (i + 1) (mrS T₁ cA cI N K h (defaultValue t) (i + 1)) → Q (ForInStep.yield PUnit.unit) d' acts' ((mrS T₁ cA cI N K h (defaultValue t) (i + 1)).setTop g2)) :
    wp (do let a ← multianewarray.make cI [k]; Jvm.writeLoc h i (.ref a); Pure.pure (ForInStep.yield PUnit.unit)) Q E e d acts ((mrS T₁ cA cI N K h (defaultValue t) i).setTop g2) := by
  have hS : mrS T₁ cA cI N K h (defaultValue t) (i + 1) = ((mrS T₁ cA cI N K h (defaultValue t) i).pushCell { cls := cI, slots := Array.replicate K (defaultValue t) }).setCell h ((arrV cA N (fun j => if j < i then .ref (h + 1 + j) else .null)).setSlot i (.ref (mrS T₁ cA cI N K h (defaultValue t) i).heap.size)) := rfl
  have hN := mr_next hsh hI
  rw [hS] at hq hN
  generalize mrS T₁ cA cI N K h (defaultValue t) i = T' at hI hq hN ⊢
  obtain ⟨L, X, hL, hvm, hsz, hold, hout, hin⟩ := hI
  have hmul : (i + 1) * K ≤ N * K := Nat.mul_le_mul_right K hi
  have hmul2 : (i + 1) * K = i * K + K := Nat.succ_mul i K
  obtain ⟨hr1, hr2⟩ := X.roomAbove (a := 1) (b := K) (by omega) (by omega)
  have X₁ := X.pushed { cls := cI, slots := Array.replicate K (defaultValue t) }
  have hlt : h < T'.heap.size := by omega
  have hout₁ : (T'.pushCell { cls := cI, slots := Array.replicate K (defaultValue t) }).heap[h]? = some (arrV cA N (fun j => if j < i then .ref (h + 1 + j) else .null)) := by
    rw [State.heap_pushCell_of_lt (h := hlt)]; exact hout
  rw [wp_bind']
  refine mr_make1 (S := T'.setTop g2) (kI := kI) (cE := cE) (t := t) (by rw [State.vm_setTop, hvm]; exact hkI) hkindI hk0 hK (by rw [Launch.admits_arrayLengthLimit X.admits]; omega) (by rw [Launch.admits_maxHeapBytes X.admits]; omega) (by rw [State.heap_setTop]; omega) (by rw [State.slotsUsed_setTop]; omega) hfit (fun acts' => ?_)
  rw [wp_bind', W.writeLoc, State.pushCell_setTop]
  refine ⟨arrV cA N (fun j => if j < i then .ref (h + 1 + j) else .null), by rw [State.heap_setTop]; exact hout₁, (fun z => by cases z), by rw [arrV_size]; exact hi, ?_, ?_⟩
  · rw [State.fitsSlot_setTop]
    have e1 : (T'.pushCell { cls := cI, slots := Array.replicate K (defaultValue t) }).vm.classes[cA]? = some kA := by
      show T'.vm.classes[cA]? = _
      rw [hvm]; exact hkA
    show State.fitsSlot _ cA .none i _ = true
    simp [State.fitsSlot, State.slotType?, hvm, hkA, hkindA, fits]
  · rw [wp_pure']
    rw [State.heap_setTop, State.setCell_setTop]
    exact hq _ _ hN
end
