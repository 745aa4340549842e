/-! an array of arrays is made -/
section
variable {p : Program} {l : Launch} {e : Env} {R : Room} {s : State} {m : MethodId} {args : Array Value} {below : List Frame} {meth : Method} {c : Code} {locs : List Loc} {cells slots : Nat}
/-- the machine's state while rows are laid into the outer array: i of them are there -/
def mrI (p : Program) (l : Launch) (e : Env) (R : Room) (s : State) (m : MethodId) (args : Array Value) (below : List Frame) (meth : Method) (c : Code) (locs : List Loc) (cells slots : Nat) (T : State) (vm₁ : Vm) (g2 : JFrame) (cA cI : ClassId) (N K h : Nat) (dv : Value) (i : Nat) (S : State) : Prop :=
  ∃ (T' : State) (L : List Loc), S = T'.setTop g2 ∧ Stand p l e R s m args below meth c T' (locs ++ L) (cells + 1 + i) (slots + N + i * K) ∧ (∀ q ∈ L, s.heap.size ≤ q.base) ∧ T'.vm = vm₁ ∧ T'.heap.size = h + 1 + i ∧ (∀ q, q < h → T'.heap[q]? = T.heap[q]?) ∧
    T'.heap[h]? = some (arrV cA N (fun j => if j < i then .ref (h + 1 + j) else .null)) ∧ ∀ j, j < i → T'.heap[h + 1 + j]? = some (arrV cI K (fun _ => dv))
theorem mr_make1 {cI cE : ClassId} {kI : Class} {t : FieldType} {k : Int32} {K : Nat} {S : State} {E : CtlPost} {d : Bool} {acts : List Action} {Q : Addr → Pre} (hkI : S.vm.classes[cI]? = some kI) (hkind : kI.kind = .array cE t) (hk0 : ¬ k < 0) (hK : k.toNatClampNeg = K) (hlimit : ¬ K > e.platform.arrayLengthLimit) (hheap : ¬ K * componentBytes t > e.platform.maxHeapBytes) (hcells : S.heap.size < e.platform.maxCells) (hslots : S.slotsUsed + K ≤ e.platform.maxSlots) (hfit : fits t (defaultValue t) = true)
    (hq : ∀ acts', Q S.heap.size d acts' (S.pushCell { cls := cI, slots := Array.replicate K (defaultValue t) })) : wp (multianewarray.make cI [k]) Q E e d acts S := by
  subst hK
  simp only [multianewarray.make, wp_bind', W.ite, hk0, if_false, wp_pure', W.theClass, hkI, Option.some.injEq, exists_eq_left', hkind]
  exact W.newArray_of hkI hkind hlimit hheap hcells hslots hfit hq
theorem mr_step {T : State} {vm₁ : Vm} {g2 : JFrame} {cA cI cE : ClassId} {kA kI : Class} {t : FieldType} {N K h i : Nat} {k : Int32} {S : State} {E : CtlPost} {d : Bool} {acts : List Action} {Q : ForInStep PUnit → Pre} (hT : T.heap.size = h) (hsh : s.heap.size ≤ h)
    (hkA : vm₁.classes[cA]? = some kA) (hkindA : kA.kind = .array cI (.array t)) (hkI : vm₁.classes[cI]? = some kI) (hkindI : kI.kind = .array cE t) (hk0 : ¬ k < 0) (hK : k.toNatClampNeg = K) (hbK : K * componentBytes t ≤ 536870912) (hlK : K ≤ 536870912) (hfit : fits t (defaultValue t) = true)
    (hcells : cells + (1 + N) ≤ R.cells) (hslots : slots + (N + N * K) ≤ R.slots) (hi : i < N) (hI : mrI p l e R s m args below meth c locs cells slots T vm₁ g2 cA cI N K h (defaultValue t) i S)
    (hq : ∀ S' d' acts', mrI p l e R s m args below meth c locs cells slots T vm₁ g2 cA cI N K h (defaultValue t) (i + 1) S' → Q (ForInStep.yield PUnit.unit) d' acts' S') :
    wp (do let a ← multianewarray.make cI [k]; Jvm.writeLoc h i (.ref a); Pure.pure (ForInStep.yield PUnit.unit)) Q E e d acts S := by
  obtain ⟨T', L, rfl, X, hL, hvm, hsz, hold, hout, hin⟩ := hI
  have hmul : (i + 1) * K ≤ N * K := Nat.mul_le_mul_right K hi
  have hmul2 : (i + 1) * K = i * K + K := Nat.succ_mul i K
  obtain ⟨hr1, hr2⟩ := X.roomAbove (a := 1) (b := K) (by omega) (by omega)
  have X₁ := X.pushed { cls := cI, slots := Array.replicate K (defaultValue t) }
  have hlt : h < T'.heap.size := by omega
  have hout₁ : (T'.pushCell { cls := cI, slots := Array.replicate K (defaultValue t) }).heap[h]? = some (arrV cA N (fun j => if j < i then .ref (h + 1 + j) else .null)) := by
    rw [State.heap_pushCell_of_lt (h := hlt)]; exact hout
  have X₂ := X₁.stored hout₁ i (.ref T'.heap.size)
  rw [wp_bind']
  refine mr_make1 (S := T'.setTop g2) (kI := kI) (cE := cE) (t := t) (by rw [State.vm_setTop, hvm]; exact hkI) hkindI hk0 hK (by rw [Launch.admits_arrayLengthLimit X.admits]; omega) (by rw [Launch.admits_maxHeapBytes X.admits]; omega) (by rw [State.heap_setTop]; omega) (by rw [State.slotsUsed_setTop]; omega) hfit (fun acts' => ?_)
  rw [wp_bind', W.writeLoc, State.pushCell_setTop]
  refine ⟨arrV cA N (fun j => if j < i then .ref (h + 1 + j) else .null), by rw [State.heap_setTop]; exact hout₁, (fun z => by cases z), by rw [arrV_size]; exact hi, ?_, ?_⟩
  · rw [State.fitsSlot_setTop]
    have e1 : (T'.pushCell { cls := cI, slots := Array.replicate K (defaultValue t) }).vm.classes[cA]? = some kA := by
      show T'.vm.classes[cA]? = _
      rw [hvm]; exact hkA
    show State.fitsSlot _ cA .none i _ = true
    simp [State.fitsSlot, State.slotType?, hvm, hkA, hkindA, fits]
  · rw [wp_pure']
    refine hq _ _ _ ⟨(T'.pushCell { cls := cI, slots := Array.replicate K (defaultValue t) }).setCell h ((arrV cA N (fun j => if j < i then .ref (h + 1 + j) else .null)).setSlot i (.ref T'.heap.size)), L ++ [⟨h, i⟩], ?_, ?_, ?_, ?_, ?_, ?_, ?_, ?_⟩
    · rw [State.heap_setTop, State.setCell_setTop]
    · rw [← List.append_assoc]
      have z : slots + N + (i + 1) * K = slots + N + i * K + ({ cls := cI, slots := Array.replicate K (defaultValue t) } : Cell).slots.size := by
        show _ = _ + (Array.replicate K (defaultValue t)).size
        rw [Array.size_replicate]; omega
      rw [z]
      exact X₂
    · intro q hq
      rcases List.mem_append.mp hq with z | z
      · exact hL q z
      · rw [List.mem_singleton] at z
        rw [z]; exact hsh
    · exact hvm
    · show (Array.setIfInBounds _ _ _).size = _
      rw [Array.size_setIfInBounds]
      show (T'.heap.push _).size = _
      rw [Array.size_push]; omega
    · intro q hq
      have z1 : h ≠ q := Nat.ne_of_gt hq
      have z2 : q < T'.heap.size := Nat.lt_trans hq hlt
      rw [State.heap_setCell_other z1, State.heap_pushCell_of_lt (h := z2)]
      exact hold q hq
    · rw [State.heap_setCell_self hout₁, arrV_store]
      congr 2
      funext j
      unfold updV
      by_cases z : j = i
      · dsimp only
        rw [if_pos z, if_pos (by omega), z, hsz]
      · rw [if_neg z]
        dsimp only
        by_cases z2 : j < i
        · rw [if_pos z2, if_pos (by omega)]
        · rw [if_neg z2, if_neg (by omega)]
    · intro j hj
      have z1 : h ≠ h + 1 + j := by omega
      rw [State.heap_setCell_other z1]
      rcases Nat.lt_or_ge j i with z | z
      · have z2 : h + 1 + j < T'.heap.size := by omega
        rw [State.heap_pushCell_of_lt (h := z2)]
        exact hin j z
      · have : h + 1 + j = T'.heap.size := by omega
        rw [this, State.heap_pushCell_size, ← arrV_new]
end
