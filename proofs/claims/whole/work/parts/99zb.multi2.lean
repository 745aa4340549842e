/-! multianewarray of two dimensions, as a row of the walk -/
section
variable {p : Program} {l : Launch} {e : Env} {R : Room} {s : State} {m : MethodId} {args : Array Value} {below : List Frame} {meth : Method} {c : Code} {H : Heap} {locs : List Loc} {cells slots : Nat} {Q : State → Prop}
theorem mr_loop {T : State} {vm₁ : Vm} {g2 : JFrame} {cA cI cE : ClassId} {kA kI : Class} {t : FieldType} {N K h : Nat} {k : Int32} {T₁ : State} {E : CtlPost} {F : Nat → PUnit → Sem (ForInStep PUnit)} (hT : T.heap.size = h) (hsh : s.heap.size ≤ h)
    (hkA : vm₁.classes[cA]? = some kA) (hkindA : kA.kind = .array cI (.array t)) (hkI : vm₁.classes[cI]? = some kI) (hkindI : kI.kind = .array cE t) (hk0 : ¬ k < 0) (hK : k.toNatClampNeg = K) (hbK : K * componentBytes t ≤ 536870912) (hlK : K ≤ 536870912) (hfit : fits t (defaultValue t) = true)
    (hcells : cells + (1 + N) ≤ R.cells) (hslots : slots + (N + N * K) ≤ R.slots)
    (hF : ∀ i u, F i u = (do let a ← multianewarray.make cI [k]; Jvm.writeLoc h i (.ref a); Pure.pure (ForInStep.yield PUnit.unit))) {Qw : PUnit → Pre} :
    ∀ (d i : Nat), i + d = N → ∀ {dd : Bool} {acts : List Action}, mrI p l e R s m args below meth c locs cells slots T vm₁ cA cI N K h (defaultValue t) i (mrS T₁ cA cI N K h (defaultValue t) i) →
    (∀ d' acts', mrI p l e R s m args below meth c locs cells slots T vm₁ cA cI N K h (defaultValue t) N (mrS T₁ cA cI N K h (defaultValue t) N) → Qw PUnit.unit d' acts' ((mrS T₁ cA cI N K h (defaultValue t) N).setTop g2)) →
    wp (forIn (List.range' i d) PUnit.unit F) Qw E e dd acts ((mrS T₁ cA cI N K h (defaultValue t) i).setTop g2)
  | 0, i, hd, dd, acts, hI, hq => by
    have : i = N := by omega
    subst this
    rw [List.range'_zero, List.forIn_nil, wp_pure']
    exact hq _ _ hI
  | d + 1, i, hd, dd, acts, hI, hq => by
    rw [List.range'_succ, List.forIn_cons, wp_bind', hF]
    exact mr_step hT hsh hkA hkindA hkI hkindI hk0 hK hbK hlK hfit hcells hslots (by omega) hI (fun d' acts' hI' => mr_loop hT hsh hkA hkindA hkI hkindI hk0 hK hbK hlK hfit hcells hslots hF d (i + 1) (by omega) hI' hq)
theorem W.multi2 {cc : ByteArray} (hexec : p.tables.exec = Jvm.exec) (hb : c.code = cc) {own : String} {index : Nat} {t : FieldType} (hown : s.vm.findClass own = some m.cls) (hclink : (Cond.classLink own index ("[" ++ (FieldType.array t).toString)).before args s = true) (hover : (Cond.arrayOver (.array t)).before args s = true) (harr : (Cond.arrayClass t).before args s = true) (hts : (FieldType.array t).toString = "[" ++ t.toString)
    {g : JFrame} (hg : g.method = m) (hdg : decode cc g.pc = .ok (.multianewarray index 2, 4)) {n k : Int32} {N K : Nat} {rest : List Value} (hstack : g.stack = .int k :: .int n :: rest) (hn : ¬ n < 0) (hN : n.toNatClampNeg = N) (hn0 : (n == 0) = false) (hk0 : ¬ k < 0) (hK : k.toNatClampNeg = K) (hbN : N * 4 ≤ 536870912) (hbK : K * componentBytes t ≤ 536870912) (hlK : K ≤ 536870912) (hfit : fits t (defaultValue t) = true)
    (hcells : cells + (1 + N) ≤ R.cells) (hslots : slots + (N + N * K) ≤ R.slots) {h : Nat} (hh : H.size = h) (hsh : s.heap.size ≤ h)
    (kk : ∀ (H' : Heap) (cA cI : ClassId), s.vm.findClass ("[" ++ (FieldType.array t).toString) = some cA → s.vm.findClass ("[" ++ t.toString) = some cI → H'.size = h + 1 + N → (∀ q, q < h → H'[q]? = H[q]?) → H'[h]? = some (arrV cA N (fun j => .ref (h + 1 + j))) → (∀ j, j < N → H'[h + 1 + j]? = some (arrV cI K (fun _ => defaultValue t))) →
      W p l e R s m args below meth c H' locs (cells + (1 + N)) (slots + (N + N * K)) Q { g with pc := g.pc + 4, stack := .ref h :: rest }) : W p l e R s m args below meth c H locs cells slots Q g := by
  intro T hT X
  subst hb; subst hg; subst hT; subst hh
  have hpl : e.platform.magicAccessors = ({} : Platform).magicAccessors := by rw [X.admits.platform]
  obtain ⟨comp, cA, kA, hcomp, hidx, hkA, hkindA, hnameA⟩ := arrayOverA_spec hover
  obtain ⟨cA', hfcc, hcl⟩ := Cond.classLink_spec hown hclink e.platform hpl
  cases hnameA.symm.trans hfcc
  obtain ⟨cI, kI, cE, hcI, hkI, hkindI⟩ := Cond.arrayClass_spec harr
  rw [hts] at hcomp
  cases hcomp.symm.trans hcI
  obtain ⟨hg₁, hwarm₁, hready₁⟩ := State.classEntry (e := e) X.warmed hcl
  generalize T.vm.noted g.method.cls index (.cls cA) = vm₁ at hg₁ hwarm₁ hready₁
  have hal : s.vm.Alike vm₁ := hwarm₁.alike
  obtain ⟨kA₁, hkA₁, heA⟩ := hal.2.2 _ _ hkA
  have hkindA₁ : kA₁.kind = .array comp (.array t) := by rw [heA]; exact hkindA
  obtain ⟨kI₁, hkI₁, heI⟩ := hal.2.2 _ _ hkI
  have hkindI₁ : kI₁.kind = .array cE t := by rw [heI]; exact hkindI
  have X₁ := X.noted hwarm₁
  have X₂ := X₁.pushed { cls := cA, slots := Array.replicate N .null }
  obtain ⟨hr1, hr2⟩ := X.roomAbove (a := 1 + N) (b := N + N * K) hcells hslots
  have I0 : mrI p l e R s g.method args below meth c locs cells slots T vm₁ cA comp N K T.heap.size (defaultValue t) 0 (mrS (T.setVm vm₁) cA comp N K T.heap.size (defaultValue t) 0) := by
    refine ⟨[], ?_, fun q hq => absurd hq List.not_mem_nil, rfl, ?_, fun q hq => ?_, ?_, fun j hj => absurd hj (Nat.not_lt_zero j)⟩
    · rw [List.append_nil, Nat.zero_mul]
      have z : slots + N + 0 = slots + ({ cls := cA, slots := Array.replicate N .null } : Cell).slots.size := by
        show _ = _ + (Array.replicate N Value.null).size
        rw [Array.size_replicate, Nat.add_zero]
      rw [z]
      exact X₂
    · show (T.heap.push _).size = _
      rw [Array.size_push]
    · exact State.heap_pushCell_of_lt (h := hq) ..
    · have z : (fun j => if j < 0 then Value.ref (T.heap.size + 1 + j) else .null) = (fun _ => Value.null) := by
        funext j
        rw [if_neg (Nat.not_lt_zero j)]
      rw [z, ← arrV_new]
      exact State.heap_pushCell_size (T.setVm vm₁) _
  have In : ∀ d i, i + d = N → mrI p l e R s g.method args below meth c locs cells slots T vm₁ cA comp N K T.heap.size (defaultValue t) i (mrS (T.setVm vm₁) cA comp N K T.heap.size (defaultValue t) i) → mrI p l e R s g.method args below meth c locs cells slots T vm₁ cA comp N K T.heap.size (defaultValue t) N (mrS (T.setVm vm₁) cA comp N K T.heap.size (defaultValue t) N) := by
    intro d
    induction d with
    | zero =>
      intro i hd hI
      have : i = N := by omega
      rw [this] at hI
      exact hI
    | succ d ih => exact fun i hd hI => ih (i + 1) (by omega) (mr_next hsh hI)
  obtain ⟨L, X', hL, hvm, hsz, hold, hout, hin⟩ := In N 0 (Nat.zero_add N) I0
  have X'' := Stand.forget X' hL
  rw [show cells + 1 + N = cells + (1 + N) by omega, show slots + N + N * K = slots + (N + N * K) by omega] at X''
  obtain ⟨t2, a1, b1⟩ := kk _ cA comp hnameA hcI hsz hold (by
    rw [hout]
    congr 1
    unfold arrV
    congr 1
    apply Array.ext
    · simp
    · intro i h1 h2
      have : i < N := by simpa using h1
      simp [this]) hin _ rfl X''
  refine ⟨t2, ?_, b1⟩
  jvm_step X.here [hexec, hdg]
  simp only [multianewarray.sem, wp_bind']
  rw [W.resolveClassAt_transfer (s := T.setTop g) (State.method?_setTop g X.here.top) hg₁ hready₁]
  show wp (Jvm.resolveClassAt index) _ _ e false [] ((T.setVm vm₁).setTop g)
  have htop : (T.setVm vm₁).topJava?.isSome := X₁.here.top
  rw [W.resolveClassAt_ready (s := (T.setVm vm₁).setTop g) (State.method?_setTop g htop) hready₁]
  rw [wp_bind']
  refine (popN_top (args := [.int n, .int k]) (rest := rest) htop hstack).mpr ?_
  simp only [List.mapM_cons, List.mapM_nil, wp_bind', wp_pure', pure_bind]
  rw [multianewarray.make]
  simp only [wp_bind', W.ite, hn, hn0, if_false, wp_pure', W.theClass, State.vm_setTop, State.vm_setVm, hkA₁, Option.some.injEq, exists_eq_left', hkindA₁]
  have hlimN : ¬ n.toNatClampNeg > e.platform.arrayLengthLimit := by rw [Launch.admits_arrayLengthLimit X.admits, hN]; omega
  have hheapN : ¬ n.toNatClampNeg * componentBytes (.array t) > e.platform.maxHeapBytes := by
    rw [Launch.admits_maxHeapBytes X.admits, hN]; show ¬ N * 4 > 536870912; omega
  refine W.newArray_of (s := (T.setVm vm₁).setTop { g with stack := rest }) hkA₁ hkindA₁ hlimN hheapN (by show T.heap.size < _; omega) (by show T.slotsUsed + _ ≤ _; rw [hN]; omega) rfl (fun acts' => ?_)
  rw [if_neg Bool.false_ne_true]
  simp only [wp_bind', Std.Legacy.Range.forIn_eq_forIn_range', Std.Legacy.Range.size]
  rw [hN, show (N - 0 + 1 - 1) / 1 = N by omega, State.pushCell_setTop]
  refine mr_loop (T := T) (vm₁ := vm₁) (g2 := { g with stack := rest }) (cA := cA) (cI := comp) (cE := cE) (kA := kA₁) (kI := kI₁) (t := t) (N := N) (K := K) (h := T.heap.size) (k := k) (T₁ := T.setVm vm₁) rfl hsh hkA₁ hkindA₁ hkI₁ hkindI₁ hk0 hK hbK hlK hfit hcells hslots (fun i u => rfl) N 0 (Nat.zero_add N) I0 (fun d' acts2 _ => ?_)
  rw [wp_pure', wp_bind', W.mark, W.pushRef]
  refine ⟨{ g with stack := rest }, State.topJava?_setTop' _ X''.here.top, ?_⟩
  intro acts3
  rw [State.setTop_setTop]
  simpa [jvm, X''.here.top] using a1
end
