/-! MAKING: contracts and rows -/
/-- links within the nest, and array classes over reference types: words that the other contracts don't carry -/
def nxL : List (String × Nat × MethodName) := [("PactYears", 9, ⟨"PactYears$Tape", "<init>", "()V"⟩), ("PactYears", 27, ⟨"PactYears$Book", "<init>", "()V"⟩), ("PactYears$Spirit", 40, ⟨"PactYears$Standing", "<init>", "()V"⟩), ("PactYears", 69, ⟨"PactYears$WordSearch", "<init>", "()V"⟩), ("PactYears", 76, ⟨"PactYears$Tour", "<init>", "()V"⟩), ("PactYears", 83, ⟨"PactYears$Standing", "<init>", "()V"⟩)]
def NX (U : State) : Prop := va_AO "PactYears$Standing" U ∧ (Cond.arrayOver (.array .long)).before #[] U = true ∧ ∀ q ∈ nxL, va_Nw (.methodLinkNest q.1 q.2.1 q.2.2 "PactYears") U
theorem aoA_moved {t : FieldType} {u U : State} (hvm : u.vm.Alike U.vm) (h : (Cond.arrayOver (.array t)).before #[] u = true) : (Cond.arrayOver (.array t)).before #[] U = true := by
  obtain ⟨comp, c, k, h1, h2, h3, h4, h5⟩ := arrayOverA_spec h
  obtain ⟨k', hk', he⟩ := hvm.2.2 _ _ h3
  have hi : (U.vm.classes.findIdx? fun x => match x.kind with | .array component _ => component == comp | _ => false) = some c := by
    rw [hvm.findIdx?_eq _ (fun _ => rfl)]; exact h2
  have hkind : k'.kind = .array comp (.array t) := by rw [he]; exact h4
  have f1 : U.vm.findClass (FieldType.array t).toString = some comp := by rw [hvm.findClass]; exact h1
  have f2 : U.vm.findClass ("[" ++ (FieldType.array t).toString) = some c := by rw [hvm.findClass]; exact h5
  simp only [Cond.before, Cond.holds, Cond.value, f1, Option.bind_some]
  refine (congrArg (fun o : Option Nat => (o.bind (fun c => (U.vm.classes[c]?).map fun (k : Class) => match k.kind with | .array _ ty => decide (ty = FieldType.array t) && decide (U.vm.findClass ("[" ++ (FieldType.array t).toString) = some c) | _ => false) == some true)) hi).trans ?_
  simp [hk', hkind, f2]
theorem NX.warm {s U : State} (h : NX s) (hW : s.WarmedH U.vm) : NX U := ⟨va_AO.moved hW.alike h.1, aoA_moved hW.alike h.2.1, fun q hq => va_Nw.warmM hW (h.2.2 q hq)⟩
theorem NX.same {s U : State} (h : NX s) (hv : U.vm = s.vm) : NX U := ⟨va_AO.moved (by rw [hv]; exact Vm.Alike.refl _) h.1, aoA_moved (by rw [hv]; exact Vm.Alike.refl _) h.2.1, fun q hq => va_Nw.same rfl hv.symm (h.2.2 q hq)⟩
def WdN (D : va_G) (tg : Nat → ClassId) (bs : Nat) (sa : Nat → Nat) (L : List AE) (U : State) : Prop := Wd D tg bs sa (hl bs L) U ∧ NX U ∧ U.heap.size = bs + L.length
theorem WdN.calling {D : va_G} {tg : Nat → ClassId} {bs : Nat} {sa : Nat → Nat} {L : List AE} {U : State} (h : WdN D tg bs sa L U) (g : JFrame) (mk : MethodId) (a : Array Value) : WdN D tg bs sa L (U.calling g mk a) := ⟨h.1.calling g mk a, h.2.1.same rfl, h.2.2⟩
theorem WdN.blind {D : va_G} {tg : Nat → ClassId} {bs : Nat} {sa : Nat → Nat} {L : List AE} {av : List Value} : FrameBlind (va_Pc av (WdN D tg bs sa L)) := fun _ _ g mk q => ⟨q.1, q.2.calling g mk _⟩
def rmN (L mc ms : Nat) : Room := { frames := L, cells := mc, slots := ms, locals := 60 * L }
def Qn (D : va_G) (tg : Nat → ClassId) (bs : Nat) (sa : Nat → Nat) (L : List AE) : Array Value → State → Outcome → State → Prop := fun _ st oc t => (oc = .returned none ∧ WdN D tg bs sa L t) ∧ va_F (fun q => bs ≤ q) st t
/-- a maker's contract: from the cells l0 to the cells l1, mc cells and ms slots more -/
def CtN (l : Launch) (D : va_G) (tg : Nat → ClassId) (bs : Nat) (sa : Nat → Nat) (y : MethodName) (b : ByteArray) (nl L : Nat) (av : List Value) (l0 l1 : List AE) (mc ms : Nat) : Prop :=
  Met l y (wsT y b nl none) (rmN L mc ms) (va_Pc av (WdN D tg bs sa l0)) (Qn D tg bs sa l1) mc ms (fun q => bs ≤ q)
def RetN (V : VT) (Q : State → Prop) (n : Nat × Nat) (L : List AE) : Prop := ∀ t, MQ (vBe V) (Qn (vDa V) (vTg V) (vBs V) (vSa V) L) (vAr V) (vSt V) n.1 n.2 (fun q => vBs V ≤ q) t → Q t
abbrev ZP (V : VT) (Q : State → Prop) (n : Nat × Nat) (nL : Nat) (hp : HP) (lv : List (Nat × Value)) (pc : Nat) (st : List Value) : Prop := Zs V Q n nL (some ()) (fun _ => True) hp lv pc st
def okI (own : String) (i : Nat) (y : MethodName) (b : ByteArray) (maxL np : Nat) : Prop := Cond.methodLink own i y ∈ gd_tbl ∧ Cond.instanceMethod y ∈ gd_tbl ∧ Cond.initialized y.cls ∈ gd_tbl ∧ Cond.code y b maxL none ∈ gd_tbl ∧ okD y np ∧ maxL ≤ 41 ∧ y.name = "<init>"
def okIN (own : String) (i : Nat) (y : MethodName) (b : ByteArray) (maxL np : Nat) : Prop := (own, i, y) ∈ nxL ∧ Cond.instanceMethod y ∈ gd_tbl ∧ Cond.initialized y.cls ∈ gd_tbl ∧ Cond.code y b maxL none ∈ gd_tbl ∧ okD y np ∧ maxL ≤ 41 ∧ y.name = "<init>"
def lkQ (own : String) (i k ci : Nat) (ty : FieldType) : Prop := ∃ (C : String) (T : u_T) (N : Nat) (ref : String) (ty0 : Nat → FieldType), lkF own i ci k C T N ref ∧ (T k).2.2.2 = true ∧ (T k).1 = own ∧ parseFieldDescriptor (T k).2.2.1 = some ty ∧ (∀ k, k < N → parseFieldDescriptor (T k).2.2.1 = some (ty0 k)) ∧ (∀ a, a < N → ∀ b, b < N → a ≠ b → (T a).2.1 ≠ (T b).2.1)
section
variable {V : VT} {Q : State → Prop} {n : Nat × Nat} {nL : Nat} {hp : HP} {lv : List (Nat × Value)} {pc : Nat} {st : List Value} {cc : ByteArray} {own : String} {ret : Option FieldType} {Lv : Nat} {L : List AE}
/-- where the function's piece has its answer -/
theorem zq {A : Type} {o : Option A} {v : A} (hpf : A → HP) (stf : A → List Value) {pc' : Nat} {lv' : List (Nat × Value)} (h : o = some v) (hz : ∀ kf : A → Option Unit, (∀ w, Zs V Q n nL (kf w) (fun _ => True) (hpf w) lv' pc' (stf w)) → Zs V Q n nL (o.bind kf) (fun _ => True) hp lv pc st) (kk : ZP V Q n nL (hpf v) lv' pc' (stf v)) : ZP V Q n nL hp lv pc st := by
  have := hz (fun w => @ite _ (w = v) (Classical.propDecidable _) (some ()) none) (fun w => by
    by_cases e : w = v
    · subst e
      rw [if_pos rfl]
      exact kk
    · rw [if_neg e]
      exact z_none)
  rw [h, Option.bind_some, if_pos rfl] at this
  exact this
theorem k_new {i ci N : Nat} {T : u_T} {C0 : String} {fs : List Value} (hC : CX V cc own nL ret Lv) (hz : (vSt V).heap.size + n.1 = vBs V + L.length) (hcl : cls[ci]? = some (C0, T, N)) (hin : ∀ w ∈ u_ws C0 T N, w ∈ gd_tbl) (ty : Nat → FieldType) (hty : ∀ k, k < N → parseFieldDescriptor (T k).2.2.1 = some (ty k)) (h1 : Cond.classLink own i C0 ∈ gd_tbl) (h2 : Cond.instantiable C0 N ∈ gd_tbl) (h3 : Cond.initialized C0 ∈ gd_tbl) (hfs : ∀ j, j < N → defaultValue (ty j) = vp_V fs j) (hn : n.1 + 1 ≤ (vRo V).cells ∧ n.2 + N ≤ (vRo V).slots) (hd : decode cc pc = .ok (.new i, 3))
    (kk : ZP V Q (n.1 + 1, n.2 + N) nL (hl (vBs V) (L ++ [.inr (ci, fs)])) lv (pc + 3) (.ref (vBs V + L.length) :: st)) : ZP V Q n nL (hl (vBs V) L) lv pc st := by
  intro _ _ _ H locs ls hT hls
  have hts := hC.2.2.2.2.1
  refine va_new (D := vDa V) (cl := cls) (A := fun q => vBs V ≤ q) (H0 := (vSt V).heap) (ws := wll (vTg V) (vBs V) L) hC.1 hC.2.1 hts hin ty hty hC.2.2.2.1 (hts _ h1) (hts _ h2) (hts _ h3) hC.2.2.2.2.2.1 (wll_P hT.1) wll_D hT.2 (fun q hq => Nat.le_trans hC.2.2.2.2.2.2.2.1 hq) hcl hfs hn.1 hn.2 hd (fun q H1 hP hD hS => ?_)
  intro T2 hT2 X2
  have s2 : H1.size ≤ vBs V + L.length + 1 := by
    have := X2.heapSize
    rw [hT2] at this
    omega
  have e := q_eq hP hD s2
  subst e
  have hP2 : va_P (vDa V) cls (wll (vTg V) (vBs V) (L ++ [.inr (ci, fs)])) H1 := by rw [← wll_push]; exact hP
  exact kk () rfl trivial H1 locs ls ⟨wll_OK hP2, hS⟩ hls T2 hT2 X2
theorem k_newa {t : Nat} {atype : ArrayType} {ty : FieldType} {nv : Int32} {N : Nat} {a0 : (Nat → Int32) ⊕ (Nat → Int64) ⊕ (Nat → UInt32) ⊕ (Nat → UInt64) ⊕ (Nat → Option Nat)} (hC : CX V cc own nL ret Lv) (hz : (vSt V).heap.size + n.1 = vBs V + L.length) (ht : ∀ tg : Nat → ClassId, (tysOf tg)[t]? = some (tg t, ty)) (hra : ∀ (U : State) (c : ClassId), va_RA U c ty → U.vm.findClass ("[" ++ ty.toString) = some c) (harr : Cond.arrayClass (newarray.typeOf atype) ∈ gd_tbl) (hty : newarray.typeOf atype = ty) (ha : ∀ cA : ClassId, vp_cell cA (N, a0) = arrV cA N (fun _ => defaultValue ty)) (hnv : ¬ nv < 0) (hN : nv.toNatClampNeg = N) (hbytes : N * componentBytes ty ≤ 536870912) (hn : n.1 + 1 ≤ (vRo V).cells ∧ n.2 + N ≤ (vRo V).slots) (hd : decode cc pc = .ok (.newarray atype, 2))
    (kk : ZP V Q (n.1 + 1, n.2 + N) nL (hl (vBs V) (L ++ [.inl (t, N, a0)])) lv (pc + 2) (.ref (vBs V + L.length) :: st)) : ZP V Q n nL (hl (vBs V) L) lv pc (.int nv :: st) := by
  intro _ _ _ H locs ls hT hls
  have hts := hC.2.2.2.2.1
  have hK := hC.2.2.2.2.2.1
  refine va_newa (D := vDa V) (cl := cls) (A := fun q => vBs V ≤ q) (H0 := (vSt V).heap) (ws := wll (vTg V) (vBs V) L) hC.1 hC.2.1 (hts _ harr) hty hK (wll_P hT.1) wll_D hT.2 (fun q hq => Nat.le_trans hC.2.2.2.2.2.2.2.1 hq) ha hnv hN hbytes hn.1 hn.2 hd (fun q cA H1 hK1 hP hD hS => ?_)
  intro T2 hT2 X2
  have s2 : H1.size ≤ vBs V + L.length + 1 := by
    have := X2.heapSize
    rw [hT2] at this
    omega
  have e := q_eq hP hD s2
  subst e
  have c1 := hra _ _ (hK1.2 6 (cA, ty) rfl).2
  have c2 := hra _ _ (hK.2 t _ (ht _)).2
  have ce : cA = vTg V t := Option.some.inj (c1.symm.trans c2)
  subst ce
  have hP2 : va_P (vDa V) cls (wll (vTg V) (vBs V) (L ++ [.inl (t, N, a0)])) H1 := by rw [← wll_push]; exact hP
  exact kk () rfl trivial H1 locs ls ⟨wll_OK hP2, hS⟩ hls T2 hT2 X2
theorem k_putF {i k j ci : Nat} {fs : List Value} {ty : FieldType} {v : Value} (hC : CX V cc own nL ret Lv) (hin : (vMe V).name = "<init>") (hk : lkQ own i k ci ty) (hj : L[j]? = some (.inr (ci, fs))) (hkf : k < fs.length) (hnv : narrow ty v = v) (hf : fits ty v = true) (hd : decode cc pc = .ok (.putfield i, 3)) (kk : ZP V Q n nL (hl (vBs V) (L.set j (.inr (ci, fs.set k v)))) lv (pc + 3) st) : ZP V Q n nL (hl (vBs V) L) lv pc (v :: .ref (vBs V + j) :: st) := by
  intro _ _ _ H locs ls hT hls
  obtain ⟨C0, T, N, ref, ty0, hF, hfin, hdecl, hty, hty0, hnm⟩ := hk
  have hts := hC.2.2.2.2.1
  refine va_putF (D := vDa V) (cl := cls) (A := fun q => vBs V ≤ q) (H0 := (vSt V).heap) (ws := wll (vTg V) (vBs V) L) hC.1 hC.2.1 hts hF.2.2.1 ty0 hty0 hnm hC.2.2.2.1 hC.2.2.2.2.2.1 (wll_P hT.1) wll_D hT.2 j (by rw [wll_at, hj]; rfl) hF.1 k hF.2.1 (hts _ hF.2.2.2.1) (hF.same hts) hfin hin hdecl hty hnv hf hkf hd (fun H1 locs1 hP hD hS => ?_)
  have hP2 : va_P (vDa V) cls (wll (vTg V) (vBs V) (L.set j (.inr (ci, fs.set k v)))) H1 := by rw [← wll_set]; exact hP
  exact kk () rfl trivial H1 locs1 ls ⟨wll_OK hP2, hS⟩ hls
theorem sV_hl {b j k ci : Nat} {cs : List Nat} {fs : List Value} {v : Value} (hj : L[j]? = some (.inr (ci, fs))) (hc : ci ∈ cs) (hk : k < fs.length) : sV cs k (hl b L) (b + j) v = some (hl b (L.set j (.inr (ci, fs.set k v)))) := by
  unfold sV
  rw [hl_at, hj]
  show (if ci ∈ cs ∧ k < fs.length then some (upH (hl b L) (b + j) (.inr (ci, fs.set k v))) else none) = _
  rw [if_pos ⟨hc, hk⟩, hl_up (List.getElem?_eq_some_iff.mp hj).1]
theorem gR_hl {b j k ci v : Nat} {cs : List Nat} {fs : List Value} (hj : L[j]? = some (.inr (ci, fs))) (hc : ci ∈ cs) (hk : fs[k]? = some (.ref v)) : gR cs k (hl b L) (b + j) = some v := by
  unfold gR gV
  rw [hl_at, hj]
  show (match (if ci ∈ cs then fs[k]? else none) with
    | some (.ref v) => some v
    | _ => none) = _
  rw [if_pos hc, hk]
theorem k_objI {idx a : Nat} (hC : CX V cc own nL ret Lv) (hlink : Cond.methodLink own idx Lib.objectInit ∈ gd_tbl) (hinst : Cond.instanceMethod Lib.objectInit ∈ gd_tbl) (hcode : Cond.code Lib.objectInit ⟨#[0xb1]⟩ 1 none ∈ gd_tbl) (hL : 1 ≤ Lv) (hd : decode cc pc = .ok (.invokespecial idx, 3)) (hw : (st.map fun v => v.category).sum ≤ 8) (kk : ZP V Q n nL hp lv (pc + 3) st) : ZP V Q n nL hp lv pc (.ref a :: st) := by
  intro _ _ _ H locs ls hT hls
  have hts := hC.2.2.2.2.1
  have h1 := hC.2.2.2.2.2.2.2.2.2.2.1
  have h2 := hC.2.2.2.2.2.2.2.2.2.2.2
  exact W.objInit hC.1 hC.2.1 hC.2.2.2.1 (hts _ hlink) (hts _ hinst) (hts _ hcode) rfl (by rw [hC.2.2.1]; exact hls.1) rfl hd (Nat.le_trans hL h1) (by
    show 2 * 0 + _ + 12 ≤ _
    omega) (kk () rfl trivial H locs ls hT hls)
end
