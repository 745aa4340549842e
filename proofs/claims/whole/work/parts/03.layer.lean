/-! MY LAYER: a known heap (a picture by address), one judgement 'Zs', a row an instruction. A method is turned into a function F over the known heap (Option: none where the machine itself would throw); the walk shows: where F answers, the machine comes to that answer. -/
/-- the tables' words that stay as they are -/
def gd_tbl : List Cond := lw_tbl.filter goodWord
theorem in_T {w : Cond} (h : w ∈ lw_tbl) (g : goodWord w = true) : w ∈ gd_tbl := List.mem_filter.mpr ⟨h, g⟩
theorem in_I {w : Cond} (i : Nat) (h : (lw_tbl[i]?).any (fun x => decide (x = w) && goodWord x) = true) : w ∈ gd_tbl := by
  cases e : lw_tbl[i]? with
  | none => rw [e] at h; cases h
  | some x =>
    rw [e] at h
    simp only [Option.any_some, Bool.and_eq_true, decide_eq_true_eq] at h
    rw [← h.1]
    exact in_T (List.mem_of_getElem? e) h.2
abbrev AE : Type := (Nat × vp_A) ⊕ (Nat × List Value)
abbrev HP : Type := Nat → Option AE
def cvE (tg : Nat → ClassId) (x : AE) : va_E := match x with
  | .inl a => .inl (tg a.1, a.2)
  | .inr o => .inr o
abbrev cls : List vw_C := [(RX0, TX0, 2), (RX1, TX1, 6), (RX2, TX2, 13), (RX3, TX3, 4), (RX8, TX8, 2), (RX5, TX5, 13), (RX6, TX6, 6), (RX8, TX8, 2), (RX8, TX8, 2), (RX9, TX9, 3), (RX10, TX10, 4), (RX11, TX11, 16), (RX12, TX12, 66)]
abbrev tysOf (tg : Nat → ClassId) : List (ClassId × FieldType) := [(tg 0, .int), (tg 1, .byte), (tg 2, .boolean), (tg 3, .long), (tg 4, .array .long), (tg 5, .object "PactYears$Standing")]
def soW (j : Nat) : Int64 := match j with
  | 0 => -6148914691236517206
  | 1 => -3689348814741910324
  | 2 => -1085102592571150096
  | 3 => -71777214294589696
  | 4 => -281470681808896
  | _ => -4294967296
def SF (bs : Nat) (sa : Nat → Nat) (U : State) : Prop :=
  va_Z "PactYears$Tables" "SO" "[J" (.ref (sa 0)) (fun q => bs ≤ q) U U.heap ∧
  va_T .long (sa 0) 6 (fun j => .long (soW j)) (fun q => bs ≤ q) U U.heap ∧
  va_Z "java/lang/String" "COMPACT_STRINGS" "Z" (.int 1) (fun q => bs ≤ q) U U.heap ∧
  vk_R "PactYears$Law" 84 "wcpsnymz" (sa 1) U ∧
  vk_S 1 [8] [[119, 99, 112, 115, 110, 121, 109, 122]] (fun _ => sa 1) (fun _ => sa 2) (fun q => bs ≤ q) U U.heap
theorem SF.kept {bs : Nat} {sa : Nat → Nat} {u U : State} (h : SF bs sa u) (hW : u.WarmedH U.vm) (hq : ∀ q : Nat, q < u.heap.size → ¬ bs ≤ q → U.heap[q]? = u.heap[q]?) : SF bs sa U := by
  obtain ⟨h1, h2, h3, h4, h5⟩ := h
  have hA := hW.alike
  exact ⟨va_Z.moved hA (h1.kept hq), va_T.moved hA (h2.kept hq), va_Z.moved hA (h3.kept hq), vk_R.warm hW h4, vk_S.moved hA (h5.kept hq)⟩
theorem SF.same {bs : Nat} {sa : Nat → Nat} {u U : State} (h : SF bs sa u) (hv : U.vm = u.vm) (hh : U.heap = u.heap) : SF bs sa U := by
  obtain ⟨h1, h2, h3, h4, h5⟩ := h
  have hA : u.vm.Alike U.vm := by rw [hv]; exact Vm.Alike.refl _
  exact ⟨va_Z.moved hA (by rw [hh]; exact h1), va_T.moved hA (by rw [hh]; exact h2), va_Z.moved hA (by rw [hh]; exact h3), vk_R.same hv h4, vk_S.moved hA (by rw [hh]; exact h5)⟩
/-- the world of a method: the known heap, the tables, the statics -/
def Wd (D : va_G) (tg : Nat → ClassId) (bs : Nat) (sa : Nat → Nat) (hp : HP) (U : State) : Prop :=
  (∀ (q : Nat) (x : AE), hp q = some x → va_at D cls (q, cvE tg x) U.heap) ∧ (∀ (q : Nat) (x : AE), hp q = some x → bs ≤ q) ∧ va_K D cls (tysOf tg) U ∧ SF bs sa U ∧ bs ≤ U.heap.size
theorem Wd.calling {D : va_G} {tg : Nat → ClassId} {bs : Nat} {sa : Nat → Nat} {hp : HP} {U : State} (h : Wd D tg bs sa hp U) (g : JFrame) (mk : MethodId) (a : Array Value) : Wd D tg bs sa hp (U.calling g mk a) :=
  ⟨h.1, h.2.1, va_K.moved (u := U) (U := U.calling g mk a) (Vm.Alike.refl U.vm) h.2.2.1, h.2.2.2.1.same rfl rfl, h.2.2.2.2⟩
/-- what stays the same in a method: the machine, the start, the method; the tables' classes, the floor of what may change, the statics' addresses -/
abbrev VT : Type := Program × Launch × Env × Room × State × MethodId × Array Value × List Frame × Method × Code × va_G × (Nat → ClassId) × Nat × (Nat → Nat)
abbrev vPr (V : VT) : Program := V.1
abbrev vLa (V : VT) : Launch := V.2.1
abbrev vEn (V : VT) : Env := V.2.2.1
abbrev vRo (V : VT) : Room := V.2.2.2.1
abbrev vSt (V : VT) : State := V.2.2.2.2.1
abbrev vMi (V : VT) : MethodId := V.2.2.2.2.2.1
abbrev vAr (V : VT) : Array Value := V.2.2.2.2.2.2.1
abbrev vBe (V : VT) : List Frame := V.2.2.2.2.2.2.2.1
abbrev vMe (V : VT) : Method := V.2.2.2.2.2.2.2.2.1
abbrev vCo (V : VT) : Code := V.2.2.2.2.2.2.2.2.2.1
abbrev vDa (V : VT) : va_G := V.2.2.2.2.2.2.2.2.2.2.1
abbrev vTg (V : VT) : Nat → ClassId := V.2.2.2.2.2.2.2.2.2.2.2.1
abbrev vBs (V : VT) : Nat := V.2.2.2.2.2.2.2.2.2.2.2.2.1
abbrev vSa (V : VT) : Nat → Nat := V.2.2.2.2.2.2.2.2.2.2.2.2.2
def CX (V : VT) (cc : ByteArray) (own : String) (nL : Nat) (ret : Option FieldType) (Lv : Nat) : Prop :=
  (vPr V).tables.exec = Jvm.exec ∧ (vCo V).code = cc ∧ (vCo V).maxLocals = nL ∧ (vSt V).vm.findClass own = some (vMi V).cls ∧ (∀ w ∈ gd_tbl, w.before (vAr V) (vSt V) = true) ∧
  va_K (vDa V) cls (tysOf (vTg V)) (vSt V) ∧ SF (vBs V) (vSa V) (vSt V) ∧ vBs V ≤ (vSt V).heap.size ∧ (vMe V).locks = false ∧ (vMe V).sig.returnType = ret ∧ Lv ≤ (vRo V).frames ∧ 60 * Lv ≤ (vRo V).locals
def hOK (V : VT) (hp : HP) (H : Heap) : Prop := (∀ (q : Nat) (x : AE), hp q = some x → va_at (vDa V) cls (q, cvE (vTg V) x) H) ∧ (∀ (q : Nat) (x : AE), hp q = some x → vBs V ≤ q)
def ST (V : VT) (hp : HP) (H : Heap) (locs : List Loc) : Prop := hOK V hp H ∧ va_S (fun q => vBs V ≤ q) (vSt V).heap H locs
abbrev vW (V : VT) (n : Nat × Nat) (H : Heap) (locs : List Loc) (Q : State → Prop) (g : JFrame) : Prop := W (vPr V) (vLa V) (vEn V) (vRo V) (vSt V) (vMi V) (vAr V) (vBe V) (vMe V) (vCo V) H locs n.1 n.2 Q g
def PW (V : VT) (Q : State → Prop) (n : Nat × Nat) (nL : Nat) (hp : HP) (lv : List (Nat × Value)) (pc : Nat) (st : List Value) : Prop :=
  ∀ (H : Heap) (locs : List Loc) (ls : Array Slot), ST V hp H locs → lv_has ls nL lv → vW V n H locs Q (F0 (vMi V) pc ls st)
def Zs {X : Type} (V : VT) (Q : State → Prop) (n : Nat × Nat) (nL : Nat) (o : Option X) (C : X → Prop) (hp : HP) (lv : List (Nat × Value)) (pc : Nat) (st : List Value) : Prop := ∀ x : X, o = some x → C x → PW V Q n nL hp lv pc st
/-- a value named -/
def vl {A X : Type} (a : A) (k : A → Option X) : Option X := k a
/-- a join point -/
def jn {A X : Type} (J : A → Option X) (f : (A → Option X) → Option X) : Option X := f J
/-- a loop -/
def lp {S X : Type} (body : S → Option (X ⊕ S)) : Nat → S → Option X
  | 0, _ => none
  | n + 1, s => (body s).bind (fun z => match z with
    | .inl x => some x
    | .inr s' => lp body n s')
def FU : Nat := 1000000
def dvI (x y : Int32) : Option Int32 := if y = 0 then none else some (x / y)
def rmI (x y : Int32) : Option Int32 := if y = 0 then none else some (x - x / y * y)
def dvL (x y : Int64) : Option Int64 := if y = 0 then none else some (x / y)
def rmL (x y : Int64) : Option Int64 := if y = 0 then none else some (x - x / y * y)
/-- fields: of an object of one of the classes cs, the field k -/
def gV (cs : List Nat) (k : Nat) (hp : HP) (q : Nat) : Option Value := match hp q with
  | some (.inr (ci, fs)) => if ci ∈ cs then fs[k]? else none
  | _ => none
def gI (cs : List Nat) (k : Nat) (hp : HP) (q : Nat) : Option Int32 := match gV cs k hp q with
  | some (.int v) => some v
  | _ => none
def gR (cs : List Nat) (k : Nat) (hp : HP) (q : Nat) : Option Nat := match gV cs k hp q with
  | some (.ref v) => some v
  | _ => none
def upH (hp : HP) (q : Nat) (x : AE) : HP := fun j => if j = q then some x else hp j
def sV (cs : List Nat) (k : Nat) (hp : HP) (q : Nat) (v : Value) : Option HP := match hp q with
  | some (.inr (ci, fs)) => if ci ∈ cs ∧ k < fs.length then some (upH hp q (.inr (ci, fs.set k v))) else none
  | _ => none
def isO (cs : List Nat) (hp : HP) (q : Nat) : Bool := match hp q with
  | some (.inr (ci, _)) => decide (ci ∈ cs)
  | _ => false
/-- a receiver's class -/
def rc {X : Type} (cs : List Nat) (hp : HP) (q : Nat) (o : Option X) : Option X := if isO cs hp q = true then o else none
/-- arrays of kind t: 0 int, 1 byte, 2 boolean; 3 long; 4 long[]; 5 Standing -/
def rdN (t : Nat) (hp : HP) (q : Nat) (i : Int32) : Option Int32 := match hp q with
  | some (.inl (t', n, .inl f)) => if t' = t ∧ ¬ (i < 0 ∨ n ≤ i.toNatClampNeg) then some (f i.toNatClampNeg) else none
  | _ => none
def rdL (hp : HP) (q : Nat) (i : Int32) : Option Int64 := match hp q with
  | some (.inl (t', n, .inr (.inl f))) => if t' = 3 ∧ ¬ (i < 0 ∨ n ≤ i.toNatClampNeg) then some (f i.toNatClampNeg) else none
  | _ => none
def rdA (t : Nat) (hp : HP) (q : Nat) (i : Int32) : Option Nat := match hp q with
  | some (.inl (t', n, .inr (.inr (.inr (.inr f))))) => if t' = t ∧ ¬ (i < 0 ∨ n ≤ i.toNatClampNeg) then f i.toNatClampNeg else none
  | _ => none
def wrI (hp : HP) (q : Nat) (i x : Int32) : Option HP := match hp q with
  | some (.inl (t', n, .inl f)) => if t' = 0 ∧ ¬ (i < 0 ∨ n ≤ i.toNatClampNeg) then some (upH hp q (.inl (t', n, .inl (upd f i.toNatClampNeg x)))) else none
  | _ => none
def wrB (hp : HP) (q : Nat) (i x : Int32) : Option HP := match hp q with
  | some (.inl (t', n, .inl f)) => if t' = 1 ∧ ¬ (i < 0 ∨ n ≤ i.toNatClampNeg) then some (upH hp q (.inl (t', n, .inl (upd f i.toNatClampNeg x.toInt8.toInt32)))) else none
  | _ => none
def wrZ (hp : HP) (q : Nat) (i x : Int32) : Option HP := match hp q with
  | some (.inl (t', n, .inl f)) => if t' = 2 ∧ ¬ (i < 0 ∨ n ≤ i.toNatClampNeg) ∧ (x = 0 ∨ x = 1) then some (upH hp q (.inl (t', n, .inl (upd f i.toNatClampNeg x)))) else none
  | _ => none
def wrL (hp : HP) (q : Nat) (i : Int32) (x : Int64) : Option HP := match hp q with
  | some (.inl (t', n, .inr (.inl f))) => if t' = 3 ∧ ¬ (i < 0 ∨ n ≤ i.toNatClampNeg) then some (upH hp q (.inl (t', n, .inr (.inl (vp_updL f i.toNatClampNeg x))))) else none
  | _ => none
def alN (t : Nat) (hp : HP) (q : Nat) : Option Int32 := match hp q with
  | some (.inl (t', n, _)) => if t' = t then some (Int32.ofNat n) else none
  | _ => none
