theorem T_good : gd_tbl.all goodWord = true := List.all_eq_true.mpr (fun _ h => (List.mem_filter.mp h).2)
def rmLv (L : Nat) : Room := { frames := L, cells := 0, slots := 0, locals := 60 * L }
def wsT (y : MethodName) (b : ByteArray) (nl : Nat) (ret : Option FieldType) : List Cond := .code y b nl ret :: gd_tbl
theorem wsT_good {y : MethodName} {b : ByteArray} {nl : Nat} {ret : Option FieldType} (h : Cond.code y b nl ret ∈ gd_tbl) : GoodIn gd_tbl (wsT y b nl ret) := by
  intro w hw
  rcases List.mem_cons.mp hw with e | e
  · subst e; exact ⟨h, good_of_word (List.all_eq_true.mp T_good _ h)⟩
  · exact ⟨e, good_of_word (List.all_eq_true.mp T_good _ e)⟩
theorem T_in {w : Cond} (h : w ∈ gd_tbl) : w ∈ gd_tbl ∧ ((w.onTables && w.keeps) = true ∨ ∃ ty, w = .arrayClass ty) := ⟨h, good_of_word (List.all_eq_true.mp T_good _ h)⟩
def Qg (D : va_G) (tg : Nat → ClassId) (bs : Nat) (sa : Nat → Nat) (v : Option Value) (hp' : HP) : Array Value → State → Outcome → State → Prop := fun _ st oc t => (oc = .returned v ∧ Wd D tg bs sa hp' t) ∧ va_F (fun q => bs ≤ q) st t
/-- a method's contract: where the function answers, the machine comes to that answer -/
def Ct {X : Type} (l : Launch) (D : va_G) (tg : Nat → ClassId) (bs : Nat) (sa : Nat → Nat) (y : MethodName) (b : ByteArray) (nl : Nat) (ret : Option FieldType) (L : Nat) (av : List Value) (hp : HP) (o : Option X) (rv : X → Option Value) (ho : X → HP) : Prop :=
  ∀ x, o = some x → Met l y (wsT y b nl ret) (rmLv L) (va_Pc av (Wd D tg bs sa hp)) (Qg D tg bs sa (rv x) (ho x)) 0 0 (fun q => bs ≤ q)
abbrev CtV {X : Type} (V : VT) (y : MethodName) (b : ByteArray) (nl : Nat) (ret : Option FieldType) (L : Nat) (av : List Value) (hp : HP) (o : Option X) (rv : X → Option Value) (ho : X → HP) : Prop := Ct (vLa V) (vDa V) (vTg V) (vBs V) (vSa V) y b nl ret L av hp o rv ho
def RetC (V : VT) (Q : State → Prop) (n : Nat × Nat) (v : Option Value) (hp' : HP) : Prop := ∀ t, MQ (vBe V) (Qg (vDa V) (vTg V) (vBs V) (vSa V) v hp') (vAr V) (vSt V) n.1 n.2 (fun q => vBs V ≤ q) t → Q t
theorem W.mono {p : Program} {l : Launch} {e : Env} {R : Room} {s : State} {m : MethodId} {args : Array Value} {below : List Frame} {meth : Method} {c : Code} {H : Heap} {locs : List Loc} {cells slots : Nat} {Q Q' : State → Prop} {g : JFrame} (k : W p l e R s m args below meth c H locs cells slots Q g) (h : ∀ t, Q t → Q' t) : W p l e R s m args below meth c H locs cells slots Q' g := by
  intro T hT X
  obtain ⟨t, a, b⟩ := k T hT X
  exact ⟨t, a, h t b⟩
theorem ST.wd {V : VT} {cc : ByteArray} {own : String} {nL Lv : Nat} {ret : Option FieldType} {hp : HP} {H : Heap} {locs : List Loc} (hC : CX V cc own nL ret Lv) (hT : ST V hp H locs) {t : State} (ht : t.heap = H) (hW : (vSt V).WarmedH t.vm) : Wd (vDa V) (vTg V) (vBs V) (vSa V) hp t :=
  ⟨by rw [ht]; exact hT.1.1, hT.1.2, va_K.moved hW.alike hC.2.2.2.2.2.1, hC.2.2.2.2.2.2.1.kept hW (by rw [ht]; exact hT.2.2.1), by rw [ht]; exact Nat.le_trans hC.2.2.2.2.2.2.2.1 hT.2.1⟩
theorem ST.end {V : VT} {cc : ByteArray} {own : String} {nL Lv : Nat} {ret : Option FieldType} {hp : HP} {H : Heap} {locs : List Loc} (hC : CX V cc own nL ret Lv) (hT : ST V hp H locs) {v : Option Value} {t : State} (ht : t.heap = H) (hW : (vSt V).WarmedH t.vm) : Qg (vDa V) (vTg V) (vBs V) (vSa V) v hp (vAr V) (vSt V) (.returned v) t :=
  ⟨⟨rfl, hT.wd hC ht hW⟩, hT.2.F ht⟩
section ZT
variable {V : VT} {Q : State → Prop} {n : Nat × Nat} {nL : Nat} {X : Type} {C : X → Prop} {hp : HP} {lv : List (Nat × Value)} {pc : Nat} {st : List Value} {cc : ByteArray} {own : String} {ret : Option FieldType} {Lv : Nat}
theorem z_iret {z : X} {v : Int32} (hC : CX V cc own nL (some .int) Lv) (hc : C z → RetC V Q n (some (.int v)) hp) (hd : decode cc pc = .ok (.ireturn, 1)) : Zs V Q n nL (some z) C hp lv pc [.int v] := by
  intro x hx h H locs ls hT hl
  cases hx
  exact (W.iret hC.1 hC.2.1 hC.2.2.2.2.2.2.2.2.2.1 (fun t ht hW => hT.end hC ht hW) hT.2.2.2 hd hC.2.2.2.2.2.2.2.2.1).mono (hc h)
theorem z_lret {z : X} {v : Int64} (hC : CX V cc own nL (some .long) Lv) (hc : C z → RetC V Q n (some (.long v)) hp) (hd : decode cc pc = .ok (.lreturn, 1)) : Zs V Q n nL (some z) C hp lv pc [.long v] := by
  intro x hx h H locs ls hT hl
  cases hx
  exact (W.lret hC.1 hC.2.1 hC.2.2.2.2.2.2.2.2.2.1 (fun t ht hW => hT.end hC ht hW) hT.2.2.2 hd hC.2.2.2.2.2.2.2.2.1).mono (hc h)
theorem z_vret {z : X} (hC : CX V cc own nL none Lv) (hc : C z → RetC V Q n none hp) (hd : decode cc pc = .ok (.return_, 1)) : Zs V Q n nL (some z) C hp lv pc [] := by
  intro x hx h H locs ls hT hl
  cases hx
  exact (W.vret hC.1 hC.2.1 hC.2.2.2.2.2.2.2.2.2.1 (fun t ht hW => hT.end hC ht hW) hT.2.2.2 hd hC.2.2.2.2.2.2.2.2.1).mono (hc h)
theorem z_zret {z : X} {v : Int32} (hC : CX V cc own nL (some .boolean) Lv) (hv : v = 0 ∨ v = 1) (hc : C z → RetC V Q n (some (.int v)) hp) (hd : decode cc pc = .ok (.ireturn, 1)) : Zs V Q n nL (some z) C hp lv pc [.int v] := by
  intro x hx h H locs ls hT hl
  cases hx
  exact (W.zret (ty := .boolean) hC.1 hC.2.1 hC.2.2.2.2.2.2.2.2.2.1 (by rcases hv with e | e <;> subst e <;> rfl) (fun t ht hW => hT.end hC ht hW) hT.2.2.2 hd hC.2.2.2.2.2.2.2.2.1).mono (hc h)
/-- a boolean's value is one -/
def bz (v : Int32) (o : Option X) : Option X := if v = 0 ∨ v = 1 then o else none
theorem z_bz {v : Int32} {o : Option X} (k : v = 0 ∨ v = 1 → Zs V Q n nL o C hp lv pc st) : Zs V Q n nL (bz v o) C hp lv pc st := by
  intro x hx
  unfold bz at hx
  split at hx
  · rename_i h; exact k h x hx
  · cases hx
theorem z_jn {A : Type} {J : A → Option X} {f : (A → Option X) → Option X} (hpJ : A → HP) (lvJ : A → List (Nat × Value)) (pcJ : Nat) (stJ : A → List Value) (hJ : ∀ a, Zs V Q n nL (J a) C (hpJ a) (lvJ a) pcJ (stJ a)) (hf : ∀ J' : A → Option X, (∀ a, Zs V Q n nL (J' a) C (hpJ a) (lvJ a) pcJ (stJ a)) → Zs V Q n nL (f J') C hp lv pc st) : Zs V Q n nL (jn J f) C hp lv pc st := hf J hJ
/-- a loop without a return in it: Y the exit's state -/
theorem z_lp {S Y : Type} {body : S → Option (Y ⊕ S)} {N : Nat} {s0 : S} {kf : Y → Option X} (hpS : S → HP) (lvS : S → List (Nat × Value)) (hpE : Y → HP) (lvE : Y → List (Nat × Value)) (pcE : Nat) (stE : List Value)
    (hk : ∀ y, Zs V Q n nL (kf y) C (hpE y) (lvE y) pcE stE)
    (hb : ∀ s, Zs V Q n nL (body s) (fun z => match z with
      | .inl y => PW V Q n nL (hpE y) (lvE y) pcE stE
      | .inr s' => PW V Q n nL (hpS s') (lvS s') pc st) (hpS s) (lvS s) pc st)
    (h0 : hpS s0 = hp) (h1 : lvS s0 = lv) : Zs V Q n nL ((lp body N s0).bind kf) C hp lv pc st := by
  intro x hx hc
  cases hy : lp body N s0 with
  | none => rw [hy] at hx; cases hx
  | some y =>
    rw [hy] at hx
    have hE := hk y x hx hc
    subst h0; subst h1
    have key : ∀ (N : Nat) (s : S), lp body N s = some y → PW V Q n nL (hpS s) (lvS s) pc st := by
      intro N
      induction N with
      | zero => intro s h; cases h
      | succ N ih =>
        intro s h
        unfold lp at h
        cases hb1 : body s with
        | none => rw [hb1] at h; cases h
        | some z =>
          rw [hb1] at h
          cases z with
          | inl y' =>
            cases h
            exact hb s _ hb1 hE
          | inr s' => exact hb s _ hb1 (ih s' h)
    exact key N s0 hy
/-- a loop with returns in it -/
def lk {P Y : Type} (wr : P → X) (kf : Y → Option X) (y : P ⊕ Y) : Option X := match y with
  | .inl r => some (wr r)
  | .inr y => kf y
theorem z_lpR {S Y P : Type} {body : S → Option ((P ⊕ Y) ⊕ S)} {N : Nat} {s0 : S} {wr : P → X} {kf : Y → Option X} (hpS : S → HP) (lvS : S → List (Nat × Value)) (hpE : Y → HP) (lvE : Y → List (Nat × Value)) (pcE : Nat) (stE : List Value)
    (hk : ∀ y, Zs V Q n nL (kf y) C (hpE y) (lvE y) pcE stE)
    (hb : ∀ s, Zs V Q n nL (body s) (fun z => match z with
      | .inl (.inl r) => C (wr r)
      | .inl (.inr y) => PW V Q n nL (hpE y) (lvE y) pcE stE
      | .inr s' => PW V Q n nL (hpS s') (lvS s') pc st) (hpS s) (lvS s) pc st)
    (h0 : hpS s0 = hp) (h1 : lvS s0 = lv) : Zs V Q n nL ((lp body N s0).bind (lk wr kf)) C hp lv pc st := by
  intro x hx hc
  cases hy : lp body N s0 with
  | none => rw [hy] at hx; cases hx
  | some y =>
    rw [hy] at hx
    subst h0; subst h1
    have hE : (match y with
      | .inl r => C (wr r)
      | .inr y => PW V Q n nL (hpE y) (lvE y) pcE stE) := by
      cases y with
      | inl r => cases hx; exact hc
      | inr y => exact hk y x hx hc
    have key : ∀ (N : Nat) (s : S), lp body N s = some y → PW V Q n nL (hpS s) (lvS s) pc st := by
      intro N
      induction N with
      | zero => intro s h; cases h
      | succ N ih =>
        intro s h
        unfold lp at h
        cases hb1 : body s with
        | none => rw [hb1] at h; cases h
        | some z =>
          rw [hb1] at h
          cases z with
          | inl y' =>
            cases h
            refine hb s _ hb1 ?_
            cases y with
            | inl r => exact hE
            | inr y => exact hE
          | inr s' => exact hb s _ hb1 (ih s' h)
    exact key N s0 hy
theorem z_exit {Y S : Type} {y : Y} {CC : Y ⊕ S → Prop} (h : CC (.inl y) → PW V Q n nL hp lv pc st) : Zs V Q n nL (some (Sum.inl y)) CC hp lv pc st := by
  intro x hx hc
  cases hx
  exact h hc
theorem z_leaf {z : X} (h : C z → PW V Q n nL hp lv pc st) : Zs V Q n nL (some z) C hp lv pc st := by
  intro x hx hc
  cases hx
  exact h hc
theorem z_none : Zs V Q n nL (none : Option X) C hp lv pc st := fun x hx => by cases hx
/-- a call -/
theorem z_run {Y : Type} {oc : Option Y} {kf : Y → Option X} {rv : Y → Option Value} {ho : Y → HP} {rest : List Value} {a : Array Value}
    (hrun : ∀ y, oc = some y → ∀ (H : Heap) (locs : List Loc) (ls : Array Slot), ST V hp H locs → lv_has ls nL lv → va_Run (vPr V) (vLa V) (vEn V) (vRo V) (vSt V) (vMi V) (vAr V) (vBe V) (vMe V) (vCo V) H locs n.1 n.2 0 0 (F0 (vMi V) pc ls st) rest (Qg (vDa V) (vTg V) (vBs V) (vSa V) (rv y) (ho y) a) (fun q => vBs V ≤ q))
    (kk : ∀ y, Zs V Q n nL (kf y) C (ho y) lv (pc + 3) ((rv y).toList ++ rest)) : Zs V Q n nL (oc.bind kf) C hp lv pc st := by
  intro x hx hc H locs ls hT hl
  cases hy : oc with
  | none => rw [hy] at hx; cases hx
  | some y =>
    rw [hy] at hx
    have h1 := kk y x hx hc
    intro T hT1 Xs
    obtain ⟨v, st₀, t, T', L, h0, X', hL, e1, e2, ⟨⟨hv, hwd⟩, hz, hk⟩, stp⟩ := hrun y hy H locs ls hT hl T hT1 Xs
    cases hv
    rw [h0] at hz hk
    obtain ⟨t2, a1, b1⟩ := h1 T'.heap (locs ++ L) ls ⟨⟨by rw [e1]; exact hwd.1, hwd.2.1⟩, Nat.le_trans hT.2.1 (by rw [e1]; exact hz), fun q h1 h2 => by rw [e1, hk q (Nat.lt_of_lt_of_le h1 hT.2.1) h2]; exact hT.2.2.1 q h1 h2, fun q hq => by
      rcases List.mem_append.mp hq with h | h
      · exact hT.2.2.2 q h
      · exact hL q h⟩ hl T' rfl X'
    exact ⟨t2, stp t2 a1, b1⟩
end ZT
