theorem hOK.up {V : VT} {hp : HP} {H H1 : Heap} {q : Nat} {x0 x : AE} (h : hOK V hp H) (h0 : hp q = some x0) (he : va_at (vDa V) cls (q, cvE (vTg V) x) H1) (oq : ∀ r : Nat, r ≠ q → H1[r]? = H[r]?) : hOK V (upH hp q x) H1 := by
  refine ⟨fun r y hr => ?_, fun r y hr => ?_⟩
  · by_cases e : r = q
    · subst e
      rw [upH, if_pos rfl] at hr
      cases hr
      exact he
    · rw [upH, if_neg e] at hr
      exact (h.1 r y hr).kept (oq r e)
  · by_cases e : r = q
    · subst e
      exact h.2 r _ h0
    · rw [upH, if_neg e] at hr
      exact h.2 r y hr
theorem hOK.P {V : VT} {hp : HP} {H : Heap} (h : hOK V hp H) {q : Nat} {x : AE} (hq : hp q = some x) : va_P (vDa V) cls [(q, cvE (vTg V) x)] H := by
  intro k r hk
  have h0 : k < 1 := (List.getElem?_eq_some_iff.mp hk).1
  rw [show k = 0 by omega] at hk
  cases hk
  exact h.1 q x hq
/-- what the tables say of a field's link: class ci of cls, field k, at the pool's place i of own -/
def lkF (own : String) (i ci k : Nat) (C : String) (T : u_T) (N : Nat) (ref : String) : Prop := cls[ci]? = some (C, T, N) ∧ k < N ∧ (∀ w ∈ u_ws C T N, w ∈ gd_tbl) ∧ Cond.fieldLink own i ref (T k).2.1 (T k).2.2.1 ∈ gd_tbl ∧ ((T k).1 = ref ∨ Cond.sameField ref (T k).1 (T k).2.1 (T k).2.2.1 ∈ gd_tbl)
theorem lkF.same {own C ref : String} {i ci k N : Nat} {T : u_T} (h : lkF own i ci k C T N ref) {args : Array Value} {s : State} (hts : ∀ w ∈ gd_tbl, w.before args s = true) : ∀ x, s.fieldFound? (T k).1 (T k).2.1 (T k).2.2.1 = some x → s.fieldFound? ref (T k).2.1 (T k).2.2.1 = some x := by
  rcases h.2.2.2.2 with e | e
  · rw [← e]; exact fun _ h => h
  · exact fun x hx => u_same (hts _ e) x hx
section ZH
variable {V : VT} {Q : State → Prop} {n : Nat × Nat} {nL : Nat} {X : Type} {C : X → Prop} {hp : HP} {lv : List (Nat × Value)} {pc : Nat} {st : List Value} {cc : ByteArray} {own : String} {ret : Option FieldType} {Lv : Nat}
/-- all classes of cs have the field k at the pool's place i -/
def lkA (own : String) (i k : Nat) (cs : List Nat) : Prop := ∀ ci ∈ cs, ∃ (C : String) (T : u_T) (N : Nat) (ref : String), lkF own i ci k C T N ref
theorem z_getV {i k a : Nat} {cs : List Nat} {kf : Value → Option X} (hC : CX V cc own nL ret Lv) (hk : lkA own i k cs) (hd : decode cc pc = .ok (.getfield i, 3)) (kk : ∀ v, Zs V Q n nL (kf v) C hp lv (pc + 3) (v :: st)) : Zs V Q n nL ((gV cs k hp a).bind kf) C hp lv pc (.ref a :: st) := by
  intro z hz hc H locs ls hT hl
  unfold gV at hz
  split at hz
  · rename_i ci fs hq
    split at hz
    · rename_i hci
      cases hv : fs[k]? with
      | none => rw [hv] at hz; cases hz
      | some v =>
        rw [hv] at hz
        obtain ⟨C0, T, N, ref, hF⟩ := hk ci hci
        exact va_get (q0 := 0) (v := v) hC.1 hC.2.1 hC.2.2.2.2.1 hF.2.2.1 hC.2.2.2.1 hC.2.2.2.2.2.1 (hT.1.P hq) rfl hF.1 k hF.2.1 (hC.2.2.2.2.1 _ hF.2.2.2.1) (hF.same hC.2.2.2.2.1) hv hd (kk v z hz hc H locs ls hT hl)
    · cases hz
  · cases hz
theorem z_getI {i k a : Nat} {cs : List Nat} {kf : Int32 → Option X} (hC : CX V cc own nL ret Lv) (hk : lkA own i k cs) (hd : decode cc pc = .ok (.getfield i, 3)) (kk : ∀ v, Zs V Q n nL (kf v) C hp lv (pc + 3) (.int v :: st)) : Zs V Q n nL ((gI cs k hp a).bind kf) C hp lv pc (.ref a :: st) := by
  intro z hz
  unfold gI at hz
  split at hz
  · rename_i v hv
    refine z_getV (kf := fun w => if w = .int v then kf v else none) hC hk hd (fun w => ?_) z (by rw [hv]; simp only [Option.bind_some, if_pos]; exact hz)
    intro z2 hz2 hc2
    split at hz2
    · rename_i e
      subst e
      exact kk v z2 hz2 hc2
    · cases hz2
  · cases hz
theorem z_getR {i k a : Nat} {cs : List Nat} {kf : Nat → Option X} (hC : CX V cc own nL ret Lv) (hk : lkA own i k cs) (hd : decode cc pc = .ok (.getfield i, 3)) (kk : ∀ v, Zs V Q n nL (kf v) C hp lv (pc + 3) (.ref v :: st)) : Zs V Q n nL ((gR cs k hp a).bind kf) C hp lv pc (.ref a :: st) := by
  intro z hz
  unfold gR at hz
  split at hz
  · rename_i v hv
    refine z_getV (kf := fun w => if w = .ref v then kf v else none) hC hk hd (fun w => ?_) z (by rw [hv]; simp only [Option.bind_some, if_pos]; exact hz)
    intro z2 hz2 hc2
    split at hz2
    · rename_i e
      subst e
      exact kk v z2 hz2 hc2
    · cases hz2
  · cases hz
end ZH
