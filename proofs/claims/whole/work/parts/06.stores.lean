def sI (cs : List Nat) (k : Nat) (hp : HP) (q : Nat) (v : Int32) : Option HP := sV cs k hp q (.int v)
def sZ (cs : List Nat) (k : Nat) (hp : HP) (q : Nat) (v : Int32) : Option HP := if v = 0 ∨ v = 1 then sV cs k hp q (.int v) else none
def sR (cs : List Nat) (k : Nat) (hp : HP) (q : Nat) (v : Nat) : Option HP := sV cs k hp q (.ref v)
def lkP (own : String) (i k : Nat) (cs : List Nat) (ty : FieldType) : Prop := ∀ ci ∈ cs, ∃ (C : String) (T : u_T) (N : Nat) (ref : String) (ty0 : Nat → FieldType), lkF own i ci k C T N ref ∧ (T k).2.2.2 = false ∧ parseFieldDescriptor (T k).2.2.1 = some ty ∧ (∀ k, k < N → parseFieldDescriptor (T k).2.2.1 = some (ty0 k)) ∧ (∀ a, a < N → ∀ b, b < N → a ≠ b → (T a).2.1 ≠ (T b).2.1)
section ZP
variable {V : VT} {Q : State → Prop} {n : Nat × Nat} {nL : Nat} {X : Type} {C : X → Prop} {hp : HP} {lv : List (Nat × Value)} {pc : Nat} {st : List Value} {cc : ByteArray} {own : String} {ret : Option FieldType} {Lv : Nat}
theorem ST.put {V : VT} {hp : HP} {H H1 : Heap} {locs : List Loc} {q j : Nat} {x0 x : AE} (hT : ST V hp H locs) (h0 : hp q = some x0) (he : va_at (vDa V) cls (q, cvE (vTg V) x) H1) (z : H1.size = H.size) (oq : ∀ r : Nat, r ≠ q → H1[r]? = H[r]?) : ST V (upH hp q x) H1 (locs ++ [⟨q, j⟩]) :=
  ⟨hT.1.up h0 he oq, hT.2.put z oq (hT.1.2 q _ h0)⟩
theorem z_putV {i k a : Nat} {cs : List Nat} {ty : FieldType} {v : Value} {kf : HP → Option X} (hC : CX V cc own nL ret Lv) (hk : lkP own i k cs ty) (hn : narrow ty v = v) (hf : fits ty v = true) (hd : decode cc pc = .ok (.putfield i, 3)) (kk : ∀ hp', Zs V Q n nL (kf hp') C hp' lv (pc + 3) st) : Zs V Q n nL ((sV cs k hp a v).bind kf) C hp lv pc (v :: .ref a :: st) := by
  intro z hz hc H locs ls hT hl
  unfold sV at hz
  split at hz
  · rename_i ci fs hq
    split at hz
    · rename_i hci
      obtain ⟨C0, T, N, ref, ty0, hF, hfin, hty, hty0, hnm⟩ := hk ci hci.1
      have hts := hC.2.2.2.2.1
      have hK := hC.2.2.2.2.2.1
      have hcl := hF.1
      have hap := va_apart (own := own) hts hF.2.2.1 ty0 hty0 hnm hK hcl
      obtain ⟨r, h1, cell, q1, q2, q3, q4⟩ := hT.1.1 a _ hq
      have hr : r = (C0, T, N) := Option.some.inj (h1.symm.trans hcl)
      subst hr
      obtain ⟨hS, hfc, kC, hkC, hkind⟩ := hK.1 ci _ hcl
      obtain ⟨cf, kf', fi, f, hi, hsl⟩ := hS k hF.2.1
      have hlay := hts _ (hF.2.2.1 _ (u_in_lay hF.2.1))
      unfold u_lay at hlay
      rw [if_neg (by rw [hfin]; decide)] at hlay
      have hst := (u_facts hfc hkC (u_lays hts hF.2.2.1 hF.2.1) hi).1
      have h6 := u_store hfc hkC hkind hlay hi hty hn hf
      refine W.putK hC.1 hC.2.1 (f := f) ⟨hC.2.2.2.1, hts _ hF.2.2.2.1, ⟨_, _, _, hF.same hts _ hi⟩, hst⟩ (by rw [q2]; exact h6) q1 q3 (by rw [hsl]; exact k2_hasslot (q4 k hF.2.1)) rfl rfl hd fun H' e1 e2 e3 => ?_
      rw [hsl] at e1 ⊢
      exact kk _ z hz hc H' _ ls (hT.put hq (x := .inr (ci, fs.set k v)) ⟨_, hcl, t_OB.to (V := updV (vp_V fs) k v) ⟨_, e1, q2, q3, t_set q4 hap hF.2.1 v⟩ (fun j _ => vp_updV_set hci.2 v j)⟩ e2 e3) hl
    · cases hz
  · cases hz
theorem z_putI {i k a : Nat} {cs : List Nat} {v : Int32} {kf : HP → Option X} (hC : CX V cc own nL ret Lv) (hk : lkP own i k cs .int) (hd : decode cc pc = .ok (.putfield i, 3)) (kk : ∀ hp', Zs V Q n nL (kf hp') C hp' lv (pc + 3) st) : Zs V Q n nL ((sI cs k hp a v).bind kf) C hp lv pc (.int v :: .ref a :: st) := z_putV hC hk rfl rfl hd kk
theorem z_putZ {i k a : Nat} {cs : List Nat} {v : Int32} {kf : HP → Option X} (hC : CX V cc own nL ret Lv) (hk : lkP own i k cs .boolean) (hd : decode cc pc = .ok (.putfield i, 3)) (kk : ∀ hp', Zs V Q n nL (kf hp') C hp' lv (pc + 3) st) : Zs V Q n nL ((sZ cs k hp a v).bind kf) C hp lv pc (.int v :: .ref a :: st) := by
  intro z hz
  unfold sZ at hz
  split at hz
  · rename_i h
    exact z_putV hC hk (by rcases h with h | h <;> subst h <;> rfl) (by rcases h with h | h <;> subst h <;> rfl) hd kk z hz
  · cases hz
theorem z_putR {i k a v : Nat} {cs : List Nat} {E : String} {kf : HP → Option X} (hC : CX V cc own nL ret Lv) (hk : lkP own i k cs (.object E)) (hd : decode cc pc = .ok (.putfield i, 3)) (kk : ∀ hp', Zs V Q n nL (kf hp') C hp' lv (pc + 3) st) : Zs V Q n nL ((sR cs k hp a v).bind kf) C hp lv pc (.ref v :: .ref a :: st) := z_putV hC hk rfl rfl hd kk
theorem z_iald {a : Nat} {i : Int32} {kf : Int32 → Option X} (hC : CX V cc own nL ret Lv) (hd : decode cc pc = .ok (.iaload, 1)) (kk : ∀ v, Zs V Q n nL (kf v) C hp lv (pc + 1) (.int v :: st)) : Zs V Q n nL ((rdN 0 hp a i).bind kf) C hp lv pc (.int i :: .ref a :: st) := by
  intro z hz hc H locs ls hT hl
  unfold rdN at hz
  split at hz
  · rename_i t' m f hq
    split at hz
    · rename_i h
      obtain ⟨h1, h2⟩ := h
      subst h1
      exact va_iald (q0 := 0) (t0 := 0) hC.1 hC.2.1 hC.2.2.2.2.2.1 (hT.1.P hq) rfl rfl h2 hd (kk _ z hz hc H locs ls hT hl)
    · cases hz
  · cases hz
theorem z_bald {a : Nat} {i : Int32} {kf : Int32 → Option X} (hC : CX V cc own nL ret Lv) (hd : decode cc pc = .ok (.baload, 1)) (kk : ∀ v, Zs V Q n nL (kf v) C hp lv (pc + 1) (.int v :: st)) : Zs V Q n nL ((rdN 1 hp a i).bind kf) C hp lv pc (.int i :: .ref a :: st) := by
  intro z hz hc H locs ls hT hl
  unfold rdN at hz
  split at hz
  · rename_i t' m f hq
    split at hz
    · rename_i h
      obtain ⟨h1, h2⟩ := h
      subst h1
      exact va_bald (q0 := 0) (t0 := 1) hC.1 hC.2.1 hC.2.2.2.2.2.1 (hT.1.P hq) rfl rfl h2 hd (kk _ z hz hc H locs ls hT hl)
    · cases hz
  · cases hz
theorem z_zald {a : Nat} {i : Int32} {kf : Int32 → Option X} (hC : CX V cc own nL ret Lv) (hd : decode cc pc = .ok (.baload, 1)) (kk : ∀ v, Zs V Q n nL (kf v) C hp lv (pc + 1) (.int v :: st)) : Zs V Q n nL ((rdN 2 hp a i).bind kf) C hp lv pc (.int i :: .ref a :: st) := by
  intro z hz hc H locs ls hT hl
  unfold rdN at hz
  split at hz
  · rename_i t' m f hq
    split at hz
    · rename_i h
      obtain ⟨h1, h2⟩ := h
      subst h1
      exact va_zald (q0 := 0) (t0 := 2) hC.1 hC.2.1 hC.2.2.2.2.2.1 (hT.1.P hq) rfl rfl h2 hd (kk _ z hz hc H locs ls hT hl)
    · cases hz
  · cases hz
theorem z_lald {a : Nat} {i : Int32} {kf : Int64 → Option X} (hC : CX V cc own nL ret Lv) (hd : decode cc pc = .ok (.laload, 1)) (kk : ∀ v, Zs V Q n nL (kf v) C hp lv (pc + 1) (.long v :: st)) : Zs V Q n nL ((rdL hp a i).bind kf) C hp lv pc (.int i :: .ref a :: st) := by
  intro z hz hc H locs ls hT hl
  unfold rdL at hz
  split at hz
  · rename_i t' m f hq
    split at hz
    · rename_i h
      obtain ⟨h1, h2⟩ := h
      subst h1
      exact va_lald (q0 := 0) (t0 := 3) hC.1 hC.2.1 hC.2.2.2.2.2.1 (hT.1.P hq) rfl rfl h2 hd (kk _ z hz hc H locs ls hT hl)
    · cases hz
  · cases hz
theorem z_alen {a : Nat} {kf : Int32 → Option X} (hC : CX V cc own nL ret Lv) (t : Nat) (ht : t < 6) (hd : decode cc pc = .ok (.arraylength, 1)) (kk : ∀ v, Zs V Q n nL (kf v) C hp lv (pc + 1) (.int v :: st)) : Zs V Q n nL ((alN t hp a).bind kf) C hp lv pc (.ref a :: st) := by
  intro z hz hc H locs ls hT hl
  unfold alN at hz
  split at hz
  · rename_i t' m f hq
    split at hz
    · rename_i h
      subst h
      have hty : ∃ ty, (tysOf (vTg V))[t']? = some (vTg V t', ty) := by
        rcases (show t' = 0 ∨ t' = 1 ∨ t' = 2 ∨ t' = 3 ∨ t' = 4 ∨ t' = 5 by omega) with rfl | rfl | rfl | rfl | rfl | rfl <;> exact ⟨_, rfl⟩
      obtain ⟨ty, hty⟩ := hty
      exact va_alen (q0 := 0) (t0 := t') hC.1 hC.2.1 hC.2.2.2.2.2.1 (hT.1.P hq) rfl hty rfl hd (kk _ z hz hc H locs ls hT hl)
    · cases hz
  · cases hz
theorem z_iast {a : Nat} {i x : Int32} {kf : HP → Option X} (hC : CX V cc own nL ret Lv) (hd : decode cc pc = .ok (.iastore, 1)) (kk : ∀ hp', Zs V Q n nL (kf hp') C hp' lv (pc + 1) st) : Zs V Q n nL ((wrI hp a i x).bind kf) C hp lv pc (.int x :: .int i :: .ref a :: st) := by
  intro z hz hc H locs ls hT hl
  unfold wrI at hz
  split at hz
  · rename_i t' m f hq
    split at hz
    · rename_i h
      obtain ⟨h1, h2⟩ := h
      subst h1
      refine W.iast hC.1 hC.2.1 (hT.1.1 a _ hq) ((hC.2.2.2.2.2.1.2 0 _ rfl).1 m (fun j => .int (f j))) (fun q => by cases q) (by show ¬ (i < 0 ∨ (arrV _ _ _).slots.size ≤ _); rw [arrV_size]; exact h2) rfl rfl hd fun H1 e z1 oq => ?_
      refine kk _ z hz hc H1 _ ls (hT.put hq (x := .inl (0, m, .inl (upd f i.toNatClampNeg x))) ?_ z1 oq) hl
      show H1[a]? = some (vp_cell _ _)
      rw [e]
      show some ((vp_cell (vTg V 0) (m, .inl f)).setSlot _ _) = some (vp_cell (vTg V 0) (m, .inl (upd f i.toNatClampNeg x)))
      rw [vp_cell_i, vp_cell_i, arrV_store]
      congr 2
      funext q
      by_cases hq : q = i.toNatClampNeg
      · subst hq
        simp [updV, upd]
      · simp [updV, upd, hq]
    · cases hz
  · cases hz
theorem z_bast {a : Nat} {i x : Int32} {kf : HP → Option X} (hC : CX V cc own nL ret Lv) (hd : decode cc pc = .ok (.bastore, 1)) (kk : ∀ hp', Zs V Q n nL (kf hp') C hp' lv (pc + 1) st) : Zs V Q n nL ((wrB hp a i x).bind kf) C hp lv pc (.int x :: .int i :: .ref a :: st) := by
  intro z hz hc H locs ls hT hl
  unfold wrB at hz
  split at hz
  · rename_i t' m f hq
    split at hz
    · rename_i h
      obtain ⟨h1, h2⟩ := h
      subst h1
      refine W.bast hC.1 hC.2.1 (hT.1.1 a _ hq) ((hC.2.2.2.2.2.1.2 1 _ rfl).1 m (fun j => .int (f j))) (fun q => by cases q) (by show ¬ (i < 0 ∨ (arrV _ _ _).slots.size ≤ _); rw [arrV_size]; exact h2) rfl rfl hd fun H1 e z1 oq => ?_
      refine kk _ z hz hc H1 _ ls (hT.put hq (x := .inl (1, m, .inl (upd f i.toNatClampNeg x.toInt8.toInt32))) ?_ z1 oq) hl
      show H1[a]? = some (vp_cell _ _)
      rw [e]
      show some ((vp_cell (vTg V 1) (m, .inl f)).setSlot _ _) = some (vp_cell (vTg V 1) (m, .inl (upd f i.toNatClampNeg x.toInt8.toInt32)))
      rw [vp_cell_i, vp_cell_i, arrV_store]
      congr 2
      funext q
      by_cases hq : q = i.toNatClampNeg
      · subst hq
        simp [updV, upd, narrow]
      · simp [updV, upd, hq]
    · cases hz
  · cases hz
theorem z_zast {a : Nat} {i x : Int32} {kf : HP → Option X} (hC : CX V cc own nL ret Lv) (hd : decode cc pc = .ok (.bastore, 1)) (kk : ∀ hp', Zs V Q n nL (kf hp') C hp' lv (pc + 1) st) : Zs V Q n nL ((wrZ hp a i x).bind kf) C hp lv pc (.int x :: .int i :: .ref a :: st) := by
  intro z hz hc H locs ls hT hl
  unfold wrZ at hz
  split at hz
  · rename_i t' m f hq
    split at hz
    · rename_i h
      obtain ⟨h1, h2, h3⟩ := h
      subst h1
      refine W.zast hC.1 hC.2.1 (hT.1.1 a _ hq) ((hC.2.2.2.2.2.1.2 2 _ rfl).1 m (fun j => .int (f j))) (fun q => by cases q) (by show ¬ (i < 0 ∨ (arrV _ _ _).slots.size ≤ _); rw [arrV_size]; exact h2) rfl rfl hd fun H1 e z1 oq => ?_
      refine kk _ z hz hc H1 _ ls (hT.put hq (x := .inl (2, m, .inl (upd f i.toNatClampNeg x))) ?_ z1 oq) hl
      show H1[a]? = some (vp_cell _ _)
      rw [e]
      show some ((vp_cell (vTg V 2) (m, .inl f)).setSlot _ _) = some (vp_cell (vTg V 2) (m, .inl (upd f i.toNatClampNeg x)))
      rw [vp_cell_i, vp_cell_i, arrV_store]
      have hnx : narrow .boolean (.int x) = .int x := by rcases h3 with h3 | h3 <;> subst h3 <;> rfl
      congr 2
      funext q
      by_cases hq : q = i.toNatClampNeg
      · subst hq
        simp [updV, upd, hnx]
      · simp [updV, upd, hq]
    · cases hz
  · cases hz
theorem z_last {a : Nat} {i : Int32} {x : Int64} {kf : HP → Option X} (hC : CX V cc own nL ret Lv) (hd : decode cc pc = .ok (.lastore, 1)) (kk : ∀ hp', Zs V Q n nL (kf hp') C hp' lv (pc + 1) st) : Zs V Q n nL ((wrL hp a i x).bind kf) C hp lv pc (.long x :: .int i :: .ref a :: st) := by
  intro z hz hc H locs ls hT hl
  unfold wrL at hz
  split at hz
  · rename_i t' m f hq
    split at hz
    · rename_i h
      obtain ⟨h1, h2⟩ := h
      subst h1
      refine W.last hC.1 hC.2.1 (hT.1.1 a _ hq) ((hC.2.2.2.2.2.1.2 3 _ rfl).1 m (fun j => .long (f j))) (fun q => by cases q) (by show ¬ (i < 0 ∨ (arrV _ _ _).slots.size ≤ _); rw [arrV_size]; exact h2) rfl rfl hd fun H1 e z1 oq => ?_
      refine kk _ z hz hc H1 _ ls (hT.put hq (x := .inl (3, m, .inr (.inl (vp_updL f i.toNatClampNeg x)))) ?_ z1 oq) hl
      show H1[a]? = some (vp_cell _ _)
      rw [e]
      show some ((vp_cell (vTg V 3) (m, .inr (.inl f))).setSlot _ _) = some (vp_cell (vTg V 3) (m, .inr (.inl (vp_updL f i.toNatClampNeg x))))
      rw [vp_cell_l, vp_cell_l, arrV_store]
      congr 2
      funext q
      by_cases hq : q = i.toNatClampNeg
      · subst hq
        simp [updV, vp_updL]
      · simp [updV, vp_updL, hq]
    · cases hz
  · cases hz
end ZP
