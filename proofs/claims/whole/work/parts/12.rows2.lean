def soR (i : Int32) : Option Int64 := if i < 0 ∨ 6 ≤ i.toNatClampNeg then none else some (soW i.toNatClampNeg)
def stB (j : Nat) : Int32 := (([[119, 99, 112, 115, 110, 121, 109, 122]] : List (List Int32)).getD 0 []).getD j 0
def rdS (i : Int32) : Option Int32 := if i < 0 ∨ 8 ≤ i.toNatClampNeg then none else some (stB i.toNatClampNeg)
def cpL (hp : HP) (src : Nat) (sp : Int32) (dst : Nat) (dp n : Int32) : Option HP := match hp src, hp dst with
  | some (.inl (t0, n0, .inr (.inl f))), some (.inl (t1, n1, .inr (.inl g))) => if t0 = 3 ∧ t1 = 3 ∧ ¬ sp < 0 ∧ ¬ dp < 0 ∧ ¬ n < 0 ∧ sp.toNatClampNeg + n.toNatClampNeg ≤ n0 ∧ dp.toNatClampNeg + n.toNatClampNeg ≤ n1 then some (upH hp dst (.inl (3, n1, .inr (.inl (va_cpy f g sp.toNatClampNeg dp.toNatClampNeg n.toNatClampNeg))))) else none
  | _, _ => none
def cpI (hp : HP) (src : Nat) (sp : Int32) (dst : Nat) (dp n : Int32) : Option HP := match hp src, hp dst with
  | some (.inl (t0, n0, .inl f)), some (.inl (t1, n1, .inl g)) => if t0 = 0 ∧ t1 = 0 ∧ ¬ sp < 0 ∧ ¬ dp < 0 ∧ ¬ n < 0 ∧ sp.toNatClampNeg + n.toNatClampNeg ≤ n0 ∧ dp.toNatClampNeg + n.toNatClampNeg ≤ n1 then some (upH hp dst (.inl (0, n1, .inl (va_cpy f g sp.toNatClampNeg dp.toNatClampNeg n.toNatClampNeg)))) else none
  | _, _ => none
theorem lzNat : Cond.native arraycopyName ∈ gd_tbl := in_T (by decide +kernel) (by decide +kernel)
theorem lzSta : Cond.static arraycopyName ∈ gd_tbl := in_T (by decide +kernel) (by decide +kernel)
theorem lzIni : Cond.initialized "java/lang/System" ∈ gd_tbl := in_T (by decide +kernel) (by decide +kernel)
theorem nnI {z : Int32} (hz : ¬ z < 0) : z.toInt = (z.toNatClampNeg : Int) := by
  have hz0 : (0 : Int) ≤ z.toInt := by
    have := Int32.not_lt.mp hz
    simpa using Int32.le_iff_toInt_le.mp this
  show z.toInt = ((z.toInt.toNat : Nat) : Int)
  omega
section ZQ
variable {V : VT} {Q : State → Prop} {n : Nat × Nat} {nL : Nat} {X : Type} {o : Option X} {C : X → Prop} {hp : HP} {lv : List (Nat × Value)} {pc : Nat} {st : List Value} {cc : ByteArray} {own : String} {ret : Option FieldType} {Lv : Nat}
theorem z_getSO (hC : CX V cc own nL ret Lv) {i : Nat} (hm : Cond.fieldLink own i "PactYears$Tables" "SO" "[J" ∈ gd_tbl) (hd : decode cc pc = .ok (.getstatic i, 3)) (k : Zs V Q n nL o C hp lv (pc + 3) (.ref (vSa V 0) :: st)) : Zs V Q n nL o C hp lv pc st :=
  fun x hx hc H locs ls hT hl => va_gets hC.1 hC.2.1 hC.2.2.2.2.2.2.1.1 hT.2 hC.2.2.2.1 (hC.2.2.2.2.1 _ hm) (fun _ h => h) hd (k x hx hc H locs ls hT hl)
theorem z_getCS (hC : CX V cc own nL ret Lv) {i : Nat} (hm : Cond.fieldLink own i "java/lang/String" "COMPACT_STRINGS" "Z" ∈ gd_tbl) (hd : decode cc pc = .ok (.getstatic i, 3)) (k : Zs V Q n nL o C hp lv (pc + 3) (.int 1 :: st)) : Zs V Q n nL o C hp lv pc st :=
  fun x hx hc H locs ls hT hl => va_gets hC.1 hC.2.1 hC.2.2.2.2.2.2.1.2.2.1 hT.2 hC.2.2.2.1 (hC.2.2.2.2.1 _ hm) (fun _ h => h) hd (k x hx hc H locs ls hT hl)
theorem z_sold (hC : CX V cc own nL ret Lv) {i : Int32} {kf : Int64 → Option X} (hd : decode cc pc = .ok (.laload, 1)) (kk : ∀ v, Zs V Q n nL (kf v) C hp lv (pc + 1) (.long v :: st)) : Zs V Q n nL ((soR i).bind kf) C hp lv pc (.int i :: .ref (vSa V 0) :: st) := by
  intro z hz hc H locs ls hT hl
  unfold soR at hz
  split at hz
  · cases hz
  · rename_i h
    exact va_tl hC.1 hC.2.1 hC.2.2.2.2.2.2.1.2.1 hT.2 h rfl hd (kk _ z hz hc H locs ls hT hl)
theorem z_ldcS (hC : CX V cc "PactYears$Law" nL ret Lv) (hd : decode cc pc = .ok (.ldc 84, 2)) (k : Zs V Q n nL o C hp lv (pc + 2) (.ref (vSa V 1) :: st)) : Zs V Q n nL o C hp lv pc st :=
  fun x hx hc H locs ls hT hl => va_ldcS hC.1 hC.2.1 hC.2.2.2.1 hC.2.2.2.2.2.2.1.2.2.2.1 hd (k x hx hc H locs ls hT hl)
theorem z_strC (hC : CX V cc own nL ret Lv) {i : Nat} (hm : Cond.fieldLink own i "java/lang/String" "coder" "B" ∈ gd_tbl) (hd : decode cc pc = .ok (.getfield i, 3)) (k : Zs V Q n nL o C hp lv (pc + 3) (.int 0 :: st)) : Zs V Q n nL o C hp lv pc (.ref (vSa V 1) :: st) :=
  fun x hx hc H locs ls hT hl => vk_getf hC.1 hC.2.1 (hC.2.2.2.2.2.2.1.2.2.2.2.1 0 (by decide)).2.1 hT.2 hC.2.2.2.1 (hC.2.2.2.2.1 _ hm) (fun _ h => h) hd (k x hx hc H locs ls hT hl)
theorem z_strV (hC : CX V cc own nL ret Lv) {i : Nat} (hm : Cond.fieldLink own i "java/lang/String" "value" "[B" ∈ gd_tbl) (hd : decode cc pc = .ok (.getfield i, 3)) (k : Zs V Q n nL o C hp lv (pc + 3) (.ref (vSa V 2) :: st)) : Zs V Q n nL o C hp lv pc (.ref (vSa V 1) :: st) :=
  fun x hx hc H locs ls hT hl => vk_getf hC.1 hC.2.1 (hC.2.2.2.2.2.2.1.2.2.2.2.1 0 (by decide)).2.2.1 hT.2 hC.2.2.2.1 (hC.2.2.2.2.1 _ hm) (fun _ h => h) hd (k x hx hc H locs ls hT hl)
theorem z_strL (hC : CX V cc own nL ret Lv) (hd : decode cc pc = .ok (.arraylength, 1)) (k : Zs V Q n nL o C hp lv (pc + 1) (.int 8 :: st)) : Zs V Q n nL o C hp lv pc (.ref (vSa V 2) :: st) :=
  fun x hx hc H locs ls hT hl => va_tlen hC.1 hC.2.1 (hC.2.2.2.2.2.2.1.2.2.2.2.1 0 (by decide)).2.2.2 hT.2 (by decide) hd (k x hx hc H locs ls hT hl)
theorem z_strB (hC : CX V cc own nL ret Lv) {i : Int32} {kf : Int32 → Option X} (hd : decode cc pc = .ok (.baload, 1)) (kk : ∀ v, Zs V Q n nL (kf v) C hp lv (pc + 1) (.int v :: st)) : Zs V Q n nL ((rdS i).bind kf) C hp lv pc (.int i :: .ref (vSa V 2) :: st) := by
  intro z hz hc H locs ls hT hl
  unfold rdS at hz
  split at hz
  · cases hz
  · rename_i h
    exact va_tb hC.1 hC.2.1 (hC.2.2.2.2.2.2.1.2.2.2.2.1 0 (by decide)).2.2.2 hT.2 h rfl hd (kk _ z hz hc H locs ls hT hl)
theorem z_callTi {Y : Type} {oc : Option Y} {kf : Y → Option X} {ho : Y → HP} {rest : List Value} {y : MethodName} {b : ByteArray} {maxL np L i : Nat} {rt : Option FieldType} {ri : Y → Int32} {As : List Value} (hC : CX V cc own nL ret Lv) (hk : okV own i "java/lang/String" y b maxL rt np) (hM : CtV V y b maxL rt L (.ref (vSa V 1) :: As) hp oc (fun y => some (.int (ri y))) ho) (hL : L + 1 ≤ Lv) (hn : n.1 ≤ (vRo V).cells ∧ n.2 ≤ (vRo V).slots) (hd : decode cc pc = .ok (.invokevirtual i, 3)) (hl : As.length = np) (hst : st = As.reverse ++ .ref (vSa V 1) :: rest) (hw : (rest.map fun v => v.category).sum ≤ 8) (kk : ∀ y, Zs V Q n nL (kf y) C (ho y) lv (pc + 3) (.int (ri y) :: rest)) : Zs V Q n nL (oc.bind kf) C hp lv pc st := by
  refine z_run (rv := fun y => some (.int (ri y))) (a := (Value.ref (vSa V 1) :: As).toArray) (fun x hx H locs ls hT hls => ?_) kk
  exact va_runV ⟨hC.1, hC.2.1, hC.2.2.1, hC.2.2.2.1, hC.2.2.2.2.1⟩ (hM x hx) (cwV np hC.2.2.2.2.1 (by
      intro w hw
      rcases List.mem_append.mp hw with h | h
      · simp only [List.mem_cons, List.not_mem_nil, or_false] at h
        rcases h with h | h | h | h <;> subst h
        · exact T_in hk.1
        · exact T_in hk.2.1
        · exact T_in hk.2.2.1
        · exact T_in hk.2.2.2.1
      · exact wsT_good hk.2.2.2.2.1 w h) rfl rfl rfl hk.2.2.2.2.2.1 (Ct.room hL hk.2.2.2.2.2.2 hC.2.2.2.2.2.2.2.2.2.2.1 hC.2.2.2.2.2.2.2.2.2.2.2))
    ⟨Wd.blind, vk_recv (i := 0) hC.2.2.2.2.2.2.1.2.2.2.2 (by decide) hT.2, fun U hU hW => ⟨rfl, hT.wd hC hU hW⟩⟩ rfl hl hls.1 hst (lv_room hw) hd hn
theorem z_aald5 {a : Nat} {i : Int32} {kf : Nat → Option X} (hC : CX V cc own nL ret Lv) (hd : decode cc pc = .ok (.aaload, 1)) (kk : ∀ v, Zs V Q n nL (kf v) C hp lv (pc + 1) (.ref v :: st)) : Zs V Q n nL ((rdA 5 hp a i).bind kf) C hp lv pc (.int i :: .ref a :: st) := by
  intro z hz hc H locs ls hT hl
  unfold rdA at hz
  split at hz
  · rename_i t' m f hq
    split at hz
    · rename_i h
      obtain ⟨h1, h2⟩ := h
      subst h1
      cases hv : f i.toNatClampNeg with
      | none => rw [hv] at hz; cases hz
      | some v =>
        rw [hv] at hz
        refine va_aldq (q0 := 0) (t0 := 5) hC.1 hC.2.1 hC.2.2.2.2.2.1 (hT.1.P hq) rfl rfl h2 hd ?_
        rw [hv]
        exact kk v z hz hc H locs ls hT hl
    · cases hz
  · cases hz
theorem z_aald4 {a : Nat} {i : Int32} {kf : Nat → Option X} (hC : CX V cc own nL ret Lv) (hd : decode cc pc = .ok (.aaload, 1)) (kk : ∀ v, Zs V Q n nL (kf v) C hp lv (pc + 1) (.ref v :: st)) : Zs V Q n nL ((rdA 4 hp a i).bind kf) C hp lv pc (.int i :: .ref a :: st) := by
  intro z hz hc H locs ls hT hl
  unfold rdA at hz
  split at hz
  · rename_i t' m f hq
    split at hz
    · rename_i h
      obtain ⟨h1, h2⟩ := h
      subst h1
      cases hv : f i.toNatClampNeg with
      | none => rw [hv] at hz; cases hz
      | some v =>
        rw [hv] at hz
        have hlt : i.toNatClampNeg < m := Nat.not_le.mp fun q => h2 (Or.inr q)
        exact W.aald (v := .ref v) (ty := .array .long) hC.1 hC.2.1 (hT.1.1 a _ hq) ((hC.2.2.2.2.2.1.2 4 _ rfl).1 m (fun j => va_rf (f j))) rfl (fun q => by cases q) (by show ¬ (i < 0 ∨ (arrV _ _ _).slots.size ≤ _); rw [arrV_size]; exact h2) (by show (arrV _ _ _).slots[_]? = _; rw [arrV_read _ _ hlt, hv]; rfl) rfl rfl hd (kk v z hz hc H locs ls hT hl)
    · cases hz
  · cases hz
theorem ST.copy {V : VT} {hp : HP} {H : Heap} {locs L : List Loc} {q : Nat} {x0 x : AE} {cell : Cell} (hT : ST V hp H locs) (h0 : hp q = some x0) (hl : q < H.size) (he : va_at (vDa V) cls (q, cvE (vTg V) x) (H.setIfInBounds q cell)) (hL : ∀ l ∈ L, l.base = q) : ST V (upH hp q x) (H.setIfInBounds q cell) (locs ++ L) := by
  have oq : ∀ r : Nat, r ≠ q → (H.setIfInBounds q cell)[r]? = H[r]? := fun r hr => by simp [Array.getElem?_setIfInBounds, Ne.symm hr]
  refine ⟨hT.1.up h0 he oq, by simp; exact hT.2.1, fun r g1 g2 => ?_, fun r hr => ?_⟩
  · rw [oq r (fun e => g2 (by rw [e]; exact hT.1.2 q _ h0))]
    exact hT.2.2.1 r g1 g2
  · rcases List.mem_append.mp hr with h | h
    · exact hT.2.2.2 r h
    · rw [hL r h]
      exact hT.1.2 q _ h0
theorem z_cpL {i src dst : Nat} {sp dp k : Int32} {kf : HP → Option X} (hC : CX V cc own nL ret (Lv + 1)) (hm : Cond.methodLink own i arraycopyName ∈ gd_tbl) (hd : decode cc pc = .ok (.invokestatic i, 3)) (kk : ∀ hp', Zs V Q n nL (kf hp') C hp' lv (pc + 3) []) : Zs V Q n nL ((cpL hp src sp dst dp k).bind kf) C hp lv pc [.int k, .int dp, .ref dst, .int sp, .ref src] := by
  intro z hz hc H locs ls hT hl
  unfold cpL at hz
  split at hz
  · rename_i t0 n0 f t1 n1 g hq0 hq1
    split at hz
    · rename_i h
      obtain ⟨e0, e1, h1, h2, h3, h4, h5⟩ := h
      subst e0; subst e1
      intro T hT0 Xs
      have hts := hC.2.2.2.2.1
      have hK := hC.2.2.2.2.2.1
      have hc0 : H[src]? = some (vp_cell (vTg V 3) (n0, .inr (.inl f))) := hT.1.1 src _ hq0
      have hc1 : H[dst]? = some (vp_cell (vTg V 3) (n1, .inr (.inl g))) := hT.1.1 dst _ hq1
      obtain ⟨-, k0, hk0, cm0, hkk0⟩ := (hK.2 3 _ rfl).1 n0 (fun j => .long (f j))
      obtain ⟨-, k1, hk1, cm1, hkk1⟩ := (hK.2 3 _ rfl).1 n1 (fun j => .long (g j))
      obtain ⟨vm', X', step⟩ := Xs.arraycopy hC.1 hC.2.2.2.1 (hts _ hm) (hts _ lzNat) (hts _ lzSta) (hts _ lzIni) (src := src) (dst := dst) (cs := vp_cell (vTg V 3) (n0, .inr (.inl f))) (cd := vp_cell (vTg V 3) (n1, .inr (.inl g))) (srcPos := sp) (destPos := dp) (n := k) (by rw [hT0]; exact hc0) (by rw [hT0]; exact hc1)
        (fun _ h => by cases h) (fun _ h => by cases h) (fun h => by cases h) (fun h => by cases h) hk0 hk1 hkk0 hkk1 (by rfl) h1 h2 h3
        (by rw [nnI h1, nnI h3]; show ¬ _ > ((arrV (vTg V 3) n0 (fun j => .long (f j))).slots.size : Int); rw [arrV_size]; omega)
        (by rw [nnI h2, nnI h3]; show ¬ _ > ((arrV (vTg V 3) n1 (fun j => .long (g j))).slots.size : Int); rw [arrV_size]; omega)
        (fun vm₁ _ i hi => by
          have e : (vp_cell (vTg V 3) (n0, .inr (.inl f))).slots.getD (sp.toNatClampNeg + i) .null = .long (f (sp.toNatClampNeg + i)) := by
            show (arrV (vTg V 3) n0 (fun j => .long (f j))).slots.getD _ _ = _
            rw [Array.getD_eq_getD_getElem?, arrV_read _ _ (by omega)]
            rfl
          refine ⟨?_, ?_⟩
          · rw [e]
            rfl
          · rw [e]
            exact trivial)
        (g := F0 (vMi V) pc ls [.int k, .int dp, .ref dst, .int sp, .ref src]) rfl (by rw [hC.2.2.1]; exact hl.1) (rest := []) rfl (by rw [hC.2.1]; exact hd) (Nat.le_trans (Nat.succ_le_succ (Nat.zero_le _)) hC.2.2.2.2.2.2.2.2.2.2.1) (Nat.le_trans (by show 2 * 0 + 0 + (nativeFrameWords "java/lang/System" "arraycopy" 5 + 11) ≤ 60 * 1; decide +kernel) (Nat.le_trans (Nat.mul_le_mul_left 60 (Nat.succ_le_succ (Nat.zero_le _))) hC.2.2.2.2.2.2.2.2.2.2.2))
      have e1 : copied (vp_cell (vTg V 3) (n0, .inr (.inl f))) (vp_cell (vTg V 3) (n1, .inr (.inl g))) sp dp k = vp_cell (vTg V 3) (n1, .inr (.inl (va_cpy f g sp.toNatClampNeg dp.toNatClampNeg k.toNatClampNeg))) := va_copied (fun z => .long z) (vTg V 3) (vTg V 3) f g h4
      rw [e1] at X' step
      have hlt : dst < H.size := (Array.getElem?_eq_some_iff.mp hc1).1
      have hheap : ((T.setVm vm').setCell dst (vp_cell (vTg V 3) (n1, .inr (.inl (va_cpy f g sp.toNatClampNeg dp.toNatClampNeg k.toNatClampNeg))))).heap = H.setIfInBounds dst (vp_cell (vTg V 3) (n1, .inr (.inl (va_cpy f g sp.toNatClampNeg dp.toNatClampNeg k.toNatClampNeg)))) := by rw [← hT0]; rfl
      obtain ⟨t, a1, b1⟩ := kk _ z hz hc _ _ ls (hT.copy hq1 (x := .inl (3, n1, .inr (.inl (va_cpy f g sp.toNatClampNeg dp.toNatClampNeg k.toNatClampNeg)))) hlt (show (H.setIfInBounds dst _)[dst]? = some _ by simp [Array.getElem?_setIfInBounds, hlt]) (fun l hl => by
          obtain ⟨z, -, hz⟩ := List.mem_map.mp hl
          rw [← hz])) hl _ hheap X'
      exact ⟨t, step t a1, b1⟩
    · cases hz
  · cases hz
theorem z_cpI {i src dst : Nat} {sp dp k : Int32} {kf : HP → Option X} (hC : CX V cc own nL ret (Lv + 1)) (hm : Cond.methodLink own i arraycopyName ∈ gd_tbl) (hd : decode cc pc = .ok (.invokestatic i, 3)) (kk : ∀ hp', Zs V Q n nL (kf hp') C hp' lv (pc + 3) []) : Zs V Q n nL ((cpI hp src sp dst dp k).bind kf) C hp lv pc [.int k, .int dp, .ref dst, .int sp, .ref src] := by
  intro z hz hc H locs ls hT hl
  unfold cpI at hz
  split at hz
  · rename_i t0 n0 f t1 n1 g hq0 hq1
    split at hz
    · rename_i h
      obtain ⟨e0, e1, h1, h2, h3, h4, h5⟩ := h
      subst e0; subst e1
      intro T hT0 Xs
      have hts := hC.2.2.2.2.1
      have hK := hC.2.2.2.2.2.1
      have hc0 : H[src]? = some (vp_cell (vTg V 0) (n0, .inl f)) := hT.1.1 src _ hq0
      have hc1 : H[dst]? = some (vp_cell (vTg V 0) (n1, .inl g)) := hT.1.1 dst _ hq1
      obtain ⟨-, k0, hk0, cm0, hkk0⟩ := (hK.2 0 _ rfl).1 n0 (fun j => .int (f j))
      obtain ⟨-, k1, hk1, cm1, hkk1⟩ := (hK.2 0 _ rfl).1 n1 (fun j => .int (g j))
      obtain ⟨vm', X', step⟩ := Xs.arraycopy hC.1 hC.2.2.2.1 (hts _ hm) (hts _ lzNat) (hts _ lzSta) (hts _ lzIni) (src := src) (dst := dst) (cs := vp_cell (vTg V 0) (n0, .inl f)) (cd := vp_cell (vTg V 0) (n1, .inl g)) (srcPos := sp) (destPos := dp) (n := k) (by rw [hT0]; exact hc0) (by rw [hT0]; exact hc1)
        (fun _ h => by cases h) (fun _ h => by cases h) (fun h => by cases h) (fun h => by cases h) hk0 hk1 hkk0 hkk1 (by rfl) h1 h2 h3
        (by rw [nnI h1, nnI h3]; show ¬ _ > ((arrV (vTg V 0) n0 (fun j => .int (f j))).slots.size : Int); rw [arrV_size]; omega)
        (by rw [nnI h2, nnI h3]; show ¬ _ > ((arrV (vTg V 0) n1 (fun j => .int (g j))).slots.size : Int); rw [arrV_size]; omega)
        (fun vm₁ _ i hi => by
          have e : (vp_cell (vTg V 0) (n0, .inl f)).slots.getD (sp.toNatClampNeg + i) .null = .int (f (sp.toNatClampNeg + i)) := by
            show (arrV (vTg V 0) n0 (fun j => .int (f j))).slots.getD _ _ = _
            rw [Array.getD_eq_getD_getElem?, arrV_read _ _ (by omega)]
            rfl
          refine ⟨?_, ?_⟩
          · rw [e]
            rfl
          · rw [e]
            exact trivial)
        (g := F0 (vMi V) pc ls [.int k, .int dp, .ref dst, .int sp, .ref src]) rfl (by rw [hC.2.2.1]; exact hl.1) (rest := []) rfl (by rw [hC.2.1]; exact hd) (Nat.le_trans (Nat.succ_le_succ (Nat.zero_le _)) hC.2.2.2.2.2.2.2.2.2.2.1) (Nat.le_trans (by show 2 * 0 + 0 + (nativeFrameWords "java/lang/System" "arraycopy" 5 + 11) ≤ 60 * 1; decide +kernel) (Nat.le_trans (Nat.mul_le_mul_left 60 (Nat.succ_le_succ (Nat.zero_le _))) hC.2.2.2.2.2.2.2.2.2.2.2))
      have e1 : copied (vp_cell (vTg V 0) (n0, .inl f)) (vp_cell (vTg V 0) (n1, .inl g)) sp dp k = vp_cell (vTg V 0) (n1, .inl (va_cpy f g sp.toNatClampNeg dp.toNatClampNeg k.toNatClampNeg)) := va_copied (fun z => .int z) (vTg V 0) (vTg V 0) f g h4
      rw [e1] at X' step
      have hlt : dst < H.size := (Array.getElem?_eq_some_iff.mp hc1).1
      have hheap : ((T.setVm vm').setCell dst (vp_cell (vTg V 0) (n1, .inl (va_cpy f g sp.toNatClampNeg dp.toNatClampNeg k.toNatClampNeg)))).heap = H.setIfInBounds dst (vp_cell (vTg V 0) (n1, .inl (va_cpy f g sp.toNatClampNeg dp.toNatClampNeg k.toNatClampNeg))) := by rw [← hT0]; rfl
      obtain ⟨t, a1, b1⟩ := kk _ z hz hc _ _ ls (hT.copy hq1 (x := .inl (0, n1, .inl (va_cpy f g sp.toNatClampNeg dp.toNatClampNeg k.toNatClampNeg))) hlt (show (H.setIfInBounds dst _)[dst]? = some _ by simp [Array.getElem?_setIfInBounds, hlt]) (fun l hl => by
          obtain ⟨z, -, hz⟩ := List.mem_map.mp hl
          rw [← hz])) hl _ hheap X'
      exact ⟨t, step t a1, b1⟩
    · cases hz
  · cases hz
end ZQ
def mxI (x y : Int32) : Int32 := if x < y then y else x
def mnI (x y : Int32) : Int32 := if y < x then y else x
def mxL (x y : Int64) : Int64 := if y < x then x else y
theorem lzMa : Cond.initialized "java/lang/Math" ∈ gd_tbl := in_T (by decide +kernel) (by decide +kernel)
theorem lzM1 : Cond.static Lib.Math.max.name ∈ gd_tbl := in_T (by decide +kernel) (by decide +kernel)
theorem lzM2 : Cond.code Lib.Math.max.name Lib.Math.max.code 2 (some .int) ∈ gd_tbl := in_T (by decide +kernel) (by decide +kernel)
theorem lzM3 : Cond.static Lib.Math.min.name ∈ gd_tbl := in_T (by decide +kernel) (by decide +kernel)
theorem lzM4 : Cond.code Lib.Math.min.name Lib.Math.min.code 2 (some .int) ∈ gd_tbl := in_T (by decide +kernel) (by decide +kernel)
theorem lzM5 : Cond.static Lib.MathLoose.max_long.x ∈ gd_tbl := in_T (by decide +kernel) (by decide +kernel)
theorem lzM6 : Cond.code Lib.MathLoose.max_long.x Lib.MathLoose.max_long.code 4 (some .long) ∈ gd_tbl := in_T (by decide +kernel) (by decide +kernel)
section ZM
variable {V : VT} {Q : State → Prop} {n : Nat × Nat} {nL : Nat} {X : Type} {o : Option X} {C : X → Prop} {hp : HP} {lv : List (Nat × Value)} {pc : Nat} {st : List Value} {cc : ByteArray} {own : String} {ret : Option FieldType} {Lv : Nat}
theorem z_bret {z : X} {v : Int32} (hC : CX V cc own nL (some .byte) Lv) (hv : narrow .byte (.int v) = .int v) (hc : C z → RetC V Q n (some (.int v)) hp) (hd : decode cc pc = .ok (.ireturn, 1)) : Zs V Q n nL (some z) C hp lv pc [.int v] := by
  intro x hx h H locs ls hT hl
  cases hx
  exact (W.zret (ty := .byte) hC.1 hC.2.1 hC.2.2.2.2.2.2.2.2.2.1 hv (fun t ht hW => hT.end hC ht hW) hT.2.2.2 hd hC.2.2.2.2.2.2.2.2.1).mono (hc h)
theorem rm1 {R : Room} {Lv k : Nat} (h : 60 * (Lv + 1) ≤ R.locals) (hk : k ≤ 8) : k + 15 ≤ R.locals := by omega
theorem z_mmax (hC : CX V cc own nL ret (Lv + 1)) {i : Nat} {x y : Int32} (hm : Cond.methodLink own i Lib.Math.max.name ∈ gd_tbl) (hn : n.1 ≤ (vRo V).cells ∧ n.2 ≤ (vRo V).slots) (hw : (st.map fun v => v.category).sum ≤ 8) (hd : decode cc pc = .ok (.invokestatic i, 3)) (k : Zs V Q n nL o C hp lv (pc + 3) (.int (mxI x y) :: st)) : Zs V Q n nL o C hp lv pc (.int y :: .int x :: st) :=
  z_of k (fun _ _ _ hl kk => va_mmax hC.1 hC.2.1 (hC.2.2.1.trans hl.1.symm) hC.2.2.2.1 (hC.2.2.2.2.1 _ hm) (hC.2.2.2.2.1 _ lzM1) (hC.2.2.2.2.1 _ lzMa) (hC.2.2.2.2.1 _ lzM2) (Nat.le_trans (Nat.succ_le_succ (Nat.zero_le _)) hC.2.2.2.2.2.2.2.2.2.2.1) (Nat.le_trans (Nat.add_le_add_left (by decide) _) (rm1 hC.2.2.2.2.2.2.2.2.2.2.2 hw)) hn.1 hn.2 hd kk)
theorem z_mmin (hC : CX V cc own nL ret (Lv + 1)) {i : Nat} {x y : Int32} (hm : Cond.methodLink own i Lib.Math.min.name ∈ gd_tbl) (hn : n.1 ≤ (vRo V).cells ∧ n.2 ≤ (vRo V).slots) (hw : (st.map fun v => v.category).sum ≤ 8) (hd : decode cc pc = .ok (.invokestatic i, 3)) (k : Zs V Q n nL o C hp lv (pc + 3) (.int (mnI x y) :: st)) : Zs V Q n nL o C hp lv pc (.int y :: .int x :: st) :=
  z_of k (fun _ _ _ hl kk => va_mmin hC.1 hC.2.1 (hC.2.2.1.trans hl.1.symm) hC.2.2.2.1 (hC.2.2.2.2.1 _ hm) (hC.2.2.2.2.1 _ lzM3) (hC.2.2.2.2.1 _ lzMa) (hC.2.2.2.2.1 _ lzM4) (Nat.le_trans (Nat.succ_le_succ (Nat.zero_le _)) hC.2.2.2.2.2.2.2.2.2.2.1) (Nat.le_trans (Nat.add_le_add_left (by decide) _) (rm1 hC.2.2.2.2.2.2.2.2.2.2.2 hw)) hn.1 hn.2 hd kk)
theorem z_mmaxL (hC : CX V cc own nL ret (Lv + 1)) {i : Nat} {x y : Int64} (hm : Cond.methodLink own i Lib.MathLoose.max_long.x ∈ gd_tbl) (hn : n.1 ≤ (vRo V).cells ∧ n.2 ≤ (vRo V).slots) (hw : (st.map fun v => v.category).sum ≤ 8) (hd : decode cc pc = .ok (.invokestatic i, 3)) (k : Zs V Q n nL o C hp lv (pc + 3) (.long (mxL x y) :: st)) : Zs V Q n nL o C hp lv pc (.long y :: .long x :: st) :=
  z_of k (fun _ _ _ hl kk => va_mmax_long hC.1 hC.2.1 (hC.2.2.1.trans hl.1.symm) hC.2.2.2.1 (hC.2.2.2.2.1 _ hm) (hC.2.2.2.2.1 _ lzM5) (hC.2.2.2.2.1 _ lzMa) (hC.2.2.2.2.1 _ lzM6) (Nat.le_trans (Nat.succ_le_succ (Nat.zero_le _)) hC.2.2.2.2.2.2.2.2.2.2.1) (rm1 hC.2.2.2.2.2.2.2.2.2.2.2 hw) hn.1 hn.2 hd kk)
end ZM
