section ZD
variable {V : VT} {Q : State → Prop} {n : Nat × Nat} {nL : Nat} {X : Type} {C : X → Prop} {hp : HP} {lv : List (Nat × Value)} {pc : Nat} {st : List Value} {cc : ByteArray} {own : String} {ret : Option FieldType} {Lv : Nat}
variable {Y : Type} {oc : Option Y} {kf : Y → Option X} {ho : Y → HP} {rest : List Value} {y : MethodName} {b : ByteArray} {maxL np L i : Nat} {rt : Option FieldType}
theorem z_callSi {ri : Y → Int32} {As : List Value} (hC : CX V cc own nL ret Lv) (hk : okS own i y b maxL rt np) (hM : CtV V y b maxL rt L As hp oc (fun y => some (.int (ri y))) ho) (hL : L + 1 ≤ Lv) (hn : n.1 ≤ (vRo V).cells ∧ n.2 ≤ (vRo V).slots) (hd : decode cc pc = .ok (.invokestatic i, 3)) (hl : As.length = np) (hst : st = As.reverse ++ rest) (hw : (rest.map fun v => v.category).sum ≤ 8) (kk : ∀ y, Zs V Q n nL (kf y) C (ho y) lv (pc + 3) (.int (ri y) :: rest)) : Zs V Q n nL (oc.bind kf) C hp lv pc st := z_callS hC hk hM hL hn hd hl hst hw kk
theorem z_callVi {ri : Y → Int32} {ci a N : Nat} {T : u_T} {C0 : String} {As : List Value} (hC : CX V cc own nL ret Lv) (hcl : cls[ci]? = some (C0, T, N)) (hk : okV own i C0 y b maxL rt np) (hM : CtV V y b maxL rt L (.ref a :: As) hp oc (fun y => some (.int (ri y))) ho) (hL : L + 1 ≤ Lv) (hn : n.1 ≤ (vRo V).cells ∧ n.2 ≤ (vRo V).slots) (hd : decode cc pc = .ok (.invokevirtual i, 3)) (hl : As.length = np) (hst : st = As.reverse ++ .ref a :: rest) (hw : (rest.map fun v => v.category).sum ≤ 8) (kk : ∀ y, Zs V Q n nL (kf y) C (ho y) lv (pc + 3) (.int (ri y) :: rest)) : Zs V Q n nL ((rc [ci] hp a oc).bind kf) C hp lv pc st := z_callV hC hcl hk hM hL hn hd hl hst hw kk
theorem z_callUi {ri : Y → Int32} {cs : List Nat} {a : Nat} {owner : String} {x : MethodName} {As : List Value} (hC : CX V cc own nL ret Lv) (hk : ∀ ci ∈ cs, ∃ (C0 : String) (T : u_T) (N : Nat), cls[ci]? = some (C0, T, N) ∧ okU own i C0 owner x y b maxL rt np) (hM : CtV V y b maxL rt L (.ref a :: As) hp oc (fun y => some (.int (ri y))) ho) (hL : L + 1 ≤ Lv) (hn : n.1 ≤ (vRo V).cells ∧ n.2 ≤ (vRo V).slots) (hd : decode cc pc = .ok (.invokevirtual i, 3)) (hl : As.length = np) (hst : st = As.reverse ++ .ref a :: rest) (hw : (rest.map fun v => v.category).sum ≤ 8) (kk : ∀ y, Zs V Q n nL (kf y) C (ho y) lv (pc + 3) (.int (ri y) :: rest)) : Zs V Q n nL ((rc cs hp a oc).bind kf) C hp lv pc st := z_callU hC hk hM hL hn hd hl hst hw kk
theorem z_callSl {ri : Y → Int64} {As : List Value} (hC : CX V cc own nL ret Lv) (hk : okS own i y b maxL rt np) (hM : CtV V y b maxL rt L As hp oc (fun y => some (.long (ri y))) ho) (hL : L + 1 ≤ Lv) (hn : n.1 ≤ (vRo V).cells ∧ n.2 ≤ (vRo V).slots) (hd : decode cc pc = .ok (.invokestatic i, 3)) (hl : As.length = np) (hst : st = As.reverse ++ rest) (hw : (rest.map fun v => v.category).sum ≤ 8) (kk : ∀ y, Zs V Q n nL (kf y) C (ho y) lv (pc + 3) (.long (ri y) :: rest)) : Zs V Q n nL (oc.bind kf) C hp lv pc st := z_callS hC hk hM hL hn hd hl hst hw kk
theorem z_callVl {ri : Y → Int64} {ci a N : Nat} {T : u_T} {C0 : String} {As : List Value} (hC : CX V cc own nL ret Lv) (hcl : cls[ci]? = some (C0, T, N)) (hk : okV own i C0 y b maxL rt np) (hM : CtV V y b maxL rt L (.ref a :: As) hp oc (fun y => some (.long (ri y))) ho) (hL : L + 1 ≤ Lv) (hn : n.1 ≤ (vRo V).cells ∧ n.2 ≤ (vRo V).slots) (hd : decode cc pc = .ok (.invokevirtual i, 3)) (hl : As.length = np) (hst : st = As.reverse ++ .ref a :: rest) (hw : (rest.map fun v => v.category).sum ≤ 8) (kk : ∀ y, Zs V Q n nL (kf y) C (ho y) lv (pc + 3) (.long (ri y) :: rest)) : Zs V Q n nL ((rc [ci] hp a oc).bind kf) C hp lv pc st := z_callV hC hcl hk hM hL hn hd hl hst hw kk
theorem z_callUl {ri : Y → Int64} {cs : List Nat} {a : Nat} {owner : String} {x : MethodName} {As : List Value} (hC : CX V cc own nL ret Lv) (hk : ∀ ci ∈ cs, ∃ (C0 : String) (T : u_T) (N : Nat), cls[ci]? = some (C0, T, N) ∧ okU own i C0 owner x y b maxL rt np) (hM : CtV V y b maxL rt L (.ref a :: As) hp oc (fun y => some (.long (ri y))) ho) (hL : L + 1 ≤ Lv) (hn : n.1 ≤ (vRo V).cells ∧ n.2 ≤ (vRo V).slots) (hd : decode cc pc = .ok (.invokevirtual i, 3)) (hl : As.length = np) (hst : st = As.reverse ++ .ref a :: rest) (hw : (rest.map fun v => v.category).sum ≤ 8) (kk : ∀ y, Zs V Q n nL (kf y) C (ho y) lv (pc + 3) (.long (ri y) :: rest)) : Zs V Q n nL ((rc cs hp a oc).bind kf) C hp lv pc st := z_callU hC hk hM hL hn hd hl hst hw kk
theorem z_callSv {As : List Value} (hC : CX V cc own nL ret Lv) (hk : okS own i y b maxL rt np) (hM : CtV V y b maxL rt L As hp oc (fun _ => none) ho) (hL : L + 1 ≤ Lv) (hn : n.1 ≤ (vRo V).cells ∧ n.2 ≤ (vRo V).slots) (hd : decode cc pc = .ok (.invokestatic i, 3)) (hl : As.length = np) (hst : st = As.reverse ++ rest) (hw : (rest.map fun v => v.category).sum ≤ 8) (kk : ∀ y, Zs V Q n nL (kf y) C (ho y) lv (pc + 3) rest) : Zs V Q n nL (oc.bind kf) C hp lv pc st := z_callS hC hk hM hL hn hd hl hst hw kk
theorem z_callVv {ci a N : Nat} {T : u_T} {C0 : String} {As : List Value} (hC : CX V cc own nL ret Lv) (hcl : cls[ci]? = some (C0, T, N)) (hk : okV own i C0 y b maxL rt np) (hM : CtV V y b maxL rt L (.ref a :: As) hp oc (fun _ => none) ho) (hL : L + 1 ≤ Lv) (hn : n.1 ≤ (vRo V).cells ∧ n.2 ≤ (vRo V).slots) (hd : decode cc pc = .ok (.invokevirtual i, 3)) (hl : As.length = np) (hst : st = As.reverse ++ .ref a :: rest) (hw : (rest.map fun v => v.category).sum ≤ 8) (kk : ∀ y, Zs V Q n nL (kf y) C (ho y) lv (pc + 3) rest) : Zs V Q n nL ((rc [ci] hp a oc).bind kf) C hp lv pc st := z_callV hC hcl hk hM hL hn hd hl hst hw kk
theorem z_callUv {cs : List Nat} {a : Nat} {owner : String} {x : MethodName} {As : List Value} (hC : CX V cc own nL ret Lv) (hk : ∀ ci ∈ cs, ∃ (C0 : String) (T : u_T) (N : Nat), cls[ci]? = some (C0, T, N) ∧ okU own i C0 owner x y b maxL rt np) (hM : CtV V y b maxL rt L (.ref a :: As) hp oc (fun _ => none) ho) (hL : L + 1 ≤ Lv) (hn : n.1 ≤ (vRo V).cells ∧ n.2 ≤ (vRo V).slots) (hd : decode cc pc = .ok (.invokevirtual i, 3)) (hl : As.length = np) (hst : st = As.reverse ++ .ref a :: rest) (hw : (rest.map fun v => v.category).sum ≤ 8) (kk : ∀ y, Zs V Q n nL (kf y) C (ho y) lv (pc + 3) rest) : Zs V Q n nL ((rc cs hp a oc).bind kf) C hp lv pc st := z_callU hC hk hM hL hn hd hl hst hw kk
end ZD
section ZS
variable {V : VT} {Q : State → Prop} {n : Nat × Nat} {nL : Nat} {X : Type} {C : X → Prop} {hp : HP} {lv : List (Nat × Value)} {pc : Nat} {st : List Value} {cc : ByteArray} {own : String} {ret : Option FieldType} {Lv : Nat} {o a b : Option X}
theorem z_lcmp (hC : CX V cc own nL ret Lv) {x y : Int64} (hd : decode cc pc = .ok (.lcmp, 1)) (k : Zs V Q n nL o C hp lv (pc + 1) (.int (lg_cmp x y) :: st)) : Zs V Q n nL o C hp lv pc (.long y :: .long x :: st) := z_of k (fun _ _ _ _ kk => W.lcmp hC.1 hC.2.1 hd kk)
theorem z_iincv (hC : CX V cc own nL ret Lv) {i : Nat} {d : Int} {x : Int32} {kf : Int32 → Option X} (dv : Int32) (w : Nat) (lf : Int32 → List (Nat × Value)) (ks : List Nat) (hd : decode cc pc = .ok (.iinc i d, 3)) (hw : lv[w]? = some (i, .int x)) (hv : Int32.ofInt d = dv) (hn : i < nL) (h : ∀ v, lv_pick ((i, Value.int v) :: lv.filter (fun q => !(q.1 == i) && !(q.1 + 1 == i && q.2.category == 2))) ks = lf v) (k : ∀ v, Zs V Q n nL (kf v) C hp (lf v) (pc + 3) st) : Zs V Q n nL (vl (x + dv) kf) C hp lv pc st := by
  subst hv
  exact fun z hz hc H locs ls hT hl => lv_iinc hC.1 hC.2.1 hd hl hw rfl hn rfl (fun ls' hl' => k _ z hz hc H locs ls' hT (lv_sub hl' ks (h _)))
theorem sw_ne {x k : Int32} {z : Int} (h : ¬ x = k) (hk : k.toInt = z) : x.toInt ≠ z := fun e => h (Int32.toInt_inj.mp (e.trans hk.symm))
theorem z_tsw (hC : CX V cc own nL ret Lv) {x : Int32} (kc : Int32) (tgt : Nat) (off : Int) {dflt lo hi : Int} {offs : Array Int} {len : Nat} {inst : Decidable (x = kc)} (hd : decode cc pc = .ok (.tableswitch dflt lo hi offs, len)) (h1 : ¬ kc.toInt < lo) (h2 : ¬ hi < kc.toInt) (ho : offs[(kc.toInt - lo).toNat]? = some off) (ht : (pc : Int) + off = (tgt : Int)) (kt : x = kc → Zs V Q n nL a C hp lv tgt st) (kf : ¬ x = kc → Zs V Q n nL b C hp lv pc (.int x :: st)) : Zs V Q n nL (@ite _ (x = kc) inst a b) C hp lv pc (.int x :: st) := by
  intro z hz hc H locs ls hT hl
  by_cases h : x = kc
  · rw [if_pos h] at hz
    subst h
    exact lv_tableIn hC.1 hC.2.1 hd h1 h2 ho ht (kt rfl z hz hc H locs ls hT hl)
  · rw [if_neg h] at hz
    exact kf h z hz hc H locs ls hT hl
theorem z_tswd (hC : CX V cc own nL ret Lv) {x : Int32} (tgt : Nat) {dflt lo hi : Int} {offs : Array Int} {len : Nat} (hd : decode cc pc = .ok (.tableswitch dflt lo hi offs, len)) (ht : (pc : Int) + dflt = (tgt : Int)) (h : x.toInt < lo ∨ hi < x.toInt) (k : Zs V Q n nL o C hp lv tgt st) : Zs V Q n nL o C hp lv pc (.int x :: st) := z_of k (fun _ _ _ _ kk => lv_tableOut hC.1 hC.2.1 hd h ht kk)
theorem z_lsw (hC : CX V cc own nL ret Lv) {x : Int32} (kc : Int32) (tgt : Nat) (off : Int) {dflt : Int} {ps : Array (Int × Int)} {len : Nat} {inst : Decidable (x = kc)} (hd : decode cc pc = .ok (.lookupswitch dflt ps, len)) (hp0 : (ps.toList.zip (ps.toList.drop 1)).all (fun (a, next) => a.1 < next.1) = true) (ho : Op.lookupswitch.offset ps.toList dflt kc.toInt = off) (ht : (pc : Int) + off = (tgt : Int)) (kt : x = kc → Zs V Q n nL a C hp lv tgt st) (kf : ¬ x = kc → Zs V Q n nL b C hp lv pc (.int x :: st)) : Zs V Q n nL (@ite _ (x = kc) inst a b) C hp lv pc (.int x :: st) := by
  intro z hz hc H locs ls hT hl
  by_cases h : x = kc
  · rw [if_pos h] at hz
    subst h
    exact lv_lookup hC.1 hC.2.1 hd hp0 ho ht (kt rfl z hz hc H locs ls hT hl)
  · rw [if_neg h] at hz
    exact kf h z hz hc H locs ls hT hl
theorem z_lswd (hC : CX V cc own nL ret Lv) {x : Int32} (tgt : Nat) (off : Int) {dflt : Int} {ps : Array (Int × Int)} {len : Nat} (hd : decode cc pc = .ok (.lookupswitch dflt ps, len)) (hp0 : (ps.toList.zip (ps.toList.drop 1)).all (fun (a, next) => a.1 < next.1) = true) (ho : Op.lookupswitch.offset ps.toList dflt x.toInt = off) (ht : (pc : Int) + off = (tgt : Int)) (k : Zs V Q n nL o C hp lv tgt st) : Zs V Q n nL o C hp lv pc (.int x :: st) := z_of k (fun _ _ _ _ kk => lv_lookup hC.1 hC.2.1 hd hp0 ho ht kk)
end ZS
set_option maxRecDepth 20000 in
theorem iX0 : ∀ w ∈ u_ws RX0 TX0 2, w ∈ gd_tbl := by
  intro w hw
  have h1 : ∀ w ∈ u_ws RX0 TX0 2, w ∈ lw_tbl := by decide +kernel
  have h2 : (u_ws RX0 TX0 2).all goodWord = true := by decide +kernel
  exact in_T (h1 w hw) (List.all_eq_true.mp h2 w hw)
set_option maxRecDepth 20000 in
theorem iX1 : ∀ w ∈ u_ws RX1 TX1 6, w ∈ gd_tbl := by
  intro w hw
  have h1 : ∀ w ∈ u_ws RX1 TX1 6, w ∈ lw_tbl := by decide +kernel
  have h2 : (u_ws RX1 TX1 6).all goodWord = true := by decide +kernel
  exact in_T (h1 w hw) (List.all_eq_true.mp h2 w hw)
set_option maxRecDepth 20000 in
theorem iX2 : ∀ w ∈ u_ws RX2 TX2 13, w ∈ gd_tbl := by
  intro w hw
  have h1 : ∀ w ∈ u_ws RX2 TX2 13, w ∈ lw_tbl := by decide +kernel
  have h2 : (u_ws RX2 TX2 13).all goodWord = true := by decide +kernel
  exact in_T (h1 w hw) (List.all_eq_true.mp h2 w hw)
set_option maxRecDepth 20000 in
theorem iX3 : ∀ w ∈ u_ws RX3 TX3 4, w ∈ gd_tbl := by
  intro w hw
  have h1 : ∀ w ∈ u_ws RX3 TX3 4, w ∈ lw_tbl := by decide +kernel
  have h2 : (u_ws RX3 TX3 4).all goodWord = true := by decide +kernel
  exact in_T (h1 w hw) (List.all_eq_true.mp h2 w hw)
set_option maxRecDepth 20000 in
theorem iX5 : ∀ w ∈ u_ws RX5 TX5 13, w ∈ gd_tbl := by
  intro w hw
  have h1 : ∀ w ∈ u_ws RX5 TX5 13, w ∈ lw_tbl := by decide +kernel
  have h2 : (u_ws RX5 TX5 13).all goodWord = true := by decide +kernel
  exact in_T (h1 w hw) (List.all_eq_true.mp h2 w hw)
set_option maxRecDepth 20000 in
theorem iX6 : ∀ w ∈ u_ws RX6 TX6 6, w ∈ gd_tbl := by
  intro w hw
  have h1 : ∀ w ∈ u_ws RX6 TX6 6, w ∈ lw_tbl := by decide +kernel
  have h2 : (u_ws RX6 TX6 6).all goodWord = true := by decide +kernel
  exact in_T (h1 w hw) (List.all_eq_true.mp h2 w hw)
set_option maxRecDepth 20000 in
theorem iX8 : ∀ w ∈ u_ws RX8 TX8 2, w ∈ gd_tbl := by
  intro w hw
  have h1 : ∀ w ∈ u_ws RX8 TX8 2, w ∈ lw_tbl := by decide +kernel
  have h2 : (u_ws RX8 TX8 2).all goodWord = true := by decide +kernel
  exact in_T (h1 w hw) (List.all_eq_true.mp h2 w hw)
set_option maxRecDepth 20000 in
theorem iX9 : ∀ w ∈ u_ws RX9 TX9 3, w ∈ gd_tbl := by
  intro w hw
  have h1 : ∀ w ∈ u_ws RX9 TX9 3, w ∈ lw_tbl := by decide +kernel
  have h2 : (u_ws RX9 TX9 3).all goodWord = true := by decide +kernel
  exact in_T (h1 w hw) (List.all_eq_true.mp h2 w hw)
set_option maxRecDepth 20000 in
theorem iX10 : ∀ w ∈ u_ws RX10 TX10 4, w ∈ gd_tbl := by
  intro w hw
  have h1 : ∀ w ∈ u_ws RX10 TX10 4, w ∈ lw_tbl := by decide +kernel
  have h2 : (u_ws RX10 TX10 4).all goodWord = true := by decide +kernel
  exact in_T (h1 w hw) (List.all_eq_true.mp h2 w hw)
set_option maxRecDepth 20000 in
theorem iX11 : ∀ w ∈ u_ws RX11 TX11 16, w ∈ gd_tbl := by
  intro w hw
  have h1 : ∀ w ∈ u_ws RX11 TX11 16, w ∈ lw_tbl := by decide +kernel
  have h2 : (u_ws RX11 TX11 16).all goodWord = true := by decide +kernel
  exact in_T (h1 w hw) (List.all_eq_true.mp h2 w hw)
set_option maxRecDepth 20000 in
theorem iX12 : ∀ w ∈ u_ws RX12 TX12 66, w ∈ gd_tbl := by
  intro w hw
  have h1 : ∀ w ∈ u_ws RX12 TX12 66, w ∈ lw_tbl := by decide +kernel
  have h2 : (u_ws RX12 TX12 66).all goodWord = true := by decide +kernel
  exact in_T (h1 w hw) (List.all_eq_true.mp h2 w hw)
