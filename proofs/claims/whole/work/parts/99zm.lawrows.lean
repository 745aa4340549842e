/-! the law's entry: rows -/
section
variable {V : VT} {Q : State → Prop} {n : Nat × Nat} {nL : Nat} {hp : HP} {lv : List (Nat × Value)} {pc : Nat} {st : List Value} {cc : ByteArray} {own : String} {ret : Option FieldType} {Lv : Nat}
def SX (V : VT) (b L : Nat) (xs : Nat → Int32) : Prop := va_X b L xs (vSt V) (vSt V).heap ∧ b < (vSt V).heap.size ∧ ¬ vBs V ≤ b
theorem k_sld {b L : Nat} {xs : Nat → Int32} {i : Int32} (hC : CX V cc own nL ret Lv) (hX : SX V b L xs) (hin : vp_in i L) (hd : decode cc pc = .ok (.iaload, 1)) (kk : ZP V Q n nL hp lv (pc + 1) (.int (xs i.toNatClampNeg) :: st)) : ZP V Q n nL hp lv pc (.int i :: .ref b :: st) := by
  intro _ _ _ H locs ls hT hls
  exact va_sld (A := fun q => vBs V ≤ q) hC.1 hC.2.1 hX.1 hX.2.1 hX.2.2 hT.2 hin hd (kk () rfl trivial H locs ls hT hls)
theorem k_slen {b L : Nat} {xs : Nat → Int32} (hC : CX V cc own nL ret Lv) (hX : SX V b L xs) (hd : decode cc pc = .ok (.arraylength, 1)) (kk : ZP V Q n nL hp lv (pc + 1) (.int (nI L) :: st)) : ZP V Q n nL hp lv pc (.ref b :: st) := by
  intro _ _ _ H locs ls hT hls
  exact va_slen (A := fun q => vBs V ≤ q) hC.1 hC.2.1 hX.1 hX.2.1 hX.2.2 hT.2 hd (kk () rfl trivial H locs ls hT hls)
theorem k_arg {b L i : Nat} {ji : Int} {xs : Nat → Int32} (j : Nat) (hC : CX V cc own nL ret Lv) (hX : SX V b L xs) (hi : i + 6 ≤ L) (hL : L ≤ 3072) (hj : j < 6) (h0 : lv[3]? = some (0, .ref b)) (h3 : lv[0]? = some (3, .int (nI i))) (hv : Int32.ofInt ji = nI j) (d0 : decode cc pc = .ok (.aload_n 0, 1)) (d1 : decode cc (pc + 1) = .ok (.iload_n 3, 1)) (d2 : decode cc (pc + 2) = .ok (.iconst ji, 1)) (d3 : decode cc (pc + 3) = .ok (.iadd, 1)) (d4 : decode cc (pc + 4) = .ok (.iaload, 1)) (kk : ZP V Q n nL hp lv (pc + 5) (.int (xs (i + j)) :: st)) : ZP V Q n nL hp lv pc st := by
  refine z_aload_n hC 3 d0 rfl h0 ?_
  refine z_iload_n hC 0 d1 rfl h3 ?_
  refine z_iconst hC (nI j) d2 hv ?_
  refine z_iadd hC d3 ?_
  rw [nI_add]
  refine k_sld hC hX (nI_in (show i + j < L by omega) (by omega)) d4 ?_
  rw [nI_clamp (show i + j < 2 ^ 31 by omega)]
  exact kk
theorem k_eq_yes {a b : Int32} {off : Int} (tgt : Nat) (hC : CX V cc own nL ret Lv) (h : a = b) (hd : decode cc pc = .ok (.if_icmp .eq off, 3)) (ht : (pc : Int) + off = (tgt : Int)) (kk : ZP V Q n nL hp lv tgt st) : ZP V Q n nL hp lv pc (.int b :: .int a :: st) := by
  have := z_icmp_eq (a := some ()) (b := none) (inst := inferInstance) (C := fun _ => True) (Q := Q) (n := n) (hp := hp) (lv := lv) (st := st) (x := a) (y := b) hC tgt hd ht (fun _ => kk) (fun _ => z_none)
  rw [if_pos h] at this
  exact this
theorem k_gt_yes {a b : Int32} {off : Int} (tgt : Nat) (hC : CX V cc own nL ret Lv) (h : b < a) (hd : decode cc pc = .ok (.if_icmp .gt off, 3)) (ht : (pc : Int) + off = (tgt : Int)) (kk : ZP V Q n nL hp lv tgt st) : ZP V Q n nL hp lv pc (.int b :: .int a :: st) := by
  have := z_icmp_gt (a := some ()) (b := none) (inst := inferInstance) (C := fun _ => True) (Q := Q) (n := n) (hp := hp) (lv := lv) (st := st) (x := a) (y := b) hC tgt hd ht (fun _ => kk) (fun _ => z_none)
  rw [if_pos h] at this
  exact this
theorem k_gt_no {a b : Int32} {off : Int} (tgt : Nat) (hC : CX V cc own nL ret Lv) (h : ¬ b < a) (hd : decode cc pc = .ok (.if_icmp .gt off, 3)) (ht : (pc : Int) + off = (tgt : Int)) (kk : ZP V Q n nL hp lv (pc + 3) st) : ZP V Q n nL hp lv pc (.int b :: .int a :: st) := by
  have := z_icmp_gt (a := none) (b := some ()) (inst := inferInstance) (C := fun _ => True) (Q := Q) (n := n) (hp := hp) (lv := lv) (st := st) (x := a) (y := b) hC tgt hd ht (fun _ => z_none) (fun _ => kk)
  rw [if_neg h] at this
  exact this
theorem k_if0_yes {a : Int32} {off : Int} (tgt : Nat) (hC : CX V cc own nL ret Lv) (h : a = 0) (hd : decode cc pc = .ok (.ifCond .eq off, 3)) (ht : (pc : Int) + off = (tgt : Int)) (kk : ZP V Q n nL hp lv tgt st) : ZP V Q n nL hp lv pc (.int a :: st) := by
  have := z_if_eq (a := some ()) (b := none) (inst := inferInstance) (C := fun _ => True) (Q := Q) (n := n) (hp := hp) (lv := lv) (st := st) (x := a) hC tgt hd ht (fun _ => kk) (fun _ => z_none)
  rw [if_pos h] at this
  exact this
theorem k_if0_no {a : Int32} {off : Int} (tgt : Nat) (hC : CX V cc own nL ret Lv) (h : ¬ a = 0) (hd : decode cc pc = .ok (.ifCond .eq off, 3)) (ht : (pc : Int) + off = (tgt : Int)) (kk : ZP V Q n nL hp lv (pc + 3) st) : ZP V Q n nL hp lv pc (.int a :: st) := by
  have := z_if_eq (a := none) (b := some ()) (inst := inferInstance) (C := fun _ => True) (Q := Q) (n := n) (hp := hp) (lv := lv) (st := st) (x := a) hC tgt hd ht (fun _ => z_none) (fun _ => kk)
  rw [if_neg h] at this
  exact this
theorem k_tsw {x : Int32} (kc : Int32) (tgt : Nat) (off : Int) {dflt lo hi : Int} {offs : Array Int} {len : Nat} (hC : CX V cc own nL ret Lv) (hx : x = kc) (hd : decode cc pc = .ok (.tableswitch dflt lo hi offs, len)) (h1 : ¬ kc.toInt < lo) (h2 : ¬ hi < kc.toInt) (ho : offs[(kc.toInt - lo).toNat]? = some off) (ht : (pc : Int) + off = (tgt : Int)) (kk : ZP V Q n nL hp lv tgt st) : ZP V Q n nL hp lv pc (.int x :: st) := by
  have := z_tsw (a := some ()) (b := none) (inst := inferInstance) (C := fun _ => True) (Q := Q) (n := n) (hp := hp) (lv := lv) (st := st) (x := x) hC kc tgt off hd h1 h2 ho ht (fun _ => kk) (fun h => absurd hx h)
  rw [if_pos hx] at this
  exact this
theorem k_cVi {Y : Type} {oc : Option Y} {v : Y} {ri : Y → Int32} {ho : Y → HP} {rest : List Value} {y : MethodName} {b : ByteArray} {maxL np L i ci a N : Nat} {rt : Option FieldType} {T : u_T} {C0 : String} {As : List Value} (hC : CX V cc own nL ret Lv) (hcl : cls[ci]? = some (C0, T, N)) (hk : okV own i C0 y b maxL rt np) (hM : CtV V y b maxL rt L (.ref a :: As) hp oc (fun y => some (.int (ri y))) ho) (hL : L + 1 ≤ Lv) (hn : n.1 ≤ (vRo V).cells ∧ n.2 ≤ (vRo V).slots) (hd : decode cc pc = .ok (.invokevirtual i, 3)) (hl : As.length = np) (hst : st = As.reverse ++ .ref a :: rest) (hw : (rest.map fun v => v.category).sum ≤ 8) (hO : isO [ci] hp a = true) (hv : oc = some v) (kk : ZP V Q n nL (ho v) lv (pc + 3) (.int (ri v) :: rest)) : ZP V Q n nL hp lv pc st :=
  zq ho (fun y => .int (ri y) :: rest) (show rc [ci] hp a oc = some v by unfold rc; rw [if_pos hO]; exact hv) (fun _ kk => z_callVi hC hcl hk hM hL hn hd hl hst hw kk) kk
theorem k_cVl {Y : Type} {oc : Option Y} {v : Y} {ri : Y → Int64} {ho : Y → HP} {rest : List Value} {y : MethodName} {b : ByteArray} {maxL np L i ci a N : Nat} {rt : Option FieldType} {T : u_T} {C0 : String} {As : List Value} (hC : CX V cc own nL ret Lv) (hcl : cls[ci]? = some (C0, T, N)) (hk : okV own i C0 y b maxL rt np) (hM : CtV V y b maxL rt L (.ref a :: As) hp oc (fun y => some (.long (ri y))) ho) (hL : L + 1 ≤ Lv) (hn : n.1 ≤ (vRo V).cells ∧ n.2 ≤ (vRo V).slots) (hd : decode cc pc = .ok (.invokevirtual i, 3)) (hl : As.length = np) (hst : st = As.reverse ++ .ref a :: rest) (hw : (rest.map fun v => v.category).sum ≤ 8) (hO : isO [ci] hp a = true) (hv : oc = some v) (kk : ZP V Q n nL (ho v) lv (pc + 3) (.long (ri v) :: rest)) : ZP V Q n nL hp lv pc st :=
  zq ho (fun y => .long (ri y) :: rest) (show rc [ci] hp a oc = some v by unfold rc; rw [if_pos hO]; exact hv) (fun _ kk => z_callVl hC hcl hk hM hL hn hd hl hst hw kk) kk
end
theorem gt_yes {L i : Nat} (hi : i < 2 ^ 31) (h : L < i + 6) : nI L - (6 : Int32) < nI i := by
  rcases Nat.lt_or_ge L 6 with c | c
  · have h1 : nI L - (6 : Int32) < 0 := (by decide : ∀ L, L < 6 → nI L - (6 : Int32) < 0) L c
    have h2 : (0 : Int32) ≤ nI i := nI_le (Nat.zero_le i) hi
    rw [Int32.lt_iff_toInt_lt] at h1 ⊢
    rw [Int32.le_iff_toInt_le] at h2
    omega
  · rw [show (6 : Int32) = nI 6 from rfl, pk_sub c]
    exact nI_lt (by omega) hi
theorem gt_no {L i : Nat} (hL : L < 2 ^ 31) (h : i + 6 ≤ L) : ¬ nI L - (6 : Int32) < nI i := by
  rw [show (6 : Int32) = nI 6 from rfl, pk_sub (by omega)]
  intro c
  have h2 : nI i ≤ nI (L - 6) := nI_le (by omega) (by omega)
  rw [Int32.lt_iff_toInt_lt] at c
  rw [Int32.le_iff_toInt_le] at h2
  omega
/-- the law's locals -/
abbrev lvL (bs b i : Nat) : List (Nat × Value) := [(3, .int (nI i)), (2, .ref (bs + 77)), (1, .ref (bs + 0)), (0, .ref b)]
theorem iO11 : okO [11] 0 = true := by decide +kernel
theorem iO12 : okO [12] 77 = true := by decide +kernel
def R_law : String := "PactYearsLaw"
