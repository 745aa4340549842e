/-! constructors: the simple ones. The cells: a list whose j-th is o, and new ones behind it -/
abbrev xA (t n : Nat) (a : (Nat → Int32) ⊕ (Nat → Int64) ⊕ (Nat → UInt32) ⊕ (Nat → UInt64) ⊕ (Nat → Option Nat)) : AE := .inl (t, n, a)
abbrev xO (ci : Nat) (fs : List Value) : AE := .inr (ci, fs)
abbrev a0I : (Nat → Int32) ⊕ (Nat → Int64) ⊕ (Nat → UInt32) ⊕ (Nat → UInt64) ⊕ (Nat → Option Nat) := .inl (fun _ => 0)
abbrev a0L : (Nat → Int32) ⊕ (Nat → Int64) ⊕ (Nat → UInt32) ⊕ (Nat → UInt64) ⊕ (Nat → Option Nat) := .inr (.inl (fun _ => 0))
def nf (L : List AE) (j : Nat) (o : AE) (cs : List AE) : List AE := L.set j o ++ cs
section
variable {L cs : List AE} {j : Nat} {o x : AE}
theorem nf_nil (h : L[j]? = some o) : nf L j o [] = L := by
  unfold nf
  rw [List.append_nil]
  refine List.ext_getElem? (fun k => ?_)
  rw [List.getElem?_set]
  by_cases c : j = k
  · subst c
    rw [if_pos rfl, if_pos (List.getElem?_eq_some_iff.mp h).1, h]
  · rw [if_neg c]
theorem nf_len : (nf L j o cs).length = L.length + cs.length := by
  unfold nf
  rw [List.length_append, List.length_set]
theorem nf_at (h : j < L.length) : (nf L j o cs)[j]? = some o := by
  unfold nf
  rw [List.getElem?_append_left (by rw [List.length_set]; exact h), List.getElem?_set, if_pos rfl, if_pos h]
theorem nf_set (h : j < L.length) : (nf L j o cs).set j x = nf L j x cs := by
  unfold nf
  rw [List.set_append_left _ _ (by rw [List.length_set]; exact h), List.set_set]
theorem nf_push {ds : List AE} : nf L j o cs ++ ds = nf L j o (cs ++ ds) := List.append_assoc _ _ _
variable {V : VT} {Q : State → Prop} {n : Nat × Nat} {nL : Nat} {lv : List (Nat × Value)} {pc : Nat} {st : List Value} {cc : ByteArray} {own : String} {ret : Option FieldType} {Lv : Nat}
theorem f_cast {A B : List AE} (h : A = B) (k : ZP V Q n nL (hl (vBs V) A) lv pc st) : ZP V Q n nL (hl (vBs V) B) lv pc st := by rw [← h]; exact k
theorem f_hz {A : List AE} {j : Nat} {o : AE} {cs : List AE} (_ : j < A.length) (hsz : (vSt V).heap.size = vBs V + A.length) (hn1 : n.1 = cs.length) : (vSt V).heap.size + n.1 = vBs V + (nf A j o cs).length := by
  rw [nf_len, hsz, hn1]
  omega
theorem f_newa {t : Nat} {atype : ArrayType} {ty : FieldType} {nv : Int32} {N : Nat} {a0 : (Nat → Int32) ⊕ (Nat → Int64) ⊕ (Nat → UInt32) ⊕ (Nat → UInt64) ⊕ (Nat → Option Nat)} (z : Nat) (hzc : cs.length = z) (hC : CX V cc own nL ret Lv) (hjl : j < L.length) (hsz : (vSt V).heap.size = vBs V + L.length) (hn1 : n.1 = cs.length) (ht : ∀ tg : Nat → ClassId, (tysOf tg)[t]? = some (tg t, ty)) (hra : ∀ (U : State) (c : ClassId), va_RA U c ty → U.vm.findClass ("[" ++ ty.toString) = some c) (harr : Cond.arrayClass (newarray.typeOf atype) ∈ gd_tbl) (hty : newarray.typeOf atype = ty) (ha : ∀ cA : ClassId, vp_cell cA (N, a0) = arrV cA N (fun _ => defaultValue ty)) (hnv : ¬ nv < 0) (hN : nv.toNatClampNeg = N) (hbytes : N * componentBytes ty ≤ 536870912) (hn : n.1 + 1 ≤ (vRo V).cells ∧ n.2 + N ≤ (vRo V).slots) (hd : decode cc pc = .ok (.newarray atype, 2))
    (kk : ZP V Q (n.1 + 1, n.2 + N) nL (hl (vBs V) (nf L j o (cs ++ [xA t N a0]))) lv (pc + 2) (.ref (vBs V + (L.length + z)) :: st)) : ZP V Q n nL (hl (vBs V) (nf L j o cs)) lv pc (.int nv :: st) := by
  refine k_newa (t := t) (a0 := a0) hC (f_hz hjl hsz hn1) ht hra harr hty ha hnv hN hbytes hn hd ?_
  rw [nf_len, hzc, nf_push]
  exact kk
theorem f_anew {i : Nat} {nv : Int32} {N : Nat} (z : Nat) (hzc : cs.length = z) (hC : CX V cc own nL ret Lv) (hNX : NX (vSt V)) (hjl : j < L.length) (hsz : (vSt V).heap.size = vBs V + L.length) (hn1 : n.1 = cs.length) (h1 : Cond.classLink own i "PactYears$Standing" ∈ gd_tbl) (hnv : ¬ nv < 0) (hNv : nv.toNatClampNeg = N) (hbytes : N * 4 ≤ 536870912) (hn : n.1 + 1 ≤ (vRo V).cells ∧ n.2 + N ≤ (vRo V).slots) (hd : decode cc pc = .ok (.anewarray i, 3))
    (kk : ZP V Q (n.1 + 1, n.2 + N) nL (hl (vBs V) (nf L j o (cs ++ [xA 5 N aNo]))) lv (pc + 3) (.ref (vBs V + (L.length + z)) :: st)) : ZP V Q n nL (hl (vBs V) (nf L j o cs)) lv pc (.int nv :: st) := by
  refine k_anew hC hNX (f_hz hjl hsz hn1) h1 hnv hNv hbytes hn hd ?_
  rw [nf_len, hzc, nf_push]
  exact kk
theorem f_multi {i : Nat} {nv : Int32} {N : Nat} (z : Nat) (hzc : cs.length = z) (hC : CX V cc own nL ret Lv) (hNX : NX (vSt V)) (hjl : j < L.length) (hsz : (vSt V).heap.size = vBs V + L.length) (hn1 : n.1 = cs.length) (h1 : Cond.classLink own i "[[J" ∈ gd_tbl) (h2 : Cond.arrayClass (newarray.typeOf .long) ∈ gd_tbl) (hnv : ¬ nv < 0) (hNv : nv.toNatClampNeg = N) (hn0 : (nv == 0) = false) (hN9 : N < 1000) (hn : n.1 + (1 + N) ≤ (vRo V).cells ∧ n.2 + (N + N * 16) ≤ (vRo V).slots) (hd : decode cc pc = .ok (.multianewarray i 2, 4))
    (kk : ZP V Q (n.1 + (1 + N), n.2 + (N + N * 16)) nL (hl (vBs V) (nf L j o (cs ++ (xA 4 N (aRow (vBs V) (L.length + z)) :: List.replicate N aL0)))) lv (pc + 4) (.ref (vBs V + (L.length + z)) :: st)) : ZP V Q n nL (hl (vBs V) (nf L j o cs)) lv pc (.int 16 :: .int nv :: st) := by
  refine k_multi hC hNX (f_hz hjl hsz hn1) h1 h2 hnv hNv hn0 hN9 hn hd ?_
  rw [nf_len, hzc, nf_push]
  exact kk
theorem f_putF {i k ci : Nat} {fs : List Value} {ty : FieldType} {v : Value} (hC : CX V cc own nL ret Lv) (hin : (vMe V).name = "<init>") (hjl : j < L.length) (hk : lkQ own i k ci ty) (hkf : k < fs.length) (hnv : narrow ty v = v) (hf : fits ty v = true) (hd : decode cc pc = .ok (.putfield i, 3)) (kk : ZP V Q n nL (hl (vBs V) (nf L j (xO ci (fs.set k v)) cs)) lv (pc + 3) st) : ZP V Q n nL (hl (vBs V) (nf L j (xO ci fs) cs)) lv pc (v :: .ref (vBs V + j) :: st) := by
  refine k_putF hC hin hk (nf_at hjl) hkf hnv hf hd ?_
  rw [nf_set hjl]
  exact kk
theorem f_putR {i k ci v : Nat} {fs : List Value} {E : String} (hC : CX V cc own nL ret Lv) (hjl : j < L.length) (hk : lkP own i k [ci] (.object E)) (hkf : k < fs.length) (hd : decode cc pc = .ok (.putfield i, 3)) (kk : ZP V Q n nL (hl (vBs V) (nf L j (xO ci (fs.set k (.ref v))) cs)) lv (pc + 3) st) : ZP V Q n nL (hl (vBs V) (nf L j (xO ci fs) cs)) lv pc (.ref v :: .ref (vBs V + j) :: st) := by
  refine zq (fun h => h) (fun _ => st) (show sR [ci] k (hl (vBs V) (nf L j (xO ci fs) cs)) (vBs V + j) v = some _ from sV_hl (nf_at hjl) (List.mem_cons_self) hkf) (fun kf kk => z_putR hC hk hd kk) ?_
  rw [nf_set hjl]
  exact kk
end
theorem dX6_init_0 : decode cX6_init 0 = .ok (.aload_n 0, 1) := by decide +kernel
theorem dX6_init_1 : decode cX6_init 1 = .ok (.invokespecial 3, 3) := by decide +kernel
theorem lzOi : Cond.instanceMethod Lib.objectInit ∈ gd_tbl := in_T (by decide +kernel) (by decide +kernel)
theorem lzOc : Cond.code Lib.objectInit ⟨#[0xb1]⟩ 1 none ∈ gd_tbl := in_T (by decide +kernel) (by decide +kernel)
theorem lzORX6 : Cond.methodLink RX6 3 Lib.objectInit ∈ gd_tbl := in_I 299 (by decide +kernel)
theorem dX6_init_4 : decode cX6_init 4 = .ok (.return_, 1) := by decide +kernel
theorem dX8_init_0 : decode cX8_init 0 = .ok (.aload_n 0, 1) := by decide +kernel
theorem dX8_init_1 : decode cX8_init 1 = .ok (.invokespecial 3, 3) := by decide +kernel
theorem lzORX8 : Cond.methodLink RX8 3 Lib.objectInit ∈ gd_tbl := in_I 137 (by decide +kernel)
theorem dX8_init_4 : decode cX8_init 4 = .ok (.aload_n 0, 1) := by decide +kernel
theorem dX8_init_5 : decode cX8_init 5 = .ok (.sipush 260, 3) := by decide +kernel
theorem dX8_init_8 : decode cX8_init 8 = .ok (.newarray .byte, 2) := by decide +kernel
theorem lzA_byte : Cond.arrayClass (newarray.typeOf .byte) ∈ gd_tbl := in_T (by decide +kernel) (by decide +kernel)
theorem dX8_init_10 : decode cX8_init 10 = .ok (.putfield 9, 3) := by decide +kernel
theorem lqRX8_9_8 : lkQ RX8 9 0 8 (.array .byte) := ⟨_, _, _, _, tyX8, ⟨rfl, by decide, iX8, in_I 138 (by decide +kernel), Or.inl rfl⟩, rfl, rfl, by decide +kernel, tyX8_ok, nmX8⟩
theorem dX8_init_13 : decode cX8_init 13 = .ok (.return_, 1) := by decide +kernel
theorem dX4_init_0 : decode cX4_init 0 = .ok (.aload_n 0, 1) := by decide +kernel
theorem dX4_init_1 : decode cX4_init 1 = .ok (.invokespecial 3, 3) := by decide +kernel
theorem lzORX4 : Cond.methodLink RX4 3 Lib.objectInit ∈ gd_tbl := in_I 155 (by decide +kernel)
theorem dX4_init_4 : decode cX4_init 4 = .ok (.aload_n 0, 1) := by decide +kernel
theorem dX4_init_5 : decode cX4_init 5 = .ok (.aload_n 1, 1) := by decide +kernel
theorem dX4_init_6 : decode cX4_init 6 = .ok (.putfield 9, 3) := by decide +kernel
theorem lqRX4_9_1 : lkQ RX4 9 0 1 (.object "PactYears$Tape") := ⟨_, _, _, _, tyX1, ⟨rfl, by decide, iX1, in_I 159 (by decide +kernel), Or.inl rfl⟩, rfl, rfl, by decide +kernel, tyX1_ok, nmX1⟩
theorem dX4_init_9 : decode cX4_init 9 = .ok (.return_, 1) := by decide +kernel
theorem lqRX4_9_2 : lkQ RX4 9 0 2 (.object "PactYears$Tape") := ⟨_, _, _, _, tyX2, ⟨rfl, by decide, iX2, in_I 159 (by decide +kernel), Or.inl rfl⟩, rfl, rfl, by decide +kernel, tyX2_ok, nmX2⟩
theorem dX1_init_0 : decode cX1_init 0 = .ok (.aload_n 0, 1) := by decide +kernel
theorem dX1_init_1 : decode cX1_init 1 = .ok (.aload_n 1, 1) := by decide +kernel
theorem dX1_init_2 : decode cX1_init 2 = .ok (.invokespecial 3, 3) := by decide +kernel
theorem loRX1_3 : okI RX1 3 yX4_init cX4_init 2 1 := ⟨in_I 152 (by decide +kernel), in_I 153 (by decide +kernel), in_I 104 (by decide +kernel), in_I 154 (by decide +kernel), ⟨by decide +kernel, by decide +kernel, by decide +kernel⟩, by decide, rfl⟩
theorem dX1_init_5 : decode cX1_init 5 = .ok (.aload_n 0, 1) := by decide +kernel
theorem dX1_init_6 : decode cX1_init 6 = .ok (.bipush 16, 2) := by decide +kernel
theorem dX1_init_8 : decode cX1_init 8 = .ok (.newarray .long, 2) := by decide +kernel
theorem lzA_long : Cond.arrayClass (newarray.typeOf .long) ∈ gd_tbl := in_T (by decide +kernel) (by decide +kernel)
theorem dX1_init_10 : decode cX1_init 10 = .ok (.putfield 9, 3) := by decide +kernel
theorem lqRX1_9_1 : lkQ RX1 9 4 1 (.array .long) := ⟨_, _, _, _, tyX1, ⟨rfl, by decide, iX1, in_I 156 (by decide +kernel), Or.inl rfl⟩, rfl, rfl, by decide +kernel, tyX1_ok, nmX1⟩
theorem dX1_init_13 : decode cX1_init 13 = .ok (.return_, 1) := by decide +kernel
theorem dX2_init_0 : decode cX2_init 0 = .ok (.aload_n 0, 1) := by decide +kernel
theorem dX2_init_1 : decode cX2_init 1 = .ok (.aload_n 1, 1) := by decide +kernel
theorem dX2_init_2 : decode cX2_init 2 = .ok (.invokespecial 3, 3) := by decide +kernel
theorem loRX2_3 : okI RX2 3 yX4_init cX4_init 2 1 := ⟨in_I 255 (by decide +kernel), in_I 153 (by decide +kernel), in_I 104 (by decide +kernel), in_I 154 (by decide +kernel), ⟨by decide +kernel, by decide +kernel, by decide +kernel⟩, by decide, rfl⟩
theorem dX2_init_5 : decode cX2_init 5 = .ok (.aload_n 0, 1) := by decide +kernel
theorem dX2_init_6 : decode cX2_init 6 = .ok (.bipush 16, 2) := by decide +kernel
theorem dX2_init_8 : decode cX2_init 8 = .ok (.newarray .int, 2) := by decide +kernel
theorem lzA_int : Cond.arrayClass (newarray.typeOf .int) ∈ gd_tbl := in_T (by decide +kernel) (by decide +kernel)
theorem dX2_init_10 : decode cX2_init 10 = .ok (.putfield 9, 3) := by decide +kernel
theorem lqRX2_9_2 : lkQ RX2 9 5 2 (.array .int) := ⟨_, _, _, _, tyX2, ⟨rfl, by decide, iX2, in_I 258 (by decide +kernel), Or.inl rfl⟩, rfl, rfl, by decide +kernel, tyX2_ok, nmX2⟩
theorem dX2_init_13 : decode cX2_init 13 = .ok (.aload_n 0, 1) := by decide +kernel
theorem dX2_init_14 : decode cX2_init 14 = .ok (.bipush 16, 2) := by decide +kernel
theorem dX2_init_16 : decode cX2_init 16 = .ok (.newarray .int, 2) := by decide +kernel
theorem dX2_init_18 : decode cX2_init 18 = .ok (.putfield 15, 3) := by decide +kernel
theorem lqRX2_15_2 : lkQ RX2 15 6 2 (.array .int) := ⟨_, _, _, _, tyX2, ⟨rfl, by decide, iX2, in_I 259 (by decide +kernel), Or.inl rfl⟩, rfl, rfl, by decide +kernel, tyX2_ok, nmX2⟩
theorem dX2_init_21 : decode cX2_init 21 = .ok (.aload_n 0, 1) := by decide +kernel
theorem dX2_init_22 : decode cX2_init 22 = .ok (.bipush 16, 2) := by decide +kernel
theorem dX2_init_24 : decode cX2_init 24 = .ok (.newarray .int, 2) := by decide +kernel
theorem dX2_init_26 : decode cX2_init 26 = .ok (.putfield 18, 3) := by decide +kernel
theorem lqRX2_18_2 : lkQ RX2 18 7 2 (.array .int) := ⟨_, _, _, _, tyX2, ⟨rfl, by decide, iX2, in_I 260 (by decide +kernel), Or.inl rfl⟩, rfl, rfl, by decide +kernel, tyX2_ok, nmX2⟩
theorem dX2_init_29 : decode cX2_init 29 = .ok (.aload_n 0, 1) := by decide +kernel
theorem dX2_init_30 : decode cX2_init 30 = .ok (.sipush 240, 3) := by decide +kernel
theorem dX2_init_33 : decode cX2_init 33 = .ok (.newarray .int, 2) := by decide +kernel
theorem dX2_init_35 : decode cX2_init 35 = .ok (.putfield 21, 3) := by decide +kernel
theorem lqRX2_21_2 : lkQ RX2 21 8 2 (.array .int) := ⟨_, _, _, _, tyX2, ⟨rfl, by decide, iX2, in_I 261 (by decide +kernel), Or.inl rfl⟩, rfl, rfl, by decide +kernel, tyX2_ok, nmX2⟩
theorem dX2_init_38 : decode cX2_init 38 = .ok (.aload_n 0, 1) := by decide +kernel
theorem dX2_init_39 : decode cX2_init 39 = .ok (.bipush 8, 2) := by decide +kernel
theorem dX2_init_41 : decode cX2_init 41 = .ok (.newarray .int, 2) := by decide +kernel
theorem dX2_init_43 : decode cX2_init 43 = .ok (.putfield 24, 3) := by decide +kernel
theorem lqRX2_24_2 : lkQ RX2 24 10 2 (.array .int) := ⟨_, _, _, _, tyX2, ⟨rfl, by decide, iX2, in_I 263 (by decide +kernel), Or.inl rfl⟩, rfl, rfl, by decide +kernel, tyX2_ok, nmX2⟩
theorem dX2_init_46 : decode cX2_init 46 = .ok (.aload_n 0, 1) := by decide +kernel
theorem dX2_init_47 : decode cX2_init 47 = .ok (.bipush 32, 2) := by decide +kernel
theorem dX2_init_49 : decode cX2_init 49 = .ok (.newarray .int, 2) := by decide +kernel
theorem dX2_init_51 : decode cX2_init 51 = .ok (.putfield 27, 3) := by decide +kernel
theorem lqRX2_27_2 : lkQ RX2 27 11 2 (.array .int) := ⟨_, _, _, _, tyX2, ⟨rfl, by decide, iX2, in_I 264 (by decide +kernel), Or.inl rfl⟩, rfl, rfl, by decide +kernel, tyX2_ok, nmX2⟩
theorem dX2_init_54 : decode cX2_init 54 = .ok (.return_, 1) := by decide +kernel
theorem dX0_init_0 : decode cX0_init 0 = .ok (.aload_n 0, 1) := by decide +kernel
theorem dX0_init_1 : decode cX0_init 1 = .ok (.invokespecial 3, 3) := by decide +kernel
theorem lzORX0 : Cond.methodLink RX0 3 Lib.objectInit ∈ gd_tbl := in_I 194 (by decide +kernel)
theorem dX0_init_4 : decode cX0_init 4 = .ok (.aload_n 0, 1) := by decide +kernel
theorem dX0_init_5 : decode cX0_init 5 = .ok (.bipush 8, 2) := by decide +kernel
theorem dX0_init_7 : decode cX0_init 7 = .ok (.bipush 16, 2) := by decide +kernel
theorem dX0_init_9 : decode cX0_init 9 = .ok (.multianewarray 9 2, 4) := by decide +kernel
theorem lcRX0_9 : Cond.classLink RX0 9 "[[J" ∈ gd_tbl := in_I 195 (by decide +kernel)
theorem dX0_init_13 : decode cX0_init 13 = .ok (.putfield 11, 3) := by decide +kernel
theorem lqRX0_11_0 : lkQ RX0 11 0 0 (.array (.array .long)) := ⟨_, _, _, _, tyX0, ⟨rfl, by decide, iX0, in_I 197 (by decide +kernel), Or.inl rfl⟩, rfl, rfl, by decide +kernel, tyX0_ok, nmX0⟩
theorem dX0_init_16 : decode cX0_init 16 = .ok (.return_, 1) := by decide +kernel
theorem dX10_init_0 : decode cX10_init 0 = .ok (.aload_n 0, 1) := by decide +kernel
theorem dX10_init_1 : decode cX10_init 1 = .ok (.invokespecial 3, 3) := by decide +kernel
theorem lzORX10 : Cond.methodLink RX10 3 Lib.objectInit ∈ gd_tbl := in_I 386 (by decide +kernel)
theorem dX10_init_4 : decode cX10_init 4 = .ok (.aload_n 0, 1) := by decide +kernel
theorem dX10_init_5 : decode cX10_init 5 = .ok (.bipush 11, 2) := by decide +kernel
theorem dX10_init_7 : decode cX10_init 7 = .ok (.bipush 16, 2) := by decide +kernel
theorem dX10_init_9 : decode cX10_init 9 = .ok (.multianewarray 9 2, 4) := by decide +kernel
theorem lcRX10_9 : Cond.classLink RX10 9 "[[J" ∈ gd_tbl := in_I 387 (by decide +kernel)
theorem dX10_init_13 : decode cX10_init 13 = .ok (.putfield 11, 3) := by decide +kernel
theorem lqRX10_11_10 : lkQ RX10 11 3 10 (.array (.array .long)) := ⟨_, _, _, _, tyX10, ⟨rfl, by decide, iX10, in_I 393 (by decide +kernel), Or.inl rfl⟩, rfl, rfl, by decide +kernel, tyX10_ok, nmX10⟩
theorem dX10_init_16 : decode cX10_init 16 = .ok (.return_, 1) := by decide +kernel
theorem dX9_init_0 : decode cX9_init 0 = .ok (.aload_n 0, 1) := by decide +kernel
theorem dX9_init_1 : decode cX9_init 1 = .ok (.invokespecial 3, 3) := by decide +kernel
theorem lzORX9 : Cond.methodLink RX9 3 Lib.objectInit ∈ gd_tbl := in_I 408 (by decide +kernel)
theorem dX9_init_4 : decode cX9_init 4 = .ok (.aload_n 0, 1) := by decide +kernel
theorem dX9_init_5 : decode cX9_init 5 = .ok (.bipush 8, 2) := by decide +kernel
theorem dX9_init_7 : decode cX9_init 7 = .ok (.newarray .int, 2) := by decide +kernel
theorem dX9_init_9 : decode cX9_init 9 = .ok (.putfield 9, 3) := by decide +kernel
theorem lqRX9_9_9 : lkQ RX9 9 0 9 (.array .int) := ⟨_, _, _, _, tyX9, ⟨rfl, by decide, iX9, in_I 409 (by decide +kernel), Or.inl rfl⟩, rfl, rfl, by decide +kernel, tyX9_ok, nmX9⟩
theorem dX9_init_12 : decode cX9_init 12 = .ok (.aload_n 0, 1) := by decide +kernel
theorem dX9_init_13 : decode cX9_init 13 = .ok (.bipush 8, 2) := by decide +kernel
theorem dX9_init_15 : decode cX9_init 15 = .ok (.newarray .int, 2) := by decide +kernel
theorem dX9_init_17 : decode cX9_init 17 = .ok (.putfield 15, 3) := by decide +kernel
theorem lqRX9_15_9 : lkQ RX9 15 1 9 (.array .int) := ⟨_, _, _, _, tyX9, ⟨rfl, by decide, iX9, in_I 411 (by decide +kernel), Or.inl rfl⟩, rfl, rfl, by decide +kernel, tyX9_ok, nmX9⟩
theorem dX9_init_20 : decode cX9_init 20 = .ok (.aload_n 0, 1) := by decide +kernel
theorem dX9_init_21 : decode cX9_init 21 = .ok (.sipush 2048, 3) := by decide +kernel
theorem dX9_init_24 : decode cX9_init 24 = .ok (.newarray .int, 2) := by decide +kernel
theorem dX9_init_26 : decode cX9_init 26 = .ok (.putfield 18, 3) := by decide +kernel
theorem lqRX9_18_9 : lkQ RX9 18 2 9 (.array .int) := ⟨_, _, _, _, tyX9, ⟨rfl, by decide, iX9, in_I 413 (by decide +kernel), Or.inl rfl⟩, rfl, rfl, by decide +kernel, tyX9_ok, nmX9⟩
theorem dX9_init_29 : decode cX9_init 29 = .ok (.return_, 1) := by decide +kernel
set_option maxHeartbeats 4000000 in
set_option maxRecDepth 100000 in
theorem ctX6_init (l : Launch) (D : va_G) (tg : Nat → ClassId) (bs : Nat) (sa : Nat → Nat) (L : List AE) (a : Nat) : CtN l D tg bs sa yX6_init cX6_init 1 1 [.ref a] L L 0 0 := by
  refine CtN.of (by decide) rfl (Nat.le_of_ble_eq_true rfl) ?_
  intro V Q hVl hVd hVt hVb hVs hC hN hin hsz hcl hsl hr
  subst hVl; subst hVd; subst hVt; subst hVb; subst hVs
  show ZP V Q (0, 0) 1 (hl (vBs V) L) [(0, .ref (a))] 0 []
  refine z_aload_n hC 0 dX6_init_0 rfl rfl ?_
  refine k_objI hC lzORX6 lzOi lzOc (by decide) dX6_init_1 (Nat.le_of_ble_eq_true rfl) ?_
  exact k_vret hC hN (by rw [hsz]; rfl) hr dX6_init_4
set_option maxHeartbeats 4000000 in
set_option maxRecDepth 100000 in
theorem ctX8_init (l : Launch) (D : va_G) (tg : Nat → ClassId) (bs : Nat) (sa : Nat → Nat) (L : List AE) (j : Nat) (hj : L[j]? = some (xO 8 [.null, .int 0])) : CtN l D tg bs sa yX8_init cX8_init 1 1 [.ref (bs + j)] L (nf L j (xO 8 [.ref (bs + (L.length + 0)), .int 0]) [xA 1 260 a0I]) 1 260 := by
  refine CtN.of (by decide) rfl (Nat.le_of_ble_eq_true rfl) ?_
  intro V Q hVl hVd hVt hVb hVs hC hN hin hsz hcl hsl hr
  subst hVl; subst hVd; subst hVt; subst hVb; subst hVs
  show ZP V Q (0, 0) 1 (hl (vBs V) L) [(0, .ref (vBs V + j))] 0 []
  have hjl : j < L.length := (List.getElem?_eq_some_iff.mp hj).1
  refine f_cast (nf_nil hj) ?_
  refine z_aload_n hC 0 dX8_init_0 rfl rfl ?_
  refine k_objI hC lzORX8 lzOi lzOc (by decide) dX8_init_1 (Nat.le_of_ble_eq_true rfl) ?_
  refine z_aload_n hC 0 dX8_init_4 rfl rfl ?_
  refine z_sipush hC (260 : Int32) dX8_init_5 (by decide) ?_
  refine f_newa (t := 1) (N := 260) (ty := .byte) (a0 := .inl (fun _ => 0)) 0 rfl hC hjl hsz rfl (fun _ => rfl) (fun _ _ h => h) lzA_byte rfl (fun _ => rfl) (by decide) (by decide) (by decide) ⟨by rw [hcl]; decide, by rw [hsl]; decide⟩ dX8_init_8 ?_
  refine f_putF (k := 0) (v := .ref (vBs V + (L.length + 0))) hC hin hjl lqRX8_9_8 (Nat.le_of_ble_eq_true rfl) rfl rfl dX8_init_10 ?_
  exact k_vret hC hN (f_hz hjl hsz rfl) hr dX8_init_13
set_option maxHeartbeats 4000000 in
set_option maxRecDepth 100000 in
theorem ctX4_init1 (l : Launch) (D : va_G) (tg : Nat → ClassId) (bs : Nat) (sa : Nat → Nat) (L : List AE) (j : Nat) (hj : L[j]? = some (xO 1 [.null, .int 0, .int 0, .int 0, .null, .int 0])) (x : Nat) : CtN l D tg bs sa yX4_init cX4_init 2 1 [.ref (bs + j), .ref x] L (nf L j (xO 1 [.ref (x), .int 0, .int 0, .int 0, .null, .int 0]) []) 0 0 := by
  refine CtN.of (by decide) rfl (Nat.le_of_ble_eq_true rfl) ?_
  intro V Q hVl hVd hVt hVb hVs hC hN hin hsz hcl hsl hr
  subst hVl; subst hVd; subst hVt; subst hVb; subst hVs
  show ZP V Q (0, 0) 2 (hl (vBs V) L) [(0, .ref (vBs V + j)), (1, .ref (x))] 0 []
  have hjl : j < L.length := (List.getElem?_eq_some_iff.mp hj).1
  refine f_cast (nf_nil hj) ?_
  refine z_aload_n hC 0 dX4_init_0 rfl rfl ?_
  refine k_objI hC lzORX4 lzOi lzOc (by decide) dX4_init_1 (Nat.le_of_ble_eq_true rfl) ?_
  refine z_aload_n hC 0 dX4_init_4 rfl rfl ?_
  refine z_aload_n hC 1 dX4_init_5 rfl rfl ?_
  refine f_putF (k := 0) (v := .ref (x)) hC hin hjl lqRX4_9_1 (Nat.le_of_ble_eq_true rfl) rfl rfl dX4_init_6 ?_
  exact k_vret hC hN (f_hz hjl hsz rfl) hr dX4_init_9
set_option maxHeartbeats 4000000 in
set_option maxRecDepth 100000 in
theorem ctX4_init2 (l : Launch) (D : va_G) (tg : Nat → ClassId) (bs : Nat) (sa : Nat → Nat) (L : List AE) (j : Nat) (hj : L[j]? = some (xO 2 [.null, .int 0, .int 0, .int 0, .int 0, .null, .null, .null, .null, .int 0, .null, .null, .int 0])) (x : Nat) : CtN l D tg bs sa yX4_init cX4_init 2 1 [.ref (bs + j), .ref x] L (nf L j (xO 2 [.ref (x), .int 0, .int 0, .int 0, .int 0, .null, .null, .null, .null, .int 0, .null, .null, .int 0]) []) 0 0 := by
  refine CtN.of (by decide) rfl (Nat.le_of_ble_eq_true rfl) ?_
  intro V Q hVl hVd hVt hVb hVs hC hN hin hsz hcl hsl hr
  subst hVl; subst hVd; subst hVt; subst hVb; subst hVs
  show ZP V Q (0, 0) 2 (hl (vBs V) L) [(0, .ref (vBs V + j)), (1, .ref (x))] 0 []
  have hjl : j < L.length := (List.getElem?_eq_some_iff.mp hj).1
  refine f_cast (nf_nil hj) ?_
  refine z_aload_n hC 0 dX4_init_0 rfl rfl ?_
  refine k_objI hC lzORX4 lzOi lzOc (by decide) dX4_init_1 (Nat.le_of_ble_eq_true rfl) ?_
  refine z_aload_n hC 0 dX4_init_4 rfl rfl ?_
  refine z_aload_n hC 1 dX4_init_5 rfl rfl ?_
  refine f_putF (k := 0) (v := .ref (x)) hC hin hjl lqRX4_9_2 (Nat.le_of_ble_eq_true rfl) rfl rfl dX4_init_6 ?_
  exact k_vret hC hN (f_hz hjl hsz rfl) hr dX4_init_9
set_option maxHeartbeats 4000000 in
set_option maxRecDepth 100000 in
theorem ctX1_init (l : Launch) (D : va_G) (tg : Nat → ClassId) (bs : Nat) (sa : Nat → Nat) (L : List AE) (j : Nat) (hj : L[j]? = some (xO 1 [.null, .int 0, .int 0, .int 0, .null, .int 0])) (x : Nat) : CtN l D tg bs sa yX1_init cX1_init 2 2 [.ref (bs + j), .ref x] L (nf L j (xO 1 [.ref (x), .int 0, .int 0, .int 0, .ref (bs + (L.length + 0)), .int 0]) [xA 3 16 a0L]) 1 16 := by
  refine CtN.of (by decide) rfl (Nat.le_of_ble_eq_true rfl) ?_
  intro V Q hVl hVd hVt hVb hVs hC hN hin hsz hcl hsl hr
  subst hVl; subst hVd; subst hVt; subst hVb; subst hVs
  show ZP V Q (0, 0) 2 (hl (vBs V) L) [(0, .ref (vBs V + j)), (1, .ref (x))] 0 []
  have hjl : j < L.length := (List.getElem?_eq_some_iff.mp hj).1
  refine f_cast (nf_nil hj) ?_
  refine z_aload_n hC 0 dX1_init_0 rfl rfl ?_
  refine z_aload_n hC 1 dX1_init_1 rfl rfl ?_
  refine f_cast (nf_nil hj).symm ?_
  refine k_callI hC hN (by rw [hsz]; rfl) loRX1_3 (ctX4_init1 (vLa V) (vDa V) (vTg V) (vBs V) (vSa V) L j hj (x)) (by decide) ⟨by rw [hcl]; decide, by rw [hsl]; decide⟩ dX1_init_2 rfl rfl (Nat.le_of_ble_eq_true rfl) ?_
  refine z_aload_n hC 0 dX1_init_5 rfl rfl ?_
  refine z_bipush hC (16 : Int32) dX1_init_6 (by decide) ?_
  refine f_newa (t := 3) (N := 16) (ty := .long) (a0 := .inr (.inl (fun _ => 0))) 0 rfl hC hjl hsz rfl (fun _ => rfl) (fun _ _ h => h) lzA_long rfl (fun _ => rfl) (by decide) (by decide) (by decide) ⟨by rw [hcl]; decide, by rw [hsl]; decide⟩ dX1_init_8 ?_
  refine f_putF (k := 4) (v := .ref (vBs V + (L.length + 0))) hC hin hjl lqRX1_9_1 (Nat.le_of_ble_eq_true rfl) rfl rfl dX1_init_10 ?_
  exact k_vret hC hN (f_hz hjl hsz rfl) hr dX1_init_13
set_option maxHeartbeats 4000000 in
set_option maxRecDepth 100000 in
theorem ctX2_init (l : Launch) (D : va_G) (tg : Nat → ClassId) (bs : Nat) (sa : Nat → Nat) (L : List AE) (j : Nat) (hj : L[j]? = some (xO 2 [.null, .int 0, .int 0, .int 0, .int 0, .null, .null, .null, .null, .int 0, .null, .null, .int 0])) (x : Nat) : CtN l D tg bs sa yX2_init cX2_init 2 2 [.ref (bs + j), .ref x] L (nf L j (xO 2 [.ref (x), .int 0, .int 0, .int 0, .int 0, .ref (bs + (L.length + 0)), .ref (bs + (L.length + 1)), .ref (bs + (L.length + 2)), .ref (bs + (L.length + 3)), .int 0, .ref (bs + (L.length + 4)), .ref (bs + (L.length + 5)), .int 0]) [xA 0 16 a0I, xA 0 16 a0I, xA 0 16 a0I, xA 0 240 a0I, xA 0 8 a0I, xA 0 32 a0I]) 6 328 := by
  refine CtN.of (by decide) rfl (Nat.le_of_ble_eq_true rfl) ?_
  intro V Q hVl hVd hVt hVb hVs hC hN hin hsz hcl hsl hr
  subst hVl; subst hVd; subst hVt; subst hVb; subst hVs
  show ZP V Q (0, 0) 2 (hl (vBs V) L) [(0, .ref (vBs V + j)), (1, .ref (x))] 0 []
  have hjl : j < L.length := (List.getElem?_eq_some_iff.mp hj).1
  refine f_cast (nf_nil hj) ?_
  refine z_aload_n hC 0 dX2_init_0 rfl rfl ?_
  refine z_aload_n hC 1 dX2_init_1 rfl rfl ?_
  refine f_cast (nf_nil hj).symm ?_
  refine k_callI hC hN (by rw [hsz]; rfl) loRX2_3 (ctX4_init2 (vLa V) (vDa V) (vTg V) (vBs V) (vSa V) L j hj (x)) (by decide) ⟨by rw [hcl]; decide, by rw [hsl]; decide⟩ dX2_init_2 rfl rfl (Nat.le_of_ble_eq_true rfl) ?_
  refine z_aload_n hC 0 dX2_init_5 rfl rfl ?_
  refine z_bipush hC (16 : Int32) dX2_init_6 (by decide) ?_
  refine f_newa (t := 0) (N := 16) (ty := .int) (a0 := .inl (fun _ => 0)) 0 rfl hC hjl hsz rfl (fun _ => rfl) (fun _ _ h => h) lzA_int rfl (fun _ => rfl) (by decide) (by decide) (by decide) ⟨by rw [hcl]; decide, by rw [hsl]; decide⟩ dX2_init_8 ?_
  refine f_putF (k := 5) (v := .ref (vBs V + (L.length + 0))) hC hin hjl lqRX2_9_2 (Nat.le_of_ble_eq_true rfl) rfl rfl dX2_init_10 ?_
  refine z_aload_n hC 0 dX2_init_13 rfl rfl ?_
  refine z_bipush hC (16 : Int32) dX2_init_14 (by decide) ?_
  refine f_newa (t := 0) (N := 16) (ty := .int) (a0 := .inl (fun _ => 0)) 1 rfl hC hjl hsz rfl (fun _ => rfl) (fun _ _ h => h) lzA_int rfl (fun _ => rfl) (by decide) (by decide) (by decide) ⟨by rw [hcl]; decide, by rw [hsl]; decide⟩ dX2_init_16 ?_
  refine f_putF (k := 6) (v := .ref (vBs V + (L.length + 1))) hC hin hjl lqRX2_15_2 (Nat.le_of_ble_eq_true rfl) rfl rfl dX2_init_18 ?_
  refine z_aload_n hC 0 dX2_init_21 rfl rfl ?_
  refine z_bipush hC (16 : Int32) dX2_init_22 (by decide) ?_
  refine f_newa (t := 0) (N := 16) (ty := .int) (a0 := .inl (fun _ => 0)) 2 rfl hC hjl hsz rfl (fun _ => rfl) (fun _ _ h => h) lzA_int rfl (fun _ => rfl) (by decide) (by decide) (by decide) ⟨by rw [hcl]; decide, by rw [hsl]; decide⟩ dX2_init_24 ?_
  refine f_putF (k := 7) (v := .ref (vBs V + (L.length + 2))) hC hin hjl lqRX2_18_2 (Nat.le_of_ble_eq_true rfl) rfl rfl dX2_init_26 ?_
  refine z_aload_n hC 0 dX2_init_29 rfl rfl ?_
  refine z_sipush hC (240 : Int32) dX2_init_30 (by decide) ?_
  refine f_newa (t := 0) (N := 240) (ty := .int) (a0 := .inl (fun _ => 0)) 3 rfl hC hjl hsz rfl (fun _ => rfl) (fun _ _ h => h) lzA_int rfl (fun _ => rfl) (by decide) (by decide) (by decide) ⟨by rw [hcl]; decide, by rw [hsl]; decide⟩ dX2_init_33 ?_
  refine f_putF (k := 8) (v := .ref (vBs V + (L.length + 3))) hC hin hjl lqRX2_21_2 (Nat.le_of_ble_eq_true rfl) rfl rfl dX2_init_35 ?_
  refine z_aload_n hC 0 dX2_init_38 rfl rfl ?_
  refine z_bipush hC (8 : Int32) dX2_init_39 (by decide) ?_
  refine f_newa (t := 0) (N := 8) (ty := .int) (a0 := .inl (fun _ => 0)) 4 rfl hC hjl hsz rfl (fun _ => rfl) (fun _ _ h => h) lzA_int rfl (fun _ => rfl) (by decide) (by decide) (by decide) ⟨by rw [hcl]; decide, by rw [hsl]; decide⟩ dX2_init_41 ?_
  refine f_putF (k := 10) (v := .ref (vBs V + (L.length + 4))) hC hin hjl lqRX2_24_2 (Nat.le_of_ble_eq_true rfl) rfl rfl dX2_init_43 ?_
  refine z_aload_n hC 0 dX2_init_46 rfl rfl ?_
  refine z_bipush hC (32 : Int32) dX2_init_47 (by decide) ?_
  refine f_newa (t := 0) (N := 32) (ty := .int) (a0 := .inl (fun _ => 0)) 5 rfl hC hjl hsz rfl (fun _ => rfl) (fun _ _ h => h) lzA_int rfl (fun _ => rfl) (by decide) (by decide) (by decide) ⟨by rw [hcl]; decide, by rw [hsl]; decide⟩ dX2_init_49 ?_
  refine f_putF (k := 11) (v := .ref (vBs V + (L.length + 5))) hC hin hjl lqRX2_27_2 (Nat.le_of_ble_eq_true rfl) rfl rfl dX2_init_51 ?_
  exact k_vret hC hN (f_hz hjl hsz rfl) hr dX2_init_54
set_option maxHeartbeats 4000000 in
set_option maxRecDepth 100000 in
theorem ctX0_init (l : Launch) (D : va_G) (tg : Nat → ClassId) (bs : Nat) (sa : Nat → Nat) (L : List AE) (j : Nat) (hj : L[j]? = some (xO 0 [.null, .int 0])) : CtN l D tg bs sa yX0_init cX0_init 1 1 [.ref (bs + j)] L (nf L j (xO 0 [.ref (bs + (L.length + 0)), .int 0]) [xA 4 8 (aRow (bs) (L.length + 0)), aL0, aL0, aL0, aL0, aL0, aL0, aL0, aL0]) 9 136 := by
  refine CtN.of (by decide) rfl (Nat.le_of_ble_eq_true rfl) ?_
  intro V Q hVl hVd hVt hVb hVs hC hN hin hsz hcl hsl hr
  subst hVl; subst hVd; subst hVt; subst hVb; subst hVs
  show ZP V Q (0, 0) 1 (hl (vBs V) L) [(0, .ref (vBs V + j))] 0 []
  have hjl : j < L.length := (List.getElem?_eq_some_iff.mp hj).1
  refine f_cast (nf_nil hj) ?_
  refine z_aload_n hC 0 dX0_init_0 rfl rfl ?_
  refine k_objI hC lzORX0 lzOi lzOc (by decide) dX0_init_1 (Nat.le_of_ble_eq_true rfl) ?_
  refine z_aload_n hC 0 dX0_init_4 rfl rfl ?_
  refine z_bipush hC (8 : Int32) dX0_init_5 (by decide) ?_
  refine z_bipush hC (16 : Int32) dX0_init_7 (by decide) ?_
  refine f_multi (N := 8) 0 rfl hC hN hjl hsz rfl lcRX0_9 lzA_long (by decide) (by decide) (by decide) (by decide) ⟨by rw [hcl]; decide, by rw [hsl]; decide⟩ dX0_init_9 ?_
  refine f_putF (k := 0) (v := .ref (vBs V + (L.length + 0))) hC hin hjl lqRX0_11_0 (Nat.le_of_ble_eq_true rfl) rfl rfl dX0_init_13 ?_
  exact k_vret hC hN (f_hz hjl hsz rfl) hr dX0_init_16
set_option maxHeartbeats 4000000 in
set_option maxRecDepth 100000 in
theorem ctX10_init (l : Launch) (D : va_G) (tg : Nat → ClassId) (bs : Nat) (sa : Nat → Nat) (L : List AE) (j : Nat) (hj : L[j]? = some (xO 10 [.int 0, .int 0, .int 0, .null])) : CtN l D tg bs sa yX10_init cX10_init 1 1 [.ref (bs + j)] L (nf L j (xO 10 [.int 0, .int 0, .int 0, .ref (bs + (L.length + 0))]) [xA 4 11 (aRow (bs) (L.length + 0)), aL0, aL0, aL0, aL0, aL0, aL0, aL0, aL0, aL0, aL0, aL0]) 12 187 := by
  refine CtN.of (by decide) rfl (Nat.le_of_ble_eq_true rfl) ?_
  intro V Q hVl hVd hVt hVb hVs hC hN hin hsz hcl hsl hr
  subst hVl; subst hVd; subst hVt; subst hVb; subst hVs
  show ZP V Q (0, 0) 1 (hl (vBs V) L) [(0, .ref (vBs V + j))] 0 []
  have hjl : j < L.length := (List.getElem?_eq_some_iff.mp hj).1
  refine f_cast (nf_nil hj) ?_
  refine z_aload_n hC 0 dX10_init_0 rfl rfl ?_
  refine k_objI hC lzORX10 lzOi lzOc (by decide) dX10_init_1 (Nat.le_of_ble_eq_true rfl) ?_
  refine z_aload_n hC 0 dX10_init_4 rfl rfl ?_
  refine z_bipush hC (11 : Int32) dX10_init_5 (by decide) ?_
  refine z_bipush hC (16 : Int32) dX10_init_7 (by decide) ?_
  refine f_multi (N := 11) 0 rfl hC hN hjl hsz rfl lcRX10_9 lzA_long (by decide) (by decide) (by decide) (by decide) ⟨by rw [hcl]; decide, by rw [hsl]; decide⟩ dX10_init_9 ?_
  refine f_putF (k := 3) (v := .ref (vBs V + (L.length + 0))) hC hin hjl lqRX10_11_10 (Nat.le_of_ble_eq_true rfl) rfl rfl dX10_init_13 ?_
  exact k_vret hC hN (f_hz hjl hsz rfl) hr dX10_init_16
set_option maxHeartbeats 4000000 in
set_option maxRecDepth 100000 in
theorem ctX9_init (l : Launch) (D : va_G) (tg : Nat → ClassId) (bs : Nat) (sa : Nat → Nat) (L : List AE) (j : Nat) (hj : L[j]? = some (xO 9 [.null, .null, .null])) : CtN l D tg bs sa yX9_init cX9_init 1 1 [.ref (bs + j)] L (nf L j (xO 9 [.ref (bs + (L.length + 0)), .ref (bs + (L.length + 1)), .ref (bs + (L.length + 2))]) [xA 0 8 a0I, xA 0 8 a0I, xA 0 2048 a0I]) 3 2064 := by
  refine CtN.of (by decide) rfl (Nat.le_of_ble_eq_true rfl) ?_
  intro V Q hVl hVd hVt hVb hVs hC hN hin hsz hcl hsl hr
  subst hVl; subst hVd; subst hVt; subst hVb; subst hVs
  show ZP V Q (0, 0) 1 (hl (vBs V) L) [(0, .ref (vBs V + j))] 0 []
  have hjl : j < L.length := (List.getElem?_eq_some_iff.mp hj).1
  refine f_cast (nf_nil hj) ?_
  refine z_aload_n hC 0 dX9_init_0 rfl rfl ?_
  refine k_objI hC lzORX9 lzOi lzOc (by decide) dX9_init_1 (Nat.le_of_ble_eq_true rfl) ?_
  refine z_aload_n hC 0 dX9_init_4 rfl rfl ?_
  refine z_bipush hC (8 : Int32) dX9_init_5 (by decide) ?_
  refine f_newa (t := 0) (N := 8) (ty := .int) (a0 := .inl (fun _ => 0)) 0 rfl hC hjl hsz rfl (fun _ => rfl) (fun _ _ h => h) lzA_int rfl (fun _ => rfl) (by decide) (by decide) (by decide) ⟨by rw [hcl]; decide, by rw [hsl]; decide⟩ dX9_init_7 ?_
  refine f_putF (k := 0) (v := .ref (vBs V + (L.length + 0))) hC hin hjl lqRX9_9_9 (Nat.le_of_ble_eq_true rfl) rfl rfl dX9_init_9 ?_
  refine z_aload_n hC 0 dX9_init_12 rfl rfl ?_
  refine z_bipush hC (8 : Int32) dX9_init_13 (by decide) ?_
  refine f_newa (t := 0) (N := 8) (ty := .int) (a0 := .inl (fun _ => 0)) 1 rfl hC hjl hsz rfl (fun _ => rfl) (fun _ _ h => h) lzA_int rfl (fun _ => rfl) (by decide) (by decide) (by decide) ⟨by rw [hcl]; decide, by rw [hsl]; decide⟩ dX9_init_15 ?_
  refine f_putF (k := 1) (v := .ref (vBs V + (L.length + 1))) hC hin hjl lqRX9_15_9 (Nat.le_of_ble_eq_true rfl) rfl rfl dX9_init_17 ?_
  refine z_aload_n hC 0 dX9_init_20 rfl rfl ?_
  refine z_sipush hC (2048 : Int32) dX9_init_21 (by decide) ?_
  refine f_newa (t := 0) (N := 2048) (ty := .int) (a0 := .inl (fun _ => 0)) 2 rfl hC hjl hsz rfl (fun _ => rfl) (fun _ _ h => h) lzA_int rfl (fun _ => rfl) (by decide) (by decide) (by decide) ⟨by rw [hcl]; decide, by rw [hsl]; decide⟩ dX9_init_24 ?_
  refine f_putF (k := 2) (v := .ref (vBs V + (L.length + 2))) hC hin hjl lqRX9_18_9 (Nat.le_of_ble_eq_true rfl) rfl rfl dX9_init_26 ?_
  exact k_vret hC hN (f_hz hjl hsz rfl) hr dX9_init_29
