/-! constructors: rows for loops and rows of references -/
section
variable {L cs : List AE} {j : Nat} {o x : AE}
theorem nf_at2 {p : Nat} : (nf L j o cs)[L.length + p]? = cs[p]? := by
  unfold nf
  rw [List.getElem?_append_right (by rw [List.length_set]; exact Nat.le_add_right _ _), List.length_set, Nat.add_sub_cancel_left]
theorem nf_set2 {p : Nat} : (nf L j o cs).set (L.length + p) x = nf L j o (cs.set p x) := by
  unfold nf
  rw [List.set_append_right _ _ (by rw [List.length_set]; exact Nat.le_add_right _ _), List.length_set, Nat.add_sub_cancel_left]
variable {V : VT} {Q : State → Prop} {n : Nat × Nat} {nL : Nat} {hp : HP} {lv : List (Nat × Value)} {pc : Nat} {st : List Value} {cc : ByteArray} {own : String} {ret : Option FieldType} {Lv : Nat}
theorem k_ge_no {a b : Int32} {off : Int} (tgt : Nat) (hC : CX V cc own nL ret Lv) (h : ¬ b ≤ a) (hd : decode cc pc = .ok (.if_icmp .ge off, 3)) (ht : (pc : Int) + off = (tgt : Int)) (kk : ZP V Q n nL hp lv (pc + 3) st) : ZP V Q n nL hp lv pc (.int b :: .int a :: st) := by
  have := z_icmp_ge (a := none) (b := some ()) (inst := inferInstance) (C := fun _ => True) (Q := Q) (n := n) (hp := hp) (lv := lv) (st := st) (x := a) (y := b) hC tgt hd ht (fun _ => z_none) (fun _ => kk)
  rw [if_neg h] at this
  exact this
theorem k_ge_yes {a b : Int32} {off : Int} (tgt : Nat) (hC : CX V cc own nL ret Lv) (h : b ≤ a) (hd : decode cc pc = .ok (.if_icmp .ge off, 3)) (ht : (pc : Int) + off = (tgt : Int)) (kk : ZP V Q n nL hp lv tgt st) : ZP V Q n nL hp lv pc (.int b :: .int a :: st) := by
  have := z_icmp_ge (a := some ()) (b := none) (inst := inferInstance) (C := fun _ => True) (Q := Q) (n := n) (hp := hp) (lv := lv) (st := st) (x := a) (y := b) hC tgt hd ht (fun _ => kk) (fun _ => z_none)
  rw [if_pos h] at this
  exact this
theorem f_getR {i k ci v : Nat} {fs : List Value} (hC : CX V cc own nL ret Lv) (hjl : j < L.length) (hk : lkA own i k [ci]) (hv : fs[k]? = some (.ref v)) (hd : decode cc pc = .ok (.getfield i, 3)) (kk : ZP V Q n nL (hl (vBs V) (nf L j (xO ci fs) cs)) lv (pc + 3) (.ref v :: st)) : ZP V Q n nL (hl (vBs V) (nf L j (xO ci fs) cs)) lv pc (.ref (vBs V + j) :: st) :=
  zq (fun _ => hl (vBs V) (nf L j (xO ci fs) cs)) (fun w => .ref w :: st) (gR_hl (nf_at hjl) (List.mem_cons_self) hv) (fun kf kk => z_getR hC hk hd kk) kk
theorem f_alen {p t N : Nat} {a0 : (Nat → Int32) ⊕ (Nat → Int64) ⊕ (Nat → UInt32) ⊕ (Nat → UInt64) ⊕ (Nat → Option Nat)} (hC : CX V cc own nL ret Lv) (ht : t < 6) (hp2 : cs[p]? = some (xA t N a0)) (hd : decode cc pc = .ok (.arraylength, 1)) (kk : ZP V Q n nL (hl (vBs V) (nf L j o cs)) lv (pc + 1) (.int (Int32.ofNat N) :: st)) : ZP V Q n nL (hl (vBs V) (nf L j o cs)) lv pc (.ref (vBs V + (L.length + p)) :: st) := by
  refine zq (fun _ => hl (vBs V) (nf L j o cs)) (fun w => .int w :: st) (v := Int32.ofNat N) (o := alN t (hl (vBs V) (nf L j o cs)) (vBs V + (L.length + p))) ?_ (fun kf kk => z_alen hC t ht hd kk) kk
  unfold alN
  rw [hl_at, nf_at2, hp2]
  show (if t = t then some (Int32.ofNat N) else none) = _
  rw [if_pos rfl]
theorem f_new {i ci N : Nat} {T : u_T} {C0 : String} {fs : List Value} (z : Nat) (hzc : cs.length = z) (hC : CX V cc own nL ret Lv) (hjl : j < L.length) (hsz : (vSt V).heap.size = vBs V + L.length) (hn1 : n.1 = cs.length) (hcl : cls[ci]? = some (C0, T, N)) (hin : ∀ w ∈ u_ws C0 T N, w ∈ gd_tbl) (ty : Nat → FieldType) (hty : ∀ k, k < N → parseFieldDescriptor (T k).2.2.1 = some (ty k)) (h1 : Cond.classLink own i C0 ∈ gd_tbl) (h2 : Cond.instantiable C0 N ∈ gd_tbl) (h3 : Cond.initialized C0 ∈ gd_tbl) (hfs : ∀ j, j < N → defaultValue (ty j) = vp_V fs j) (hn : n.1 + 1 ≤ (vRo V).cells ∧ n.2 + N ≤ (vRo V).slots) (hd : decode cc pc = .ok (.new i, 3))
    (kk : ZP V Q (n.1 + 1, n.2 + N) nL (hl (vBs V) (nf L j o (cs ++ [xO ci fs]))) lv (pc + 3) (.ref (vBs V + (L.length + z)) :: st)) : ZP V Q n nL (hl (vBs V) (nf L j o cs)) lv pc st := by
  refine k_new hC (f_hz hjl hsz hn1) hcl hin ty hty h1 h2 h3 hfs hn hd ?_
  rw [nf_len, hzc, nf_push]
  exact kk
theorem f_aast {p pv N : Nat} {fs : List Value} {f : Nat → Option Nat} {iv : Int32} (hC : CX V cc own nL ret Lv) (hp2 : cs[p]? = some (xA 5 N (.inr (.inr (.inr (.inr f)))))) (hv : cs[pv]? = some (xO 6 fs)) (hin : vp_in iv N) (hd : decode cc pc = .ok (.aastore, 1)) (kk : ZP V Q n nL (hl (vBs V) (nf L j o (cs.set p (xA 5 N (.inr (.inr (.inr (.inr (va_up f iv.toNatClampNeg (some (vBs V + (L.length + pv)))))))))))) lv (pc + 1) st) : ZP V Q n nL (hl (vBs V) (nf L j o cs)) lv pc (.ref (vBs V + (L.length + pv)) :: .int iv :: .ref (vBs V + (L.length + p)) :: st) := by
  refine k_aast (N := N) (f := f) hC (nf_at2.trans hp2) (nf_at2.trans hv) hin hd ?_
  rw [nf_set2]
  exact kk
/-- another text of the same row of references -/
theorem f_row {p N : Nat} {f f' : Nat → Option Nat} (hp2 : cs[p]? = some (xA 5 N (.inr (.inr (.inr (.inr f)))))) (hf : ∀ i, i < N → f i = f' i) (kk : ZP V Q n nL (hl (vBs V) (nf L j o (cs.set p (xA 5 N (.inr (.inr (.inr (.inr f')))))))) lv pc st) : ZP V Q n nL (hl (vBs V) (nf L j o cs)) lv pc st := by
  intro u hu hc H locs ls hT hls
  refine kk u hu hc H locs ls ⟨⟨fun q x hq => ?_, fun q x hq => ?_⟩, hT.2⟩ hls
  · rw [← nf_set2] at hq
    have hlt : L.length + p < (nf L j o cs).length := by
      rw [nf_len]
      have := (List.getElem?_eq_some_iff.mp hp2).1
      omega
    rw [← hl_up hlt] at hq
    unfold upH at hq
    split at hq
    · rename_i e
      cases hq
      have := hT.1.1 (vBs V + (L.length + p)) (xA 5 N (.inr (.inr (.inr (.inr f))))) (by rw [hl_at, nf_at2]; exact hp2)
      rw [e]
      have e2 : H[vBs V + (L.length + p)]? = some (arrV (vTg V 5) N (fun i => va_rf (f i))) := this
      show H[vBs V + (L.length + p)]? = some (arrV (vTg V 5) N (fun i => va_rf (f' i)))
      rw [e2]
      congr 1
      unfold arrV
      congr 1
      apply Array.ext
      · simp
      · intro i h1 h2
        have : i < N := by simpa using h1
        simp [hf i this]
    · exact hT.1.1 q x hq
  · unfold hl at hq
    split at hq
    · rename_i c; exact c
    · cases hq
end
theorem dX5_init_0 : decode cX5_init 0 = .ok (.aload_n 0, 1) := by decide +kernel
theorem dX5_init_1 : decode cX5_init 1 = .ok (.invokespecial 3, 3) := by decide +kernel
theorem lzORX5 : Cond.methodLink RX5 3 Lib.objectInit ∈ gd_tbl := in_I 292 (by decide +kernel)
theorem dX5_init_4 : decode cX5_init 4 = .ok (.aload_n 0, 1) := by decide +kernel
theorem dX5_init_5 : decode cX5_init 5 = .ok (.iconst 5, 1) := by decide +kernel
theorem dX5_init_6 : decode cX5_init 6 = .ok (.newarray .int, 2) := by decide +kernel
theorem dX5_init_8 : decode cX5_init 8 = .ok (.putfield 9, 3) := by decide +kernel
theorem lqRX5_9_5 : lkQ RX5 9 7 5 (.array .int) := ⟨_, _, _, _, tyX5, ⟨rfl, by decide, iX5, in_I 346 (by decide +kernel), Or.inl rfl⟩, rfl, rfl, by decide +kernel, tyX5_ok, nmX5⟩
theorem dX5_init_11 : decode cX5_init 11 = .ok (.aload_n 0, 1) := by decide +kernel
theorem dX5_init_12 : decode cX5_init 12 = .ok (.iconst 5, 1) := by decide +kernel
theorem dX5_init_13 : decode cX5_init 13 = .ok (.newarray .int, 2) := by decide +kernel
theorem dX5_init_15 : decode cX5_init 15 = .ok (.putfield 15, 3) := by decide +kernel
theorem lqRX5_15_5 : lkQ RX5 15 8 5 (.array .int) := ⟨_, _, _, _, tyX5, ⟨rfl, by decide, iX5, in_I 348 (by decide +kernel), Or.inl rfl⟩, rfl, rfl, by decide +kernel, tyX5_ok, nmX5⟩
theorem dX5_init_18 : decode cX5_init 18 = .ok (.aload_n 0, 1) := by decide +kernel
theorem dX5_init_19 : decode cX5_init 19 = .ok (.bipush 6, 2) := by decide +kernel
theorem dX5_init_21 : decode cX5_init 21 = .ok (.anewarray 18, 3) := by decide +kernel
theorem lcRX5_18 : Cond.classLink RX5 18 "PactYears$Standing" ∈ gd_tbl := in_I 293 (by decide +kernel)
theorem dX5_init_24 : decode cX5_init 24 = .ok (.putfield 20, 3) := by decide +kernel
theorem lqRX5_20_5 : lkQ RX5 20 12 5 (.array (.object "PactYears$Standing")) := ⟨_, _, _, _, tyX5, ⟨rfl, by decide, iX5, in_I 353 (by decide +kernel), Or.inl rfl⟩, rfl, rfl, by decide +kernel, tyX5_ok, nmX5⟩
theorem dX5_init_27 : decode cX5_init 27 = .ok (.aload_n 0, 1) := by decide +kernel
theorem dX5_init_28 : decode cX5_init 28 = .ok (.aload_n 1, 1) := by decide +kernel
theorem dX5_init_29 : decode cX5_init 29 = .ok (.putfield 24, 3) := by decide +kernel
theorem lpnRX5_24 : lkP RX5 24 0 [5] (.object "PactYears$Law") := fun ci h => by
  simp only [List.mem_cons, List.not_mem_nil, or_false] at h
  subst h; exact ⟨_, _, _, _, tyX5, ⟨rfl, by decide, iX5, in_I 332 (by decide +kernel), Or.inl rfl⟩, rfl, by decide +kernel, tyX5_ok, nmX5⟩
theorem dX5_init_32 : decode cX5_init 32 = .ok (.aload_n 0, 1) := by decide +kernel
theorem dX5_init_33 : decode cX5_init 33 = .ok (.aload_n 2, 1) := by decide +kernel
theorem dX5_init_34 : decode cX5_init 34 = .ok (.putfield 28, 3) := by decide +kernel
theorem lqRX5_28_5 : lkQ RX5 28 9 5 (.object "PactYears$Book") := ⟨_, _, _, _, tyX5, ⟨rfl, by decide, iX5, in_I 350 (by decide +kernel), Or.inl rfl⟩, rfl, rfl, by decide +kernel, tyX5_ok, nmX5⟩
theorem dX5_init_37 : decode cX5_init 37 = .ok (.aload_n 0, 1) := by decide +kernel
theorem dX5_init_38 : decode cX5_init 38 = .ok (.aload_n 3, 1) := by decide +kernel
theorem dX5_init_39 : decode cX5_init 39 = .ok (.putfield 32, 3) := by decide +kernel
theorem lqRX5_32_5 : lkQ RX5 32 10 5 (.array .long) := ⟨_, _, _, _, tyX5, ⟨rfl, by decide, iX5, in_I 351 (by decide +kernel), Or.inl rfl⟩, rfl, rfl, by decide +kernel, tyX5_ok, nmX5⟩
theorem dX5_init_42 : decode cX5_init 42 = .ok (.aload_n 0, 1) := by decide +kernel
theorem dX5_init_43 : decode cX5_init 43 = .ok (.aload 4, 2) := by decide +kernel
theorem dX5_init_45 : decode cX5_init 45 = .ok (.putfield 36, 3) := by decide +kernel
theorem lqRX5_36_5 : lkQ RX5 36 11 5 (.object "PactYears$Prices") := ⟨_, _, _, _, tyX5, ⟨rfl, by decide, iX5, in_I 352 (by decide +kernel), Or.inl rfl⟩, rfl, rfl, by decide +kernel, tyX5_ok, nmX5⟩
theorem dX5_init_48 : decode cX5_init 48 = .ok (.iconst 0, 1) := by decide +kernel
theorem dX5_init_49 : decode cX5_init 49 = .ok (.istore 5, 2) := by decide +kernel
theorem lgnRX5_20 : lkA RX5 20 12 [5] := fun ci h => by
  simp only [List.mem_cons, List.not_mem_nil, or_false] at h
  subst h; exact ⟨_, _, _, _, ⟨rfl, by decide, iX5, in_I 353 (by decide +kernel), Or.inl rfl⟩⟩
theorem lnS6 : Cond.instantiable RX6 6 ∈ gd_tbl := in_I 295 (by decide +kernel)
theorem lnI6 : Cond.initialized RX6 ∈ gd_tbl := in_I 112 (by decide +kernel)
theorem dfX6 : ∀ j, j < 6 → defaultValue (tyX6 j) = vp_V [.int 0, .int 0, .int 0, .int 0, .int 0, .int 0] j := by decide
theorem loRX5_40 : okIN RX5 40 yX6_init cX6_init 1 0 := ⟨by decide +kernel, in_I 297 (by decide +kernel), in_I 112 (by decide +kernel), in_I 298 (by decide +kernel), ⟨by decide +kernel, by decide +kernel, by decide +kernel⟩, by decide, rfl⟩
theorem dX5_init_51 : decode cX5_init 51 = .ok (.iload 5, 2) := by decide +kernel
theorem dX5_init_53 : decode cX5_init 53 = .ok (.aload_n 0, 1) := by decide +kernel
theorem dX5_init_54 : decode cX5_init 54 = .ok (.getfield 20, 3) := by decide +kernel
theorem dX5_init_57 : decode cX5_init 57 = .ok (.arraylength, 1) := by decide +kernel
theorem dX5_init_58 : decode cX5_init 58 = .ok (.if_icmp .ge 23, 3) := by decide +kernel
theorem dX5_init_61 : decode cX5_init 61 = .ok (.aload_n 0, 1) := by decide +kernel
theorem dX5_init_62 : decode cX5_init 62 = .ok (.getfield 20, 3) := by decide +kernel
theorem dX5_init_65 : decode cX5_init 65 = .ok (.iload 5, 2) := by decide +kernel
theorem dX5_init_67 : decode cX5_init 67 = .ok (.new 18, 3) := by decide +kernel
theorem dX5_init_70 : decode cX5_init 70 = .ok (.dup, 1) := by decide +kernel
theorem dX5_init_71 : decode cX5_init 71 = .ok (.invokespecial 40, 3) := by decide +kernel
theorem dX5_init_74 : decode cX5_init 74 = .ok (.aastore, 1) := by decide +kernel
theorem dX5_init_75 : decode cX5_init 75 = .ok (.iinc 5 1, 3) := by decide +kernel
theorem dX5_init_78 : decode cX5_init 78 = .ok (.goto (-27), 3) := by decide +kernel
theorem dX5_init_81 : decode cX5_init 81 = .ok (.return_, 1) := by decide +kernel
set_option maxHeartbeats 4000000 in
set_option maxRecDepth 100000 in
theorem ctX5_init (l : Launch) (D : va_G) (tg : Nat → ClassId) (bs : Nat) (sa : Nat → Nat) (L : List AE) (j : Nat) (hj : L[j]? = some (xO 5 [.null, .int 0, .int 0, .int 0, .int 0, .int 0, .int 0, .null, .null, .null, .null, .null, .null])) (a1 a2 a3 a4 : Nat) : CtN l D tg bs sa yX5_init cX5_init 6 2 [.ref (bs + j), .ref a1, .ref a2, .ref a3, .ref a4] L (nf L j (xO 5 [.ref (a1), .int 0, .int 0, .int 0, .int 0, .int 0, .int 0, .ref (bs + (L.length + 0)), .ref (bs + (L.length + 1)), .ref (a2), .ref (a3), .ref (a4), .ref (bs + (L.length + 2))]) [xA 0 5 a0I, xA 0 5 a0I, xA 5 6 (aRow (bs) (L.length + 2)), xO 6 [.int 0, .int 0, .int 0, .int 0, .int 0, .int 0], xO 6 [.int 0, .int 0, .int 0, .int 0, .int 0, .int 0], xO 6 [.int 0, .int 0, .int 0, .int 0, .int 0, .int 0], xO 6 [.int 0, .int 0, .int 0, .int 0, .int 0, .int 0], xO 6 [.int 0, .int 0, .int 0, .int 0, .int 0, .int 0], xO 6 [.int 0, .int 0, .int 0, .int 0, .int 0, .int 0]]) 9 52 := by
  refine CtN.of (by decide) rfl (Nat.le_of_ble_eq_true rfl) ?_
  intro V Q hVl hVd hVt hVb hVs hC hN hin hsz hcl hsl hr
  subst hVl; subst hVd; subst hVt; subst hVb; subst hVs
  show ZP V Q (0, 0) 6 (hl (vBs V) L) [(0, .ref (vBs V + j)), (1, .ref (a1)), (2, .ref (a2)), (3, .ref (a3)), (4, .ref (a4))] 0 []
  have hjl : j < L.length := (List.getElem?_eq_some_iff.mp hj).1
  refine f_cast (nf_nil hj) ?_
  refine z_aload_n hC 0 dX5_init_0 rfl rfl ?_
  refine k_objI hC lzORX5 lzOi lzOc (by decide) dX5_init_1 (Nat.le_of_ble_eq_true rfl) ?_
  refine z_aload_n hC 0 dX5_init_4 rfl rfl ?_
  refine z_iconst hC (5 : Int32) dX5_init_5 (by decide) ?_
  refine f_newa (t := 0) (N := 5) (ty := .int) (a0 := .inl (fun _ => 0)) 0 rfl hC hjl hsz rfl (fun _ => rfl) (fun _ _ h => h) lzA_int rfl (fun _ => rfl) (by decide) (by decide) (by decide) ⟨by rw [hcl]; decide, by rw [hsl]; decide⟩ dX5_init_6 ?_
  refine f_putF (k := 7) (v := .ref (vBs V + (L.length + 0))) hC hin hjl lqRX5_9_5 (Nat.le_of_ble_eq_true rfl) rfl rfl dX5_init_8 ?_
  refine z_aload_n hC 0 dX5_init_11 rfl rfl ?_
  refine z_iconst hC (5 : Int32) dX5_init_12 (by decide) ?_
  refine f_newa (t := 0) (N := 5) (ty := .int) (a0 := .inl (fun _ => 0)) 1 rfl hC hjl hsz rfl (fun _ => rfl) (fun _ _ h => h) lzA_int rfl (fun _ => rfl) (by decide) (by decide) (by decide) ⟨by rw [hcl]; decide, by rw [hsl]; decide⟩ dX5_init_13 ?_
  refine f_putF (k := 8) (v := .ref (vBs V + (L.length + 1))) hC hin hjl lqRX5_15_5 (Nat.le_of_ble_eq_true rfl) rfl rfl dX5_init_15 ?_
  refine z_aload_n hC 0 dX5_init_18 rfl rfl ?_
  refine z_bipush hC (6 : Int32) dX5_init_19 (by decide) ?_
  refine f_anew (N := 6) 2 rfl hC hN hjl hsz rfl lcRX5_18 (by decide) (by decide) (by decide) ⟨by rw [hcl]; decide, by rw [hsl]; decide⟩ dX5_init_21 ?_
  refine f_putF (k := 12) (v := .ref (vBs V + (L.length + 2))) hC hin hjl lqRX5_20_5 (Nat.le_of_ble_eq_true rfl) rfl rfl dX5_init_24 ?_
  refine z_aload_n hC 0 dX5_init_27 rfl rfl ?_
  refine z_aload_n hC 1 dX5_init_28 rfl rfl ?_
  refine f_putR (k := 0) (v := a1) hC hjl lpnRX5_24 (Nat.le_of_ble_eq_true rfl) dX5_init_29 ?_
  refine z_aload_n hC 0 dX5_init_32 rfl rfl ?_
  refine z_aload_n hC 2 dX5_init_33 rfl rfl ?_
  refine f_putF (k := 9) (v := .ref (a2)) hC hin hjl lqRX5_28_5 (Nat.le_of_ble_eq_true rfl) rfl rfl dX5_init_34 ?_
  refine z_aload_n hC 0 dX5_init_37 rfl rfl ?_
  refine z_aload_n hC 3 dX5_init_38 rfl rfl ?_
  refine f_putF (k := 10) (v := .ref (a3)) hC hin hjl lqRX5_32_5 (Nat.le_of_ble_eq_true rfl) rfl rfl dX5_init_39 ?_
  refine z_aload_n hC 0 dX5_init_42 rfl rfl ?_
  refine z_aload hC 4 dX5_init_43 rfl ?_
  refine f_putF (k := 11) (v := .ref (a4)) hC hin hjl lqRX5_36_5 (Nat.le_of_ble_eq_true rfl) rfl rfl dX5_init_45 ?_
  refine z_iconst hC (0 : Int32) dX5_init_48 (by decide) ?_
  refine z_istore hC [(0, .ref (vBs V + j)), (1, .ref a1), (2, .ref a2), (3, .ref a3), (4, .ref a4), (5, .int (0 : Int32))] [1, 2, 3, 4, 5, 0] dX5_init_49 (by decide) rfl ?_
  refine z_iload hC 5 dX5_init_51 rfl ?_
  refine z_aload_n hC 0 dX5_init_53 rfl rfl ?_
  refine f_getR hC hjl lgnRX5_20 rfl dX5_init_54 ?_
  refine f_alen (p := 2) (t := 5) hC (by decide) rfl dX5_init_57 ?_
  refine k_ge_no 81 hC (by decide) dX5_init_58 (by decide) ?_
  refine z_aload_n hC 0 dX5_init_61 rfl rfl ?_
  refine f_getR hC hjl lgnRX5_20 rfl dX5_init_62 ?_
  refine z_iload hC 5 dX5_init_65 rfl ?_
  refine f_new (ci := 6) (fs := [.int 0, .int 0, .int 0, .int 0, .int 0, .int 0]) 3 rfl hC hjl hsz rfl rfl iX6 tyX6 tyX6_ok lcRX5_18 lnS6 lnI6 dfX6 ⟨by rw [hcl]; decide, by rw [hsl]; decide⟩ dX5_init_67 ?_
  refine z_dup hC dX5_init_70 rfl ?_
  refine k_callIN hC hN (f_hz hjl hsz rfl) loRX5_40 (ctX6_init (vLa V) (vDa V) (vTg V) (vBs V) (vSa V) _ _) (by decide) ⟨by rw [hcl]; decide, by rw [hsl]; decide⟩ dX5_init_71 rfl rfl (Nat.le_of_ble_eq_true rfl) ?_
  refine f_aast (p := 2) (pv := 3) hC rfl rfl (by unfold vp_in; decide) dX5_init_74 ?_
  refine z_iinc hC (1 : Int32) 5 [(0, .ref (vBs V + j)), (1, .ref a1), (2, .ref a2), (3, .ref a3), (4, .ref a4), (5, .int (1 : Int32))] [1, 2, 3, 4, 5, 0] dX5_init_75 rfl (by decide) (by decide) rfl ?_
  refine z_goto hC 51 dX5_init_78 (by decide) ?_
  refine z_iload hC 5 dX5_init_51 rfl ?_
  refine z_aload_n hC 0 dX5_init_53 rfl rfl ?_
  refine f_getR hC hjl lgnRX5_20 rfl dX5_init_54 ?_
  refine f_alen (p := 2) (t := 5) hC (by decide) rfl dX5_init_57 ?_
  refine k_ge_no 81 hC (by decide) dX5_init_58 (by decide) ?_
  refine z_aload_n hC 0 dX5_init_61 rfl rfl ?_
  refine f_getR hC hjl lgnRX5_20 rfl dX5_init_62 ?_
  refine z_iload hC 5 dX5_init_65 rfl ?_
  refine f_new (ci := 6) (fs := [.int 0, .int 0, .int 0, .int 0, .int 0, .int 0]) 4 rfl hC hjl hsz rfl rfl iX6 tyX6 tyX6_ok lcRX5_18 lnS6 lnI6 dfX6 ⟨by rw [hcl]; decide, by rw [hsl]; decide⟩ dX5_init_67 ?_
  refine z_dup hC dX5_init_70 rfl ?_
  refine k_callIN hC hN (f_hz hjl hsz rfl) loRX5_40 (ctX6_init (vLa V) (vDa V) (vTg V) (vBs V) (vSa V) _ _) (by decide) ⟨by rw [hcl]; decide, by rw [hsl]; decide⟩ dX5_init_71 rfl rfl (Nat.le_of_ble_eq_true rfl) ?_
  refine f_aast (p := 2) (pv := 4) hC rfl rfl (by unfold vp_in; decide) dX5_init_74 ?_
  refine z_iinc hC (2 : Int32) 5 [(0, .ref (vBs V + j)), (1, .ref a1), (2, .ref a2), (3, .ref a3), (4, .ref a4), (5, .int (2 : Int32))] [1, 2, 3, 4, 5, 0] dX5_init_75 rfl (by decide) (by decide) rfl ?_
  refine z_goto hC 51 dX5_init_78 (by decide) ?_
  refine z_iload hC 5 dX5_init_51 rfl ?_
  refine z_aload_n hC 0 dX5_init_53 rfl rfl ?_
  refine f_getR hC hjl lgnRX5_20 rfl dX5_init_54 ?_
  refine f_alen (p := 2) (t := 5) hC (by decide) rfl dX5_init_57 ?_
  refine k_ge_no 81 hC (by decide) dX5_init_58 (by decide) ?_
  refine z_aload_n hC 0 dX5_init_61 rfl rfl ?_
  refine f_getR hC hjl lgnRX5_20 rfl dX5_init_62 ?_
  refine z_iload hC 5 dX5_init_65 rfl ?_
  refine f_new (ci := 6) (fs := [.int 0, .int 0, .int 0, .int 0, .int 0, .int 0]) 5 rfl hC hjl hsz rfl rfl iX6 tyX6 tyX6_ok lcRX5_18 lnS6 lnI6 dfX6 ⟨by rw [hcl]; decide, by rw [hsl]; decide⟩ dX5_init_67 ?_
  refine z_dup hC dX5_init_70 rfl ?_
  refine k_callIN hC hN (f_hz hjl hsz rfl) loRX5_40 (ctX6_init (vLa V) (vDa V) (vTg V) (vBs V) (vSa V) _ _) (by decide) ⟨by rw [hcl]; decide, by rw [hsl]; decide⟩ dX5_init_71 rfl rfl (Nat.le_of_ble_eq_true rfl) ?_
  refine f_aast (p := 2) (pv := 5) hC rfl rfl (by unfold vp_in; decide) dX5_init_74 ?_
  refine z_iinc hC (3 : Int32) 5 [(0, .ref (vBs V + j)), (1, .ref a1), (2, .ref a2), (3, .ref a3), (4, .ref a4), (5, .int (3 : Int32))] [1, 2, 3, 4, 5, 0] dX5_init_75 rfl (by decide) (by decide) rfl ?_
  refine z_goto hC 51 dX5_init_78 (by decide) ?_
  refine z_iload hC 5 dX5_init_51 rfl ?_
  refine z_aload_n hC 0 dX5_init_53 rfl rfl ?_
  refine f_getR hC hjl lgnRX5_20 rfl dX5_init_54 ?_
  refine f_alen (p := 2) (t := 5) hC (by decide) rfl dX5_init_57 ?_
  refine k_ge_no 81 hC (by decide) dX5_init_58 (by decide) ?_
  refine z_aload_n hC 0 dX5_init_61 rfl rfl ?_
  refine f_getR hC hjl lgnRX5_20 rfl dX5_init_62 ?_
  refine z_iload hC 5 dX5_init_65 rfl ?_
  refine f_new (ci := 6) (fs := [.int 0, .int 0, .int 0, .int 0, .int 0, .int 0]) 6 rfl hC hjl hsz rfl rfl iX6 tyX6 tyX6_ok lcRX5_18 lnS6 lnI6 dfX6 ⟨by rw [hcl]; decide, by rw [hsl]; decide⟩ dX5_init_67 ?_
  refine z_dup hC dX5_init_70 rfl ?_
  refine k_callIN hC hN (f_hz hjl hsz rfl) loRX5_40 (ctX6_init (vLa V) (vDa V) (vTg V) (vBs V) (vSa V) _ _) (by decide) ⟨by rw [hcl]; decide, by rw [hsl]; decide⟩ dX5_init_71 rfl rfl (Nat.le_of_ble_eq_true rfl) ?_
  refine f_aast (p := 2) (pv := 6) hC rfl rfl (by unfold vp_in; decide) dX5_init_74 ?_
  refine z_iinc hC (4 : Int32) 5 [(0, .ref (vBs V + j)), (1, .ref a1), (2, .ref a2), (3, .ref a3), (4, .ref a4), (5, .int (4 : Int32))] [1, 2, 3, 4, 5, 0] dX5_init_75 rfl (by decide) (by decide) rfl ?_
  refine z_goto hC 51 dX5_init_78 (by decide) ?_
  refine z_iload hC 5 dX5_init_51 rfl ?_
  refine z_aload_n hC 0 dX5_init_53 rfl rfl ?_
  refine f_getR hC hjl lgnRX5_20 rfl dX5_init_54 ?_
  refine f_alen (p := 2) (t := 5) hC (by decide) rfl dX5_init_57 ?_
  refine k_ge_no 81 hC (by decide) dX5_init_58 (by decide) ?_
  refine z_aload_n hC 0 dX5_init_61 rfl rfl ?_
  refine f_getR hC hjl lgnRX5_20 rfl dX5_init_62 ?_
  refine z_iload hC 5 dX5_init_65 rfl ?_
  refine f_new (ci := 6) (fs := [.int 0, .int 0, .int 0, .int 0, .int 0, .int 0]) 7 rfl hC hjl hsz rfl rfl iX6 tyX6 tyX6_ok lcRX5_18 lnS6 lnI6 dfX6 ⟨by rw [hcl]; decide, by rw [hsl]; decide⟩ dX5_init_67 ?_
  refine z_dup hC dX5_init_70 rfl ?_
  refine k_callIN hC hN (f_hz hjl hsz rfl) loRX5_40 (ctX6_init (vLa V) (vDa V) (vTg V) (vBs V) (vSa V) _ _) (by decide) ⟨by rw [hcl]; decide, by rw [hsl]; decide⟩ dX5_init_71 rfl rfl (Nat.le_of_ble_eq_true rfl) ?_
  refine f_aast (p := 2) (pv := 7) hC rfl rfl (by unfold vp_in; decide) dX5_init_74 ?_
  refine z_iinc hC (5 : Int32) 5 [(0, .ref (vBs V + j)), (1, .ref a1), (2, .ref a2), (3, .ref a3), (4, .ref a4), (5, .int (5 : Int32))] [1, 2, 3, 4, 5, 0] dX5_init_75 rfl (by decide) (by decide) rfl ?_
  refine z_goto hC 51 dX5_init_78 (by decide) ?_
  refine z_iload hC 5 dX5_init_51 rfl ?_
  refine z_aload_n hC 0 dX5_init_53 rfl rfl ?_
  refine f_getR hC hjl lgnRX5_20 rfl dX5_init_54 ?_
  refine f_alen (p := 2) (t := 5) hC (by decide) rfl dX5_init_57 ?_
  refine k_ge_no 81 hC (by decide) dX5_init_58 (by decide) ?_
  refine z_aload_n hC 0 dX5_init_61 rfl rfl ?_
  refine f_getR hC hjl lgnRX5_20 rfl dX5_init_62 ?_
  refine z_iload hC 5 dX5_init_65 rfl ?_
  refine f_new (ci := 6) (fs := [.int 0, .int 0, .int 0, .int 0, .int 0, .int 0]) 8 rfl hC hjl hsz rfl rfl iX6 tyX6 tyX6_ok lcRX5_18 lnS6 lnI6 dfX6 ⟨by rw [hcl]; decide, by rw [hsl]; decide⟩ dX5_init_67 ?_
  refine z_dup hC dX5_init_70 rfl ?_
  refine k_callIN hC hN (f_hz hjl hsz rfl) loRX5_40 (ctX6_init (vLa V) (vDa V) (vTg V) (vBs V) (vSa V) _ _) (by decide) ⟨by rw [hcl]; decide, by rw [hsl]; decide⟩ dX5_init_71 rfl rfl (Nat.le_of_ble_eq_true rfl) ?_
  refine f_aast (p := 2) (pv := 8) hC rfl rfl (by unfold vp_in; decide) dX5_init_74 ?_
  refine z_iinc hC (6 : Int32) 5 [(0, .ref (vBs V + j)), (1, .ref a1), (2, .ref a2), (3, .ref a3), (4, .ref a4), (5, .int (6 : Int32))] [1, 2, 3, 4, 5, 0] dX5_init_75 rfl (by decide) (by decide) rfl ?_
  refine z_goto hC 51 dX5_init_78 (by decide) ?_
  refine z_iload hC 5 dX5_init_51 rfl ?_
  refine z_aload_n hC 0 dX5_init_53 rfl rfl ?_
  refine f_getR hC hjl lgnRX5_20 rfl dX5_init_54 ?_
  refine f_alen (p := 2) (t := 5) hC (by decide) rfl dX5_init_57 ?_
  refine k_ge_yes 81 hC (by decide) dX5_init_58 (by decide) ?_
  refine f_row (p := 2) (f' := fun i => some (vBs V + (L.length + 2 + 1 + i))) rfl ?_ ?_
  · intro i hi
    rcases (show i = 0 ∨ i = 1 ∨ i = 2 ∨ i = 3 ∨ i = 4 ∨ i = 5 by omega) with rfl | rfl | rfl | rfl | rfl | rfl <;> rfl
  · exact k_vret hC hN (f_hz hjl hsz rfl) hr dX5_init_81
