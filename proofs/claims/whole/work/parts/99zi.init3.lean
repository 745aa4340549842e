/-! constructors: the prices -/
section
variable {L cs : List AE} {j : Nat} {o x : AE}
theorem wrI_hl {A : List AE} {b p N : Nat} {f : Nat → Int32} {iv y : Int32} (h : A[p]? = some (xA 0 N (.inl f))) (hin : vp_in iv N) : wrI (hl b A) (b + p) iv y = some (hl b (A.set p (xA 0 N (.inl (upd f iv.toNatClampNeg y))))) := by
  unfold wrI
  rw [hl_at, h]
  show (if 0 = 0 ∧ ¬ (iv < 0 ∨ N ≤ iv.toNatClampNeg) then some (upH (hl b A) (b + p) (.inl (0, N, .inl (upd f iv.toNatClampNeg y)))) else none) = _
  rw [if_pos ⟨rfl, hin⟩, hl_up (List.getElem?_eq_some_iff.mp h).1]
variable {V : VT} {Q : State → Prop} {n : Nat × Nat} {nL : Nat} {lv : List (Nat × Value)} {pc : Nat} {st : List Value} {cc : ByteArray} {own : String} {ret : Option FieldType} {Lv : Nat}
theorem f_iast {p N : Nat} {f : Nat → Int32} {iv y : Int32} (hC : CX V cc own nL ret Lv) (hp2 : cs[p]? = some (xA 0 N (.inl f))) (hin : vp_in iv N) (hd : decode cc pc = .ok (.iastore, 1)) (kk : ZP V Q n nL (hl (vBs V) (nf L j o (cs.set p (xA 0 N (.inl (upd f iv.toNatClampNeg y)))))) lv (pc + 1) st) : ZP V Q n nL (hl (vBs V) (nf L j o cs)) lv pc (.int y :: .int iv :: .ref (vBs V + (L.length + p)) :: st) := by
  refine zq (fun h => h) (fun _ => st) (wrI_hl (nf_at2.trans hp2) hin) (fun kf kk => z_iast hC hd kk) ?_
  rw [nf_set2]
  exact kk
end
theorem pv_hl {L : List AE} (hlen : L.length = 26) {b : Nat} {w : WD} {f0 f1 f2 f3 : Nat → Int32} (h0 : w.2.1 26 = f0) (h1 : w.2.1 27 = f1) (h2 : w.2.1 28 = f2) (h3 : w.2.1 29 = f3) : pv (hl b L) b w = hl b (nf L 25 (xO 3 [.ref (b + (L.length + 0)), .ref (b + (L.length + 1)), .ref (b + (L.length + 2)), .ref (b + (L.length + 3))]) [xA 0 10 (.inl f0), xA 0 64 (.inl f1), xA 0 16 (.inl f2), xA 0 64 (.inl f3)]) := by
  subst h0; subst h1; subst h2; subst h3
  funext q
  show (if b + 25 ≤ q ∧ q < b + 30 then mk b w q else hl b L q) = _
  by_cases c : b + 25 ≤ q ∧ q < b + 30
  · rw [if_pos c]
    obtain ⟨i, rfl⟩ : ∃ i, q = b + i := ⟨q - b, by omega⟩
    rw [hl_at]
    rcases (show i = 25 ∨ i = 26 ∨ i = 27 ∨ i = 28 ∨ i = 29 by omega) with rfl | rfl | rfl | rfl | rfl
    · rw [nf_at (by omega), mk_at, hlen]
      rfl
    · have e : 26 = L.length + 0 := by omega
      rw [show (nf L 25 (xO 3 [.ref (b + (L.length + 0)), .ref (b + (L.length + 1)), .ref (b + (L.length + 2)), .ref (b + (L.length + 3))]) [xA 0 10 (.inl (w.2.1 26)), xA 0 64 (.inl (w.2.1 27)), xA 0 16 (.inl (w.2.1 28)), xA 0 64 (.inl (w.2.1 29))])[26]? = _ from (congrArg _ e).trans nf_at2, mk_at]
      rfl
    · have e : 27 = L.length + 1 := by omega
      rw [show (nf L 25 (xO 3 [.ref (b + (L.length + 0)), .ref (b + (L.length + 1)), .ref (b + (L.length + 2)), .ref (b + (L.length + 3))]) [xA 0 10 (.inl (w.2.1 26)), xA 0 64 (.inl (w.2.1 27)), xA 0 16 (.inl (w.2.1 28)), xA 0 64 (.inl (w.2.1 29))])[27]? = _ from (congrArg _ e).trans nf_at2, mk_at]
      rfl
    · have e : 28 = L.length + 2 := by omega
      rw [show (nf L 25 (xO 3 [.ref (b + (L.length + 0)), .ref (b + (L.length + 1)), .ref (b + (L.length + 2)), .ref (b + (L.length + 3))]) [xA 0 10 (.inl (w.2.1 26)), xA 0 64 (.inl (w.2.1 27)), xA 0 16 (.inl (w.2.1 28)), xA 0 64 (.inl (w.2.1 29))])[28]? = _ from (congrArg _ e).trans nf_at2, mk_at]
      rfl
    · have e : 29 = L.length + 3 := by omega
      rw [show (nf L 25 (xO 3 [.ref (b + (L.length + 0)), .ref (b + (L.length + 1)), .ref (b + (L.length + 2)), .ref (b + (L.length + 3))]) [xA 0 10 (.inl (w.2.1 26)), xA 0 64 (.inl (w.2.1 27)), xA 0 16 (.inl (w.2.1 28)), xA 0 64 (.inl (w.2.1 29))])[29]? = _ from (congrArg _ e).trans nf_at2, mk_at]
      rfl
  · rw [if_neg c]
    unfold hl
    by_cases d : b ≤ q
    · rw [if_pos d, if_pos d]
      rcases Nat.lt_or_ge q (b + 25) with z | z
      · unfold nf
        rw [List.getElem?_append_left (by rw [List.length_set]; omega), List.getElem?_set, if_neg (by omega)]
      · rw [List.getElem?_eq_none (by omega), List.getElem?_eq_none (by rw [nf_len]; show L.length + 4 ≤ _; omega)]
    · rw [if_neg d, if_neg d]
def pr10 : Nat → Int32 := upd (upd (upd (upd (upd (upd (upd (upd (upd (upd (fun _ => 0) 0 1) 1 1) 2 1) 3 1) 4 1) 5 1) 6 1) 7 1) 8 1) 9 1
theorem pr10_at : ∀ i, i < 10 → pr10 i = 1 := by decide
def idU (i : Nat) : Nat → Int32 := fun k => if k < i then nI k else 0
theorem idU_up (i : Nat) : upd (idU i) i (nI i) = idU (i + 1) := by
  funext k
  unfold upd idU
  by_cases c : k = i
  · rw [if_pos c, if_pos (by omega), c]
  · rw [if_neg c]
    by_cases d : k < i
    · rw [if_pos d, if_pos (by omega)]
    · rw [if_neg d, if_neg (by omega)]
/-- what holds of the prices' rows at the beginning -/
def PR0 (l g a : Nat → Int32) : Prop := (∀ n, n < 64 → l n = nI (lowN (fun _ => 1) n)) ∧ (∀ n, n < 16 → g n = nI (highN (fun _ => 1) n)) ∧ ∃ c, perm64 c ∧ (∀ t, t < 64 → a t = nI (c t)) ∧ ∀ t, t + 1 < 64 → lowN (fun _ => 1) (c t) ≤ lowN (fun _ => 1) (c (t + 1))
def prW : WD := (fun _ _ => 0, fun j => if j = 26 then pr10 else if j = 29 then idU 64 else fun _ => 0, fun _ _ => 0, (0, 0))
theorem prRun (X0 : HP) (b : Nat) : ∃ l g a, PR0 l g a ∧ FX3_reckon (pv X0 b prW) (b + 25) = some (pv X0 b (uA (uA (uA prW 27 l) 28 g) 29 a)) := by
  obtain ⟨l, g, a, c, h1, h2, h3, h4, h5, h6⟩ := reckon_pv (X0 := X0) (b := b) (w := prW) (f := fun _ => 1) (fun i _ => ⟨1, by decide, rfl⟩) (fun i hi => pr10_at i hi) rfl rfl (c0 := fun t => t) ⟨fun t ht => ht, fun n hn => ⟨n, hn, rfl⟩⟩ (fun t ht => by
    show idU 64 t = nI t
    unfold idU
    rw [if_pos ht])
  exact ⟨l, g, a, ⟨h2, h3, c, h4, h5, h6⟩, h1⟩
theorem dX3_init_0 : decode cX3_init 0 = .ok (.aload_n 0, 1) := by decide +kernel
theorem dX3_init_1 : decode cX3_init 1 = .ok (.invokespecial 3, 3) := by decide +kernel
theorem lzORX3 : Cond.methodLink RX3 3 Lib.objectInit ∈ gd_tbl := in_I 212 (by decide +kernel)
theorem dX3_init_4 : decode cX3_init 4 = .ok (.aload_n 0, 1) := by decide +kernel
theorem dX3_init_5 : decode cX3_init 5 = .ok (.bipush 10, 2) := by decide +kernel
theorem dX3_init_7 : decode cX3_init 7 = .ok (.newarray .int, 2) := by decide +kernel
theorem dX3_init_9 : decode cX3_init 9 = .ok (.dup, 1) := by decide +kernel
theorem dX3_init_10 : decode cX3_init 10 = .ok (.iconst 0, 1) := by decide +kernel
theorem dX3_init_11 : decode cX3_init 11 = .ok (.iconst 1, 1) := by decide +kernel
theorem dX3_init_12 : decode cX3_init 12 = .ok (.iastore, 1) := by decide +kernel
theorem dX3_init_13 : decode cX3_init 13 = .ok (.dup, 1) := by decide +kernel
theorem dX3_init_14 : decode cX3_init 14 = .ok (.iconst 1, 1) := by decide +kernel
theorem dX3_init_15 : decode cX3_init 15 = .ok (.iconst 1, 1) := by decide +kernel
theorem dX3_init_16 : decode cX3_init 16 = .ok (.iastore, 1) := by decide +kernel
theorem dX3_init_17 : decode cX3_init 17 = .ok (.dup, 1) := by decide +kernel
theorem dX3_init_18 : decode cX3_init 18 = .ok (.iconst 2, 1) := by decide +kernel
theorem dX3_init_19 : decode cX3_init 19 = .ok (.iconst 1, 1) := by decide +kernel
theorem dX3_init_20 : decode cX3_init 20 = .ok (.iastore, 1) := by decide +kernel
theorem dX3_init_21 : decode cX3_init 21 = .ok (.dup, 1) := by decide +kernel
theorem dX3_init_22 : decode cX3_init 22 = .ok (.iconst 3, 1) := by decide +kernel
theorem dX3_init_23 : decode cX3_init 23 = .ok (.iconst 1, 1) := by decide +kernel
theorem dX3_init_24 : decode cX3_init 24 = .ok (.iastore, 1) := by decide +kernel
theorem dX3_init_25 : decode cX3_init 25 = .ok (.dup, 1) := by decide +kernel
theorem dX3_init_26 : decode cX3_init 26 = .ok (.iconst 4, 1) := by decide +kernel
theorem dX3_init_27 : decode cX3_init 27 = .ok (.iconst 1, 1) := by decide +kernel
theorem dX3_init_28 : decode cX3_init 28 = .ok (.iastore, 1) := by decide +kernel
theorem dX3_init_29 : decode cX3_init 29 = .ok (.dup, 1) := by decide +kernel
theorem dX3_init_30 : decode cX3_init 30 = .ok (.iconst 5, 1) := by decide +kernel
theorem dX3_init_31 : decode cX3_init 31 = .ok (.iconst 1, 1) := by decide +kernel
theorem dX3_init_32 : decode cX3_init 32 = .ok (.iastore, 1) := by decide +kernel
theorem dX3_init_33 : decode cX3_init 33 = .ok (.dup, 1) := by decide +kernel
theorem dX3_init_34 : decode cX3_init 34 = .ok (.bipush 6, 2) := by decide +kernel
theorem dX3_init_36 : decode cX3_init 36 = .ok (.iconst 1, 1) := by decide +kernel
theorem dX3_init_37 : decode cX3_init 37 = .ok (.iastore, 1) := by decide +kernel
theorem dX3_init_38 : decode cX3_init 38 = .ok (.dup, 1) := by decide +kernel
theorem dX3_init_39 : decode cX3_init 39 = .ok (.bipush 7, 2) := by decide +kernel
theorem dX3_init_41 : decode cX3_init 41 = .ok (.iconst 1, 1) := by decide +kernel
theorem dX3_init_42 : decode cX3_init 42 = .ok (.iastore, 1) := by decide +kernel
theorem dX3_init_43 : decode cX3_init 43 = .ok (.dup, 1) := by decide +kernel
theorem dX3_init_44 : decode cX3_init 44 = .ok (.bipush 8, 2) := by decide +kernel
theorem dX3_init_46 : decode cX3_init 46 = .ok (.iconst 1, 1) := by decide +kernel
theorem dX3_init_47 : decode cX3_init 47 = .ok (.iastore, 1) := by decide +kernel
theorem dX3_init_48 : decode cX3_init 48 = .ok (.dup, 1) := by decide +kernel
theorem dX3_init_49 : decode cX3_init 49 = .ok (.bipush 9, 2) := by decide +kernel
theorem dX3_init_51 : decode cX3_init 51 = .ok (.iconst 1, 1) := by decide +kernel
theorem dX3_init_52 : decode cX3_init 52 = .ok (.iastore, 1) := by decide +kernel
theorem dX3_init_53 : decode cX3_init 53 = .ok (.putfield 9, 3) := by decide +kernel
theorem lqRX3_9_3 : lkQ RX3 9 0 3 (.array .int) := ⟨_, _, _, _, tyX3, ⟨rfl, by decide, iX3, in_I 234 (by decide +kernel), Or.inl rfl⟩, rfl, rfl, by decide +kernel, tyX3_ok, nmX3⟩
theorem dX3_init_56 : decode cX3_init 56 = .ok (.aload_n 0, 1) := by decide +kernel
theorem dX3_init_57 : decode cX3_init 57 = .ok (.bipush 64, 2) := by decide +kernel
theorem dX3_init_59 : decode cX3_init 59 = .ok (.newarray .int, 2) := by decide +kernel
theorem dX3_init_61 : decode cX3_init 61 = .ok (.putfield 15, 3) := by decide +kernel
theorem lqRX3_15_3 : lkQ RX3 15 1 3 (.array .int) := ⟨_, _, _, _, tyX3, ⟨rfl, by decide, iX3, in_I 235 (by decide +kernel), Or.inl rfl⟩, rfl, rfl, by decide +kernel, tyX3_ok, nmX3⟩
theorem dX3_init_64 : decode cX3_init 64 = .ok (.aload_n 0, 1) := by decide +kernel
theorem dX3_init_65 : decode cX3_init 65 = .ok (.bipush 16, 2) := by decide +kernel
theorem dX3_init_67 : decode cX3_init 67 = .ok (.newarray .int, 2) := by decide +kernel
theorem dX3_init_69 : decode cX3_init 69 = .ok (.putfield 18, 3) := by decide +kernel
theorem lqRX3_18_3 : lkQ RX3 18 2 3 (.array .int) := ⟨_, _, _, _, tyX3, ⟨rfl, by decide, iX3, in_I 236 (by decide +kernel), Or.inl rfl⟩, rfl, rfl, by decide +kernel, tyX3_ok, nmX3⟩
theorem dX3_init_72 : decode cX3_init 72 = .ok (.aload_n 0, 1) := by decide +kernel
theorem dX3_init_73 : decode cX3_init 73 = .ok (.bipush 64, 2) := by decide +kernel
theorem dX3_init_75 : decode cX3_init 75 = .ok (.newarray .int, 2) := by decide +kernel
theorem dX3_init_77 : decode cX3_init 77 = .ok (.putfield 21, 3) := by decide +kernel
theorem lqRX3_21_3 : lkQ RX3 21 3 3 (.array .int) := ⟨_, _, _, _, tyX3, ⟨rfl, by decide, iX3, in_I 237 (by decide +kernel), Or.inl rfl⟩, rfl, rfl, by decide +kernel, tyX3_ok, nmX3⟩
theorem lgnRX3_21 : lkA RX3 21 3 [3] := fun ci h => by
  simp only [List.mem_cons, List.not_mem_nil, or_false] at h
  subst h; exact ⟨_, _, _, _, ⟨rfl, by decide, iX3, in_I 237 (by decide +kernel), Or.inl rfl⟩⟩
theorem dX3_init_82 : decode cX3_init 82 = .ok (.iload_n 1, 1) := by decide +kernel
theorem dX3_init_83 : decode cX3_init 83 = .ok (.bipush 64, 2) := by decide +kernel
theorem dX3_init_85 : decode cX3_init 85 = .ok (.if_icmp .ge 16, 3) := by decide +kernel
theorem dX3_init_101 : decode cX3_init 101 = .ok (.aload_n 0, 1) := by decide +kernel
theorem dX3_init_102 : decode cX3_init 102 = .ok (.invokevirtual 24, 3) := by decide +kernel
theorem dX3_init_105 : decode cX3_init 105 = .ok (.return_, 1) := by decide +kernel
theorem dX3_init_88 : decode cX3_init 88 = .ok (.aload_n 0, 1) := by decide +kernel
theorem dX3_init_89 : decode cX3_init 89 = .ok (.getfield 21, 3) := by decide +kernel
theorem dX3_init_92 : decode cX3_init 92 = .ok (.iload_n 1, 1) := by decide +kernel
theorem dX3_init_93 : decode cX3_init 93 = .ok (.iload_n 1, 1) := by decide +kernel
theorem dX3_init_94 : decode cX3_init 94 = .ok (.iastore, 1) := by decide +kernel
theorem dX3_init_95 : decode cX3_init 95 = .ok (.iinc 1 1, 3) := by decide +kernel
theorem dX3_init_98 : decode cX3_init 98 = .ok (.goto (-16), 3) := by decide +kernel
theorem dX3_init_80 : decode cX3_init 80 = .ok (.iconst 0, 1) := by decide +kernel
theorem dX3_init_81 : decode cX3_init 81 = .ok (.istore_n 1, 1) := by decide +kernel
set_option maxHeartbeats 4000000 in
set_option maxRecDepth 100000 in
theorem ctX3_init (l : Launch) (D : va_G) (tg : Nat → ClassId) (bs : Nat) (sa : Nat → Nat) (L : List AE) (hj : L[25]? = some (xO 3 [.null, .null, .null, .null])) (hlen : L.length = 26) : ∃ fl fg fa, PR0 fl fg fa ∧ CtN l D tg bs sa yX3_init cX3_init 2 3 [.ref (bs + 25)] L (nf L 25 (xO 3 [.ref (bs + (L.length + 0)), .ref (bs + (L.length + 1)), .ref (bs + (L.length + 2)), .ref (bs + (L.length + 3))]) [xA 0 10 (.inl pr10), xA 0 64 (.inl fl), xA 0 16 (.inl fg), xA 0 64 (.inl fa)]) 4 154 := by
  obtain ⟨fl, fg, fa, hP, hrun⟩ := prRun (hl bs L) bs
  refine ⟨fl, fg, fa, hP, CtN.of (by decide) rfl (Nat.le_of_ble_eq_true rfl) ?_⟩
  intro V Q hVl hVd hVt hVb hVs hC hN hin hsz hcl hsl hr
  subst hVl; subst hVd; subst hVt; subst hVb; subst hVs
  show ZP V Q (0, 0) 2 (hl (vBs V) L) [(0, .ref (vBs V + 25))] 0 []
  have hjl : 25 < L.length := by omega
  rw [pv_hl hlen (f0 := pr10) (f1 := fun _ => 0) (f2 := fun _ => 0) (f3 := idU 64) rfl rfl rfl rfl, pv_hl hlen (f0 := pr10) (f1 := fl) (f2 := fg) (f3 := fa) rfl rfl rfl rfl] at hrun
  have loop : ∀ d i, i + d = 64 → ZP V Q (4, 154) 2 (hl (vBs V) (nf L 25 (xO 3 [.ref (vBs V + (L.length + 0)), .ref (vBs V + (L.length + 1)), .ref (vBs V + (L.length + 2)), .ref (vBs V + (L.length + 3))]) [xA 0 10 (.inl pr10), xA 0 64 a0I, xA 0 16 a0I, xA 0 64 (.inl (idU i))])) [(0, .ref (vBs V + 25)), (1, .int (nI i))] 82 [] := by
    intro d
    induction d with
    | zero =>
      intro i hi
      have : i = 64 := by omega
      subst this
      refine z_iload_n hC 1 dX3_init_82 rfl rfl ?_
      refine z_bipush hC (64 : Int32) dX3_init_83 (by decide) ?_
      refine k_ge_yes 101 hC (by decide) dX3_init_85 (by decide) ?_
      refine z_aload_n hC 0 dX3_init_101 rfl rfl ?_
      refine zq (fun h => h) (fun _ => []) (v := hl (vBs V) (nf L 25 (xO 3 [.ref (vBs V + (L.length + 0)), .ref (vBs V + (L.length + 1)), .ref (vBs V + (L.length + 2)), .ref (vBs V + (L.length + 3))]) [xA 0 10 (.inl pr10), xA 0 64 (.inl fl), xA 0 16 (.inl fg), xA 0 64 (.inl fa)])) (o := rc [3] (hl (vBs V) (nf L 25 (xO 3 [.ref (vBs V + (L.length + 0)), .ref (vBs V + (L.length + 1)), .ref (vBs V + (L.length + 2)), .ref (vBs V + (L.length + 3))]) [xA 0 10 (.inl pr10), xA 0 64 a0I, xA 0 16 a0I, xA 0 64 (.inl (idU 64))])) (vBs V + 25) (FX3_reckon (hl (vBs V) (nf L 25 (xO 3 [.ref (vBs V + (L.length + 0)), .ref (vBs V + (L.length + 1)), .ref (vBs V + (L.length + 2)), .ref (vBs V + (L.length + 3))]) [xA 0 10 (.inl pr10), xA 0 64 a0I, xA 0 16 a0I, xA 0 64 (.inl (idU 64))])) (vBs V + 25))) ?_ (fun kf kk => z_callVv hC (ci := 3) rfl lmRX3_24 (ctX3_reckon (vLa V) (vDa V) (vTg V) (vBs V) (vSa V) _ _) (by decide) ⟨by rw [hcl]; decide, by rw [hsl]; decide⟩ dX3_init_102 rfl rfl (Nat.le_of_ble_eq_true rfl) kk) ?_
      · unfold rc isO
        rw [hl_at, nf_at hjl]
        exact hrun
      · exact k_vret hC hN (f_hz hjl hsz rfl) hr dX3_init_105
    | succ d ih =>
      intro i hi
      refine z_iload_n hC 1 dX3_init_82 rfl rfl ?_
      refine z_bipush hC (64 : Int32) dX3_init_83 (by decide) ?_
      refine k_ge_no 101 hC (Lnle (show i < 64 by omega)) dX3_init_85 (by decide) ?_
      refine z_aload_n hC 0 dX3_init_88 rfl rfl ?_
      refine f_getR hC hjl lgnRX3_21 rfl dX3_init_89 ?_
      refine z_iload_n hC 1 dX3_init_92 rfl rfl ?_
      refine z_iload_n hC 1 dX3_init_93 rfl rfl ?_
      refine f_iast (p := 3) (N := 64) (f := idU i) hC rfl (nI_in (show i < 64 by omega) (by omega)) dX3_init_94 ?_
      rw [nI_clamp (show i < 2 ^ 31 by omega), idU_up]
      refine z_iinc hC (nI (i + 1)) 1 [(0, .ref (vBs V + 25)), (1, .int (nI (i + 1)))] [1, 0] dX3_init_95 rfl (nI_1 i) (by decide) rfl ?_
      refine z_goto hC 82 dX3_init_98 (by decide) ?_
      exact ih (i + 1) (by omega)
  refine f_cast (nf_nil hj) ?_
  refine z_aload_n hC 0 dX3_init_0 rfl rfl ?_
  refine k_objI hC lzORX3 lzOi lzOc (by decide) dX3_init_1 (Nat.le_of_ble_eq_true rfl) ?_
  refine z_aload_n hC 0 dX3_init_4 rfl rfl ?_
  refine z_bipush hC (10 : Int32) dX3_init_5 (by decide) ?_
  refine f_newa (t := 0) (N := 10) (ty := .int) (a0 := .inl (fun _ => 0)) 0 rfl hC hjl hsz rfl (fun _ => rfl) (fun _ _ h => h) lzA_int rfl (fun _ => rfl) (by decide) (by decide) (by decide) ⟨by rw [hcl]; decide, by rw [hsl]; decide⟩ dX3_init_7 ?_
  refine z_dup hC dX3_init_9 rfl ?_
  refine z_iconst hC (0 : Int32) dX3_init_10 (by decide) ?_
  refine z_iconst hC (1 : Int32) dX3_init_11 (by decide) ?_
  refine f_iast (p := 0) hC rfl (by unfold vp_in; decide) dX3_init_12 ?_
  refine z_dup hC dX3_init_13 rfl ?_
  refine z_iconst hC (1 : Int32) dX3_init_14 (by decide) ?_
  refine z_iconst hC (1 : Int32) dX3_init_15 (by decide) ?_
  refine f_iast (p := 0) hC rfl (by unfold vp_in; decide) dX3_init_16 ?_
  refine z_dup hC dX3_init_17 rfl ?_
  refine z_iconst hC (2 : Int32) dX3_init_18 (by decide) ?_
  refine z_iconst hC (1 : Int32) dX3_init_19 (by decide) ?_
  refine f_iast (p := 0) hC rfl (by unfold vp_in; decide) dX3_init_20 ?_
  refine z_dup hC dX3_init_21 rfl ?_
  refine z_iconst hC (3 : Int32) dX3_init_22 (by decide) ?_
  refine z_iconst hC (1 : Int32) dX3_init_23 (by decide) ?_
  refine f_iast (p := 0) hC rfl (by unfold vp_in; decide) dX3_init_24 ?_
  refine z_dup hC dX3_init_25 rfl ?_
  refine z_iconst hC (4 : Int32) dX3_init_26 (by decide) ?_
  refine z_iconst hC (1 : Int32) dX3_init_27 (by decide) ?_
  refine f_iast (p := 0) hC rfl (by unfold vp_in; decide) dX3_init_28 ?_
  refine z_dup hC dX3_init_29 rfl ?_
  refine z_iconst hC (5 : Int32) dX3_init_30 (by decide) ?_
  refine z_iconst hC (1 : Int32) dX3_init_31 (by decide) ?_
  refine f_iast (p := 0) hC rfl (by unfold vp_in; decide) dX3_init_32 ?_
  refine z_dup hC dX3_init_33 rfl ?_
  refine z_bipush hC (6 : Int32) dX3_init_34 (by decide) ?_
  refine z_iconst hC (1 : Int32) dX3_init_36 (by decide) ?_
  refine f_iast (p := 0) hC rfl (by unfold vp_in; decide) dX3_init_37 ?_
  refine z_dup hC dX3_init_38 rfl ?_
  refine z_bipush hC (7 : Int32) dX3_init_39 (by decide) ?_
  refine z_iconst hC (1 : Int32) dX3_init_41 (by decide) ?_
  refine f_iast (p := 0) hC rfl (by unfold vp_in; decide) dX3_init_42 ?_
  refine z_dup hC dX3_init_43 rfl ?_
  refine z_bipush hC (8 : Int32) dX3_init_44 (by decide) ?_
  refine z_iconst hC (1 : Int32) dX3_init_46 (by decide) ?_
  refine f_iast (p := 0) hC rfl (by unfold vp_in; decide) dX3_init_47 ?_
  refine z_dup hC dX3_init_48 rfl ?_
  refine z_bipush hC (9 : Int32) dX3_init_49 (by decide) ?_
  refine z_iconst hC (1 : Int32) dX3_init_51 (by decide) ?_
  refine f_iast (p := 0) hC rfl (by unfold vp_in; decide) dX3_init_52 ?_
  refine f_putF (k := 0) (v := .ref (vBs V + (L.length + 0))) hC hin hjl lqRX3_9_3 (Nat.le_of_ble_eq_true rfl) rfl rfl dX3_init_53 ?_
  refine z_aload_n hC 0 dX3_init_56 rfl rfl ?_
  refine z_bipush hC (64 : Int32) dX3_init_57 (by decide) ?_
  refine f_newa (t := 0) (N := 64) (ty := .int) (a0 := .inl (fun _ => 0)) 1 rfl hC hjl hsz rfl (fun _ => rfl) (fun _ _ h => h) lzA_int rfl (fun _ => rfl) (by decide) (by decide) (by decide) ⟨by rw [hcl]; decide, by rw [hsl]; decide⟩ dX3_init_59 ?_
  refine f_putF (k := 1) (v := .ref (vBs V + (L.length + 1))) hC hin hjl lqRX3_15_3 (Nat.le_of_ble_eq_true rfl) rfl rfl dX3_init_61 ?_
  refine z_aload_n hC 0 dX3_init_64 rfl rfl ?_
  refine z_bipush hC (16 : Int32) dX3_init_65 (by decide) ?_
  refine f_newa (t := 0) (N := 16) (ty := .int) (a0 := .inl (fun _ => 0)) 2 rfl hC hjl hsz rfl (fun _ => rfl) (fun _ _ h => h) lzA_int rfl (fun _ => rfl) (by decide) (by decide) (by decide) ⟨by rw [hcl]; decide, by rw [hsl]; decide⟩ dX3_init_67 ?_
  refine f_putF (k := 2) (v := .ref (vBs V + (L.length + 2))) hC hin hjl lqRX3_18_3 (Nat.le_of_ble_eq_true rfl) rfl rfl dX3_init_69 ?_
  refine z_aload_n hC 0 dX3_init_72 rfl rfl ?_
  refine z_bipush hC (64 : Int32) dX3_init_73 (by decide) ?_
  refine f_newa (t := 0) (N := 64) (ty := .int) (a0 := .inl (fun _ => 0)) 3 rfl hC hjl hsz rfl (fun _ => rfl) (fun _ _ h => h) lzA_int rfl (fun _ => rfl) (by decide) (by decide) (by decide) ⟨by rw [hcl]; decide, by rw [hsl]; decide⟩ dX3_init_75 ?_
  refine f_putF (k := 3) (v := .ref (vBs V + (L.length + 3))) hC hin hjl lqRX3_21_3 (Nat.le_of_ble_eq_true rfl) rfl rfl dX3_init_77 ?_
  refine z_iconst hC (0 : Int32) dX3_init_80 (by decide) ?_
  refine z_istore_n hC [(0, .ref (vBs V + 25)), (1, .int (0 : Int32))] [1, 0] dX3_init_81 rfl (by decide) rfl ?_
  exact loop 64 0 rfl
