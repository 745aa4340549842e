/-! MAKING: arrays of references, calls of makers, the end -/
section
variable {V : VT} {Q : State → Prop} {n : Nat × Nat} {nL : Nat} {hp : HP} {lv : List (Nat × Value)} {pc : Nat} {st : List Value} {cc : ByteArray} {own : String} {ret : Option FieldType} {Lv : Nat} {L : List AE}
abbrev aNo : (Nat → Int32) ⊕ (Nat → Int64) ⊕ (Nat → UInt32) ⊕ (Nat → UInt64) ⊕ (Nat → Option Nat) := .inr (.inr (.inr (.inr (fun _ => none))))
theorem k_anew {i : Nat} {nv : Int32} {N : Nat} (hC : CX V cc own nL ret Lv) (hN : NX (vSt V)) (hz : (vSt V).heap.size + n.1 = vBs V + L.length) (h1 : Cond.classLink own i "PactYears$Standing" ∈ gd_tbl) (hnv : ¬ nv < 0) (hNv : nv.toNatClampNeg = N) (hbytes : N * 4 ≤ 536870912) (hn : n.1 + 1 ≤ (vRo V).cells ∧ n.2 + N ≤ (vRo V).slots) (hd : decode cc pc = .ok (.anewarray i, 3))
    (kk : ZP V Q (n.1 + 1, n.2 + N) nL (hl (vBs V) (L ++ [.inl (5, N, aNo)])) lv (pc + 3) (.ref (vBs V + L.length) :: st)) : ZP V Q n nL (hl (vBs V) L) lv pc (.int nv :: st) := by
  intro _ _ _ H locs ls hT hls
  have hts := hC.2.2.2.2.1
  have hK := hC.2.2.2.2.2.1
  refine va_newq (D := vDa V) (cl := cls) (A := fun q => vBs V ≤ q) (H0 := (vSt V).heap) (ws := wll (vTg V) (vBs V) L) hC.1 hC.2.1 hC.2.2.2.1 (hts _ h1) hN.1 hK (wll_P hT.1) wll_D hT.2 (fun q hq => Nat.le_trans hC.2.2.2.2.2.2.2.1 hq) hnv hNv hbytes hn.1 hn.2 hd (fun q cA H1 hK1 hP hD hS => ?_)
  intro T2 hT2 X2
  have s2 : H1.size ≤ vBs V + L.length + 1 := by
    have := X2.heapSize
    rw [hT2] at this
    omega
  have e := q_eq hP hD s2
  subst e
  obtain ⟨_, _, _, _, _, c1⟩ := (hK1.2 6 (cA, .object "PactYears$Standing") rfl).2
  obtain ⟨_, _, _, _, _, c2⟩ := (hK.2 5 (vTg V 5, .object "PactYears$Standing") rfl).2
  have ce : cA = vTg V 5 := Option.some.inj (c1.symm.trans c2)
  subst ce
  have hP2 : va_P (vDa V) cls (wll (vTg V) (vBs V) (L ++ [.inl (5, N, aNo)])) H1 := by rw [← wll_push]; exact hP
  exact kk () rfl trivial H1 locs ls ⟨wll_OK hP2, hS⟩ hls T2 hT2 X2
def aRow (b j : Nat) : (Nat → Int32) ⊕ (Nat → Int64) ⊕ (Nat → UInt32) ⊕ (Nat → UInt64) ⊕ (Nat → Option Nat) := .inr (.inr (.inr (.inr (fun i => some (b + (j + 1 + i))))))
abbrev aL0 : AE := .inl (3, 16, .inr (.inl (fun _ => 0)))
theorem mu_OK {N : Nat} {H H' : Heap} {locs : List Loc} (hT : ST V (hl (vBs V) L) H locs) (sz : H.size = vBs V + L.length) (hsz : H'.size = vBs V + L.length + 1 + N) (hold : ∀ q, q < vBs V + L.length → H'[q]? = H[q]?) (hout : H'[vBs V + L.length]? = some (arrV (vTg V 4) N (fun j => .ref (vBs V + L.length + 1 + j)))) (hin : ∀ j, j < N → H'[vBs V + L.length + 1 + j]? = some (arrV (vTg V 3) 16 (fun _ => defaultValue .long))) : ST V (hl (vBs V) (L ++ (.inl (4, N, aRow (vBs V) L.length) :: List.replicate N aL0))) H' locs := by
  refine ⟨⟨fun q x hq => ?_, fun q x hq => ?_⟩, ?_, fun q g1 g2 => ?_, hT.2.2.2⟩
  · unfold hl at hq
    split at hq
    · rename_i c
      obtain ⟨j, rfl⟩ : ∃ j, q = vBs V + j := ⟨q - vBs V, by omega⟩
      rw [Nat.add_sub_cancel_left] at hq
      rcases Nat.lt_or_ge j L.length with z | z
      · rw [List.getElem?_append_left z] at hq
        exact (hT.1.1 _ x (by rw [hl_at]; exact hq)).kept (hold _ (by omega))
      · rw [List.getElem?_append_right z] at hq
        obtain ⟨d, rfl⟩ : ∃ d, j = L.length + d := ⟨j - L.length, by omega⟩
        rw [Nat.add_sub_cancel_left] at hq
        cases d with
        | zero =>
          cases hq
          show H'[vBs V + (L.length + 0)]? = _
          rw [Nat.add_zero, hout]
          show some (arrV (vTg V 4) N (fun j => .ref (vBs V + L.length + 1 + j))) = some (arrV (vTg V 4) N (fun j => .ref (vBs V + (L.length + 1 + j))))
          have e : (fun j => Value.ref (vBs V + L.length + 1 + j)) = (fun j => Value.ref (vBs V + (L.length + 1 + j))) := funext (fun j => congrArg Value.ref ((congrArg (fun z : Nat => z + j) (Nat.add_assoc (vBs V) L.length 1)).trans (Nat.add_assoc (vBs V) (L.length + 1) j)))
          rw [e]
        | succ d =>
          rw [List.getElem?_cons_succ, List.getElem?_replicate] at hq
          split at hq
          · rename_i hdn
            cases hq
            show H'[vBs V + (L.length + (d + 1))]? = _
            rw [show vBs V + (L.length + (d + 1)) = vBs V + L.length + 1 + d by omega, hin d hdn]
            rfl
          · cases hq
    · cases hq
  · unfold hl at hq
    split at hq
    · rename_i c; exact c
    · cases hq
  · have := hT.2.1
    omega
  · rw [hold q (by have := hT.2.1; omega)]
    exact hT.2.2.1 q g1 g2
theorem k_multi {i : Nat} {nv : Int32} {N : Nat} (hC : CX V cc own nL ret Lv) (hN : NX (vSt V)) (hz : (vSt V).heap.size + n.1 = vBs V + L.length) (h1 : Cond.classLink own i "[[J" ∈ gd_tbl) (h2 : Cond.arrayClass .long ∈ gd_tbl) (hnv : ¬ nv < 0) (hNv : nv.toNatClampNeg = N) (hn0 : (nv == 0) = false) (hN9 : N < 1000) (hn : n.1 + (1 + N) ≤ (vRo V).cells ∧ n.2 + (N + N * 16) ≤ (vRo V).slots) (hd : decode cc pc = .ok (.multianewarray i 2, 4))
    (kk : ZP V Q (n.1 + (1 + N), n.2 + (N + N * 16)) nL (hl (vBs V) (L ++ (.inl (4, N, aRow (vBs V) L.length) :: List.replicate N aL0))) lv (pc + 4) (.ref (vBs V + L.length) :: st)) : ZP V Q n nL (hl (vBs V) L) lv pc (.int 16 :: .int nv :: st) := by
  intro _ _ _ H locs ls hT hls T0 hT0 X0
  have hts := hC.2.2.2.2.1
  have hK := hC.2.2.2.2.2.1
  have sz := sz_of hC hT hz hT0 X0
  have es : "[" ++ (FieldType.array .long).toString = "[[J" := by decide +kernel
  have et : (FieldType.array .long).toString = "[" ++ FieldType.long.toString := by decide +kernel
  have hcl : (Cond.classLink own i ("[" ++ (FieldType.array .long).toString)).before (vAr V) (vSt V) = true := by rw [es]; exact hts _ h1
  have hao : (Cond.arrayOver (.array .long)).before (vAr V) (vSt V) = true := hN.2.1
  have h16 : ¬ (16 : Int32) < 0 := by decide
  have h16' : (16 : Int32).toNatClampNeg = 16 := by decide
  have hb1 : N * 4 ≤ 536870912 := by omega
  have hb2 : 16 * componentBytes .long ≤ 536870912 := by decide
  have hb3 : 16 ≤ 536870912 := by decide
  have hsh : (vSt V).heap.size ≤ vBs V + L.length := by omega
  have key : vW V n H locs Q (F0 (vMi V) pc ls (.int 16 :: .int nv :: st)) := by
    refine W.multi2 (own := own) (index := i) (t := .long) (K := 16) hC.1 hC.2.1 hC.2.2.2.1 hcl hao (hts _ h2) et rfl hd rfl hnv hNv hn0 h16 h16' hb1 hb2 hb3 rfl hn.1 hn.2 sz hsh (fun H' cA cI fA fI hsz hold hout hin => ?_)
    have cA' : cA = vTg V 4 := Option.some.inj (fA.symm.trans (hK.2 4 (vTg V 4, .array .long) rfl).2)
    have cI' : cI = vTg V 3 := Option.some.inj (fI.symm.trans (hK.2 3 (vTg V 3, .long) rfl).2)
    subst cA'
    subst cI'
    exact kk () rfl trivial H' locs ls (mu_OK hT sz hsz hold hout hin) hls
  exact key T0 hT0 X0
theorem k_aast {j jv : Nat} {fs : List Value} {f : Nat → Option Nat} {N : Nat} {iv : Int32} (hC : CX V cc own nL ret Lv) (hj : L[j]? = some (.inl (5, N, .inr (.inr (.inr (.inr f)))))) (hv : L[jv]? = some (.inr (6, fs))) (hin : vp_in iv N) (hd : decode cc pc = .ok (.aastore, 1)) (kk : ZP V Q n nL (hl (vBs V) (L.set j (.inl (5, N, .inr (.inr (.inr (.inr (va_up f iv.toNatClampNeg (some (vBs V + jv)))))))))) lv (pc + 1) st) : ZP V Q n nL (hl (vBs V) L) lv pc (.ref (vBs V + jv) :: .int iv :: .ref (vBs V + j) :: st) := by
  intro _ _ _ H locs ls hT hls
  refine va_astq (D := vDa V) (cl := cls) (A := fun q => vBs V ≤ q) (H0 := (vSt V).heap) (ws := wll (vTg V) (vBs V) L) (r := (RX6, TX6, 6)) hC.1 hC.2.1 hC.2.2.2.2.2.1 (wll_P hT.1) wll_D hT.2 j 5 jv 6 (by rw [wll_at, hj]; rfl) rfl (by rw [wll_at, hv]; rfl) rfl hin hd (fun H1 locs1 hP hD hS => ?_)
  have hP2 : va_P (vDa V) cls (wll (vTg V) (vBs V) (L.set j (.inl (5, N, .inr (.inr (.inr (.inr (va_up f iv.toNatClampNeg (some (vBs V + jv)))))))))) H1 := by rw [← wll_set]; exact hP
  exact kk () rfl trivial H1 locs1 ls ⟨wll_OK hP2, hS⟩ hls
theorem ST.wdN (hC : CX V cc own nL ret Lv) (hN : NX (vSt V)) {H : Heap} {locs : List Loc} (hT : ST V (hl (vBs V) L) H locs) (hs : H.size = vBs V + L.length) {t : State} (ht : t.heap = H) (hW : (vSt V).WarmedH t.vm) : WdN (vDa V) (vTg V) (vBs V) (vSa V) L t := ⟨hT.wd hC ht hW, hN.warm hW, by rw [ht]; exact hs⟩
/-- behind a maker's call -/
theorem k_run {L1 : List AE} {mc ms : Nat} {rest : List Value} {a : Array Value} (hrun : ∀ (H : Heap) (locs : List Loc) (ls : Array Slot), ST V (hl (vBs V) L) H locs → H.size = vBs V + L.length → lv_has ls nL lv → va_Run (vPr V) (vLa V) (vEn V) (vRo V) (vSt V) (vMi V) (vAr V) (vBe V) (vMe V) (vCo V) H locs n.1 n.2 mc ms (F0 (vMi V) pc ls st) rest (Qn (vDa V) (vTg V) (vBs V) (vSa V) L1 a) (fun q => vBs V ≤ q)) (hC : CX V cc own nL ret Lv) (hz : (vSt V).heap.size + n.1 = vBs V + L.length)
    (kk : ZP V Q (n.1 + mc, n.2 + ms) nL (hl (vBs V) L1) lv (pc + 3) rest) : ZP V Q n nL (hl (vBs V) L) lv pc st := by
  intro _ _ _ H locs ls hT hls T hT1 Xs
  have sz := sz_of hC hT hz hT1 Xs
  obtain ⟨v, st₀, t, T', L', h0, X', hL, e1, e2, ⟨⟨hv, hwd, hnx, hsz⟩, hzz, hk⟩, stp⟩ := hrun H locs ls hT sz hls T hT1 Xs
  cases hv
  rw [h0] at hzz hk
  obtain ⟨t2, a1, b1⟩ := kk () rfl trivial T'.heap (locs ++ L') ls ⟨⟨by rw [e1]; exact hwd.1, hwd.2.1⟩, Nat.le_trans hT.2.1 (by rw [e1]; exact hzz), fun q h1 h2 => by rw [e1, hk q (Nat.lt_of_lt_of_le h1 hT.2.1) h2]; exact hT.2.2.1 q h1 h2, fun q hq => by
    rcases List.mem_append.mp hq with h | h
    · exact hT.2.2.2 q h
    · exact hL q h⟩ hls T' rfl X'
  exact ⟨t2, stp t2 a1, b1⟩
theorem CtN.room {L Lv maxL mc ms : Nat} {R : Room} (h : L + 1 ≤ Lv) (hm : maxL ≤ 41) (h1 : Lv ≤ R.frames) (h2 : 60 * Lv ≤ R.locals) : (rmN L mc ms).frames + 1 ≤ R.frames ∧ 8 + (maxL + 11) + (rmN L mc ms).locals ≤ R.locals := by
  refine ⟨Nat.le_trans h h1, Nat.le_trans ?_ h2⟩
  show 8 + (maxL + 11) + 60 * L ≤ 60 * Lv
  omega
theorem k_callI {y : MethodName} {b : ByteArray} {maxL np Lc i a mc ms : Nat} {As rest : List Value} {L1 : List AE} (hC : CX V cc own nL ret Lv) (hN : NX (vSt V)) (hz : (vSt V).heap.size + n.1 = vBs V + L.length) (hk : okI own i y b maxL np) (hM : CtN (vLa V) (vDa V) (vTg V) (vBs V) (vSa V) y b maxL Lc (.ref a :: As) L L1 mc ms) (hL : Lc + 1 ≤ Lv) (hn : n.1 + mc ≤ (vRo V).cells ∧ n.2 + ms ≤ (vRo V).slots) (hd : decode cc pc = .ok (.invokespecial i, 3)) (hl1 : As.length = np) (hst : st = As.reverse ++ .ref a :: rest) (hw : (rest.map fun v => v.category).sum ≤ 8) (kk : ZP V Q (n.1 + mc, n.2 + ms) nL (hl (vBs V) L1) lv (pc + 3) rest) : ZP V Q n nL (hl (vBs V) L) lv pc st := by
  refine k_run (a := (Value.ref a :: As).toArray) (fun H locs ls hT hs hls => ?_) hC hz kk
  have hts := hC.2.2.2.2.1
  exact va_runI ⟨hC.1, hC.2.1, hC.2.2.1, hC.2.2.2.1, hts⟩ hM (cwI np hts (wsT_good hk.2.2.2.1) rfl rfl rfl (hts _ hk.2.2.1) (hts _ hk.1) (hts _ hk.2.1) hk.2.2.2.2.2.2 hk.2.2.2.2.1 (CtN.room hL hk.2.2.2.2.2.1 hC.2.2.2.2.2.2.2.2.2.2.1 hC.2.2.2.2.2.2.2.2.2.2.2)) ⟨WdN.blind, fun U hU hW => ⟨rfl, hT.wdN hC hN hs hU hW⟩⟩ rfl hl1 hls.1 hst (lv_room hw) hd hn
theorem k_callIN {y : MethodName} {b : ByteArray} {maxL np Lc i a mc ms : Nat} {As rest : List Value} {L1 : List AE} (hC : CX V cc own nL ret Lv) (hN : NX (vSt V)) (hz : (vSt V).heap.size + n.1 = vBs V + L.length) (hk : okIN own i y b maxL np) (hM : CtN (vLa V) (vDa V) (vTg V) (vBs V) (vSa V) y b maxL Lc (.ref a :: As) L L1 mc ms) (hL : Lc + 1 ≤ Lv) (hn : n.1 + mc ≤ (vRo V).cells ∧ n.2 + ms ≤ (vRo V).slots) (hd : decode cc pc = .ok (.invokespecial i, 3)) (hl1 : As.length = np) (hst : st = As.reverse ++ .ref a :: rest) (hw : (rest.map fun v => v.category).sum ≤ 8) (kk : ZP V Q (n.1 + mc, n.2 + ms) nL (hl (vBs V) L1) lv (pc + 3) rest) : ZP V Q n nL (hl (vBs V) L) lv pc st := by
  refine k_run (a := (Value.ref a :: As).toArray) (fun H locs ls hT hs hls => ?_) hC hz kk
  have hts := hC.2.2.2.2.1
  exact va_runIN ⟨hC.1, hC.2.1, hC.2.2.1, hC.2.2.2.1, hts⟩ hM ⟨va_cnB np hts (wsT_good hk.2.2.2.1) rfl rfl rfl (hN.2.2 _ hk.1) (hts _ hk.2.2.1) hk.2.2.2.2.1 (CtN.room hL hk.2.2.2.2.2.1 hC.2.2.2.2.2.2.2.2.2.2.1 hC.2.2.2.2.2.2.2.2.2.2.2), hk.2.2.2.2.2.2, hts _ hk.2.1⟩ ⟨WdN.blind, fun U hU hW => ⟨rfl, hT.wdN hC hN hs hU hW⟩⟩ rfl hl1 hls.1 hst (lv_room hw) hd hn
theorem k_vret (hC : CX V cc own nL none Lv) (hN : NX (vSt V)) (hz : (vSt V).heap.size + n.1 = vBs V + L.length) (hr : RetN V Q n L) (hd : decode cc pc = .ok (.return_, 1)) : ZP V Q n nL (hl (vBs V) L) lv pc [] := by
  intro _ _ _ H locs ls hT hls T hT1 X
  have sz := sz_of hC hT hz hT1 X
  exact (W.vret (Qc := Qn (vDa V) (vTg V) (vBs V) (vSa V) L) (free := fun q => vBs V ≤ q) hC.1 hC.2.1 hC.2.2.2.2.2.2.2.2.2.1 (fun t ht hW => ⟨⟨rfl, hT.wdN hC hN sz ht hW⟩, hT.2.F ht⟩) hT.2.2.2 hd hC.2.2.2.2.2.2.2.2.1).mono hr T hT1 X
end
/-- a walk makes a maker's contract -/
theorem CtN.of {l : Launch} {D : va_G} {tg : Nat → ClassId} {bs : Nat} {sa : Nat → Nat} {y : MethodName} {b : ByteArray} {nl L : Nat} {av : List Value} {l0 l1 : List AE} {mc ms : Nat} (hy : plainName y.cls = true) (hyn : y.name = "<init>") (hn : (lg_sl av).length ≤ nl)
    (body : ∀ (V : VT) (Q : State → Prop), vLa V = l → vDa V = D → vTg V = tg → vBs V = bs → vSa V = sa → CX V b y.cls nl none L → NX (vSt V) → (vMe V).name = "<init>" → (vSt V).heap.size = bs + l0.length → (vRo V).cells = mc → (vRo V).slots = ms → RetN V Q (mc, ms) l1 → ZP V Q (0, 0) nl (hl bs l0) (lv_args 0 av) 0 []) : CtN l D tg bs sa y b nl L av l0 l1 mc ms := by
  refine Met.ofW (cc := b) (maxL := nl) (ret := none) hy rfl ?_
  intro p e s m args below meth c s₁ B hml hv
  obtain ⟨rfl, hwd, hnx, hsz⟩ := hv
  have hts0 := atoms_spec (ws := wsT y b nl none) B.pre
  have hts : ∀ w ∈ gd_tbl, w.before av.toArray s = true := fun w hw => hts0 w (List.mem_cons_of_mem _ hw)
  have hown : s.vm.findClass y.cls = some m.cls := findClass_of_methodNamed B.named
  have hname : meth.name = "<init>" := ((name_of_methodNamed B.named B.method).1).trans hyn
  have hl := lv_entry av (n := nl) hn
  rw [lg_entry_eq]
  generalize (lg_sl av ++ List.replicate (nl - (lg_sl av).length) Slot.unset).toArray = ls at hl ⊢
  exact body (p, l, e, (headSpec (wsT y b nl none) (rmN L mc ms)).room, s, m, av.toArray, below, meth, c, D, tg, bs, sa) _ rfl rfl rfl rfl rfl
    ⟨B.exec, B.bytes, hml, hown, hts, hwd.2.2.1, hwd.2.2.2.1, hwd.2.2.2.2, B.notSynchronized, B.returns, Nat.le_refl _, Nat.le_refl _⟩ hnx hname hsz rfl rfl (fun t h => h) () rfl trivial s.heap [] ls ⟨⟨hwd.1, hwd.2.1⟩, va_S.rf⟩ hl
