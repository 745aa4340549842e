def okD (y : MethodName) (np : Nat) : Prop := y.cls ≠ "java/lang/invoke/MethodHandle" ∧ y.cls ≠ "java/lang/invoke/VarHandle" ∧ (parseMethodDescriptor y.desc).map (fun d => d.parameters.length) = some np
def okS (own : String) (i : Nat) (y : MethodName) (b : ByteArray) (maxL : Nat) (ret : Option FieldType) (np : Nat) : Prop := Cond.methodLink own i y ∈ gd_tbl ∧ Cond.static y ∈ gd_tbl ∧ Cond.initialized y.cls ∈ gd_tbl ∧ Cond.code y b maxL ret ∈ gd_tbl ∧ okD y np ∧ maxL ≤ 41
def okV (own : String) (i : Nat) (C : String) (y : MethodName) (b : ByteArray) (maxL : Nat) (ret : Option FieldType) (np : Nat) : Prop := Cond.methodLink own i y ∈ gd_tbl ∧ Cond.instanceMethod y ∈ gd_tbl ∧ Cond.selects C y y ∈ gd_tbl ∧ Cond.initialized C ∈ gd_tbl ∧ Cond.code y b maxL ret ∈ gd_tbl ∧ (y.cls = C ∧ okD y np) ∧ maxL ≤ 41
def okU (own : String) (i : Nat) (C owner : String) (x y : MethodName) (b : ByteArray) (maxL : Nat) (ret : Option FieldType) (np : Nat) : Prop := Cond.methodLink own i x ∈ gd_tbl ∧ Cond.sameMethod x.cls owner x.name x.desc ∈ gd_tbl ∧ Cond.selects C x y ∈ gd_tbl ∧ Cond.instanceMethod y ∈ gd_tbl ∧ Cond.initialized y.cls ∈ gd_tbl ∧ Cond.code y b maxL ret ∈ gd_tbl ∧ y = ⟨owner, x.name, x.desc⟩ ∧ (owner ≠ "java/lang/invoke/MethodHandle" ∧ owner ≠ "java/lang/invoke/VarHandle" ∧ (parseMethodDescriptor x.desc).map (fun d => d.parameters.length) = some np) ∧ maxL ≤ 41
section ZC
variable {V : VT} {Q : State → Prop} {n : Nat × Nat} {nL : Nat} {X : Type} {C : X → Prop} {hp : HP} {lv : List (Nat × Value)} {pc : Nat} {st : List Value} {cc : ByteArray} {own : String} {ret : Option FieldType} {Lv : Nat}
variable {Y : Type} {oc : Option Y} {kf : Y → Option X} {rv : Y → Option Value} {ho : Y → HP} {rest : List Value} {y : MethodName} {b : ByteArray} {maxL np L i : Nat} {rt : Option FieldType}
theorem Ct.room {L Lv maxL : Nat} {R : Room} (h : L + 1 ≤ Lv) (hm : maxL ≤ 41) (h1 : Lv ≤ R.frames) (h2 : 60 * Lv ≤ R.locals) : (rmLv L).frames + 1 ≤ R.frames ∧ 8 + (maxL + 11) + (rmLv L).locals ≤ R.locals := by
  refine ⟨Nat.le_trans h h1, Nat.le_trans ?_ h2⟩
  show 8 + (maxL + 11) + 60 * L ≤ 60 * Lv
  omega
theorem Wd.blind {D : va_G} {tg : Nat → ClassId} {bs : Nat} {sa : Nat → Nat} {hp : HP} {av : List Value} : FrameBlind (va_Pc av (Wd D tg bs sa hp)) := fun _ _ g mk q => ⟨q.1, q.2.calling g mk _⟩
theorem z_callS {As : List Value} (hC : CX V cc own nL ret Lv) (hk : okS own i y b maxL rt np) (hM : CtV V y b maxL rt L As hp oc rv ho) (hL : L + 1 ≤ Lv) (hn : n.1 ≤ (vRo V).cells ∧ n.2 ≤ (vRo V).slots) (hd : decode cc pc = .ok (.invokestatic i, 3)) (hl : As.length = np) (hst : st = As.reverse ++ rest) (hw : (rest.map fun v => v.category).sum ≤ 8) (kk : ∀ y, Zs V Q n nL (kf y) C (ho y) lv (pc + 3) ((rv y).toList ++ rest)) : Zs V Q n nL (oc.bind kf) C hp lv pc st := by
  refine z_run (a := As.toArray) (fun x hx H locs ls hT hls => ?_) kk
  exact va_runS ⟨hC.1, hC.2.1, hC.2.2.1, hC.2.2.2.1, hC.2.2.2.2.1⟩ (hM x hx) (va_cwS np hC.2.2.2.2.1 (by
      intro w hw
      rcases List.mem_append.mp hw with h | h
      · simp only [List.mem_cons, List.not_mem_nil, or_false] at h
        rcases h with h | h | h <;> subst h
        · exact T_in hk.1
        · exact T_in hk.2.1
        · exact T_in hk.2.2.1
      · exact wsT_good hk.2.2.2.1 w h) rfl rfl rfl hk.2.2.2.2.1 (Ct.room hL hk.2.2.2.2.2 hC.2.2.2.2.2.2.2.2.2.2.1 hC.2.2.2.2.2.2.2.2.2.2.2))
    ⟨Wd.blind, fun U hU hW => ⟨rfl, hT.wd hC hU hW⟩⟩ rfl hl hls.1 hst (lv_room hw) hd hn
theorem z_callV {ci a N : Nat} {T : u_T} {C0 : String} {As : List Value} (hC : CX V cc own nL ret Lv) (hcl : cls[ci]? = some (C0, T, N)) (hk : okV own i C0 y b maxL rt np) (hM : CtV V y b maxL rt L (.ref a :: As) hp oc rv ho) (hL : L + 1 ≤ Lv) (hn : n.1 ≤ (vRo V).cells ∧ n.2 ≤ (vRo V).slots) (hd : decode cc pc = .ok (.invokevirtual i, 3)) (hl : As.length = np) (hst : st = As.reverse ++ .ref a :: rest) (hw : (rest.map fun v => v.category).sum ≤ 8) (kk : ∀ y, Zs V Q n nL (kf y) C (ho y) lv (pc + 3) ((rv y).toList ++ rest)) : Zs V Q n nL ((rc [ci] hp a oc).bind kf) C hp lv pc st := by
  refine z_run (a := (Value.ref a :: As).toArray) (fun x hx H locs ls hT hls => ?_) kk
  unfold rc at hx
  split at hx
  · rename_i hO
    unfold isO at hO
    split at hO
    · rename_i ci' fs hq
      have e : ci' = ci := by simpa using hO
      subst e
      exact va_runV ⟨hC.1, hC.2.1, hC.2.2.1, hC.2.2.2.1, hC.2.2.2.2.1⟩ (hM x hx) (cwV np hC.2.2.2.2.1 (by
          intro w hw
          rcases List.mem_append.mp hw with h | h
          · simp only [List.mem_cons, List.not_mem_nil, or_false] at h
            rcases h with h | h | h | h <;> subst h
            · exact T_in hk.1
            · exact T_in hk.2.1
            · exact T_in hk.2.2.1
            · exact T_in hk.2.2.2.1
          · exact wsT_good hk.2.2.2.2.1 w h) rfl rfl rfl hk.2.2.2.2.2.1 (Ct.room hL hk.2.2.2.2.2.2 hC.2.2.2.2.2.2.2.2.2.2.1 hC.2.2.2.2.2.2.2.2.2.2.2))
        ⟨Wd.blind, va_recv hC.2.2.2.2.2.1 (hT.1.P hq) hcl (q0 := 0) rfl, fun U hU hW => ⟨rfl, hT.wd hC hU hW⟩⟩ rfl hl hls.1 hst (lv_room hw) hd hn
    · cases hO
  · cases hx
theorem z_callU {cs : List Nat} {a : Nat} {owner : String} {x : MethodName} {As : List Value} (hC : CX V cc own nL ret Lv) (hk : ∀ ci ∈ cs, ∃ (C0 : String) (T : u_T) (N : Nat), cls[ci]? = some (C0, T, N) ∧ okU own i C0 owner x y b maxL rt np) (hM : CtV V y b maxL rt L (.ref a :: As) hp oc rv ho) (hL : L + 1 ≤ Lv) (hn : n.1 ≤ (vRo V).cells ∧ n.2 ≤ (vRo V).slots) (hd : decode cc pc = .ok (.invokevirtual i, 3)) (hl : As.length = np) (hst : st = As.reverse ++ .ref a :: rest) (hw : (rest.map fun v => v.category).sum ≤ 8) (kk : ∀ y, Zs V Q n nL (kf y) C (ho y) lv (pc + 3) ((rv y).toList ++ rest)) : Zs V Q n nL ((rc cs hp a oc).bind kf) C hp lv pc st := by
  refine z_run (a := (Value.ref a :: As).toArray) (fun x hx H locs ls hT hls => ?_) kk
  unfold rc at hx
  split at hx
  · rename_i hO
    unfold isO at hO
    split at hO
    · rename_i ci fs hq
      obtain ⟨C0, T, N, hcl, hk⟩ := hk ci (by simpa using hO)
      exact va_runU ⟨hC.1, hC.2.1, hC.2.2.1, hC.2.2.2.1, hC.2.2.2.2.1⟩ (hM _ hx) (va_cwU np hC.2.2.2.2.1 (by
          intro w hw
          rcases List.mem_append.mp hw with h | h
          · simp only [List.mem_cons, List.not_mem_nil, or_false] at h
            rcases h with h | h | h | h | h <;> subst h
            · exact T_in hk.1
            · exact T_in hk.2.1
            · exact T_in hk.2.2.1
            · exact T_in hk.2.2.2.1
            · exact T_in hk.2.2.2.2.1
          · exact wsT_good hk.2.2.2.2.2.1 w h) rfl rfl rfl hk.2.2.2.2.2.2.1 hk.2.2.2.2.2.2.2.1 (Ct.room hL hk.2.2.2.2.2.2.2.2 hC.2.2.2.2.2.2.2.2.2.2.1 hC.2.2.2.2.2.2.2.2.2.2.2))
        ⟨Wd.blind, va_recv hC.2.2.2.2.2.1 (hT.1.P hq) hcl (q0 := 0) rfl, fun U hU hW => ⟨rfl, hT.wd hC hU hW⟩⟩ rfl hl hls.1 hst (lv_room hw) hd hn
    · cases hO
  · cases hx
end ZC
/-- a walk makes a contract -/
theorem Ct.of {X : Type} {l : Launch} {D : va_G} {tg : Nat → ClassId} {bs : Nat} {sa : Nat → Nat} {y : MethodName} {b : ByteArray} {nl : Nat} {ret : Option FieldType} {L : Nat} {av : List Value} {hp : HP} {o : Option X} {rv : X → Option Value} {ho : X → HP} (hy : plainName y.cls = true) (hn : (lg_sl av).length ≤ nl)
    (body : ∀ (V : VT) (Q : State → Prop), vLa V = l → vDa V = D → vTg V = tg → vBs V = bs → vSa V = sa → CX V b y.cls nl ret L → Zs V Q (0, 0) nl o (fun x => RetC V Q (0, 0) (rv x) (ho x)) hp (lv_args 0 av) 0 []) : Ct l D tg bs sa y b nl ret L av hp o rv ho := by
  intro x hx
  refine Met.ofW (cc := b) (maxL := nl) (ret := ret) hy rfl ?_
  intro p e s m args below meth c s₁ B hml hv
  obtain ⟨rfl, hwd⟩ := hv
  have hts0 := atoms_spec (ws := wsT y b nl ret) B.pre
  have hts : ∀ w ∈ gd_tbl, w.before av.toArray s = true := fun w hw => hts0 w (List.mem_cons_of_mem _ hw)
  have hown : s.vm.findClass y.cls = some m.cls := findClass_of_methodNamed B.named
  have hl := lv_entry av (n := nl) hn
  rw [lg_entry_eq]
  generalize (lg_sl av ++ List.replicate (nl - (lg_sl av).length) Slot.unset).toArray = ls at hl ⊢
  exact body (p, l, e, (headSpec (wsT y b nl ret) (rmLv L)).room, s, m, av.toArray, below, meth, c, D, tg, bs, sa) _ rfl rfl rfl rfl rfl
    ⟨B.exec, B.bytes, hml, hown, hts, hwd.2.2.1, hwd.2.2.2.1, hwd.2.2.2.2, B.notSynchronized, B.returns, Nat.le_refl _, Nat.le_refl _⟩ x hx (fun t h => h) s.heap [] ls ⟨⟨hwd.1, hwd.2.1⟩, va_S.rf⟩ hl
theorem hn0 {R : Room} : ((0, 0) : Nat × Nat).1 ≤ R.cells ∧ ((0, 0) : Nat × Nat).2 ≤ R.slots := ⟨Nat.zero_le _, Nat.zero_le _⟩
