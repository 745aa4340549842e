/-! the law from its entry to its end (heads: kit/laws/SKELETON.whole) -/
def lw_P (b : Addr) (xs : List Int32) (args : Array Value) (s : State) : Prop := args = #[.ref b] ∧ s.IntsAt b xs ∧ xs.length ≤ 3072 ∧ (Jvm.Cond.and given_1 narrow_1).before args s = true
def lw_Q (_ : Array Value) (s : State) (o : Outcome) (t : State) : Prop := o = .returned (some (.int 1)) ∧ Framed s o t [] 600000 7302250
def lw_Z (below : List Frame) (a : Array Value) (s : State) : State → Prop := fun t => ∃ o, t.status = .running ∧ Ended t below o ∧ lw_Q a s o t
/-- the law's own end, with 1 on the stack, nothing written that was there before, its room as the claim has it -/
theorem lw_ret {p : Program} {l : Launch} {e : Env} {s : State} {m : MethodId} {below : List Frame} {meth : Method} {c : Code} {b : Nat} (hx : p.tables.exec = Jvm.exec) (hb : c.code = code) (hr : meth.sig.returnType = ret) (hlocks : meth.locks = false) {pc : Nat} {H : Heap} {ls : Array Slot} (hdg : decode code pc = .ok (.ireturn, 1)) : W p l e room_1 s m #[Value.ref b] below meth c H [] 600000 7302250 (lw_Z below #[Value.ref b] s) (F0 m pc ls [.int 1]) := by
  intro T hT X
  obtain ⟨fs, hret, hrun, hended, hW, hframe⟩ := X.leave (v := some (.int 1)) (hlocks := hlocks) (fun h => by rw [hr] at h; cases h)
  have hmeth' : T.vm.method? m = some meth := X.method'
  refine ⟨T.setFrames fs, ?_, .returned (some (.int 1)), hrun, hended, rfl, ⟨_, rfl⟩, hW, hframe⟩
  jvm_step X.here [X.here.top, hx, hb, hdg, hmeth', hr, ret, narrow_b1]
  (try refine ⟨rfl, ?_⟩); (try refine ⟨rfl, ?_⟩)
  first | (intro acts; rw [hret _ acts rfl rfl rfl]) | rw [hret _ _ rfl rfl rfl]
  exact Steps.refl _
/-- what holds at the law's entry: the machine, the code, the tables' words (any of lw_tbl by 'hts w (by decide +kernel)'), the script of L ints xs at the cell b, what the Statement gives of the start (any of its parts by flat_of_before) -/
def lw_At (p : Program) (s : State) (m : MethodId) (meth : Method) (c : Code) (b L : Nat) (xs : Nat → Int32) : Prop :=
  p.tables.exec = Jvm.exec ∧ c.code = code ∧ meth.sig.returnType = ret ∧ c.maxLocals = 4 ∧ s.vm.findClass R_law = some m.cls ∧ (∀ w ∈ lw_tbl, w.before #[Value.ref b] s = true) ∧ va_X b L xs s s.heap ∧ b < s.heap.size ∧ meth.locks = false ∧ (Jvm.Cond.and given_1 narrow_1).before #[Value.ref b] s = true
theorem hl_nil (b q : Nat) : hl b [] q = none := by
  unfold hl
  split <;> rfl
theorem loW_9 : okI R_law 9 yX11_init cX11_init 1 0 := ⟨in_I 126 (by decide +kernel), in_I 127 (by decide +kernel), in_I 102 (by decide +kernel), in_I 128 (by decide +kernel), ⟨by decide +kernel, by decide +kernel, by decide +kernel⟩, by decide, rfl⟩
theorem loW_12 : okI R_law 12 yX12_init cX12_init 2 0 := ⟨in_I 1104 (by decide +kernel), in_I 1105 (by decide +kernel), in_I 115 (by decide +kernel), in_I 1106 (by decide +kernel), ⟨by decide +kernel, by decide +kernel, by decide +kernel⟩, by decide, rfl⟩
theorem lcW_7 : Cond.classLink R_law 7 RX11 ∈ gd_tbl := in_I 124 (by decide +kernel)
theorem lcW_10 : Cond.classLink R_law 10 RX12 ∈ gd_tbl := in_I 1102 (by decide +kernel)
theorem liW_11 : Cond.initialized RX11 ∈ gd_tbl := in_I 102 (by decide +kernel)
theorem liW_12 : Cond.initialized RX12 ∈ gd_tbl := in_I 115 (by decide +kernel)
theorem dfW_11 : ∀ j, j < 16 → defaultValue (tyX11 j) = vp_V [.null, .null, .null, .null, .null, .null, .null, .null, .null, .null, .null, .null, .null, .null, .int 0, .null] j := by decide
theorem dfW_12 : ∀ j, j < 66 → defaultValue (tyX12 j) = vp_V [.null, .null, .null, .null, .null, .int 0, .int 0, .int 0, .int 0, .int 0, .int 0, .int 0, .int 0, .null, .int 0, .int 0, .int 0, .int 0, .int 0, .int 0, .int 0, .int 0, .int 0, .int 0, .null, .null, .null, .null, .null, .null, .null, .null, .null, .null, .null, .null, .null, .null, .null, .null, .int 0, .int 0, .int 0, .int 0, .null, .int 0, .int 0, .int 0, .int 0, .int 0, .int 0, .int 0, .int 0, .int 0, .null, .null, .null, .null, .null, .int 0, .int 0, .int 0, .int 0, .int 0, .int 0, .int 0] j := by decide
section
variable {V : VT} {Q : State → Prop} {b L : Nat} {xs : Nat → Int32}
set_option maxRecDepth 100000 in
set_option maxHeartbeats 2000000 in
theorem law_start (hC : CX V code R_law 4 ret 60) (hN : NX (vSt V)) (hsz : (vSt V).heap.size = vBs V) (hRo : (vRo V).cells = 600000 ∧ (vRo V).slots = 7302250) (hX : SX V b L xs) (hL : L ≤ 3072) (hend : ∀ (w : WD) (i : Nat), ZP V Q (106, 26231) 4 (mk (vBs V) w) (lvL (vBs V) b i) 1246 []) : ZP V Q (0, 0) 4 (hl (vBs V) []) [(0, .ref b)] 0 [] := by
  obtain ⟨fl, fg, fa, hP, h11⟩ := ctX11_init (vLa V) (vDa V) (vTg V) (vBs V) (vSa V)
  have h12 := ctX12_init (vLa V) (vDa V) (vTg V) (vBs V) (vSa V) (pL44 (vBs V) fl fg fa) rfl (by rw [pL44_len]; decide) s10 (fits_W (vBs V) fl fg fa)
  have l43 : (pL43 (vBs V) fl fg fa).length = 77 := rfl
  refine k_new (ci := 11) (fs := [.null, .null, .null, .null, .null, .null, .null, .null, .null, .null, .null, .null, .null, .null, .int 0, .null]) hC hsz rfl iX11 tyX11 tyX11_ok lcW_7 lwI11 liW_11 dfW_11 ⟨by rw [hRo.1]; decide, by rw [hRo.2]; decide⟩ dW_0 ?_
  show ZP V Q (0 + 1, 0 + 16) 4 (hl (vBs V) (pL0 (vBs V) fl fg fa)) [(0, .ref b)] (0 + 3) [.ref (vBs V + 0)]
  refine n_cast (n' := (1, 16)) rfl ?_
  refine z_dup hC dW_3 rfl ?_
  refine k_callI (As := []) hC hN (by rw [hsz]; rfl) loW_9 h11 (by decide) ⟨by rw [hRo.1]; decide, by rw [hRo.2]; decide⟩ dW_4 rfl rfl (Nat.le_of_ble_eq_true rfl) ?_
  refine n_cast (n' := (77, 3815)) rfl ?_
  refine z_astore_n hC [(1, .ref (vBs V + 0)), (0, .ref b)] [0, 1] dW_7 rfl (by decide) rfl ?_
  refine k_new (ci := 12) (fs := [.null, .null, .null, .null, .null, .int 0, .int 0, .int 0, .int 0, .int 0, .int 0, .int 0, .int 0, .null, .int 0, .int 0, .int 0, .int 0, .int 0, .int 0, .int 0, .int 0, .int 0, .int 0, .null, .null, .null, .null, .null, .null, .null, .null, .null, .null, .null, .null, .null, .null, .null, .null, .int 0, .int 0, .int 0, .int 0, .null, .int 0, .int 0, .int 0, .int 0, .int 0, .int 0, .int 0, .int 0, .int 0, .null, .null, .null, .null, .null, .int 0, .int 0, .int 0, .int 0, .int 0, .int 0, .int 0]) hC (by rw [hsz, l43]) rfl iX12 tyX12 tyX12_ok lcW_10 lwI12 liW_12 dfW_12 ⟨by rw [hRo.1]; decide, by rw [hRo.2]; decide⟩ dW_8 ?_
  rw [l43]
  show ZP V Q (77 + 1, 3815 + 66) 4 (hl (vBs V) (pL44 (vBs V) fl fg fa)) [(1, .ref (vBs V + 0)), (0, .ref b)] (8 + 3) [.ref (vBs V + 77)]
  refine n_cast (n' := (78, 3881)) rfl ?_
  refine z_dup hC dW_11 rfl ?_
  refine k_callI (As := []) hC hN (by rw [hsz, pL44_len]) loW_12 h12 (by decide) ⟨by rw [hRo.1]; decide, by rw [hRo.2]; decide⟩ dW_12 rfl rfl (Nat.le_of_ble_eq_true rfl) ?_
  refine n_cast (n' := (106, 26231)) rfl ?_
  rw [hl_W]
  refine z_astore_n hC [(2, .ref (vBs V + 77)), (1, .ref (vBs V + 0)), (0, .ref b)] [0, 1, 2] dW_15 rfl (by decide) rfl ?_
  refine z_iconst hC (0 : Int32) dW_16 (by decide) ?_
  refine z_istore_n hC (lvL (vBs V) b 0) [0, 1, 2, 3] dW_17 rfl (by decide) rfl ?_
  exact law_loop hC ⟨by rw [hRo.1]; decide, by rw [hRo.2]; decide⟩ hX hL hend (L + 1) 0 _ (by decide) (by omega) (Rel_W0 hP)
end
theorem whole_start {p : Program} {e : Env} {s : State} {m : MethodId} {below : List Frame} {meth : Method} {c : Code} (l : Launch) {b L : Nat} {xs : Nat → Int32} (hL : L ≤ 3072) (C0 : lw_At p s m meth c b L xs) : W p l e room_1 s m #[Value.ref b] below meth c s.heap [] 0 0 (lw_Z below #[Value.ref b] s) (entryFrame m ([Value.ref b] : List Value).toArray 4) := by
  obtain ⟨hx, hb, hr, hml, hown, hts, hX, hbl, hlocks, hgv⟩ := id C0
  obtain ⟨D, tg, hK⟩ := ent_K hts
  obtain ⟨sa, hSF⟩ := ent_S hts hgv
  have hNX : NX s := ent_N hts
  have hlv := lv_entry ([.ref b]) (n := 4) (Nat.le_of_ble_eq_true rfl)
  rw [lg_entry_eq]
  generalize (lg_sl ([.ref b]) ++ List.replicate (4 - (lg_sl ([.ref b])).length) Slot.unset).toArray = ls at hlv ⊢
  have hlv : lv_has ls 4 [(0, .ref b)] := hlv
  have hC : CX (p, l, e, room_1, s, m, #[Value.ref b], below, meth, c, D, tg, s.heap.size, sa) code R_law 4 ret 60 := ⟨hx, hb, hml, hown, fun w hw => hts w (List.mem_filter.mp hw).1, hK, hSF, Nat.le_refl _, hlocks, hr, Nat.le_of_ble_eq_true rfl, Nat.le_of_ble_eq_true rfl⟩
  have key := law_start (V := (p, l, e, room_1, s, m, #[Value.ref b], below, meth, c, D, tg, s.heap.size, sa)) (Q := lw_Z below #[Value.ref b] s) (b := b) (L := L) (xs := xs) hC hNX rfl ⟨rfl, rfl⟩ ⟨hX, hbl, Nat.not_le.mpr hbl⟩ hL (fun w i => by
    refine z_iconst hC (1 : Int32) dW_1246 (by decide) ?_
    intro _ _ _ H locs ls hT hls
    refine va_forget (fun q hq => hT.2.2.2 q hq) ?_
    exact W.widen (by decide) (by decide) (lw_ret hx hb hr hlocks dW_1247))
  exact key () rfl trivial s.heap [] ls ⟨⟨fun q x hq => (by rw [hl_nil] at hq; cases hq), fun q x hq => (by rw [hl_nil] at hq; cases hq)⟩, va_S.rf⟩ hlv
