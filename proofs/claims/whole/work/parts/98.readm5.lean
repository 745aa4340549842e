/-! the reference reads tests: what waits lands, pieces end -/
def landB (p0 : Nat) (p1 : Int32) : HP → Option ((HP ⊕ HP) ⊕ HP) := (fun (s1 : HP) => (rc [12] s1 p0 (FX12_waitTop s1 p0)).bind (fun v3 => jn (A := Unit) (fun a4 => (gR [12] 25 s1 p0).bind (fun v6 => (gI [12] 21 s1 p0).bind (fun v7 => (rdN 0 s1 v6 (v7 - (1 : Int32))).bind (fun v8 => (rmI v8 (1048576 : Int32)).bind (fun v9 => (gR [12] 24 s1 p0).bind (fun v10 => (gR [12] 24 s1 p0).bind (fun v11 => (rdN 0 s1 v11 v9).bind (fun v12 => (dvI v12 (1048576 : Int32)).bind (fun v13 => (gI [12] 20 s1 p0).bind (fun v14 => (wrI s1 v10 v9 (((1048576 : Int32) * v13) + v14)).bind (fun hp15 => (gI [12] 21 hp15 p0).bind (fun v16 => (sI [12] 21 hp15 p0 (v16 - (1 : Int32))).bind (fun hp17 => some (Sum.inr hp17)))))))))))))) (fun J5 => if v3 = (11 : Int32) then J5 () else if p1 = 0 then some (Sum.inl (Sum.inl s1)) else (rc [12] s1 p0 (FX12_waitTop s1 p0)).bind (fun v18 => if v18 = (12 : Int32) then J5 () else some (Sum.inl (Sum.inl s1))))))
theorem land_body (hp : HP) (p0 : Nat) (p1 : Int32) : FX12_lands hp p0 p1 = (lp (landB p0 p1) FU hp).bind (lk (P := HP) (fun r => r) (fun (y2 : HP) => none)) := rfl
def endB (p0 : Nat) : HP → Option (HP ⊕ HP) := (fun (s1 : HP) => (rc [12] s1 p0 (FX12_waitTop s1 p0)).bind (fun v3 => if v3 = (10 : Int32) then (rc [12] s1 p0 (FX12_notes s1 p0 (10 : Int32) (0 : Int32))).bind (fun w4 => (gI [12] 21 w4 p0).bind (fun v5 => (sI [12] 21 w4 p0 (v5 - (1 : Int32))).bind (fun hp6 => (gI [12] 19 hp6 p0).bind (fun v7 => (sI [12] 19 hp6 p0 (v7 - (1 : Int32))).bind (fun hp8 => some (Sum.inr hp8)))))) else some (Sum.inl s1)))
theorem end_body (hp : HP) (p0 : Nat) : FX12_endsPiece hp p0 = (lp (endB p0) FU hp).bind (fun (y2 : HP) => some y2) := rfl
def innB (p0 : Nat) : HP → Option (((Int32 × HP) ⊕ HP) ⊕ HP) := (fun (s16 : HP) => (rc [12] s16 p0 (FX12_here s16 p0)).bind (fun v32 => if v32 = (41 : Int32) then (rc [12] s16 p0 (FX12_lands s16 p0 (1 : Int32))).bind (fun w33 => (gI [12] 21 w33 p0).bind (fun v34 => (sI [12] 21 w33 p0 (v34 - (1 : Int32))).bind (fun hp35 => (gI [12] 19 hp35 p0).bind (fun v36 => (sI [12] 19 hp35 p0 (v36 - (1 : Int32))).bind (fun hp37 => (gI [12] 15 hp37 p0).bind (fun v38 => (sI [12] 15 hp37 p0 (v38 + (1 : Int32))).bind (fun hp39 => (gI [12] 21 hp39 p0).bind (fun v40 => if v40 = 0 then some (Sum.inl (Sum.inl ((1 : Int32), hp39))) else (rc [12] hp39 p0 (FX12_endsPiece hp39 p0)).bind (fun w41 => some (Sum.inr w41)))))))))) else some (Sum.inl (Sum.inr s16))))
def restQ (p0 : Nat) (y17 : HP) : Option (((Int32 × HP) ⊕ HP) ⊕ HP) := (rc [12] y17 p0 (FX12_here y17 p0)).bind (fun v18 => jn (A := Unit) (fun a19 => (rc [12] y17 p0 (FX12_here y17 p0)).bind (fun v21 => jn (A := Int32) (fun a22 => (rc [12] y17 p0 (FX12_lands y17 p0 a22)).bind (fun w24 => (rc [12] w24 p0 (FX12_here w24 p0)).bind (fun v25 => jn (A := Int32) (fun a26 => (rc [12] w24 p0 (FX12_jumps w24 p0 a26)).bind (fun w28 => some (Sum.inr w28))) (fun J27 => if v25 = (38 : Int32) then J27 (11 : Int32) else J27 (12 : Int32))))) (fun J23 => if v21 = (124 : Int32) then J23 (1 : Int32) else J23 (0 : Int32)))) (fun J20 => if v18 = (38 : Int32) then J20 () else (rc [12] y17 p0 (FX12_here y17 p0)).bind (fun v29 => if v29 = (124 : Int32) then J20 () else (gI [12] 15 y17 p0).bind (fun v30 => (rc [12] y17 p0 (FX12_wrongAt y17 p0 (1 : Int32) v30)).bind (fun w31 => bz w31.1 (some (Sum.inl (Sum.inl (w31.1, w31.2)))))))))
def condM (p0 : Nat) : HP → Option (((Int32 × HP) ⊕ HP) ⊕ HP) := (fun (s5 : HP) => (rc [12] s5 p0 (FX12_here s5 p0)).bind (fun v7 => jn (A := Unit) (fun a8 => (rc [12] s5 p0 (FX12_here s5 p0)).bind (fun v10 => jn (A := Int32) (fun a11 => (rc [12] s5 p0 (FX12_opens s5 p0 a11)).bind (fun w13 => if w13.1 = 0 then some (Sum.inl (Sum.inl ((0 : Int32), w13.2))) else some (Sum.inr w13.2))) (fun J12 => if v10 = (33 : Int32) then J12 (10 : Int32) else J12 (13 : Int32)))) (fun J9 => if v7 = (33 : Int32) then J9 () else (rc [12] s5 p0 (FX12_here s5 p0)).bind (fun v14 => if v14 = (40 : Int32) then J9 () else (rc [12] s5 p0 (FX12_readsCompared s5 p0)).bind (fun w15 => if w15.1 = 0 then some (Sum.inl (Sum.inl ((0 : Int32), w15.2))) else (lp (fun (s16 : HP) => (rc [12] s16 p0 (FX12_here s16 p0)).bind (fun v32 => if v32 = (41 : Int32) then (rc [12] s16 p0 (FX12_lands s16 p0 (1 : Int32))).bind (fun w33 => (gI [12] 21 w33 p0).bind (fun v34 => (sI [12] 21 w33 p0 (v34 - (1 : Int32))).bind (fun hp35 => (gI [12] 19 hp35 p0).bind (fun v36 => (sI [12] 19 hp35 p0 (v36 - (1 : Int32))).bind (fun hp37 => (gI [12] 15 hp37 p0).bind (fun v38 => (sI [12] 15 hp37 p0 (v38 + (1 : Int32))).bind (fun hp39 => (gI [12] 21 hp39 p0).bind (fun v40 => if v40 = 0 then some (Sum.inl (Sum.inl ((1 : Int32), hp39))) else (rc [12] hp39 p0 (FX12_endsPiece hp39 p0)).bind (fun w41 => some (Sum.inr w41)))))))))) else some (Sum.inl (Sum.inr s16)))) FU w15.2).bind (lk (P := Int32 × HP) (fun r => (Sum.inl (Sum.inl r))) (fun (y17 : HP) => (rc [12] y17 p0 (FX12_here y17 p0)).bind (fun v18 => jn (A := Unit) (fun a19 => (rc [12] y17 p0 (FX12_here y17 p0)).bind (fun v21 => jn (A := Int32) (fun a22 => (rc [12] y17 p0 (FX12_lands y17 p0 a22)).bind (fun w24 => (rc [12] w24 p0 (FX12_here w24 p0)).bind (fun v25 => jn (A := Int32) (fun a26 => (rc [12] w24 p0 (FX12_jumps w24 p0 a26)).bind (fun w28 => some (Sum.inr w28))) (fun J27 => if v25 = (38 : Int32) then J27 (11 : Int32) else J27 (12 : Int32))))) (fun J23 => if v21 = (124 : Int32) then J23 (1 : Int32) else J23 (0 : Int32)))) (fun J20 => if v18 = (38 : Int32) then J20 () else (rc [12] y17 p0 (FX12_here y17 p0)).bind (fun v29 => if v29 = (124 : Int32) then J20 () else (gI [12] 15 y17 p0).bind (fun v30 => (rc [12] y17 p0 (FX12_wrongAt y17 p0 (1 : Int32) v30)).bind (fun w31 => bz w31.1 (some (Sum.inl (Sum.inl (w31.1, w31.2))))))))))))))))
/-- on from the end of a piece, its signs closed -/
def CQ (p0 N m : Nat) (hp : HP) : Option ((Int32 × HP) ⊕ HP) := ((lp (innB p0) m hp).bind (lk (P := Int32 × HP) (fun r => (Sum.inl (Sum.inl r))) (restQ p0))).bind (fun z => match z with
  | .inl x => some x
  | .inr s' => lp (condM p0) N s')
def CEm (p0 M N m : Nat) (hp : HP) : Option ((Int32 × HP) ⊕ HP) := (lp (endB p0) M hp).bind (fun y => CQ p0 N m y)
section
variable {b : Nat} {w0 : WD} {a d c n len : Nat} {f v : Int32} {g h : Nat → Int32} {ch : Nat → Nat}
theorem land_stop {t al : Int32} (ht : FX12_waitTop (mk b (smW w0 a f v d c n g h)) (b + 77) = some t) (h1 : ¬ t = 11) (h2 : al = 0 ∨ ¬ t = 12) : landB (b + 77) al (mk b (smW w0 a f v d c n g h)) = some (.inl (.inl (mk b (smW w0 a f v d c n g h)))) := by
  unfold landB
  rw [rc_12_77, ht, Option.bind_some, jn_eq, if_neg h1]
  rcases h2 with q | q
  · rw [if_pos q]
  · by_cases q0 : al = 0
    · rw [if_pos q0]
    · rw [if_neg q0, Option.bind_some, if_neg q]
theorem land_pop {k p x : Nat} {al : Int32} (hn : n < 260) (hc : c < 260) (hk : k = 11 ∨ (k = 12 ∧ ¬ al = 0)) (hp : p < 260) (ht : h n = nI (1048576 * k + p)) (hg : g p = nI (1048576 * k + x)) (hx : x < 1048576) : landB (b + 77) al (mk b (smW w0 a f v d c (n + 1) g h)) = some (.inr (mk b (smW w0 a f v d c n (upd g p (nI (1048576 * k + c))) h))) := by
  have hk14 : k ≤ 14 := by omega
  have ht' : FX12_waitTop (mk b (smW w0 a f v d c (n + 1) g h)) (b + 77) = some (nI k) := sm_top hn ⟨p, by omega, hk14, by rw [Nat.add_sub_cancel]; exact ht⟩
  have pop : (gR [12] 25 (mk b (smW w0 a f v d c (n + 1) g h)) (b + 77)).bind (fun v6 => (gI [12] 21 (mk b (smW w0 a f v d c (n + 1) g h)) (b + 77)).bind (fun v7 => (rdN 0 (mk b (smW w0 a f v d c (n + 1) g h)) v6 (v7 - (1 : Int32))).bind (fun v8 => (rmI v8 (1048576 : Int32)).bind (fun v9 => (gR [12] 24 (mk b (smW w0 a f v d c (n + 1) g h)) (b + 77)).bind (fun v10 => (gR [12] 24 (mk b (smW w0 a f v d c (n + 1) g h)) (b + 77)).bind (fun v11 => (rdN 0 (mk b (smW w0 a f v d c (n + 1) g h)) v11 v9).bind (fun v12 => (dvI v12 (1048576 : Int32)).bind (fun v13 => (gI [12] 20 (mk b (smW w0 a f v d c (n + 1) g h)) (b + 77)).bind (fun v14 => (wrI (mk b (smW w0 a f v d c (n + 1) g h)) v10 v9 (((1048576 : Int32) * v13) + v14)).bind (fun hp15 => (gI [12] 21 hp15 (b + 77)).bind (fun v16 => (sI [12] 21 hp15 (b + 77) (v16 - (1 : Int32))).bind (fun hp17 => some (Sum.inr (α := HP ⊕ HP) hp17))))))))))))) = some (.inr (mk b (smW w0 a f v d c n (upd g p (nI (1048576 * k + c))) h))) := by
    rw [gR_12_77_25, Option.bind_some, gI_12_77_21, Option.bind_some, sm_21, nI_pred, rdN_mk (t := 0) (j := 85) (n := 260) (by decide +kernel) (by decide) b _ hn, Option.bind_some, sm_85, ht, rm_w hk14 (by omega), Option.bind_some, gR_12_77_24, Option.bind_some, Option.bind_some, rdN_mk (t := 0) (j := 84) (n := 260) (by decide +kernel) (by decide) b _ hp, Option.bind_some, sm_84, hg, dv_w hk14 hx, Option.bind_some, gI_12_77_20, Option.bind_some, sm_20, wrI_mk (j := 84) (n := 260) (by decide +kernel) b _ hp, Option.bind_some, sm_84, sm_uS, gI_12_77_21, Option.bind_some, sm_21, nI_pred, sI_12_77_21, Option.bind_some, sm_u21, fa_lit 1048576, pk_mul, nI_add]
  unfold landB
  rw [rc_12_77, ht', Option.bind_some, jn_eq]
  rcases hk with rfl | ⟨rfl, q⟩
  · rw [if_pos (by decide)]
    exact pop
  · rw [if_neg (by decide), if_neg q, Option.bind_some, if_pos (by decide)]
    exact pop
/-- what waits of a test: where an 'or' and an 'and' jump from -/
def waitO (h : Nat → Int32) (n0 k p : Nat) (x : Option Cds) : Prop := match x with
  | none => True
  | some B => h n0 = nI (1048576 * k + (p + B.length))
def halfM (g : Nat → Int32) (p k : Nat) (x : Option Cds) : Prop := match x with
  | none => True
  | some B => layd cM g p B ∧ g (p + B.length) = nI (1048576 * k)
def oneO (x : Option Cds) : Nat := match x with
  | none => 0
  | some _ => 1
theorem halfM_cong {g g' : Nat → Int32} {p k : Nat} {x : Option Cds} (h : ∀ i, p ≤ i → i < p + lenO x → g' i = g i) (hx : halfM g p k x) : halfM g' p k x := by
  cases x with
  | none => trivial
  | some B =>
    obtain ⟨h1, h2⟩ := hx
    have h : ∀ i, p ≤ i → i < p + (B.length + 1) → g' i = g i := h
    exact ⟨layd_cong B p (fun i h3 h4 => h i h3 (by omega)) h1, by rw [h _ (by omega) (by omega)]; exact h2⟩
/-- a barrier for landings -/
def barL (h : Nat → Int32) (n0 : Nat) : Prop := ∃ k, (k = 13 ∨ k = 10) ∧ 0 < n0 ∧ topK h n0 k
theorem landO {x : Option Cds} {C : Cds} {k n0 p : Nat} {al : Int32} {N : Nat} (hk : k = 11 ∨ (k = 12 ∧ ¬ al = 0)) (hn : n0 < 259) (hc : c = p + lenO x + C.length) (hc2 : c < 260) (hw : waitO h n0 k p x) (hh : halfM g p k x) (hC : layd cM g (p + lenO x) C) : ∃ g', (lp (landB (b + 77) al) (N + oneO x) (mk b (smW w0 a f v d c (n0 + oneO x) g h)) = lp (landB (b + 77) al) N (mk b (smW w0 a f v d c n0 g' h))) ∧ (∀ i, i < p → g' i = g i) ∧ layd cM g' p (jnd k x C) := by
  cases x with
  | none => exact ⟨g, rfl, fun _ _ => rfl, hC⟩
  | some B =>
    have hc : c = p + (B.length + 1) + C.length := hc
    have hC : layd cM g (p + (B.length + 1)) C := hC
    obtain ⟨h1, h2⟩ := hh
    refine ⟨_, lp_one (land_pop (x := 0) (by omega) hc2 hk (by omega) hw (by rw [Nat.add_zero]; exact h2) (by decide)), fun i hi => pk_un (by omega), ?_⟩
    show layd cM _ p (B ++ (k, C.length) :: C)
    rw [layd_app]
    refine ⟨layd_cong B p (fun i h5 h6 => pk_un (by omega)) h1, ?_, layd_cong C _ (fun i h5 h6 => pk_un (by omega)) (by rw [Nat.add_assoc]; exact hC)⟩
    rw [pk_us]
    unfold cM
    dsimp only
    rw [if_pos (by omega)]
    congr 2
theorem one_le (x : Option Cds) : oneO x ≤ 1 := by
  cases x with
  | none => exact Nat.zero_le _
  | some B => exact Nat.le_refl _
theorem lands0 {oA oB : Option Cds} {C : Cds} {n0 c0 : Nat} (hb : barL h n0) (hn : n0 < 250) (hc : c = c0 + lenO oA + lenO oB + C.length) (hc2 : c < 250) (hA : waitO h n0 12 c0 oA) (hB : waitO h (n0 + oneO oA) 11 (c0 + lenO oA) oB) (hB2 : halfM g (c0 + lenO oA) 11 oB) (hC : layd cM g (c0 + lenO oA + lenO oB) C) : ∃ g', FX12_lands (mk b (smW w0 a f v d c (n0 + oneO oA + oneO oB) g h)) (b + 77) (0 : Int32) = some (mk b (smW w0 a f v d c (n0 + oneO oA) g' h)) ∧ (∀ i, i < c0 + lenO oA → g' i = g i) ∧ layd cM g' (c0 + lenO oA) (jnd 11 oB C) := by
  have o1 := one_le oA
  obtain ⟨g1, e1, e2, e3⟩ := landO (b := b) (w0 := w0) (a := a) (f := f) (v := v) (d := d) (al := 0) (N := FU - oneO oB) (n0 := n0 + oneO oA) (p := c0 + lenO oA) (Or.inl rfl) (by omega) hc (by omega) hB hB2 hC
  have o2 := one_le oB
  have hFU : FU - oneO oB + oneO oB = FU := by unfold FU; omega
  rw [hFU] at e1
  refine ⟨g1, ?_, e2, e3⟩
  have stop : landB (b + 77) 0 (mk b (smW w0 a f v d c (n0 + oneO oA) g1 h)) = some (.inl (.inl (mk b (smW w0 a f v d c (n0 + oneO oA) g1 h)))) := by
    cases oA with
    | none =>
      obtain ⟨kd, k1, k2, k3⟩ := hb
      obtain ⟨m, rfl⟩ : ∃ m, n0 = m + 1 := ⟨n0 - 1, by omega⟩
      refine land_stop (sm_top (by omega) k3) ?_ (Or.inl rfl)
      exact fun z => absurd (nI_inj (a := kd) (b := 11) (by omega) (by decide) z) (by omega)
    | some A =>
      have hA : h n0 = nI (1048576 * 12 + (c0 + A.length)) := hA
      have hc : c = c0 + (A.length + 1) + lenO oB + C.length := hc
      exact land_stop (sm_top (k := 12) (n := n0) (by omega) ⟨c0 + A.length, by omega, by decide, by rw [Nat.add_sub_cancel]; exact hA⟩) (by decide) (Or.inl rfl)
  rw [land_body, e1, show FU - oneO oB = FU - oneO oB - 1 + 1 by unfold FU; omega, lp_out stop]
  rfl
theorem lands1 {oA oB : Option Cds} {C : Cds} {n0 c0 : Nat} (hb : barL h n0) (hn : n0 < 250) (hc : c = c0 + lenO oA + lenO oB + C.length) (hc2 : c < 250) (hA : waitO h n0 12 c0 oA) (hA2 : halfM g c0 12 oA) (hB : waitO h (n0 + oneO oA) 11 (c0 + lenO oA) oB) (hB2 : halfM g (c0 + lenO oA) 11 oB) (hC : layd cM g (c0 + lenO oA + lenO oB) C) : ∃ g', FX12_lands (mk b (smW w0 a f v d c (n0 + oneO oA + oneO oB) g h)) (b + 77) (1 : Int32) = some (mk b (smW w0 a f v d c n0 g' h)) ∧ (∀ i, i < c0 → g' i = g i) ∧ layd cM g' c0 (jnd 12 oA (jnd 11 oB C)) := by
  have o1 := one_le oA
  have o2 := one_le oB
  have hjl : (jnd 11 oB C).length = lenO oB + C.length := jnd_len 11 oB C
  obtain ⟨g1, e1, e2, e3⟩ := landO (b := b) (w0 := w0) (a := a) (f := f) (v := v) (d := d) (al := 1) (N := FU - oneO oB) (n0 := n0 + oneO oA) (p := c0 + lenO oA) (Or.inl rfl) (by omega) hc (by omega) hB hB2 hC
  have hFU : FU - oneO oB + oneO oB = FU := by unfold FU; omega
  rw [hFU] at e1
  obtain ⟨g2, m1, m2, m3⟩ := landO (b := b) (w0 := w0) (a := a) (f := f) (v := v) (d := d) (al := 1) (N := FU - oneO oB - oneO oA) (n0 := n0) (p := c0) (c := c) (g := g1) (x := oA) (C := jnd 11 oB C) (Or.inr ⟨rfl, by decide⟩) (by omega) (by omega) (by omega) hA (halfM_cong (fun i h3 h4 => e2 i h4) hA2) e3
  have hFU2 : FU - oneO oB - oneO oA + oneO oA = FU - oneO oB := by unfold FU; omega
  rw [hFU2] at m1
  have stop : landB (b + 77) 1 (mk b (smW w0 a f v d c n0 g2 h)) = some (.inl (.inl (mk b (smW w0 a f v d c n0 g2 h)))) := by
    obtain ⟨kd, k1, k2, k3⟩ := hb
    obtain ⟨m, rfl⟩ : ∃ m, n0 = m + 1 := ⟨n0 - 1, by omega⟩
    refine land_stop (sm_top (by omega) k3) ?_ (Or.inr ?_)
    · exact fun z => absurd (nI_inj (a := kd) (b := 11) (by omega) (by decide) z) (by omega)
    · exact fun z => absurd (nI_inj (a := kd) (b := 12) (by omega) (by decide) z) (by omega)
  refine ⟨g2, ?_, fun i hi => by rw [m2 i hi, e2 i (by omega)], m3⟩
  rw [land_body, e1, m1, show FU - oneO oB - oneO oA = FU - oneO oB - oneO oA - 1 + 1 by unfold FU; omega, lp_out stop]
  rfl
/-- a piece ends under a sign of 'not' -/
theorem end_not (hn : n < 259) (hc : c < 260) (ht : h n = nI (1048576 * 10)) (M N m : Nat) : CEm (b + 77) (M + 1) N m (mk b (smW w0 a f v (d + 1) c (n + 1) g h)) = CEm (b + 77) M N m (mk b (smW w0 a f v d (c + 1) n (upd g c (nI (1048576 * 10))) h)) := by
  have ht' : FX12_waitTop (mk b (smW w0 a f v (d + 1) c (n + 1) g h)) (b + 77) = some (nI 10) := sm_top (by omega) ⟨0, by decide, by decide, by rw [Nat.add_sub_cancel]; exact ht⟩
  have e := sm_notes (b := b) (w0 := w0) (a := a) (f := f) (v := v) (d := d + 1) (n := n + 1) (g := g) (h := h) hc 10 0
  have e : FX12_notes (mk b (smW w0 a f v (d + 1) c (n + 1) g h)) (b + 77) (10 : Int32) (0 : Int32) = some (mk b (smW w0 a f v (d + 1) (c + 1) (n + 1) (upd g c (nI (1048576 * 10))) h)) := e
  have hb : endB (b + 77) (mk b (smW w0 a f v (d + 1) c (n + 1) g h)) = some (.inr (mk b (smW w0 a f v d (c + 1) n (upd g c (nI (1048576 * 10))) h))) := by
    unfold endB
    rw [rc_12_77, ht', Option.bind_some, if_pos (by decide), rc_12_77, e, Option.bind_some, gI_12_77_21, Option.bind_some, sm_21, nI_pred, sI_12_77_21, Option.bind_some, sm_u21, gI_12_77_19, Option.bind_some, sm_19, nI_pred, sI_12_77_19, Option.bind_some, sm_u19]
  unfold CEm
  rw [lp_one hb]
theorem end_stop {t : Int32} (ht : FX12_waitTop (mk b (smW w0 a f v d c n g h)) (b + 77) = some t) (h1 : ¬ t = 10) (M N m : Nat) : CEm (b + 77) (M + 1) N m (mk b (smW w0 a f v d c n g h)) = CQ (b + 77) N m (mk b (smW w0 a f v d c n g h)) := by
  have hb : endB (b + 77) (mk b (smW w0 a f v d c n g h)) = some (.inl (mk b (smW w0 a f v d c n g h))) := by
    unfold endB
    rw [rc_12_77, ht, Option.bind_some, if_neg h1]
  unfold CEm
  rw [lp_out hb]
  rfl
theorem CE_m (N m : Nat) (hp : HP) (p0 : Nat) : (FX12_endsPiece hp p0).bind (fun y => CQ p0 N m y) = CEm p0 FU N m hp := by
  rw [end_body]
  unfold CEm
  cases lp (endB p0) FU hp <;> rfl
/-- a group closed -/
theorem grp_close (hT : TxM w0 len ch) (ha : a ≤ len) (h41 : ch a = 41) {oA oB : Option Cds} {C : Cds} {n0 c0 : Nat} (h13 : h n0 = nI (1048576 * 13)) (hn : n0 < 240) (hc : c = c0 + lenO oA + lenO oB + C.length) (hc2 : c < 250) (hA : waitO h (n0 + 1) 12 c0 oA) (hA2 : halfM g c0 12 oA) (hB : waitO h (n0 + 1 + oneO oA) 11 (c0 + lenO oA) oB) (hB2 : halfM g (c0 + lenO oA) 11 oB) (hC : layd cM g (c0 + lenO oA + lenO oB) C) (m : Nat) : ∃ g', (∀ N, CQ (b + 77) N (m + 1) (mk b (smW w0 a f v (d + 1) c (n0 + 1 + oneO oA + oneO oB) g h)) = (if n0 = 0 then some (.inl (1, mk b (smW w0 (a + 1) f v d c n0 g' h))) else CEm (b + 77) FU N m (mk b (smW w0 (a + 1) f v d c n0 g' h)))) ∧ (∀ i, i < c0 → g' i = g i) ∧ layd cM g' c0 (jnd 12 oA (jnd 11 oB C)) := by
  have t41 : (txv (ch a) = (41 : Int32)) ↔ ch a = 41 := tq (chm_le hT.2.2 a) (by decide)
  have hb : barL h (n0 + 1) := ⟨13, Or.inl rfl, by omega, 0, by decide, by decide, by rw [Nat.add_sub_cancel]; exact h13⟩
  obtain ⟨g', e1, e2, e3⟩ := lands1 (b := b) (w0 := w0) (a := a) (f := f) (v := v) (d := d + 1) (n0 := n0 + 1) hb (by omega) hc hc2 hA hA2 hB hB2 hC
  refine ⟨g', fun N => ?_, e2, e3⟩
  have hbd : innB (b + 77) (mk b (smW w0 a f v (d + 1) c (n0 + 1 + oneO oA + oneO oB) g h)) = if n0 = 0 then some (.inl (.inl (1, mk b (smW w0 (a + 1) f v d c n0 g' h)))) else (FX12_endsPiece (mk b (smW w0 (a + 1) f v d c n0 g' h)) (b + 77)).bind (fun w41 => some (.inr w41)) := by
    unfold innB
    rw [rc_12_77, sm_here hT ha, Option.bind_some, if_pos (t41.mpr h41), rc_12_77, e1, Option.bind_some, gI_12_77_21, Option.bind_some, sm_21, nI_pred, sI_12_77_21, Option.bind_some, sm_u21, gI_12_77_19, Option.bind_some, sm_19, nI_pred, sI_12_77_19, Option.bind_some, sm_u19, gI_12_77_15, Option.bind_some, sm_15, nI_1, sI_12_77_15, Option.bind_some, sm_u15, gI_12_77_21, Option.bind_some, sm_21]
    by_cases q : n0 = 0
    · rw [if_pos (show nI n0 = 0 by rw [q]; rfl), if_pos q]
    · rw [if_neg (nI_ne0 (by omega) (by omega)), if_neg q, rc_12_77]
  by_cases q : n0 = 0
  · rw [if_pos q] at hbd ⊢
    unfold CQ
    rw [lp_out hbd]
    rfl
  · rw [if_neg q] at hbd ⊢
    rw [← CE_m]
    cases hE : FX12_endsPiece (mk b (smW w0 (a + 1) f v d c n0 g' h)) (b + 77) with
    | none =>
      rw [hE] at hbd
      have hz : lp (innB (b + 77)) (m + 1) (mk b (smW w0 a f v (d + 1) c (n0 + 1 + oneO oA + oneO oB) g h)) = none := by
        rw [lp, hbd]
        rfl
      unfold CQ
      rw [hz]
      rfl
    | some y =>
      rw [hE] at hbd
      have hbd : innB (b + 77) (mk b (smW w0 a f v (d + 1) c (n0 + 1 + oneO oA + oneO oB) g h)) = some (.inr y) := hbd
      rw [Option.bind_some]
      unfold CQ
      rw [lp_one hbd]
/-- neither closed nor joined -/
theorem inn_out (hT : TxM w0 len ch) (ha : a ≤ len) (h41 : ch a ≠ 41) (N m : Nat) : CQ (b + 77) N (m + 1) (mk b (smW w0 a f v d c n g h)) = (restQ (b + 77) (mk b (smW w0 a f v d c n g h))).bind (fun z => match z with
    | .inl x => some x
    | .inr s' => lp (condM (b + 77)) N s') := by
  have t41 : (txv (ch a) = (41 : Int32)) ↔ ch a = 41 := tq (chm_le hT.2.2 a) (by decide)
  have hbd : innB (b + 77) (mk b (smW w0 a f v d c n g h)) = some (.inl (.inr (mk b (smW w0 a f v d c n g h)))) := by
    unfold innB
    rw [rc_12_77, sm_here hT ha, Option.bind_some, if_neg (fun z => h41 (t41.mp z))]
  unfold CQ
  rw [lp_out hbd]
  rfl
theorem rest_bad (hT : TxM w0 len ch) (ha : a ≤ len) (h38 : ch a ≠ 38) (h124 : ch a ≠ 124) : restQ (b + 77) (mk b (smW w0 a f v d c n g h)) = some (.inl (.inl (0, mk b (smW w0 a (flt (1, a)) v d c n g h)))) := by
  have t38 : (txv (ch a) = (38 : Int32)) ↔ ch a = 38 := tq (chm_le hT.2.2 a) (by decide)
  have t124 : (txv (ch a) = (124 : Int32)) ↔ ch a = 124 := tq (chm_le hT.2.2 a) (by decide)
  have e := sm_wrong (b := b) (w0 := w0) (a := a) (f := f) (v := v) (d := d) (c := c) (n := n) (g := g) (h := h) 1 a
  have e : FX12_wrongAt (mk b (smW w0 a f v d c n g h)) (b + 77) (1 : Int32) (nI a) = some (0, mk b (smW w0 a (flt (1, a)) v d c n g h)) := e
  unfold restQ
  rw [rc_12_77, sm_here hT ha, Option.bind_some, jn_eq, if_neg (fun z => h38 (t38.mp z)), Option.bind_some, if_neg (fun z => h124 (t124.mp z)), gI_12_77_15, Option.bind_some, sm_15, rc_12_77, e, Option.bind_some]
  unfold bz
  rw [if_pos (Or.inl rfl)]
theorem sm_jumps (hn : n < 260) (hc : c < 260) (k : Nat) : FX12_jumps (mk b (smW w0 a f v d c n g h)) (b + 77) (nI k) = some (mk b (smW w0 (a + 1) f v d (c + 1) (n + 1) (upd g c (nI (1048576 * k))) (upd h n (nI (1048576 * k + c))))) := by
  have e := sm_notes (b := b) (w0 := w0) (a := a) (f := f) (v := v) (d := d) (n := n + 1) (g := g) (h := upd h n (nI (1048576 * k + c))) hc k 0
  have e : FX12_notes (mk b (smW w0 a f v d c (n + 1) g (upd h n (nI (1048576 * k + c))))) (b + 77) (nI k) (0 : Int32) = some (mk b (smW w0 a f v d (c + 1) (n + 1) (upd g c (nI (1048576 * k))) (upd h n (nI (1048576 * k + c))))) := e
  unfold FX12_jumps
  rw [gR_12_77_25, Option.bind_some, gI_12_77_21, Option.bind_some, gI_12_77_20, Option.bind_some, sm_20, sm_21, wrI_mk (j := 85) (n := 260) (by decide +kernel) b _ hn, Option.bind_some, sm_85, sm_uH, gI_12_77_21, Option.bind_some, sm_21, nI_1, sI_12_77_21, Option.bind_some, sm_u21, rc_12_77, fa_lit 1048576, pk_mul, nI_add, e, Option.bind_some, gI_12_77_15, Option.bind_some, sm_15, nI_1, sI_12_77_15, Option.bind_some, sm_u15]
theorem rest_and (hT : TxM w0 len ch) (ha : a ≤ len) (h38 : ch a = 38) (hn : n < 260) (hc : c < 260) {n1 : Nat} {g1 : Nat → Int32} (hl : FX12_lands (mk b (smW w0 a f v d c n g h)) (b + 77) (0 : Int32) = some (mk b (smW w0 a f v d c n1 g1 h))) (hn1 : n1 < 260) : restQ (b + 77) (mk b (smW w0 a f v d c n g h)) = some (.inr (mk b (smW w0 (a + 1) f v d (c + 1) (n1 + 1) (upd g1 c (nI (1048576 * 11))) (upd h n1 (nI (1048576 * 11 + c)))))) := by
  have t38 : (txv (ch a) = (38 : Int32)) ↔ ch a = 38 := tq (chm_le hT.2.2 a) (by decide)
  have n124 : ¬ txv (ch a) = (124 : Int32) := fun z => by
    have t124 : (txv (ch a) = (124 : Int32)) ↔ ch a = 124 := tq (chm_le hT.2.2 a) (by decide)
    rw [t124.mp z] at h38
    cases h38
  have e := sm_jumps (b := b) (w0 := w0) (a := a) (f := f) (v := v) (d := d) (g := g1) (h := h) hn1 hc 11
  have e : FX12_jumps (mk b (smW w0 a f v d c n1 g1 h)) (b + 77) (11 : Int32) = _ := e
  unfold restQ
  rw [rc_12_77, sm_here hT ha, Option.bind_some, jn_eq, if_pos (t38.mpr h38)]
  dsimp only
  rw [Option.bind_some, jn_eq, if_neg n124]
  dsimp only
  rw [rc_12_77, hl, Option.bind_some, rc_12_77, sm_here hT ha, Option.bind_some, jn_eq, if_pos (t38.mpr h38)]
  dsimp only
  rw [rc_12_77, e, Option.bind_some]
theorem rest_or (hT : TxM w0 len ch) (ha : a ≤ len) (h124 : ch a = 124) (hn : n < 260) (hc : c < 260) {n1 : Nat} {g1 : Nat → Int32} (hl : FX12_lands (mk b (smW w0 a f v d c n g h)) (b + 77) (1 : Int32) = some (mk b (smW w0 a f v d c n1 g1 h))) (hn1 : n1 < 260) : restQ (b + 77) (mk b (smW w0 a f v d c n g h)) = some (.inr (mk b (smW w0 (a + 1) f v d (c + 1) (n1 + 1) (upd g1 c (nI (1048576 * 12))) (upd h n1 (nI (1048576 * 12 + c)))))) := by
  have t124 : (txv (ch a) = (124 : Int32)) ↔ ch a = 124 := tq (chm_le hT.2.2 a) (by decide)
  have n38 : ¬ txv (ch a) = (38 : Int32) := fun z => by
    have t38 : (txv (ch a) = (38 : Int32)) ↔ ch a = 38 := tq (chm_le hT.2.2 a) (by decide)
    rw [t38.mp z] at h124
    cases h124
  have e := sm_jumps (b := b) (w0 := w0) (a := a) (f := f) (v := v) (d := d) (g := g1) (h := h) hn1 hc 12
  have e : FX12_jumps (mk b (smW w0 a f v d c n1 g1 h)) (b + 77) (12 : Int32) = _ := e
  unfold restQ
  rw [rc_12_77, sm_here hT ha, Option.bind_some, jn_eq, if_neg n38, Option.bind_some, if_pos (t124.mpr h124)]
  dsimp only
  rw [Option.bind_some, jn_eq, if_pos (t124.mpr h124)]
  dsimp only
  rw [rc_12_77, hl, Option.bind_some, rc_12_77, sm_here hT ha, Option.bind_some, jn_eq, if_neg n38]
  dsimp only
  rw [rc_12_77, e, Option.bind_some]
/-- a sign of 'not' or a group opened -/
theorem cond_open (hT : TxM w0 len ch) (ha : a ≤ len) (hop : ch a = 33 ∨ ch a = 40) (hn : n < 260) (hd : d ≤ 6) (N : Nat) : lp (condM (b + 77)) (N + 1) (mk b (smW w0 a f v d c n g h)) = if d = 6 then some (.inl (0, mk b (smW w0 a (flt (5, a)) v d c n g h))) else lp (condM (b + 77)) N (mk b (smW w0 (a + 1) f v (d + 1) c (n + 1) g (upd h n (nI (1048576 * (if ch a = 33 then 10 else 13)))))) := by
  have t33 : (txv (ch a) = (33 : Int32)) ↔ ch a = 33 := tq (chm_le hT.2.2 a) (by decide)
  have t40 : (txv (ch a) = (40 : Int32)) ↔ ch a = 40 := tq (chm_le hT.2.2 a) (by decide)
  have hb : condM (b + 77) (mk b (smW w0 a f v d c n g h)) = if d = 6 then some (.inl (.inl (0, mk b (smW w0 a (flt (5, a)) v d c n g h)))) else some (.inr (mk b (smW w0 (a + 1) f v (d + 1) c (n + 1) g (upd h n (nI (1048576 * (if ch a = 33 then 10 else 13))))))) := by
    unfold condM
    rw [rc_12_77, sm_here hT ha, Option.bind_some, jn_eq]
    rcases hop with q | q
    · have e := sm_opens (b := b) (w0 := w0) (a := a) (f := f) (v := v) (c := c) (g := g) (h := h) hn hd 10
      have e : FX12_opens (mk b (smW w0 a f v d c n g h)) (b + 77) (10 : Int32) = _ := e
      rw [if_pos (t33.mpr q), if_pos q]
      dsimp only
      rw [Option.bind_some, jn_eq, if_pos (t33.mpr q)]
      dsimp only
      rw [rc_12_77, e]
      by_cases q6 : d = 6
      · rw [if_pos q6, if_pos q6]
        rfl
      · rw [if_neg q6, if_neg q6]
        rfl
    · have n33 : ¬ ch a = 33 := by omega
      have e := sm_opens (b := b) (w0 := w0) (a := a) (f := f) (v := v) (c := c) (g := g) (h := h) hn hd 13
      have e : FX12_opens (mk b (smW w0 a f v d c n g h)) (b + 77) (13 : Int32) = _ := e
      rw [if_neg (fun z => n33 (t33.mp z)), Option.bind_some, if_pos (t40.mpr q), if_neg n33]
      dsimp only
      rw [Option.bind_some, jn_eq, if_neg (fun z => n33 (t33.mp z))]
      dsimp only
      rw [rc_12_77, e]
      by_cases q6 : d = 6
      · rw [if_pos q6, if_pos q6]
        rfl
      · rw [if_neg q6, if_neg q6]
        rfl
  by_cases q6 : d = 6
  · rw [if_pos q6] at hb ⊢
    exact lp_out hb
  · rw [if_neg q6] at hb ⊢
    exact lp_one hb
end
