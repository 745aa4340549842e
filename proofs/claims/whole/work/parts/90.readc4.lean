/-! the class reads tests -/
def lenO (x : Option Cds) : Nat := match x with
  | none => 0
  | some B => B.length + 1
def skp (p : Nat) (x : Option Cds) : Int32 := match x with
  | none => -1
  | some B => nI (p + B.length)
def half (g : Nat → Int32) (p : Nat) (v : Int32) (x : Option Cds) : Prop := match x with
  | none => True
  | some B => layd cC g p B ∧ g (p + B.length) = v
theorem half_cong {g g' : Nat → Int32} {p : Nat} {v : Int32} {x : Option Cds} (h : ∀ i, p ≤ i → i < p + lenO x → g' i = g i) (hx : half g p v x) : half g' p v x := by
  cases x with
  | none => trivial
  | some B =>
    obtain ⟨h1, h2⟩ := hx
    have h : ∀ i, p ≤ i → i < p + (B.length + 1) → g' i = g i := h
    exact ⟨layd_cong B p (fun i h3 h4 => h i h3 (by omega)) h1, by rw [h _ (by omega) (by omega)]; exact h2⟩
section
variable {b : Nat} {w0 : WD} {o len : Nat} {ch : Nat → Nat}
theorem land_j (ho : LW o) {a s : Nat} {g : Nat → Int32} {f : Int32} (x : Int32) : ∃ g', FX2_landSkip (mk b (stW w0 o a s g f)) (b + o) x = some (mk b (stW w0 o a s g' f)) := by
  unfold FX2_landSkip
  rcases pk_ix x (n := 240) (by decide) with q | q | ⟨j, hj, rfl⟩
  · rw [if_pos q]
    exact ⟨_, rfl⟩
  · by_cases q0 : x < 0
    · rw [if_pos q0]
      exact ⟨_, rfl⟩
    · rw [if_neg q0, if_pos (show (240 : Int32) ≤ x from q)]
      exact ⟨_, rfl⟩
  · rw [if_neg (nI_pos (by omega)), if_neg (show ¬ (240 : Int32) ≤ nI j from nI_ge (a := j) (b := 240) hj (by decide)), gR_2_o_8 b _ ho, Option.bind_some, rdN_mk (okL4 ho) (by decide) b _ hj, Option.bind_some, gI_2_o_9 b _ ho, Option.bind_some, wrI_mk (okL4 ho) b _ hj, Option.bind_some, stW_uA]
    exact ⟨_, rfl⟩
theorem land_at (ho : LW o) {a s : Nat} {g : Nat → Int32} {f : Int32} {j : Nat} (hj : j < 240) : FX2_landSkip (mk b (stW w0 o a s g f)) (b + o) (nI j) = some (mk b (stW w0 o a s (upd g j (g j - nI s)) f)) := by
  unfold FX2_landSkip
  rw [if_neg (nI_pos (by omega)), if_neg (show ¬ (240 : Int32) ≤ nI j from nI_ge (a := j) (b := 240) hj (by decide)), gR_2_o_8 b _ ho, Option.bind_some, rdN_mk (okL4 ho) (by decide) b _ hj, Option.bind_some, gI_2_o_9 b _ ho, Option.bind_some, wrI_mk (okL4 ho) b _ hj, Option.bind_some, stW_uA, stW_c, stW_9]
/-- a skip lands -/
theorem land_o (ho : LW o) {a s p k : Nat} {g : Nat → Int32} {x : Option Cds} {C : Cds} (hk : k = 11 ∨ k = 12) (hs : s = p + lenO x + C.length) (h240 : s ≤ 240) (h1 : half g p (if k = 11 then -1000 else -2000) x) (h2 : layd cC g (p + lenO x) C) : ∃ g', FX2_landSkip (mk b (stW w0 o a s g 0)) (b + o) (skp p x) = some (mk b (stW w0 o a s g' 0)) ∧ (∀ i, i < p → g' i = g i) ∧ layd cC g' p (jnd k x C) := by
  cases x with
  | none =>
    refine ⟨g, ?_, fun _ _ => rfl, ?_⟩
    · unfold FX2_landSkip
      exact if_pos (show (-1 : Int32) < 0 by decide)
    · have h2 : layd cC g (p + 0) C := h2
      exact h2
  | some B =>
    have hs : s = p + (B.length + 1) + C.length := hs
    obtain ⟨h3, h4⟩ := h1
    have h2 : layd cC g (p + (B.length + 1)) C := h2
    refine ⟨_, land_at (j := p + B.length) ho (by omega), fun i hi => pk_un (by omega), ?_⟩
    show layd cC _ p (B ++ (k, C.length) :: C)
    rw [layd_app]
    refine ⟨layd_cong B p (fun i h5 h6 => pk_un (by omega)) h3, ?_, layd_cong C _ (fun i h5 h6 => pk_un (by omega)) (by rw [Nat.add_assoc]; exact h2)⟩
    rw [pk_us, h4]
    unfold cC
    dsimp only
    rcases hk with rfl | rfl
    · rw [if_pos rfl, if_neg (by decide), if_neg (by decide), if_pos rfl, hs]
      congr 2
    · rw [if_neg (by decide), if_neg (by decide), if_neg (by decide), if_neg (by decide), if_pos rfl, hs]
      congr 2
def somBd (rT : HP → Nat → Int32 → Option HP) (p0 : Nat) (p1 : Int32) : Int32 × Int32 × Int32 × HP → Option ((Int32 × Int32 × HP) ⊕ (Int32 × Int32 × Int32 × HP)) := (fun (s2 : Int32 × Int32 × Int32 × HP) => (gI [2] 1 s2.2.2.2 p0).bind (fun v6 => if v6 ≤ s2.2.2.1 then some (Sum.inl (s2.1, s2.2.1, s2.2.2.2)) else (gI [2] 3 s2.2.2.2 p0).bind (fun v7 => if v7 = 0 then (rc [2] s2.2.2.2 p0 (FX4_here s2.2.2.2 p0)).bind (fun v8 => jn (A := Unit) (fun a9 => (gI [2] 2 s2.2.2.2 p0).bind (fun v11 => (sI [2] 2 s2.2.2.2 p0 (v11 + (1 : Int32))).bind (fun hp12 => (rc [2] hp12 p0 (FX2_landSkip hp12 p0 s2.1)).bind (fun w13 => jn (A := Int32 × Int32 × HP) (fun a14 => (rc [2] a14.2.2 p0 (rT a14.2.2 p0 p1)).bind (fun w16 => vl (s2.2.2.1 + (1 : Int32)) (fun x17 => some (Sum.inr (a14.1, a14.2.1, x17, w16))))) (fun J15 => if v8 = (38 : Int32) then (gI [2] 9 w13 p0).bind (fun v18 => (rc [2] w13 p0 (FX2_emit w13 p0 (-1000 : Int32))).bind (fun w19 => J15 (v18, s2.2.1, w19))) else (rc [2] w13 p0 (FX2_landSkip w13 p0 s2.2.1)).bind (fun w20 => (gI [2] 9 w20 p0).bind (fun v21 => (rc [2] w20 p0 (FX2_emit w20 p0 (-2000 : Int32))).bind (fun w22 => J15 ((-1 : Int32), v21, w22))))))))) (fun J10 => if v8 = (38 : Int32) then J10 () else if v8 = (124 : Int32) then J10 () else some (Sum.inl (s2.1, s2.2.1, s2.2.2.2)))) else some (Sum.inl (s2.1, s2.2.1, s2.2.2.2)))))
theorem som_body (rO rT : HP → Nat → Int32 → Option HP) (hp : HP) (p0 : Nat) (p1 : Int32) : FBX2_readSome rO rT hp p0 p1 = (rc [2] hp p0 (rT hp p0 p1)).bind (fun w1 => (lp (somBd rT p0 p1) FU ((-1 : Int32), (-1 : Int32), (0 : Int32), w1)).bind (fun (y3 : Int32 × Int32 × HP) => (rc [2] y3.2.2 p0 (FX2_landSkip y3.2.2 p0 y3.1)).bind (fun w4 => (rc [2] w4 p0 (FX2_landSkip w4 p0 y3.2.1)).bind (fun w5 => some w5)))) := rfl
theorem somBd_fault (hT : TxC w0 o len ch) {a s : Nat} {g : Nat → Int32} {f : Int32} (hf : f ≠ 0) (rT : HP → Nat → Int32 → Option HP) (d x y t : Int32) : somBd rT (b + o) d (x, y, t, mk b (stW w0 o a s g f)) = some (.inl (x, y, mk b (stW w0 o a s g f))) := by
  have ho := hT.1
  unfold somBd
  dsimp only
  rw [gI_2_o_1 b _ ho, Option.bind_some]
  split
  · rfl
  · rw [gI_2_o_3 b _ ho, Option.bind_some, stW_3, if_neg hf]
theorem somBd_stop (hT : TxC w0 o len ch) {a s : Nat} {g : Nat → Int32} (ha : a ≤ len) (h1 : ch a ≠ 38) (h2 : ch a ≠ 124) (rT : HP → Nat → Int32 → Option HP) (d x y t : Int32) : somBd rT (b + o) d (x, y, t, mk b (stW w0 o a s g 0)) = some (.inl (x, y, mk b (stW w0 o a s g 0))) := by
  have ho := hT.1
  have hx := chr_le hT.2.2.2 a
  have t38 : (txv (ch a) = (38 : Int32)) ↔ ch a = 38 := tq hx (by decide)
  have t124 : (txv (ch a) = (124 : Int32)) ↔ ch a = 124 := tq hx (by decide)
  unfold somBd
  dsimp only
  rw [gI_2_o_1 b _ ho, Option.bind_some]
  split
  · rfl
  · rw [gI_2_o_3 b _ ho, Option.bind_some, stW_3, if_pos rfl, rc_2_o b _ ho, st_here hT ha, Option.bind_some, jn_eq, if_neg (fun z => h1 (t38.mp z)), if_neg (fun z => h2 (t124.mp z))]
theorem somBd_and (hT : TxC w0 o len ch) {a s t : Nat} {g g1 : Nat → Int32} (ha : a ≤ len) (ht : t < len) (h1 : ch a = 38) (hs : s < 240) (rT : HP → Nat → Int32 → Option HP) (d x y : Int32) (hl : FX2_landSkip (mk b (stW w0 o (a + 1) s g 0)) (b + o) x = some (mk b (stW w0 o (a + 1) s g1 0))) : somBd rT (b + o) d (x, y, nI t, mk b (stW w0 o a s g 0)) = (rT (mk b (stW w0 o (a + 1) (s + 1) (upd g1 s (-1000)) 0)) (b + o) d).bind (fun w16 => some (.inr (nI s, y, nI (t + 1), w16))) := by
  have ho := hT.1
  have hlen := hT.2.2.1
  have hx := chr_le hT.2.2.2 a
  have t38 : (txv (ch a) = (38 : Int32)) ↔ ch a = 38 := tq hx (by decide)
  unfold somBd
  dsimp only
  rw [gI_2_o_1 b _ ho, Option.bind_some, stW_I (by omega), hT.2.1, if_neg (nI_ge ht (by omega)), gI_2_o_3 b _ ho, Option.bind_some, stW_3, if_pos rfl, rc_2_o b _ ho, st_here hT ha, Option.bind_some, jn_eq, if_pos (t38.mpr h1)]
  dsimp only
  rw [gI_2_o_2 b _ ho, Option.bind_some, stW_2, nI_1, sI_2_o_2 b _ ho, Option.bind_some, stW_u2, rc_2_o b _ ho, hl, Option.bind_some, jn_eq, if_pos (t38.mpr h1)]
  dsimp only
  rw [gI_2_o_9 b _ ho, Option.bind_some, stW_9, rc_2_o b _ ho, st_emit ho hs, Option.bind_some, rc_2_o b _ ho, nI_1]
  rfl
theorem somBd_or (hT : TxC w0 o len ch) {a s t : Nat} {g g1 g2 : Nat → Int32} (ha : a ≤ len) (ht : t < len) (h1 : ch a = 124) (hs : s < 240) (rT : HP → Nat → Int32 → Option HP) (d x y : Int32) (hl : FX2_landSkip (mk b (stW w0 o (a + 1) s g 0)) (b + o) x = some (mk b (stW w0 o (a + 1) s g1 0))) (hl2 : FX2_landSkip (mk b (stW w0 o (a + 1) s g1 0)) (b + o) y = some (mk b (stW w0 o (a + 1) s g2 0))) : somBd rT (b + o) d (x, y, nI t, mk b (stW w0 o a s g 0)) = (rT (mk b (stW w0 o (a + 1) (s + 1) (upd g2 s (-2000)) 0)) (b + o) d).bind (fun w16 => some (.inr (-1, nI s, nI (t + 1), w16))) := by
  have ho := hT.1
  have hlen := hT.2.2.1
  have hx := chr_le hT.2.2.2 a
  have t38 : (txv (ch a) = (38 : Int32)) ↔ ch a = 38 := tq hx (by decide)
  have t124 : (txv (ch a) = (124 : Int32)) ↔ ch a = 124 := tq hx (by decide)
  have n38 : ¬ txv (ch a) = (38 : Int32) := fun z => by rw [t38.mp z] at h1; cases h1
  unfold somBd
  dsimp only
  rw [gI_2_o_1 b _ ho, Option.bind_some, stW_I (by omega), hT.2.1, if_neg (nI_ge ht (by omega)), gI_2_o_3 b _ ho, Option.bind_some, stW_3, if_pos rfl, rc_2_o b _ ho, st_here hT ha, Option.bind_some, jn_eq, if_neg n38, if_pos (t124.mpr h1)]
  dsimp only
  rw [gI_2_o_2 b _ ho, Option.bind_some, stW_2, nI_1, sI_2_o_2 b _ ho, Option.bind_some, stW_u2, rc_2_o b _ ho, hl, Option.bind_some, jn_eq, if_neg n38, rc_2_o b _ ho, hl2, Option.bind_some]
  dsimp only
  rw [gI_2_o_9 b _ ho, Option.bind_some, stW_9, rc_2_o b _ ho, st_emit ho hs, Option.bind_some, rc_2_o b _ ho, nI_1]
  rfl
theorem som_c (hT : TxC w0 o len ch) {d : Nat} {rO rT : HP → Nat → Int32 → Option HP} {tst : Nat → PR} (hsp : SpC b w0 o len rT d tst) (hfn : ∀ a, a ≤ len → fine len a (tst a)) : SpC b w0 o len (FBX2_readSome rO rT) d (pSomB ch tst) := by
  have ho := hT.1
  have hlen := hT.2.2.1
  intro a s g f ha hs
  rw [som_body, rc_2_o b _ ho]
  constructor
  · intro hf
    obtain ⟨a1, s1, g1, e1, p1, p2⟩ := (hsp a s g f ha hs).1 hf
    rw [e1, Option.bind_some, show FU = 999999 + 1 from rfl, lp_out (somBd_fault hT hf rT _ _ _ _), Option.bind_some]
    dsimp only
    obtain ⟨g2, l1⟩ := land_j (b := b) (w0 := w0) (a := a1) (s := s1) (g := g1) (f := f) ho (-1)
    obtain ⟨g3, l2⟩ := land_j (b := b) (w0 := w0) (a := a1) (s := s1) (g := g2) (f := f) ho (-1)
    rw [rc_2_o b _ ho, l1, Option.bind_some, rc_2_o b _ ho, l2]
    exact ⟨_, _, _, rfl, p1, p2⟩
  · intro hf hsa
    subst hf
    obtain ⟨a1, s1, g1, f1, e1, p1⟩ := (hsp a s g 0 ha hs).2 rfl hsa
    rw [e1, Option.bind_some]
    have hfine := hfn a ha
    have lem := lpb_ex (body := somBd rT (b + o) (nI d))
      (kf := fun (y3 : Int32 × Int32 × HP) => (rc [2] y3.2.2 (b + o) (FX2_landSkip y3.2.2 (b + o) y3.1)).bind (fun w4 => (rc [2] w4 (b + o) (FX2_landSkip w4 (b + o) y3.2.1)).bind (fun w5 => some w5))) (N := FU) (s0 := ((-1 : Int32), (-1 : Int32), (0 : Int32), mk b (stW w0 o a1 s1 g1 f1)))
      (fun q s2 => (∃ x y t a' s' g' z, s2 = (x, y, t, mk b (stW w0 o a' s' g' (flt z))) ∧ a' ≤ len ∧ s' ≤ 240 ∧ flt z ≠ 0 ∧ pSomB ch tst a = .inl z) ∨ ∃ t n a' oA oB C s' g', q = len + 1 - a' ∧ s2 = (skp (s + lenO oA) oB, skp s oA, nI t, mk b (stW w0 o a' s' g' 0)) ∧ pSomL ch tst n a' oA oB C = pSomB ch tst a ∧ s' = s + lenO oA + lenO oB + C.length ∧ (∀ i, i < s → g' i = g i) ∧ half g' s (-2000) oA ∧ half g' (s + lenO oA) (-1000) oB ∧ layd cC g' (s + lenO oA + lenO oB) C ∧ len < a' + n ∧ (t < a' ∧ a < a') ∧ a' ≤ len ∧ lenO oA + lenO oB + C.length ≤ a' - a)
      (fun x => (∃ x1 y a' s' g' z, x = (x1, y, mk b (stW w0 o a' s' g' (flt z))) ∧ a' ≤ len ∧ s' ≤ 240 ∧ pSomB ch tst a = .inl z) ∨ ∃ a' oA oB C s' g', x = (skp (s + lenO oA) oB, skp s oA, mk b (stW w0 o a' s' g' 0)) ∧ pSomB ch tst a = .inr (a', jnd 12 oA (jnd 11 oB C)) ∧ s' = s + lenO oA + lenO oB + C.length ∧ (∀ i, i < s → g' i = g i) ∧ half g' s (-2000) oA ∧ half g' (s + lenO oA) (-1000) oB ∧ layd cC g' (s + lenO oA + lenO oB) C ∧ (a < a' ∧ a' ≤ len) ∧ lenO oA + lenO oB + C.length ≤ a' - a)
      (fun r => ∃ a' s' g' f', r = mk b (stW w0 o a' s' g' f') ∧ PoC len s g (pSomB ch tst a) a' s' g' f') (len + 1 - a1) (by unfold FU; omega) ?_ ?_ ?_
    · obtain ⟨r, q1, a', s', g', f', rfl, q2⟩ := lem
      exact ⟨a', s', g', f', q1, q2⟩
    · cases hp : tst a with
      | inl z =>
        rw [hp] at p1
        obtain ⟨r1, r2, rfl⟩ := p1
        refine Or.inl ⟨-1, -1, 0, a1, s1, g1, z, rfl, r1, r2, flt_of hfine hlen hp, ?_⟩
        unfold pSomB
        rw [hp]
      | inr z =>
        rw [hp] at p1 hfine
        obtain ⟨r1, r2, r3, r4, r5⟩ := p1
        obtain ⟨v1, v2, v3⟩ := hfine
        subst r3
        refine Or.inr ⟨0, 300, a1, none, none, z.2, s1, g1, rfl, rfl, ?_, r2, r4, trivial, trivial, r5, by omega, ⟨by omega, by omega⟩, by omega, ?_⟩
        · unfold pSomB
          rw [hp, r1]
        · show 0 + 0 + z.2.length ≤ a1 - a
          omega
    · rintro q s2 (⟨x, y, t, a', s', g', z, rfl, h1, h2, h3, h4⟩ | ⟨t, n, a', oA, oB, C, s', g', rfl, rfl, hp, hs', hg', hA, hB, hC, hn, ⟨ht, haa⟩, ha', hac⟩)
      · exact Or.inl ⟨_, somBd_fault hT h3 rT _ _ _ _, Or.inl ⟨x, y, a', s', g', z, rfl, h1, h2, h4⟩⟩
      · obtain ⟨n, rfl⟩ : ∃ m, n = m + 1 := ⟨n - 1, by omega⟩
        by_cases h38 : ch a' = 38
        · right
          have hin := at_in hT.2.2.2.2 h38 (by decide)
          have hpu : pSomL ch tst (n + 1) a' oA oB C = (match tst (a' + 1) with
              | .inl z => .inl z
              | .inr (a'', l) => pSomL ch tst n a'' oA (some (jnd 11 oB C)) l) := by
            conv => lhs; unfold pSomL
            rw [if_pos h38]
            cases tst (a' + 1) <;> rfl
          rw [hpu] at hp
          obtain ⟨g1', l1, l2, l3⟩ := land_o (b := b) (w0 := w0) (o := o) (a := a' + 1) (s := s') (p := s + lenO oA) (k := 11) (g := g') (x := oB) (C := C) ho (Or.inl rfl) hs' (by omega) hB hC
          have hjl : (jnd 11 oB C).length = lenO oB + C.length := jnd_len 11 oB C
          have hb := somBd_and (b := b) (s := s') (g := g') (g1 := g1') hT ha' (show t < len by omega) h38 (by omega) rT (nI d) (skp (s + lenO oA) oB) (skp s oA) l1
          obtain ⟨a2, s2, g2, f2, e2, p2⟩ := (hsp (a' + 1) (s' + 1) (upd g1' s' (-1000)) 0 hin (by omega)).2 rfl (by omega)
          have hfine2 := hfn (a' + 1) hin
          rw [e2, Option.bind_some] at hb
          cases hfa : tst (a' + 1) with
          | inl z =>
            rw [hfa] at p2 hp
            obtain ⟨r1, r2, rfl⟩ := p2
            exact ⟨_, 0, hb, by omega, Or.inl ⟨_, _, _, a2, s2, g2, z, rfl, r1, r2, flt_of hfine2 hlen hfa, hp.symm⟩⟩
          | inr z =>
            rw [hfa] at p2 hp hfine2
            obtain ⟨r1, r2, r3, r4, r5⟩ := p2
            obtain ⟨v1, v2, v3⟩ := hfine2
            subst r3
            have low : ∀ i, i < s' → g2 i = g1' i := fun i hi => by rw [r4 i (by omega), pk_un (by omega)]
            refine ⟨_, len + 1 - a2, hb, by omega, Or.inr ⟨t + 1, n, a2, oA, some (jnd 11 oB C), z.2, s2, g2, rfl, ?_, ?_, ?_, fun i hi => ?_, ?_, ?_, ?_, by omega, ⟨by omega, by omega⟩, by omega, ?_⟩⟩
            · show (nI s', skp s oA, nI (t + 1), mk b (stW w0 o a2 s2 g2 0)) = (nI (s + lenO oA + (jnd 11 oB C).length), skp s oA, nI (t + 1), mk b (stW w0 o a2 s2 g2 0))
              rw [hjl, ← Nat.add_assoc, ← hs']
            · rw [← hp, r1]
            · show s2 = s + lenO oA + ((jnd 11 oB C).length + 1) + z.2.length
              omega
            · rw [low i (by omega), l2 i (by omega)]
              exact hg' i hi
            · exact half_cong (fun i h3 h4 => by rw [low i (by omega), l2 i (by omega)]) hA
            · refine ⟨layd_cong _ _ (fun i h3 h4 => low i (by omega)) l3, ?_⟩
              rw [hjl, ← Nat.add_assoc, ← hs', r4 s' (by omega), pk_us]
            · show layd cC g2 (s + lenO oA + ((jnd 11 oB C).length + 1)) z.2
              rw [hjl, show s + lenO oA + (lenO oB + C.length + 1) = s' + 1 by omega]
              exact r5
            · show lenO oA + ((jnd 11 oB C).length + 1) + z.2.length ≤ a2 - a
              omega
        · by_cases h124 : ch a' = 124
          · right
            have hin := at_in hT.2.2.2.2 h124 (by decide)
            have hpu : pSomL ch tst (n + 1) a' oA oB C = (match tst (a' + 1) with
                | .inl z => .inl z
                | .inr (a'', l) => pSomL ch tst n a'' (some (jnd 12 oA (jnd 11 oB C))) none l) := by
              conv => lhs; unfold pSomL
              rw [if_neg h38, if_pos h124]
              cases tst (a' + 1) <;> rfl
            rw [hpu] at hp
            have hjl : (jnd 11 oB C).length = lenO oB + C.length := jnd_len 11 oB C
            have hjl2 : (jnd 12 oA (jnd 11 oB C)).length = lenO oA + (jnd 11 oB C).length := jnd_len 12 oA _
            obtain ⟨g1', l1, l2, l3⟩ := land_o (b := b) (w0 := w0) (o := o) (a := a' + 1) (s := s') (p := s + lenO oA) (k := 11) (g := g') (x := oB) (C := C) ho (Or.inl rfl) hs' (by omega) hB hC
            obtain ⟨g2', m1, m2, m3⟩ := land_o (b := b) (w0 := w0) (o := o) (a := a' + 1) (s := s') (p := s) (k := 12) (g := g1') (x := oA) (C := jnd 11 oB C) ho (Or.inr rfl) (by omega) (by omega) (half_cong (fun i h3 h4 => l2 i (by omega)) hA) l3
            have hb := somBd_or (b := b) (s := s') (g := g') (g1 := g1') (g2 := g2') hT ha' (show t < len by omega) h124 (by omega) rT (nI d) (skp (s + lenO oA) oB) (skp s oA) l1 m1
            obtain ⟨a2, s2, g2, f2, e2, p2⟩ := (hsp (a' + 1) (s' + 1) (upd g2' s' (-2000)) 0 hin (by omega)).2 rfl (by omega)
            have hfine2 := hfn (a' + 1) hin
            rw [e2, Option.bind_some] at hb
            cases hfa : tst (a' + 1) with
            | inl z =>
              rw [hfa] at p2 hp
              obtain ⟨r1, r2, rfl⟩ := p2
              exact ⟨_, 0, hb, by omega, Or.inl ⟨_, _, _, a2, s2, g2, z, rfl, r1, r2, flt_of hfine2 hlen hfa, hp.symm⟩⟩
            | inr z =>
              rw [hfa] at p2 hp hfine2
              obtain ⟨r1, r2, r3, r4, r5⟩ := p2
              obtain ⟨v1, v2, v3⟩ := hfine2
              subst r3
              have low : ∀ i, i < s' → g2 i = g2' i := fun i hi => by rw [r4 i (by omega), pk_un (by omega)]
              refine ⟨_, len + 1 - a2, hb, by omega, Or.inr ⟨t + 1, n, a2, some (jnd 12 oA (jnd 11 oB C)), none, z.2, s2, g2, rfl, ?_, ?_, ?_, fun i hi => ?_, ?_, trivial, ?_, by omega, ⟨by omega, by omega⟩, by omega, ?_⟩⟩
              · show (-1, nI s', nI (t + 1), mk b (stW w0 o a2 s2 g2 0)) = (-1, nI (s + (jnd 12 oA (jnd 11 oB C)).length), nI (t + 1), mk b (stW w0 o a2 s2 g2 0))
                rw [hjl2, hjl, show s + (lenO oA + (lenO oB + C.length)) = s' by omega]
              · rw [← hp, r1]
              · show s2 = s + ((jnd 12 oA (jnd 11 oB C)).length + 1) + 0 + z.2.length
                omega
              · rw [low i (by omega), m2 i (by omega), l2 i (by omega)]
                exact hg' i hi
              · refine ⟨layd_cong _ _ (fun i h3 h4 => low i (by omega)) m3, ?_⟩
                rw [hjl2, hjl, show s + (lenO oA + (lenO oB + C.length)) = s' by omega, r4 s' (by omega), pk_us]
              · show layd cC g2 (s + ((jnd 12 oA (jnd 11 oB C)).length + 1) + 0) z.2
                rw [hjl2, hjl, show s + (lenO oA + (lenO oB + C.length) + 1) + 0 = s' + 1 by omega]
                exact r5
              · show (jnd 12 oA (jnd 11 oB C)).length + 1 + 0 + z.2.length ≤ a2 - a
                omega
          · left
            refine ⟨_, somBd_stop hT ha' h38 h124 rT _ _ _ _, Or.inr ⟨a', oA, oB, C, s', g', rfl, ?_, hs', hg', hA, hB, hC, ⟨haa, ha'⟩, hac⟩⟩
            rw [← hp]
            conv => lhs; unfold pSomL
            rw [if_neg h38, if_neg h124]
    · rintro x (⟨x1, y, a', s', g', z, rfl, h1, h2, h4⟩ | ⟨a', oA, oB, C, s', g', rfl, hp, hs', hg', hA, hB, hC, ⟨haa, ha'⟩, hac⟩)
      · dsimp only
        obtain ⟨g2, l1⟩ := land_j (b := b) (w0 := w0) (a := a') (s := s') (g := g') (f := flt z) ho x1
        obtain ⟨g3, l2⟩ := land_j (b := b) (w0 := w0) (a := a') (s := s') (g := g2) (f := flt z) ho y
        rw [rc_2_o b _ ho, l1, Option.bind_some, rc_2_o b _ ho, l2]
        refine ⟨_, rfl, a', s', g3, flt z, rfl, ?_⟩
        rw [h4]
        exact ⟨h1, h2, rfl⟩
      · dsimp only
        have hjl : (jnd 11 oB C).length = lenO oB + C.length := jnd_len 11 oB C
        have hjl2 : (jnd 12 oA (jnd 11 oB C)).length = lenO oA + (jnd 11 oB C).length := jnd_len 12 oA _
        obtain ⟨g1', l1, l2, l3⟩ := land_o (b := b) (w0 := w0) (o := o) (a := a') (s := s') (p := s + lenO oA) (k := 11) (g := g') (x := oB) (C := C) ho (Or.inl rfl) hs' (by omega) hB hC
        obtain ⟨g2', m1, m2, m3⟩ := land_o (b := b) (w0 := w0) (o := o) (a := a') (s := s') (p := s) (k := 12) (g := g1') (x := oA) (C := jnd 11 oB C) ho (Or.inr rfl) (by omega) (by omega) (half_cong (fun i h3 h4 => l2 i (by omega)) hA) l3
        rw [rc_2_o b _ ho, l1, Option.bind_some, rc_2_o b _ ho, m1]
        refine ⟨_, rfl, a', s', g2', 0, rfl, ?_⟩
        rw [hp]
        refine ⟨rfl, ?_, rfl, fun i hi => by rw [m2 i hi, l2 i (by omega)]; exact hg' i hi, m3⟩
        show s' = s + (jnd 12 oA (jnd 11 oB C)).length
        omega
end
