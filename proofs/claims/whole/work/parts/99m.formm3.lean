/-! the reference reads a piece of a formula -/
theorem mbeg {x : Nat} (hx : x ≤ 256) : FX12_begins (txv x) = some (if cB x then 1 else 0) := (by decide +kernel : ∀ x, x < 257 → FX12_begins (txv x) = some (if cB x then 1 else 0)) x (by omega)
theorem mfact {x : Nat} (hx : x ≤ 256) : FX12_isFact (txv x) = some (if 97 ≤ x ∧ x ≤ 106 then 1 else 0) := (by decide +kernel : ∀ x, x < 257 → FX12_isFact (txv x) = some (if 97 ≤ x ∧ x ≤ 106 then 1 else 0)) x (by omega)
def tok : List (Nat × Nat) → Prop
  | [] => True
  | x :: _ => x.1 < 100 ∨ x.2 ≤ 10
def tok2 : List (Nat × Nat) → Prop
  | [] => True
  | x :: _ => x.2 ≤ 11
/-- a piece whose first byte may stand there -/
def pieJ (hp : HP) (p0 : Nat) (v1 : Int32) : Option (Int32 × HP) := (FX12_isFact v1).bind (fun v8 => jn (A := Unit) (fun a9 => (FX12_isFact v1).bind (fun v11 => jn (A := Int32) (fun a12 => (rc [12] hp p0 (FX12_lays hp p0 a12)).bind (fun w14 => (gI [12] 15 w14 p0).bind (fun v15 => (sI [12] 15 w14 p0 (v15 + (1 : Int32))).bind (fun hp16 => (rc [12] hp16 p0 (FX12_endsTruth hp16 p0)).bind (fun w17 => some ((1 : Int32), w17)))))) (fun J13 => if v11 = 0 then vl (((20 : Int32) + v1) - (48 : Int32)) (fun x18 => J13 x18) else vl (((0 : Int32) + v1) - (97 : Int32)) (fun x19 => J13 x19)))) (fun J10 => if v8 = 0 then if v1 = (48 : Int32) then J10 () else if v1 = (49 : Int32) then J10 () else (rc [12] hp p0 (FX12_opensOne hp p0)).bind (fun w20 => if w20.1 = 0 then some ((0 : Int32), w20.2) else (gI [12] 15 w20.2 p0).bind (fun v21 => (sI [12] 15 w20.2 p0 (v21 + (1 : Int32))).bind (fun hp22 => if v1 = (33 : Int32) then (rc [12] hp22 p0 (FX12_waitsFor hp22 p0 (33 : Int32))).bind (fun w23 => some ((1 : Int32), w23)) else if v1 = (40 : Int32) then (rc [12] hp22 p0 (FX12_waitsFor hp22 p0 (90 : Int32))).bind (fun w24 => some ((1 : Int32), w24)) else (rc [12] hp22 p0 (FX12_waitsFor hp22 p0 (((100 : Int32) + v1) - (48 : Int32)))).bind (fun w25 => (rc [12] w25 p0 (FX12_takes w25 p0 (40 : Int32))).bind (fun w26 => bz w26.1 (some (w26.1, w26.2))))))) else J10 ()))
section
variable {b : Nat} {w0 W : WD} {len a : Nat} {ch : Nat → Nat} {L : List Nat} {s : List (Nat × Nat)}
theorem mtok {X : Type} {z : Int32} {d : Nat} (h : FS w0 W len a z d L s) (hs : sgn s) (h2 : tok2 s) (hl : s.length ≤ 100) (J : Unit → Option X) (K : Option X) (Z : Option X) (ht : tok s → J () = Z) (hn : ¬ tok s → K = Z) : (if nI s.length ≤ 0 then J () else (gR [12] 38 (mk b W) (b + 77)).bind (fun v27 => (gI [12] 41 (mk b W) (b + 77)).bind (fun v28 => (rdN 0 (mk b W) v27 (v28 - (1 : Int32))).bind (fun v29 => if v29 < (100 : Int32) then J () else (gR [12] 39 (mk b W) (b + 77)).bind (fun v30 => (gI [12] 41 (mk b W) (b + 77)).bind (fun v31 => (rdN 0 (mk b W) v30 (v31 - (1 : Int32))).bind (fun v32 => if v32 ≤ (10 : Int32) then J () else K))))))) = Z := by
  have e41 := h.2.2.2.2.2.2.1
  have hk := h.2.2.2.2.2.2.2.2
  cases s with
  | nil => rw [if_pos (by decide)]; exact ht trivial
  | cons x s =>
    rw [List.length_cons] at hl e41 ⊢
    rw [if_neg (show ¬ nI (s.length + 1) ≤ (0 : Int32) from nI_ge (a := 0) (b := s.length + 1) (by omega) (by omega)), gR_12_77_38, Option.bind_some, gI_12_77_41, Option.bind_some, e41, nI_s1, rdN_mk (t := 0) (j := 98) (n := 100) (by decide +kernel) (by decide) b _ (by omega), Option.bind_some, hk.1]
    have l1 := hs.1
    by_cases q : x.1 < 100
    · rw [if_pos (show nI x.1 < (100 : Int32) from nI_lt (a := x.1) (b := 100) q (by decide))]
      exact ht (Or.inl q)
    · rw [if_neg (show ¬ nI x.1 < (100 : Int32) from nI_nlt (a := x.1) (b := 100) (by omega) (by omega)), gR_12_77_39, Option.bind_some, Option.bind_some, nI_s1, rdN_mk (t := 0) (j := 99) (n := 100) (by decide +kernel) (by decide) b _ (by omega), Option.bind_some, hk.2.1]
      have h2 : x.2 ≤ 11 := h2
      by_cases q2 : x.2 ≤ 10
      · rw [if_pos (show nI x.2 ≤ (10 : Int32) from nI_le (a := x.2) (b := 10) q2 (by decide))]
        exact ht (Or.inr q2)
      · rw [if_neg (show ¬ nI x.2 ≤ (10 : Int32) from nI_ge (a := 10) (b := x.2) (by omega) (by omega))]
        exact hn (fun y => by
          rcases y with y | y
          · exact q y
          · exact q2 y)
theorem sf_takes (hX : TX (w0.2.1 83) len ch) (hl : len ≤ 100) {z : Int32} {d : Nat} (h : FS w0 W len a z d L s) (ha : a ≤ len) : FX12_takes (mk b W) (b + 77) (40 : Int32) = some (if ch a = 40 then (1, mk b (uI W 77 15 (nI (a + 1)))) else (0, mk b (uI W 77 17 (flt (1, a))))) := by
  have t40 : (txv (ch a) = (40 : Int32)) ↔ ch a = 40 := tq (chm_le hX a) (by decide)
  unfold FX12_takes
  rw [rc_12_77, sf_here hX hl h ha, Option.bind_some]
  by_cases q : ch a = 40
  · rw [if_pos (t40.mpr q), if_pos q, gI_12_77_15, Option.bind_some, h.2.2.1, nI_1, sI_12_77_15, Option.bind_some]
  · rw [if_neg (fun y => q (t40.mp y)), if_neg q, gI_12_77_15, Option.bind_some, h.2.2.1, rc_12_77]
    refine bS (sf_wrong 1 a) ?_
    unfold bz
    rw [if_pos (Or.inl rfl)]
/-- how a first byte of a piece is taken -/
def pieR (w0 : WD) (len a : Nat) (ch : Nat → Nat) (L : List Nat) (s : List (Nat × Nat)) (r : Int32) (W' : WD) : Prop :=
  if cB (ch a) then ((¬ tok s ∧ r = 0 ∧ W'.1 77 17 = flt (4, a) ∧ frY w0 W') ∨ (tok s ∧ (
    if 97 ≤ ch a then r = 1 ∧ FS w0 W' len (a + 1) 0 (dep (epop (L ++ [ch a - 97]) s).2) (epop (L ++ [ch a - 97]) s).1 (epop (L ++ [ch a - 97]) s).2
    else if ch a = 48 then r = 1 ∧ FS w0 W' len (a + 1) 0 (dep (epop (L ++ [20]) s).2) (epop (L ++ [20]) s).1 (epop (L ++ [20]) s).2
    else if ch a = 49 then r = 1 ∧ FS w0 W' len (a + 1) 0 (dep (epop (L ++ [21]) s).2) (epop (L ++ [21]) s).1 (epop (L ++ [21]) s).2
    else if dep s = 6 then r = 0 ∧ W'.1 77 17 = flt (5, a) ∧ frY w0 W'
    else if ch a = 33 then r = 1 ∧ FS w0 W' len (a + 1) 1 (dep s + 1) L ((33, 1) :: s)
    else if ch a = 40 then r = 1 ∧ FS w0 W' len (a + 1) 1 (dep s + 1) L ((90, 1) :: s)
    else if ch (a + 1) = 40 then r = 1 ∧ FS w0 W' len (a + 2) 1 (dep s + 1) L ((100 + (ch a - 48), 1) :: s)
    else r = 0 ∧ W'.1 77 17 = flt (1, a + 1) ∧ frY w0 W')))
  else r = 0 ∧ W'.1 77 17 = flt (1, a) ∧ frY w0 W'
theorem pieJ_ok (hX : TX (w0.2.1 83) len ch) (hl : len ≤ 100) (h : FS w0 W len a 1 (dep s) L s) (ha : a < len) (hLs : L.length + s.length ≤ a) (hs : sgn s) (h2 : tok2 s) (cb : cB (ch a) = true) : FX12_readsPiece (mk b W) (b + 77) = (if nI s.length ≤ 0 then pieJ (mk b W) (b + 77) (txv (ch a)) else (gR [12] 38 (mk b W) (b + 77)).bind (fun v27 => (gI [12] 41 (mk b W) (b + 77)).bind (fun v28 => (rdN 0 (mk b W) v27 (v28 - (1 : Int32))).bind (fun v29 => if v29 < (100 : Int32) then pieJ (mk b W) (b + 77) (txv (ch a)) else (gR [12] 39 (mk b W) (b + 77)).bind (fun v30 => (gI [12] 41 (mk b W) (b + 77)).bind (fun v31 => (rdN 0 (mk b W) v30 (v31 - (1 : Int32))).bind (fun v32 => if v32 ≤ (10 : Int32) then pieJ (mk b W) (b + 77) (txv (ch a)) else (gI [12] 15 (mk b W) (b + 77)).bind (fun v33 => (rc [12] (mk b W) (b + 77) (FX12_wrongAt (mk b W) (b + 77) (4 : Int32) v33)).bind (fun w34 => bz w34.1 (some (w34.1, w34.2))))))))))) := by
  have hx := chm_le hX a
  unfold FX12_readsPiece
  rw [rc_12_77, sf_here hX hl h (by omega), Option.bind_some, mbeg hx, Option.bind_some, cb, if_neg (show ¬ (if true = true then (1 : Int32) else 0) = 0 by decide), gI_12_77_41, Option.bind_some, jn_eq, h.2.2.2.2.2.2.1]
  rfl
theorem sf_piece (hX : TX (w0.2.1 83) len ch) (hl : len ≤ 100) (h : FS w0 W len a 1 (dep s) L s) (ha : a < len) (hLs : L.length + s.length ≤ a) (hs : sgn s) (h2 : tok2 s) (hd : dep s ≤ 6) : ∃ r W', FX12_readsPiece (mk b W) (b + 77) = some (r, mk b W') ∧ pieR w0 len a ch L s r W' := by
  have hx := chm_le hX a
  unfold pieR
  cases cb : cB (ch a) with
  | false =>
    unfold FX12_readsPiece
    rw [rc_12_77, sf_here hX hl h (by omega), Option.bind_some, mbeg hx, Option.bind_some, cb, if_pos (show (if false = true then (1 : Int32) else 0) = 0 by decide), gI_12_77_15, Option.bind_some, h.2.2.1, rc_12_77]
    refine ⟨0, _, bS (sf_wrong 1 a) (by unfold bz; rw [if_pos (Or.inl rfl)]), ?_⟩
    rw [if_neg (by decide)]
    exact ⟨rfl, rfl, (FS_17 h _).1⟩
  | true =>
    have hcb := cB_is cb
    have htx : txv (ch a) = nI (ch a) := by
      unfold txv
      rw [if_neg (by omega)]
    rw [pieJ_ok hX hl h ha hLs hs h2 cb]
    by_cases ht : tok s
    · have e0 : ∀ (J K : Option (Int32 × HP)), (if nI s.length ≤ 0 then J else (gR [12] 38 (mk b W) (b + 77)).bind (fun v27 => (gI [12] 41 (mk b W) (b + 77)).bind (fun v28 => (rdN 0 (mk b W) v27 (v28 - (1 : Int32))).bind (fun v29 => if v29 < (100 : Int32) then J else (gR [12] 39 (mk b W) (b + 77)).bind (fun v30 => (gI [12] 41 (mk b W) (b + 77)).bind (fun v31 => (rdN 0 (mk b W) v30 (v31 - (1 : Int32))).bind (fun v32 => if v32 ≤ (10 : Int32) then J else K))))))) = J := fun J K => mtok h hs h2 (by omega) (fun _ => J) K J (fun _ => rfl) (fun q => absurd ht q)
      rw [e0, htx]
      unfold pieJ
      rw [← htx, mfact hx, Option.bind_some, jn_eq, htx]
      -- one sign, and what waits for it
      have atom : ∀ c, ∃ W', (rc [12] (mk b W) (b + 77) (FX12_lays (mk b W) (b + 77) (nI c))).bind (fun w14 => (gI [12] 15 w14 (b + 77)).bind (fun v15 => (sI [12] 15 w14 (b + 77) (v15 + (1 : Int32))).bind (fun hp16 => (rc [12] hp16 (b + 77) (FX12_endsTruth hp16 (b + 77))).bind (fun w17 => some ((1 : Int32), w17))))) = some (1, mk b W') ∧ FS w0 W' len (a + 1) 0 (dep (epop (L ++ [c]) s).2) (epop (L ++ [c]) s).1 (epop (L ++ [c]) s).2 := by
        intro c
        obtain ⟨W1, r1, r2⟩ := sf_lays (b := b) h (by omega) c
        obtain ⟨W2, r3, r4⟩ := sf_ends (b := b) (FS_15 r2 (a + 1)) (by rw [List.length_append]; show L.length + 1 + s.length ≤ 100; omega) hs
        refine ⟨W2, ?_, r4⟩
        rw [rc_12_77, r1, Option.bind_some, gI_12_77_15, Option.bind_some, r2.2.2.1, nI_1, sI_12_77_15, Option.bind_some, rc_12_77, r3, Option.bind_some]
      by_cases c1 : 97 ≤ ch a
      · obtain ⟨W', r1, r2⟩ := atom (ch a - 97)
        refine ⟨1, W', ?_, ?_⟩
        · rw [if_pos (show 97 ≤ ch a ∧ ch a ≤ 106 by omega), if_neg (by decide)]
          dsimp only
          rw [Option.bind_some, jn_eq, if_neg (by decide), vl_eq, (by decide +kernel : ∀ c, c < 107 → 97 ≤ c → ((0 : Int32) + nI c) - (97 : Int32) = nI (c - 97)) (ch a) (by omega) c1]
          exact r1
        · rw [if_pos rfl]
          refine Or.inr ⟨ht, ?_⟩
          rw [if_pos c1]
          exact ⟨rfl, r2⟩
      · have nf : ¬ (97 ≤ ch a ∧ ch a ≤ 106) := fun y => c1 y.1
        rw [if_neg nf, if_pos (show (0 : Int32) = 0 from rfl)]
        by_cases c2 : ch a = 48 ∨ ch a = 49
        · obtain ⟨W', r1, r2⟩ := atom (20 + (ch a - 48))
          have e20 : ((20 : Int32) + nI (ch a)) - (48 : Int32) = nI (20 + (ch a - 48)) := (by decide +kernel : ∀ c, c < 50 → 48 ≤ c → ((20 : Int32) + nI c) - (48 : Int32) = nI (20 + (c - 48))) (ch a) (by omega) (by omega)
          refine ⟨1, W', ?_, ?_⟩
          · rcases c2 with c2 | c2
            · rw [if_pos (show nI (ch a) = (48 : Int32) by rw [c2]; rfl)]
              dsimp only
              rw [Option.bind_some, jn_eq, if_pos rfl, vl_eq, e20]
              exact r1
            · rw [if_neg (show ¬ nI (ch a) = (48 : Int32) by rw [c2]; decide), if_pos (show nI (ch a) = (49 : Int32) by rw [c2]; rfl)]
              dsimp only
              rw [Option.bind_some, jn_eq, if_pos rfl, vl_eq, e20]
              exact r1
          · rw [if_pos rfl]
            refine Or.inr ⟨ht, ?_⟩
            rw [if_neg c1]
            rcases c2 with c2 | c2
            · rw [if_pos c2]
              rw [c2] at r2
              exact ⟨rfl, r2⟩
            · rw [if_neg (by omega), if_pos c2]
              rw [c2] at r2
              exact ⟨rfl, r2⟩
        · have n48 : ¬ nI (ch a) = (48 : Int32) := fun y => c2 (Or.inl (nI_inj (a := ch a) (b := 48) (by omega) (by omega) y))
          have n49 : ¬ nI (ch a) = (49 : Int32) := fun y => c2 (Or.inr (nI_inj (a := ch a) (b := 49) (by omega) (by omega) y))
          have op := sf_opens (b := b) h hd
          rw [if_neg n48, if_neg n49, rc_12_77]
          have a48 : ¬ ch a = 48 := fun y => c2 (Or.inl y)
          have a49 : ¬ ch a = 49 := fun y => c2 (Or.inr y)
          by_cases c6 : dep s = 6
          · rw [if_pos c6] at op
            refine ⟨0, uI W 77 17 (flt (5, a)), bS op ?_, ?_⟩
            · rw [if_pos rfl]
            · rw [if_pos rfl]
              refine Or.inr ⟨ht, ?_⟩
              rw [if_neg c1, if_neg a48, if_neg a49, if_pos c6]
              exact ⟨rfl, rfl, (FS_17 h _).1⟩
          · rw [if_neg c6] at op
            have h3 := FS_15 (FS_42 h (dep s + 1)) (a + 1)
            have e15 : (uI W 77 42 (nI (dep s + 1))).1 77 15 = nI a := h.2.2.1
            by_cases c33 : ch a = 33
            · obtain ⟨W', r1, r2⟩ := sf_waits (b := b) h3 (by omega) 33
              have r1 : FX12_waitsFor (mk b (uI (uI W 77 42 (nI (dep s + 1))) 77 15 (nI (a + 1)))) (b + 77) (33 : Int32) = some (mk b W') := r1
              refine ⟨1, W', bS op ?_, ?_⟩
              · dsimp only
                rw [if_neg (by decide), gI_12_77_15, Option.bind_some, e15, nI_1, sI_12_77_15, Option.bind_some, c33, if_pos (show nI 33 = (33 : Int32) from rfl), rc_12_77, r1, Option.bind_some]
              · rw [if_pos rfl]
                refine Or.inr ⟨ht, ?_⟩
                rw [if_neg c1, if_neg a48, if_neg a49, if_neg c6, if_pos c33]
                exact ⟨rfl, r2⟩
            · have n33 : ¬ nI (ch a) = (33 : Int32) := fun y => c33 (nI_inj (a := ch a) (b := 33) (by omega) (by omega) y)
              by_cases c40 : ch a = 40
              · obtain ⟨W', r1, r2⟩ := sf_waits (b := b) h3 (by omega) 90
                have r1 : FX12_waitsFor (mk b (uI (uI W 77 42 (nI (dep s + 1))) 77 15 (nI (a + 1)))) (b + 77) (90 : Int32) = some (mk b W') := r1
                refine ⟨1, W', bS op ?_, ?_⟩
                · dsimp only
                  rw [if_neg (by decide), gI_12_77_15, Option.bind_some, e15, nI_1, sI_12_77_15, Option.bind_some, if_neg n33, c40, if_pos (show nI 40 = (40 : Int32) from rfl), rc_12_77, r1, Option.bind_some]
                · rw [if_pos rfl]
                  refine Or.inr ⟨ht, ?_⟩
                  rw [if_neg c1, if_neg a48, if_neg a49, if_neg c6, if_neg c33, if_pos c40]
                  exact ⟨rfl, r2⟩
              · have n40 : ¬ nI (ch a) = (40 : Int32) := fun y => c40 (nI_inj (a := ch a) (b := 40) (by omega) (by omega) y)
                have e100 : ((100 : Int32) + nI (ch a)) - (48 : Int32) = nI (100 + (ch a - 48)) := (by decide +kernel : ∀ c, c < 58 → 48 ≤ c → ((100 : Int32) + nI c) - (48 : Int32) = nI (100 + (c - 48))) (ch a) (by omega) (by omega)
                obtain ⟨W', r1, r2⟩ := sf_waits (b := b) h3 (by omega) (100 + (ch a - 48))
                have tk := sf_takes (b := b) hX hl r2 (show a + 1 ≤ len from ha)
                by_cases c1b : ch (a + 1) = 40
                · rw [if_pos c1b] at tk
                  refine ⟨1, uI W' 77 15 (nI (a + 1 + 1)), bS op ?_, ?_⟩
                  · dsimp only
                    rw [if_neg (by decide), gI_12_77_15, Option.bind_some, e15, nI_1, sI_12_77_15, Option.bind_some, if_neg n33, if_neg n40, e100, rc_12_77, r1, Option.bind_some, rc_12_77]
                    refine bS tk ?_
                    unfold bz
                    rw [if_pos (Or.inr rfl)]
                  · rw [if_pos rfl]
                    refine Or.inr ⟨ht, ?_⟩
                    rw [if_neg c1, if_neg a48, if_neg a49, if_neg c6, if_neg c33, if_neg c40, if_pos c1b]
                    exact ⟨rfl, FS_15 r2 _⟩
                · rw [if_neg c1b] at tk
                  refine ⟨0, uI W' 77 17 (flt (1, a + 1)), bS op ?_, ?_⟩
                  · dsimp only
                    rw [if_neg (by decide), gI_12_77_15, Option.bind_some, e15, nI_1, sI_12_77_15, Option.bind_some, if_neg n33, if_neg n40, e100, rc_12_77, r1, Option.bind_some, rc_12_77]
                    refine bS tk ?_
                    unfold bz
                    rw [if_pos (Or.inl rfl)]
                  · rw [if_pos rfl]
                    refine Or.inr ⟨ht, ?_⟩
                    rw [if_neg c1, if_neg a48, if_neg a49, if_neg c6, if_neg c33, if_neg c40, if_neg c1b]
                    exact ⟨rfl, rfl, (FS_17 r2 _).1⟩
    · have hw : (gI [12] 15 (mk b W) (b + 77)).bind (fun v33 => (rc [12] (mk b W) (b + 77) (FX12_wrongAt (mk b W) (b + 77) (4 : Int32) v33)).bind (fun w34 => bz w34.1 (some (w34.1, w34.2)))) = some (0, mk b (uI W 77 17 (flt (4, a)))) := by
        rw [gI_12_77_15, Option.bind_some, h.2.2.1, rc_12_77]
        exact bS (sf_wrong 4 a) (by unfold bz; rw [if_pos (Or.inl rfl)])
      refine ⟨0, uI W 77 17 (flt (4, a)), mtok h hs h2 (by omega) (fun _ => pieJ (mk b W) (b + 77) (txv (ch a))) _ _ (fun q => absurd q ht) (fun _ => hw), ?_⟩
      rw [if_pos rfl]
      exact Or.inl ⟨ht, rfl, rfl, (FS_17 h _).1⟩
end
