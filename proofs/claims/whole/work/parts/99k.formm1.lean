/-! the reference's little works while it reads a formula -/
def yPI (j k : Nat) : Bool := !(j == 77 && (k == 15 || k == 17 || (decide (40 ≤ k) && decide (k ≤ 43))))
def yPA (j : Nat) : Bool := !(decide (97 ≤ j) && decide (j ≤ 100))
def frY (w w' : WD) : Prop := (∀ j k, yPI j k = true → w'.1 j k = w.1 j k) ∧ (∀ j, yPA j = true → w'.2.1 j = w.2.1 j) ∧ w'.2.2 = w.2.2
theorem frY_refl (w : WD) : frY w w := ⟨fun _ _ _ => rfl, fun _ _ => rfl, rfl⟩
theorem frY_trans {w w' w'' : WD} (h : frY w w') (h2 : frY w' w'') : frY w w'' := ⟨fun j k e => (h2.1 j k e).trans (h.1 j k e), fun j e => (h2.2.1 j e).trans (h.2.1 j e), h2.2.2.trans h.2.2⟩
theorem frY_uI (w : WD) {j k : Nat} (v : Int32) (h : yPI j k = false) : frY w (uI w j k v) := ⟨(sP_uI (pI := yPI) (pA := aL) (pL := aL) w v h).1, fun _ _ => rfl, rfl⟩
theorem frY_uA (w : WD) {j : Nat} (f : Nat → Int32) (h : yPA j = false) : frY w (uA w j f) := ⟨fun _ _ _ => rfl, (sP_uA (pI := yPI) (pA := yPA) (pL := aL) w f h).2.1, rfl⟩
def layF (g : Nat → Int32) : Nat → List Nat → Prop
  | _, [] => True
  | p, c :: l => g p = nI c ∧ layF g (p + 1) l
theorem layF_app {g : Nat → Int32} : ∀ (l : List Nat) (p c : Nat), layF g p l → layF (upd g (p + l.length) (nI c)) p (l ++ [c])
  | [], p, c, _ => by
    refine ⟨?_, trivial⟩
    show upd g (p + 0) (nI c) p = nI c
    unfold upd
    rw [if_pos (by omega)]
  | x :: l, p, c, h => by
    have e : p + (x :: l).length = p + 1 + l.length := by rw [List.length_cons]; omega
    rw [e]
    refine ⟨?_, layF_app l (p + 1) c h.2⟩
    unfold upd
    rw [if_neg (by omega)]
    exact h.1
def stkF (h m : Nat → Int32) : List (Nat × Nat) → Prop
  | [] => True
  | x :: s => h s.length = nI x.1 ∧ m s.length = nI x.2 ∧ stkF h m s
theorem stkF_cong {h m h' m' : Nat → Int32} : ∀ (s : List (Nat × Nat)), (∀ i, i < s.length → h' i = h i ∧ m' i = m i) → stkF h m s → stkF h' m' s
  | [], _, _ => trivial
  | x :: s, e, q => by
    have l := e s.length (by rw [List.length_cons]; omega)
    exact ⟨l.1.trans q.1, l.2.trans q.2.1, stkF_cong s (fun i hi => e i (by rw [List.length_cons]; omega)) q.2.2⟩
/-- where the reference stands: at, whether a piece must come, the depth, the signs laid, the signs waiting -/
def FS (w0 W : WD) (len a : Nat) (z : Int32) (d : Nat) (L : List Nat) (s : List (Nat × Nat)) : Prop := frY w0 W ∧ W.1 77 16 = nI len ∧ W.1 77 15 = nI a ∧ W.1 77 43 = z ∧ W.1 77 42 = nI d ∧ W.1 77 40 = nI L.length ∧ W.1 77 41 = nI s.length ∧ layF (W.2.1 97) 0 L ∧ stkF (W.2.1 98) (W.2.1 99) s
def lastOf : List (Nat × Nat) → Int32
  | [] => -1
  | x :: _ => nI x.1
theorem nI_s1 (n : Nat) : nI (n + 1) - (1 : Int32) = nI n := by
  rw [Int32.sub_eq_add_neg]
  exact nI_m1 n
section
variable {b : Nat} {w0 W : WD} {len a d : Nat} {z : Int32} {L : List Nat} {s : List (Nat × Nat)} {ch : Nat → Nat}
theorem FS_15 (h : FS w0 W len a z d L s) (a' : Nat) : FS w0 (uI W 77 15 (nI a')) len a' z d L s := by
  obtain ⟨h1, h2, h3, h4, h5, h6, h7, h8, h9⟩ := h
  exact ⟨frY_trans h1 (frY_uI W _ rfl), h2, rfl, h4, h5, h6, h7, h8, h9⟩
theorem FS_17 (h : FS w0 W len a z d L s) (x : Int32) : FS w0 (uI W 77 17 x) len a z d L s := by
  obtain ⟨h1, h2, h3, h4, h5, h6, h7, h8, h9⟩ := h
  exact ⟨frY_trans h1 (frY_uI W _ rfl), h2, h3, h4, h5, h6, h7, h8, h9⟩
theorem FS_43 (h : FS w0 W len a z d L s) (z' : Int32) : FS w0 (uI W 77 43 z') len a z' d L s := by
  obtain ⟨h1, h2, h3, h4, h5, h6, h7, h8, h9⟩ := h
  exact ⟨frY_trans h1 (frY_uI W _ rfl), h2, h3, rfl, h5, h6, h7, h8, h9⟩
theorem FS_42 (h : FS w0 W len a z d L s) (d' : Nat) : FS w0 (uI W 77 42 (nI d')) len a z d' L s := by
  obtain ⟨h1, h2, h3, h4, h5, h6, h7, h8, h9⟩ := h
  exact ⟨frY_trans h1 (frY_uI W _ rfl), h2, h3, h4, rfl, h6, h7, h8, h9⟩
theorem FS_pop {x : Nat × Nat} (h : FS w0 W len a z d L (x :: s)) : FS w0 (uI W 77 41 (nI s.length)) len a z d L s := by
  obtain ⟨h1, h2, h3, h4, h5, h6, h7, h8, h9⟩ := h
  exact ⟨frY_trans h1 (frY_uI W _ rfl), h2, h3, h4, h5, h6, rfl, h8, h9.2.2⟩
theorem FS_push (h : FS w0 W len a z d L s) (x t : Nat) : FS w0 (uI (uA (uA W 98 (upd (W.2.1 98) s.length (nI x))) 99 (upd (W.2.1 99) s.length (nI t))) 77 41 (nI (s.length + 1))) len a z d L ((x, t) :: s) := by
  obtain ⟨h1, h2, h3, h4, h5, h6, h7, h8, h9⟩ := h
  refine ⟨frY_trans h1 (frY_trans (frY_trans (frY_uA W _ rfl) (frY_uA _ _ rfl)) (frY_uI _ _ rfl)), h2, h3, h4, h5, h6, rfl, h8, ?_, ?_, ?_⟩
  · show upd (W.2.1 98) s.length (nI x) s.length = nI x
    unfold upd
    rw [if_pos rfl]
  · show upd (W.2.1 99) s.length (nI t) s.length = nI t
    unfold upd
    rw [if_pos rfl]
  · refine stkF_cong s (fun i hi => ?_) h9
    constructor
    · show upd (W.2.1 98) s.length (nI x) i = _
      unfold upd
      rw [if_neg (by omega)]
    · show upd (W.2.1 99) s.length (nI t) i = _
      unfold upd
      rw [if_neg (by omega)]
theorem FS_many {x t : Nat} (h : FS w0 W len a z d L ((x, t) :: s)) (t' : Nat) : FS w0 (uA W 99 (upd (W.2.1 99) s.length (nI t'))) len a z d L ((x, t') :: s) := by
  obtain ⟨h1, h2, h3, h4, h5, h6, h7, h8, h9⟩ := h
  refine ⟨frY_trans h1 (frY_uA W _ rfl), h2, h3, h4, h5, h6, h7, h8, h9.1, ?_, ?_⟩
  · show upd (W.2.1 99) s.length (nI t') s.length = nI t'
    unfold upd
    rw [if_pos rfl]
  · refine stkF_cong s (fun i hi => ⟨rfl, ?_⟩) h9.2.2
    show upd (W.2.1 99) s.length (nI t') i = _
    unfold upd
    rw [if_neg (by omega)]
theorem FS_lay (h : FS w0 W len a z d L s) (c : Nat) : FS w0 (uI (uA W 97 (upd (W.2.1 97) L.length (nI c))) 77 40 (nI (L.length + 1))) len a z d (L ++ [c]) s := by
  obtain ⟨h1, h2, h3, h4, h5, h6, h7, h8, h9⟩ := h
  refine ⟨frY_trans h1 (frY_trans (frY_uA W _ rfl) (frY_uI _ _ rfl)), h2, h3, h4, h5, ?_, h7, ?_, h9⟩
  · rw [List.length_append]
    rfl
  · have := layF_app L 0 c h8
    rw [Nat.zero_add] at this
    exact this
/-! the works themselves -/
theorem sf_here (hX : TX (w0.2.1 83) len ch) (hl : len ≤ 100) (h : FS w0 W len a z d L s) (ha : a ≤ len) : FX12_here (mk b W) (b + 77) = some (txv (ch a)) := by
  have e83 : W.2.1 83 = w0.2.1 83 := h.1.2.1 83 rfl
  unfold FX12_here
  rw [gI_12_77_15, Option.bind_some, gI_12_77_16, Option.bind_some, h.2.1, h.2.2.1]
  rcases Nat.lt_or_ge a len with q | q
  · obtain ⟨c1, c2⟩ := hX.1 a q
    rw [if_neg (nI_ge q (by omega)), gR_12_77_13, Option.bind_some, Option.bind_some, rdN_mk (t := 1) (j := 83) (n := 260) (by decide +kernel) (by decide) b _ (by omega), Option.bind_some, e83, c2]
    unfold txv
    rw [if_neg (by omega)]
  · have : a = len := by omega
    rw [this, if_pos (Int32.le_refl _), hX.2 len (Nat.le_refl _)]
    rfl
theorem sf_lays (h : FS w0 W len a z d L s) (hL : L.length < 100) (c : Nat) : ∃ W', FX12_lays (mk b W) (b + 77) (nI c) = some (mk b W') ∧ FS w0 W' len a z d (L ++ [c]) s := by
  refine ⟨_, ?_, FS_lay h c⟩
  unfold FX12_lays
  rw [gR_12_77_37, Option.bind_some, gI_12_77_40, Option.bind_some, h.2.2.2.2.2.1, wrI_mk (j := 97) (n := 100) (by decide +kernel) b _ hL, Option.bind_some, gI_12_77_40, Option.bind_some]
  show (sI [12] 40 _ _ (W.1 77 40 + 1)).bind _ = _
  rw [h.2.2.2.2.2.1, nI_1, sI_12_77_40, Option.bind_some]
theorem sf_waits (h : FS w0 W len a z d L s) (hs : s.length < 100) (c : Nat) : ∃ W', FX12_waitsFor (mk b W) (b + 77) (nI c) = some (mk b W') ∧ FS w0 W' len a z d L ((c, 1) :: s) := by
  refine ⟨_, ?_, FS_push h c 1⟩
  have e41 := h.2.2.2.2.2.2.1
  unfold FX12_waitsFor
  rw [gR_12_77_38, Option.bind_some, gI_12_77_41, Option.bind_some, e41, wrI_mk (j := 98) (n := 100) (by decide +kernel) b _ hs, Option.bind_some, gR_12_77_39, Option.bind_some, gI_12_77_41, Option.bind_some]
  show (wrI _ _ (W.1 77 41) (nI 1)).bind _ = _
  rw [e41, wrI_mk (j := 99) (n := 100) (by decide +kernel) b _ hs, Option.bind_some, gI_12_77_41, Option.bind_some]
  show (sI [12] 41 _ _ (W.1 77 41 + 1)).bind _ = _
  rw [e41, nI_1, sI_12_77_41, Option.bind_some]
  rfl
theorem sf_last (h : FS w0 W len a z d L s) (hs : s.length ≤ 100) : FX12_lastSign (mk b W) (b + 77) = some (lastOf s) := by
  have e41 := h.2.2.2.2.2.2.1
  have hk := h.2.2.2.2.2.2.2.2
  unfold FX12_lastSign
  rw [gI_12_77_41, Option.bind_some, e41]
  cases s with
  | nil => rw [if_pos (by decide)]; rfl
  | cons x s =>
    rw [List.length_cons] at hs e41 ⊢
    rw [if_neg (fun q => by have := nI_inj (a := s.length + 1) (b := 0) (by omega) (by omega) q; omega), gR_12_77_38, Option.bind_some, Option.bind_some, nI_s1, rdN_mk (t := 0) (j := 98) (n := 100) (by decide +kernel) (by decide) b _ (by omega), Option.bind_some, hk.1]
    rfl
theorem sf_layLast {x : Nat × Nat} (h : FS w0 W len a z d L (x :: s)) (hs : s.length < 100) (hL : L.length < 100) : ∃ W', FX12_laysLast (mk b W) (b + 77) = some (mk b W') ∧ FS w0 W' len a z d (L ++ [x.1]) s := by
  have e41 := h.2.2.2.2.2.2.1
  have hk := h.2.2.2.2.2.2.2.2
  rw [List.length_cons] at e41
  obtain ⟨W', p1, p2⟩ := sf_lays (b := b) (FS_pop h) hL x.1
  refine ⟨W', ?_, p2⟩
  unfold FX12_laysLast
  rw [gI_12_77_41, Option.bind_some, e41, nI_s1, sI_12_77_41, Option.bind_some, gR_12_77_38, Option.bind_some, gI_12_77_41, Option.bind_some]
  show (rdN 0 _ _ (nI s.length)).bind _ = _
  rw [rdN_mk (t := 0) (j := 98) (n := 100) (by decide +kernel) (by decide) b _ hs, Option.bind_some]
  show (rc [12] _ _ (FX12_lays _ _ (W.2.1 98 s.length))).bind _ = _
  rw [hk.1, rc_12_77, p1, Option.bind_some]
theorem sf_wrong (m p : Nat) : FX12_wrongAt (mk b W) (b + 77) (nI m) (nI p) = some (0, mk b (uI W 77 17 (flt (m, p)))) := by
  unfold FX12_wrongAt
  rw [sI_12_77_17, Option.bind_some]
  rfl
end
