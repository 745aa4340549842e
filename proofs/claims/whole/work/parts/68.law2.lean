/-! the reference's little machine -/
def comD (p0 : Nat) (x2 v9 v12 x13 : Int32) (s3 : Int32 × Int32 × HP) : Option (((Int32 × HP) ⊕ HP) ⊕ (Int32 × Int32 × HP)) := jn (A := Unit) (fun a14 => (gR [12] 35 s3.2.2 p0).bind (fun v16 => jn (A := Int32) (fun a17 => (wrI s3.2.2 v16 s3.1 a17).bind (fun hp19 => vl (s3.1 + (1 : Int32)) (fun x20 => some (Sum.inr (x20, x13, hp19))))) (fun J18 => if v9 = 0 then J18 v12 else (gR [12] 36 s3.2.2 p0).bind (fun v21 => (rdN 0 s3.2.2 v21 v12).bind (fun v22 => J18 v22))))) (fun J15 => if v9 = 0 then J15 () else if v9 = (1 : Int32) then J15 () else if v9 = (10 : Int32) then (gR [12] 35 s3.2.2 p0).bind (fun v23 => (gR [12] 35 s3.2.2 p0).bind (fun v24 => (rdN 0 s3.2.2 v24 (s3.1 - (1 : Int32))).bind (fun v25 => (wrI s3.2.2 v23 (s3.1 - (1 : Int32)) ((1 : Int32) - v25)).bind (fun hp26 => some (Sum.inr (s3.1, x13, hp26)))))) else jn (A := Unit) (fun a27 => (gR [12] 35 s3.2.2 p0).bind (fun v29 => (rdN 0 s3.2.2 v29 (s3.1 - (1 : Int32))).bind (fun v30 => jn (A := Int32) (fun a31 => if v30 = a31 then vl (x2 + v12) (fun x33 => some (Sum.inr (s3.1, x33, s3.2.2))) else vl (s3.1 - (1 : Int32)) (fun x34 => some (Sum.inr (x34, x13, s3.2.2)))) (fun J32 => if v9 = (12 : Int32) then J32 (1 : Int32) else J32 (0 : Int32))))) (fun J28 => if v9 = (11 : Int32) then J28 () else if v9 = (12 : Int32) then J28 () else vl (s3.1 - (1 : Int32)) (fun x35 => jn (A := Unit) (fun a36 => (gR [12] 35 s3.2.2 p0).bind (fun v38 => (gR [12] 35 s3.2.2 p0).bind (fun v39 => (rdN 0 s3.2.2 v39 (x35 - (1 : Int32))).bind (fun v40 => (gR [12] 35 s3.2.2 p0).bind (fun v41 => (rdN 0 s3.2.2 v41 x35).bind (fun v42 => (FX12_reckon v9 v40 v42).bind (fun v43 => (wrI s3.2.2 v38 (x35 - (1 : Int32)) v43).bind (fun hp44 => some (Sum.inr (x35, x13, hp44)))))))))) (fun J37 => jn (A := Unit) (fun a45 => (gR [12] 35 s3.2.2 p0).bind (fun v47 => (rdN 0 s3.2.2 v47 x35).bind (fun v48 => if v48 = 0 then some (Sum.inl (Sum.inl ((0 : Int32), s3.2.2))) else J37 ()))) (fun J46 => if v9 = (5 : Int32) then J46 () else if v9 = (6 : Int32) then J46 () else J37 ())))))
def comB (p0 : Nat) (p2 x2 : Int32) : Int32 × Int32 × HP → Option (((Int32 × HP) ⊕ HP) ⊕ (Int32 × Int32 × HP)) := (fun (s3 : Int32 × Int32 × HP) => if p2 ≤ s3.2.1 then some (Sum.inl (Sum.inr s3.2.2)) else (gR [12] 30 s3.2.2 p0).bind (fun v7 => (rdN 0 s3.2.2 v7 s3.2.1).bind (fun v8 => (dvI v8 (1048576 : Int32)).bind (fun v9 => (gR [12] 30 s3.2.2 p0).bind (fun v10 => (rdN 0 s3.2.2 v10 s3.2.1).bind (fun v11 => (rmI v11 (1048576 : Int32)).bind (fun v12 => vl (s3.2.1 + (1 : Int32)) (fun x13 => comD p0 x2 v9 v12 x13 s3))))))))
theorem com_body (hp : HP) (p0 : Nat) (p1 p2 : Int32) : FX12_comesTo hp p0 p1 p2 = (dvI p1 (260 : Int32)).bind (fun v1 => (lp (comB p0 p2 ((260 : Int32) * v1)) FU ((0 : Int32), p1, hp)).bind (lk (P := Int32 × HP) (fun r => r) (fun (y4 : HP) => (gR [12] 35 y4 p0).bind (fun v5 => (rdN 0 y4 v5 (0 : Int32)).bind (fun v6 => some (v6, y4)))))) := rfl
def SM (g : Nat → Int32) : List Int32 → Prop
  | [] => True
  | x :: st => g st.length = x ∧ SM g st
theorem SM_upd {g : Nat → Int32} {n : Nat} {u : Int32} : ∀ (st : List Int32), st.length ≤ n → SM g st → SM (upd g n u) st
  | [], _, _ => trivial
  | x :: st, h, ⟨h1, h2⟩ => by
    have hn : st.length < n := h
    exact ⟨by rw [pk_un (by omega)]; exact h1, SM_upd st (by omega) h2⟩
theorem SM_push {g : Nat → Int32} {x : Int32} {st : List Int32} (h : SM g st) : SM (upd g st.length x) (x :: st) := ⟨by rw [pk_us], SM_upd st (Nat.le_refl _) h⟩
theorem dv_u {k a : Nat} (hk : k ≤ 12) (ha : a < 1048576) : dvI (nI (1048576 * k + a)) 1048576 = some (nI k) := by
  unfold dvI
  rw [if_neg (by decide), fa_lit 1048576, pk_div (by omega) (by decide) (by decide)]
  congr 2
  omega
theorem rm_u {k a : Nat} (hk : k ≤ 12) (ha : a < 1048576) : rmI (nI (1048576 * k + a)) 1048576 = some (nI a) := by
  unfold rmI
  rw [if_neg (by decide), fa_lit 1048576, pk_rem (by omega) (by decide) (by decide)]
  congr 2
  omega
section
variable {b : Nat} {w : WD} {g : Nat → Int32}
theorem comB_go {p q n k a : Nat} (h : p < q) (hq : q ≤ 260) (hc : w.2.1 90 p = nI (1048576 * k + a)) (hk : k ≤ 12) (ha : a < 1048576) (x2 : Int32) : comB (b + 77) (nI q) x2 (nI n, nI p, mk b (uA w 95 g)) = comD (b + 77) x2 (nI k) (nI a) (nI (p + 1)) (nI n, nI p, mk b (uA w 95 g)) := by
  unfold comB
  dsimp only
  have e : (uA w 95 g).2.1 90 p = nI (1048576 * k + a) := hc
  rw [if_neg (nI_ge h (by omega)), gR_12_77_30, Option.bind_some, rdN_mk (t := 0) (n := 260) (by decide +kernel) (by decide) b _ (by omega), Option.bind_some, e, dv_u hk ha, Option.bind_some, Option.bind_some, rdN_mk (t := 0) (n := 260) (by decide +kernel) (by decide) b _ (by omega), Option.bind_some, e, rm_u hk ha, Option.bind_some, vl_eq, nI_1]
theorem comB_end {q n : Nat} (x2 : Int32) : comB (b + 77) (nI q) x2 (nI n, nI q, mk b (uA w 95 g)) = some (.inl (.inr (mk b (uA w 95 g)))) := by
  unfold comB
  dsimp only
  rw [if_pos (Int32.le_refl _)]
theorem comD_num {a n : Nat} (hn : n < 260) (x2 x13 s : Int32) : comD (b + 77) x2 (nI 0) (nI a) x13 (nI n, s, mk b (uA w 95 g)) = some (.inr (nI (n + 1), x13, mk b (uA w 95 (upd g n (nI a))))) := by
  unfold comD
  dsimp only
  rw [jn_eq, if_pos (by decide), gR_12_77_35, Option.bind_some, jn_eq, if_pos (by decide)]
  dsimp only
  rw [wrI_mk (n := 260) (by decide +kernel) b _ hn, Option.bind_some, vl_eq, nI_1, uA_at, uA_uA]
theorem comD_lt {a n : Nat} (ha : a < 8) (hn : n < 260) (x2 x13 s : Int32) : comD (b + 77) x2 (nI 1) (nI a) x13 (nI n, s, mk b (uA w 95 g)) = some (.inr (nI (n + 1), x13, mk b (uA w 95 (upd g n (w.2.1 96 a))))) := by
  unfold comD
  dsimp only
  have e : (uA w 95 g).2.1 96 a = w.2.1 96 a := rfl
  rw [jn_eq, if_neg (by decide), if_pos (by decide), gR_12_77_35, Option.bind_some, jn_eq, if_neg (by decide), gR_12_77_36, Option.bind_some, rdN_mk (t := 0) (n := 8) (by decide +kernel) (by decide) b _ ha, Option.bind_some, e]
  dsimp only
  rw [wrI_mk (n := 260) (by decide +kernel) b _ hn, Option.bind_some, vl_eq, nI_1, uA_at, uA_uA]
theorem comD_neg {a n : Nat} (hn : n < 260) (x2 x13 s : Int32) : comD (b + 77) x2 (nI 10) (nI a) x13 (nI (n + 1), s, mk b (uA w 95 g)) = some (.inr (nI (n + 1), x13, mk b (uA w 95 (upd g n (1 - g n))))) := by
  unfold comD
  dsimp only
  rw [jn_eq, if_neg (by decide), if_neg (by decide), if_pos (by decide), gR_12_77_35, Option.bind_some, Option.bind_some, nI_pred, rdN_mk (t := 0) (n := 260) (by decide +kernel) (by decide) b _ hn, Option.bind_some, uA_at, wrI_mk (n := 260) (by decide +kernel) b _ hn, Option.bind_some, uA_at, uA_uA]
theorem comD_jmp {k a n : Nat} (hk : k = 11 ∨ k = 12) (hn : n < 260) (x2 x13 s : Int32) : comD (b + 77) x2 (nI k) (nI a) x13 (nI (n + 1), s, mk b (uA w 95 g)) = if g n = (if k = 12 then 1 else 0) then some (.inr (nI (n + 1), x2 + nI a, mk b (uA w 95 g))) else some (.inr (nI n, x13, mk b (uA w 95 g))) := by
  unfold comD
  dsimp only
  rcases hk with rfl | rfl
  · rw [jn_eq, if_neg (by decide), if_neg (by decide), if_neg (by decide), jn_eq, if_pos (by decide), gR_12_77_35, Option.bind_some, nI_pred, rdN_mk (t := 0) (n := 260) (by decide +kernel) (by decide) b _ hn, Option.bind_some, uA_at, jn_eq, if_neg (by decide), vl_eq, vl_eq]
    rfl
  · rw [jn_eq, if_neg (by decide), if_neg (by decide), if_neg (by decide), jn_eq, if_neg (by decide), if_pos (by decide), gR_12_77_35, Option.bind_some, nI_pred, rdN_mk (t := 0) (n := 260) (by decide +kernel) (by decide) b _ hn, Option.bind_some, uA_at, jn_eq, if_pos (by decide), vl_eq, vl_eq]
    rfl
theorem reckM {k : Nat} (h1 : 2 ≤ k) (h2 : k ≤ 9) {x y z : Int32} (h : reck k x y = some z) : FX12_reckon (nI k) x y = some z := by
  unfold reck at h
  unfold FX12_reckon
  have hk : k = 2 ∨ k = 3 ∨ k = 4 ∨ k = 5 ∨ k = 6 ∨ k = 7 ∨ k = 8 ∨ k = 9 := by omega
  rcases hk with rfl | rfl | rfl | rfl | rfl | rfl | rfl | rfl
  · exact h
  · exact h
  · exact h
  · rw [if_neg (by decide), if_neg (by decide), if_neg (by decide), if_neg (by decide), if_neg (by decide), if_neg (by decide)] at h
    rw [if_neg (by decide), if_neg (by decide), if_neg (by decide), if_pos (by decide)]
    by_cases e : y = 0
    · rw [if_pos e] at h; cases h
    · rw [if_neg e, if_pos rfl] at h
      unfold dvI
      rw [if_neg e, Option.bind_some]
      exact h
  · rw [if_neg (by decide), if_neg (by decide), if_neg (by decide), if_neg (by decide), if_neg (by decide), if_neg (by decide)] at h
    rw [if_neg (by decide), if_neg (by decide), if_neg (by decide), if_neg (by decide), if_pos (by decide)]
    by_cases e : y = 0
    · rw [if_pos e] at h; cases h
    · rw [if_neg e, if_neg (by decide)] at h
      unfold rmI
      rw [if_neg e, Option.bind_some]
      exact h
  · rw [← h]
    by_cases e : y ≤ x
    · simp only [e, if_true]; rfl
    · simp only [e, if_false]; rfl
  · rw [← h]
    by_cases e : x ≤ y
    · simp only [e, if_true]; rfl
    · simp only [e, if_false]; rfl
  · rw [← h]
    by_cases e : x = y
    · simp only [e, if_true]; rfl
    · simp only [e, if_false]; rfl
theorem reck_none {k : Nat} (h1 : 2 ≤ k) (h2 : k ≤ 9) {x y : Int32} (h : reck k x y = none) : y = 0 ∧ (k = 5 ∨ k = 6) := by
  unfold reck at h
  have hk : k = 2 ∨ k = 3 ∨ k = 4 ∨ k = 5 ∨ k = 6 ∨ k = 7 ∨ k = 8 ∨ k = 9 := by omega
  rcases hk with rfl | rfl | rfl | rfl | rfl | rfl | rfl | rfl
  · cases h
  · cases h
  · cases h
  · rw [if_neg (by decide), if_neg (by decide), if_neg (by decide), if_neg (by decide), if_neg (by decide), if_neg (by decide)] at h
    by_cases e : y = 0
    · exact ⟨e, Or.inl rfl⟩
    · rw [if_neg e, if_pos rfl] at h; cases h
  · rw [if_neg (by decide), if_neg (by decide), if_neg (by decide), if_neg (by decide), if_neg (by decide), if_neg (by decide)] at h
    by_cases e : y = 0
    · exact ⟨e, Or.inr rfl⟩
    · rw [if_neg e, if_neg (by decide)] at h; cases h
  · cases h
  · cases h
  · cases h
theorem reck_nz {k : Nat} (hk : k = 5 ∨ k = 6) {x y z : Int32} (h : reck k x y = some z) : ¬ y = 0 := by
  intro e
  unfold reck at h
  rcases hk with rfl | rfl
  · rw [if_neg (by decide), if_neg (by decide), if_neg (by decide), if_neg (by decide), if_neg (by decide), if_neg (by decide), if_pos e] at h
    cases h
  · rw [if_neg (by decide), if_neg (by decide), if_neg (by decide), if_neg (by decide), if_neg (by decide), if_neg (by decide), if_pos e] at h
    cases h
theorem comD_op {k a n : Nat} (h1 : 2 ≤ k) (h2 : k ≤ 9) (hn : n + 1 < 260) (x2 x13 s : Int32) : comD (b + 77) x2 (nI k) (nI a) x13 (nI (n + 2), s, mk b (uA w 95 g)) = (match reck k (g n) (g (n + 1)) with
    | none => some (.inl (.inl (0, mk b (uA w 95 g))))
    | some z => some (.inr (nI (n + 1), x13, mk b (uA w 95 (upd g n z))))) := by
  have k0 : ¬ nI k = 0 := nI_ne0 (by omega) (by omega)
  have kn : ∀ m, m < 2 ^ 31 → k ≠ m → ¬ nI k = nI m := fun m hm q e => q (nI_inj (by omega) hm e)
  have k1 : ¬ nI k = (1 : Int32) := kn 1 (by decide) (by omega)
  have k10 : ¬ nI k = (10 : Int32) := kn 10 (by decide) (by omega)
  have k11 : ¬ nI k = (11 : Int32) := kn 11 (by decide) (by omega)
  have k12 : ¬ nI k = (12 : Int32) := kn 12 (by decide) (by omega)
  unfold comD
  dsimp only
  have e1 : nI (n + 2) - (1 : Int32) = nI (n + 1) := nI_pred (n + 1)
  have r1 : rdN 0 (mk b (uA w 95 g)) (b + 95) (nI (n + 1)) = some (g (n + 1)) := by rw [rdN_mk (t := 0) (n := 260) (by decide +kernel) (by decide) b _ hn, uA_at]
  have r0 : rdN 0 (mk b (uA w 95 g)) (b + 95) (nI n) = some (g n) := by rw [rdN_mk (t := 0) (n := 260) (by decide +kernel) (by decide) b _ (by omega), uA_at]
  rw [jn_eq, if_neg k0, if_neg k1, if_neg k10, jn_eq, if_neg k11, if_neg k12, vl_eq, e1, jn_eq]
  dsimp only
  rw [jn_eq]
  dsimp only
  simp only [gR_12_77_35, Option.bind_some, nI_pred, r1, r0]
  cases h : reck k (g n) (g (n + 1)) with
  | none =>
    obtain ⟨y0, hk⟩ := reck_none h1 h2 h
    rcases hk with rfl | rfl
    · rw [if_pos (by decide), if_pos y0]
    · rw [if_neg (by decide), if_pos (by decide), if_pos y0]
  | some z =>
    have ew : wrI (mk b (uA w 95 g)) (b + 95) (nI n) z = some (mk b (uA w 95 (upd g n z))) := by rw [wrI_mk (n := 260) (by decide +kernel) b _ (by omega), uA_at, uA_uA]
    rw [reckM h1 h2 h, Option.bind_some, ew, Option.bind_some]
    by_cases h5 : k = 5
    · subst h5
      rw [if_pos (by decide), if_neg (reck_nz (Or.inl rfl) h)]
    · have k5 : ¬ nI k = (5 : Int32) := kn 5 (by decide) h5
      rw [if_neg k5]
      by_cases h6 : k = 6
      · subst h6
        rw [if_pos (by decide), if_neg (reck_nz (Or.inr rfl) h)]
      · have k6 : ¬ nI k = (6 : Int32) := kn 6 (by decide) h6
        rw [if_neg k6]
theorem comC {q : Nat} (hq : q ≤ 260) : ∀ (m : Cds) (p s : Nat) (st : List Int32) (g : Nat → Int32) (r : Option Int32) (N : Nat), layd cM (w.2.1 90) p m → p + m.length = q → gon (w.2.1 96) m s st r → s ≤ m.length → m.length - s + 1 ≤ N → SM g st → st.length ≤ 31 → ∃ g', (r = none ∧ lp (comB (b + 77) (nI q) 0) N (nI st.length, nI (p + s), mk b (uA w 95 g)) = some (.inl (0, mk b (uA w 95 g')))) ∨ (r = some (g' 0) ∧ lp (comB (b + 77) (nI q) 0) N (nI st.length, nI (p + s), mk b (uA w 95 g)) = some (.inr (mk b (uA w 95 g')))) := by
  intro m
  induction m with
  | nil =>
    intro p s st g r N _ hp hg hs hN hst _
    have hs0 : s = 0 := Nat.le_zero.mp hs
    subst hs0
    obtain ⟨N, rfl⟩ : ∃ n, N = n + 1 := ⟨N - 1, by omega⟩
    obtain ⟨x, rfl, rfl⟩ := hg
    have e : p = q := hp
    subst e
    exact ⟨g, Or.inr ⟨by rw [← hst.1]; rfl, lp_out (comB_end 0)⟩⟩
  | cons c l ih =>
    intro p s st g r N hl hp hg hs hN hst hlen
    obtain ⟨hc, hl⟩ := hl
    rw [List.length_cons] at hp hN hs
    have hp' : p + 1 + l.length = q := by omega
    cases s with
    | succ s =>
      have := ih (p + 1) s st g r N hl hp' hg (by omega) (by omega) hst hlen
      rw [show p + (s + 1) = p + 1 + s by omega]
      exact this
    | zero =>
      obtain ⟨N, rfl⟩ : ∃ n, N = n + 1 := ⟨N - 1, by omega⟩
      have hpz : p < q := by omega
      rcases hg with ⟨k, h1, h2, h3⟩ | ⟨k, h1, h2, h3⟩ | ⟨k1, k2, k3, x, y, st', rfl, h3⟩ | ⟨k, k2, x, st', rfl, h3⟩ | ⟨k, h1, x, st', rfl, h3⟩ | ⟨k, h1, x, st', rfl, h3⟩
      · have ec : w.2.1 90 p = nI (1048576 * 0 + c.2) := by rw [hc]; unfold cM; rw [if_neg (by omega), k]
        rw [show p + 0 = p from rfl, lp_one ((comB_go hpz hq ec (by decide) (by omega) 0).trans (comD_num (by omega) 0 _ _))]
        exact ih (p + 1) 0 (nI c.2 :: st) (upd g st.length (nI c.2)) r N hl hp' h3 (by omega) (by omega) (SM_push hst) (by rw [List.length_cons]; omega)
      · have ec : w.2.1 90 p = nI (1048576 * 1 + c.2) := by rw [hc]; unfold cM; rw [if_neg (by omega), k]
        rw [show p + 0 = p from rfl, lp_one ((comB_go hpz hq ec (by decide) (by omega) 0).trans (comD_lt h1 (by omega) 0 _ _))]
        exact ih (p + 1) 0 (w.2.1 96 c.2 :: st) (upd g st.length (w.2.1 96 c.2)) r N hl hp' h3 (by omega) (by omega) (SM_push hst) (by rw [List.length_cons]; omega)
      · have ec : w.2.1 90 p = nI (1048576 * c.1 + c.2) := by rw [hc]; unfold cM; rw [if_neg (by omega)]
        obtain ⟨q1, q2, q3⟩ := hst
        have q1' : g (st'.length + 1) = y := q1
        have hlen' : st'.length + 2 ≤ 31 := hlen
        have hgo := (comB_go (b := b) (w := w) (g := g) (n := st'.length + 2) hpz hq ec (by omega) (by omega) 0).trans (comD_op k1 k2 (by omega) 0 _ _)
        rw [q2, q1'] at hgo
        rw [show p + 0 = p from rfl]
        show ∃ g' : Nat → Int32, (r = none ∧ lp (comB (b + 77) (nI q) 0) (N + 1) (nI (st'.length + 2), nI p, mk b (uA w 95 g)) = _) ∨ (r = some (g' 0) ∧ lp (comB (b + 77) (nI q) 0) (N + 1) (nI (st'.length + 2), nI p, mk b (uA w 95 g)) = _)
        rcases h3 with ⟨h3, rfl⟩ | ⟨z, h3, h4⟩
        · rw [h3] at hgo
          exact ⟨g, Or.inl ⟨rfl, lp_out hgo⟩⟩
        · rw [h3] at hgo
          rw [lp_one hgo]
          exact ih (p + 1) 0 (z :: st') (upd g st'.length z) r N hl hp' h4 (by omega) (by omega) (SM_push q3) (by rw [List.length_cons]; omega)
      · have ec : w.2.1 90 p = nI (1048576 * 10 + c.2) := by rw [hc]; unfold cM; rw [if_neg (by omega), k]
        obtain ⟨q1, q2⟩ := hst
        have hlen' : st'.length + 1 ≤ 31 := hlen
        have hgo := (comB_go (b := b) (w := w) (g := g) (n := st'.length + 1) hpz hq ec (by decide) (by omega) 0).trans (comD_neg (by omega) 0 _ _)
        rw [q1] at hgo
        rw [show p + 0 = p from rfl]
        show ∃ g' : Nat → Int32, (r = none ∧ lp (comB (b + 77) (nI q) 0) (N + 1) (nI (st'.length + 1), nI p, mk b (uA w 95 g)) = _) ∨ (r = some (g' 0) ∧ lp (comB (b + 77) (nI q) 0) (N + 1) (nI (st'.length + 1), nI p, mk b (uA w 95 g)) = _)
        rw [lp_one hgo]
        exact ih (p + 1) 0 ((1 - x) :: st') (upd g st'.length (1 - x)) r N hl hp' h3 (by omega) (by omega) (SM_push q2) hlen
      · have ec : w.2.1 90 p = nI (1048576 * 11 + (p + 1 + c.2)) := by rw [hc]; unfold cM; rw [if_pos (Or.inl k), k]
        obtain ⟨q1, q2⟩ := hst
        have hlen' : st'.length + 1 ≤ 31 := hlen
        have hgo := (comB_go (b := b) (w := w) (g := g) (n := st'.length + 1) hpz hq ec (by decide) (by omega) 0).trans (comD_jmp (Or.inl rfl) (by omega) 0 _ _)
        rw [q1, if_neg (by decide : ¬ 11 = 12)] at hgo
        rw [show p + 0 = p from rfl]
        show ∃ g' : Nat → Int32, (r = none ∧ lp (comB (b + 77) (nI q) 0) (N + 1) (nI (st'.length + 1), nI p, mk b (uA w 95 g)) = _) ∨ (r = some (g' 0) ∧ lp (comB (b + 77) (nI q) 0) (N + 1) (nI (st'.length + 1), nI p, mk b (uA w 95 g)) = _)
        rcases h3 with ⟨rfl, h3⟩ | ⟨rfl, h3⟩
        · rw [if_pos rfl, Int32.zero_add] at hgo
          rw [lp_one hgo]
          exact ih (p + 1) c.2 (0 :: st') g r N hl hp' h3 h1 (by omega) ⟨q1, q2⟩ hlen
        · rw [if_neg (by decide)] at hgo
          rw [lp_one hgo]
          exact ih (p + 1) 0 st' g r N hl hp' h3 (by omega) (by omega) q2 (by omega)
      · have ec : w.2.1 90 p = nI (1048576 * 12 + (p + 1 + c.2)) := by rw [hc]; unfold cM; rw [if_pos (Or.inr k), k]
        obtain ⟨q1, q2⟩ := hst
        have hlen' : st'.length + 1 ≤ 31 := hlen
        have hgo := (comB_go (b := b) (w := w) (g := g) (n := st'.length + 1) hpz hq ec (by decide) (by omega) 0).trans (comD_jmp (Or.inr rfl) (by omega) 0 _ _)
        rw [q1, if_pos rfl] at hgo
        rw [show p + 0 = p from rfl]
        show ∃ g' : Nat → Int32, (r = none ∧ lp (comB (b + 77) (nI q) 0) (N + 1) (nI (st'.length + 1), nI p, mk b (uA w 95 g)) = _) ∨ (r = some (g' 0) ∧ lp (comB (b + 77) (nI q) 0) (N + 1) (nI (st'.length + 1), nI p, mk b (uA w 95 g)) = _)
        rcases h3 with ⟨rfl, h3⟩ | ⟨rfl, h3⟩
        · rw [if_pos rfl, Int32.zero_add] at hgo
          rw [lp_one hgo]
          exact ih (p + 1) c.2 (1 :: st') g r N hl hp' h3 h1 (by omega) ⟨q1, q2⟩ hlen
        · rw [if_neg (by decide)] at hgo
          rw [lp_one hgo]
          exact ih (p + 1) 0 st' g r N hl hp' h3 (by omega) (by omega) q2 (by omega)
theorem com_mk {m : Cds} {p q : Nat} {r : Option Int32} (hq : q < 260) (hl : layd cM (w.2.1 90) p m) (hp : p + m.length = q) (hg : gon (w.2.1 96) m 0 [] r) : ∃ g', FX12_comesTo (mk b w) (b + 77) (nI p) (nI q) = some (r.getD 0, mk b (uA w 95 g')) := by
  have ew : w = uA w 95 (w.2.1 95) := by
    have e : (fun j' => if j' = 95 then w.2.1 95 else w.2.1 j') = w.2.1 := by
      funext j'
      split
      · rename_i e; rw [e]
      · rfl
    show w = (w.1, (fun j' => if j' = 95 then w.2.1 95 else w.2.1 j'), w.2.2)
    rw [e]
  obtain ⟨g', e⟩ := comC (b := b) (w := w) (by omega : q ≤ 260) m p 0 [] (w.2.1 95) r FU hl hp hg (Nat.zero_le _) (by unfold FU; omega) trivial (by decide)
  refine ⟨g', ?_⟩
  have ed : dvI (nI p) 260 = some 0 := by
    unfold dvI
    rw [if_neg (by decide), fa_lit 260, pk_div (by omega) (by decide) (by decide), Nat.div_eq_of_lt (by omega)]
    rfl
  rw [com_body, ed, Option.bind_some]
  have e0 : (260 : Int32) * 0 = 0 := by decide
  rw [e0]
  have es : ((0 : Int32), nI p, mk b w) = (nI ([] : List Int32).length, nI (p + 0), mk b (uA w 95 (w.2.1 95))) := by rw [← ew]; rfl
  rw [es]
  rcases e with ⟨rfl, e⟩ | ⟨rfl, e⟩
  · rw [e, Option.bind_some]; rfl
  · rw [e, Option.bind_some]
    unfold lk
    dsimp only
    have r0 : rdN 0 (mk b (uA w 95 g')) (b + 95) (0 : Int32) = some (g' 0) := by
      have := rdN_mk (t := 0) (j := 95) (n := 260) (by decide +kernel) (by decide) b (uA w 95 g') (i := 0) (by decide)
      rw [uA_at] at this
      exact this
    rw [gR_12_77_35, Option.bind_some, r0, Option.bind_some]
    rfl
end
