/-! a row of truths is laid; a book is written -/
section
variable {b : Nat}
theorem okZ_of {o : Nat} (ho : o = 79 ∨ o = 80) : okA 2 o 8192 = true := by
  rcases ho with rfl | rfl <;> decide +kernel
theorem okT_of {o k : Nat} (ho : o = 5 ∨ o = 15) (hk : k < 8) : okA 3 (o + 1 + 1 + k) 16 = true := by
  rcases ho with rfl | rfl
  · exact (by decide +kernel : ∀ k, k < 8 → okA 3 (5 + 1 + 1 + k) 16 = true) k hk
  · exact (by decide +kernel : ∀ k, k < 8 → okA 3 (15 + 1 + 1 + k) 16 = true) k hk
theorem row01 (p : Bool) : (if p = true then (1 : Int32) else 0) = 0 ∨ (if p = true then (1 : Int32) else 0) = 1 := by
  cases p
  · exact Or.inl rfl
  · exact Or.inr rfl
theorem laysRow_mk {o k : Nat} (ho : o = 79 ∨ o = 80) (hk : k < 8) {W : WD} {x : FV} (hn : x.2.length ≤ 100) (h40 : W.1 77 40 = nI x.2.length) (hl : layF (W.2.1 97) 0 x.2) (hg : ∀ st, gonF st x.2 [] [x.1 st]) : ∃ W', FX12_laysRow (mk b W) (b + 77) (b + o) (nI k) = some (nI (fb_ct x.1 1024), mk b W') ∧ W'.1 = W.1 ∧ W'.2.2 = W.2.2 ∧ (∀ j, j ≠ 100 → j ≠ o → W'.2.1 j = W.2.1 j) ∧ (∀ s, s < 1024 → W'.2.1 o (1024 * k + s) = if x.1 s = true then 1 else 0) ∧ (∀ i, (i < 1024 * k ∨ 1024 * k + 1024 ≤ i) → W'.2.1 o i = W.2.1 o i) := by
  have ho100 : o ≠ 100 := by omega
  obtain ⟨r, r1, W', r2, r3⟩ := lpb_inv (body := fun (s1 : Int32 × Int32 × HP) => if (1024 : Int32) ≤ s1.2.1 then some (Sum.inl (s1.1, s1.2.2)) else (rc [12] s1.2.2 (b + 77) (FX12_isTrue s1.2.2 (b + 77) s1.2.1)).bind (fun w3 => (wrZ w3.2 (b + o) (((1024 : Int32) * nI k) + s1.2.1) w3.1).bind (fun hp4 => (rdN 2 hp4 (b + o) (((1024 : Int32) * nI k) + s1.2.1)).bind (fun v5 => if v5 = 0 then vl (s1.1 + (0 : Int32)) (fun x6 => vl (s1.2.1 + (1 : Int32)) (fun x7 => some (Sum.inr (x6, x7, hp4)))) else vl (s1.1 + (1 : Int32)) (fun x8 => vl (s1.2.1 + (1 : Int32)) (fun x9 => some (Sum.inr (x8, x9, hp4)))))))) (kf := fun (y2 : Int32 × HP) => some (y2.1, y2.2)) (N := FU) (s0 := ((0 : Int32), (0 : Int32), mk b W))
    (fun i s => ∃ W', s = (nI (fb_ct x.1 i), nI i, mk b W') ∧ W'.1 = W.1 ∧ W'.2.2 = W.2.2 ∧ (∀ j, j ≠ 100 → j ≠ o → W'.2.1 j = W.2.1 j) ∧ (∀ s, s < i → W'.2.1 o (1024 * k + s) = if x.1 s = true then 1 else 0) ∧ (∀ j, (j < 1024 * k ∨ 1024 * k + i ≤ j) → W'.2.1 o j = W.2.1 o j))
    (fun r => ∃ W', r = (nI (fb_ct x.1 1024), mk b W') ∧ W'.1 = W.1 ∧ W'.2.2 = W.2.2 ∧ (∀ j, j ≠ 100 → j ≠ o → W'.2.1 j = W.2.1 j) ∧ (∀ s, s < 1024 → W'.2.1 o (1024 * k + s) = if x.1 s = true then 1 else 0) ∧ (∀ j, (j < 1024 * k ∨ 1024 * k + 1024 ≤ j) → W'.2.1 o j = W.2.1 o j)) 1024 (by decide) ⟨W, rfl, rfl, rfl, fun _ _ _ => rfl, fun s hs => absurd hs (Nat.not_lt_zero s), fun _ _ => rfl⟩ (by
      rintro i hi s ⟨W', rfl, e1, e2, e3, e4, e5⟩
      obtain ⟨g, q⟩ := isTrue_mk (b := b) (st := i) hi (W := W') (x := x) hn (by rw [e1]; exact h40) (by rw [e3 97 (by decide) (by omega)]; exact hl) (hg i)
      have hi8 : 1024 * k + i < 8192 := by omega
      obtain ⟨W2, hW2⟩ : ∃ W2, W2 = uA (uA W' 100 g) o (upd (W'.2.1 o) (1024 * k + i) (if x.1 i = true then 1 else 0)) := ⟨_, rfl⟩
      have f1 : W2.1 = W.1 := by rw [hW2]; exact e1
      have f2 : W2.2.2 = W.2.2 := by rw [hW2]; exact e2
      have f3 : ∀ j, j ≠ 100 → j ≠ o → W2.2.1 j = W.2.1 j := fun j a c => by
        rw [hW2, uA_ne _ _ c, uA_ne _ _ a]
        exact e3 j a c
      have f4 : ∀ s, s < i + 1 → W2.2.1 o (1024 * k + s) = if x.1 s = true then 1 else 0 := fun s hs => by
        rw [hW2, uA_at]
        rcases Nat.lt_or_ge s i with z | z
        · rw [pk_un (by omega)]
          exact e4 s z
        · have : s = i := by omega
          rw [this, pk_us]
      have f5 : ∀ j, (j < 1024 * k ∨ 1024 * k + (i + 1) ≤ j) → W2.2.1 o j = W.2.1 o j := fun j hj => by
        rw [hW2, uA_at, pk_un (by omega)]
        exact e5 j (by omega)
      dsimp only
      rw [if_neg (Lnle hi), rc_12_77, q, Option.bind_some]
      dsimp only
      rw [mul_ix, wrZ_mk (n := 8192) (okZ_of ho) b _ hi8 (row01 _), Option.bind_some, uA_ne W' g ho100, ← hW2, rdN_mk (t := 2) (n := 8192) (okZ_of ho) (by decide) b _ hi8, Option.bind_some, f4 i (Nat.lt_succ_self i)]
      cases hx : x.1 i with
      | false =>
        rw [if_pos (show (if false = true then (1 : Int32) else 0) = 0 from rfl), vl_eq, vl_eq, nI_1, Int32.add_zero]
        refine ⟨_, rfl, W2, ?_, f1, f2, f3, f4, f5⟩
        rw [fb_ct_succ, hx]
        rfl
      | true =>
        rw [if_neg (show ¬ (if true = true then (1 : Int32) else 0) = 0 by decide), vl_eq, vl_eq, nI_1, nI_1]
        refine ⟨_, rfl, W2, ?_, f1, f2, f3, f4, f5⟩
        rw [fb_ct_succ, hx]
        rfl) (by
      rintro s ⟨W', rfl, e⟩
      refine ⟨(nI (fb_ct x.1 1024), mk b W'), ?_, _, rfl, W', rfl, e⟩
      dsimp only
      rw [if_pos (show (1024 : Int32) ≤ nI 1024 by decide)])
  refine ⟨W', ?_, r3⟩
  rw [← r2]
  exact r1
theorem bit8 {k : Nat} (hk : k < 8) : (1 : Int32) <<< (nI k &&& 31) = nI (2 ^ k) := (by decide +kernel : ∀ k, k < 8 → (1 : Int32) <<< (nI k &&& 31) = nI (2 ^ k)) k hk
theorem flt_lt {z : Nat × Nat} (h1 : 1 ≤ z.1) (h2 : z.1 ≤ 5) (h3 : z.2 ≤ 100) : flt z < 0 := by
  obtain ⟨n, p⟩ := z
  exact (by decide +kernel : ∀ n, n < 6 → 1 ≤ n → ∀ p, p < 101 → (-1000 * nI n - nI p : Int32) < 0) n (by dsimp only at h2; omega) h1 p (by dsimp only at h3; omega)
/-- what a class's telling leaves alone -/
def frTl (o d : Nat) (w W : WD) : Prop := (∀ j i, j ≠ 3 → ¬ (j = 1 ∧ i = 1) → ¬ (j = o ∧ i = 1) → W.1 j i = w.1 j i) ∧ W.1 1 1 = 0 ∧ W.2.1 = w.2.1 ∧ (∀ j, j ≠ 4 → j ≠ d → W.2.2.1 j = w.2.2.1 j) ∧ W.2.2.2 = w.2.2.2
theorem tell_c {w : WD} {o k n : Nat} {ch : Nat → Nat} (ho : o = 5 ∨ o = 15) (hk : k < 8) (h1 : 1 ≤ n) (hn : n ≤ 100) (hX : TX (w.2.1 2) n ch) (htap : nI n ≤ w.1 1 1) : ∃ ans W, FX11_tell (mk b w) (b + 0) (b + o) (nI k) (nI n) = some (ans, mk b W) ∧ frTl o (o + 1 + 1 + k) w W ∧ (match pTop ch with
    | .inl z => ans = flt z ∧ W.1 o 1 = w.1 o 1 ∧ W.2.2.1 (o + 1 + 1 + k) = w.2.2.1 (o + 1 + 1 + k)
    | .inr x => ans = nI (fb_ct x.1 1024) ∧ W.1 o 1 = (w.1 o 1 ||| nI (2 ^ k)) ∧ ∀ s, s < 1024 → tb (W.2.2.1 (o + 1 + 1 + k)) s = x.1 s) := by
  obtain ⟨a, W0, r1, r2, r3⟩ := readF_c (b := b) (w := w) hn hX
  have fin := pTop_fine hX.2
  have ho3 : o ≠ 3 := by omega
  have ho1 : o ≠ 1 := by omega
  have hd4 : o + 1 + 1 + k ≠ 4 := by omega
  have start : ∀ r, (if a = 0 then (gR [11] 1 (mk b (uI W0 1 1 0)) (b + 0)).bind (fun v7 => (gR [1] 4 (mk b (uI W0 1 1 0)) v7).bind (fun v8 => (rc [0] (mk b (uI W0 1 1 0)) (b + o) (FX0_write (mk b (uI W0 1 1 0)) (b + o) (nI k) v8)).bind (fun w9 => (gR [11] 1 w9 (b + 0)).bind (fun v10 => (gR [1] 4 w9 v10).bind (fun v11 => (FX7_size w9 v11).bind (fun v12 => some (v12, w9))))))) else some (a, mk b (uI W0 1 1 0))) = r → FX11_tell (mk b w) (b + 0) (b + o) (nI k) (nI n) = r := by
    intro r hr
    unfold FX11_tell
    rw [if_neg (nI_pos (by omega)), if_neg (Lnle hk), if_neg (Rnlt (n := 1) h1 (by omega)), if_neg (Lnlt (n := 100) hn), gR_11_0_0, Option.bind_some, gI_8_1_1, Option.bind_some, if_pos htap, gR_11_0_1, Option.bind_some, rc_1_3, r1, Option.bind_some]
    dsimp only
    rw [gR_11_0_0, Option.bind_some, sI_8_1_1, Option.bind_some]
    exact hr
  have fr0 : frTl o (o + 1 + 1 + k) w (uI W0 1 1 0) := ⟨fun j i a1 a2 _ => by rw [uI_ne _ _ a2]; exact r2.1 j i a1, uI_at _ _ _ _, r2.2.1, fun j a1 _ => r2.2.2.1 j a1, r2.2.2.2⟩
  cases hp : pTop ch with
  | inl z =>
    rw [hp] at r3 fin
    have r3 : a = flt z := r3
    have fin : 1 ≤ z.1 ∧ z.1 ≤ 5 ∧ z.2 ≤ n := fin
    have lt : flt z < 0 := flt_lt fin.1 fin.2.1 (by omega)
    have ne : ¬ a = 0 := by
      rw [r3]
      intro q
      rw [q] at lt
      exact absurd lt (by decide)
    refine ⟨a, uI W0 1 1 0, start _ (if_neg ne), fr0, r3, ?_, ?_⟩
    · rw [uI_ne _ _ (by omega)]
      exact r2.1 o 1 ho3
    · exact r2.2.2.1 _ hd4
  | inr x =>
    rw [hp] at r3
    obtain ⟨r3, r4⟩ : a = 0 ∧ ∀ s, s < 1024 → tb (W0.2.2.1 4) s = x.1 s := r3
    obtain ⟨W1, hW1⟩ : ∃ W1, W1 = uI W0 1 1 0 := ⟨_, rfl⟩
    rw [← hW1] at start fr0
    have k4 : W1.2.2.1 4 = W0.2.2.1 4 := by rw [hW1]; rfl
    have ko : W1.1 o 1 = w.1 o 1 := by
      rw [hW1, uI_ne _ _ (by omega)]
      exact r2.1 o 1 ho3
    obtain ⟨W2, hW2⟩ : ∃ W2, W2 = uI (uL W1 (o + 1 + 1 + k) (va_cpy (W1.2.2.1 4) (W1.2.2.1 (o + 1 + 1 + k)) 0 0 16)) o 1 (w.1 o 1 ||| nI (2 ^ k)) := ⟨_, rfl⟩
    have wr : FX0_write (mk b W1) (b + o) (nI k) (b + 4) = some (mk b W2) := by
      unfold FX0_write
      rw [gR_mk (o + 1) (okB_of ho).1 b _, Option.bind_some, rdA_mk (n := 8) (okB_of ho).2.2.1 (by decide) b _ hk, Option.bind_some, cpL_mk (s := 4) (by decide +kernel) (okT_of ho hk), Option.bind_some, gI_mk (okB_of ho).2.1 b _, Option.bind_some, sI_mk (okB_of ho).2.1 b _, Option.bind_some, bit8 hk]
      have : (uL W1 (o + 1 + 1 + k) (va_cpy (W1.2.2.1 4) (W1.2.2.1 (o + 1 + 1 + k)) 0 0 16)).1 o 1 = w.1 o 1 := ko
      rw [this, hW2]
    have e4 : W2.2.2.1 4 = W0.2.2.1 4 := by
      rw [hW2, ← k4]
      exact uL_ne _ _ (Ne.symm hd4)
    refine ⟨nI (fb_ct x.1 1024), W2, start _ ?_, ?_, rfl, ?_, fun s hs => ?_⟩
    · rw [if_pos r3, gR_11_0_1, Option.bind_some, gR_1_3_4, Option.bind_some, rc_mk (okB_of ho).2.2.2, wr, Option.bind_some, gR_11_0_1, Option.bind_some, gR_1_3_4, Option.bind_some, size_mk (j := 4) (by decide +kernel), Option.bind_some, e4, fb_ct_cong r4]
    · rw [hW2]
      refine ⟨fun j i a1 a2 a3 => ?_, ?_, fr0.2.2.1, fun j a1 a2 => ?_, fr0.2.2.2.2⟩
      · rw [uI_ne _ _ a3]
        exact fr0.1 j i a1 a2 a3
      · rw [uI_ne _ _ (by omega)]
        exact fr0.2.1
      · rw [uI_A, uL_ne _ _ a2]
        exact fr0.2.2.2.1 j a1 a2
    · rw [hW2, uI_at]
    · have e : W2.2.2.1 (o + 1 + 1 + k) = va_cpy (W1.2.2.1 4) (W1.2.2.1 (o + 1 + 1 + k)) 0 0 16 := by
        rw [hW2, uI_A, uL_at]
      rw [e, ← r4 s hs, ← k4]
      unfold tb
      rw [sb_cpy0' (by omega)]
end
