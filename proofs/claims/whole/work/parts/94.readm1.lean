/-! the reference reads a law: its states. Cell 77: 15 place, 17 fault, 18 number, 19 open, 20 codes, 21 waiting; 84 said, 85 waits -/
def fx (a : Nat) (f v : Int32) (d c n : Nat) (k : Nat) : Int32 := if k = 15 then nI a else if k = 17 then f else if k = 18 then v else if k = 19 then nI d else if k = 20 then nI c else nI n
def smW (w0 : WD) (a : Nat) (f v : Int32) (d c n : Nat) (g h : Nat → Int32) : WD := (fun j k => if j = 77 ∧ (15 ≤ k ∧ k ≤ 21 ∧ k ≠ 16) then fx a f v d c n k else w0.1 j k, fun j => if j = 84 then g else if j = 85 then h else w0.2.1 j, w0.2.2)
section
variable {w0 : WD} {a d c n : Nat} {f v : Int32} {g h : Nat → Int32}
theorem sm_15 : (smW w0 a f v d c n g h).1 77 15 = nI a := rfl
theorem sm_17 : (smW w0 a f v d c n g h).1 77 17 = f := rfl
theorem sm_18 : (smW w0 a f v d c n g h).1 77 18 = v := rfl
theorem sm_19 : (smW w0 a f v d c n g h).1 77 19 = nI d := rfl
theorem sm_20 : (smW w0 a f v d c n g h).1 77 20 = nI c := rfl
theorem sm_21 : (smW w0 a f v d c n g h).1 77 21 = nI n := rfl
theorem sm_16 : (smW w0 a f v d c n g h).1 77 16 = w0.1 77 16 := rfl
theorem sm_84 : (smW w0 a f v d c n g h).2.1 84 = g := rfl
theorem sm_85 : (smW w0 a f v d c n g h).2.1 85 = h := rfl
theorem sm_83 : (smW w0 a f v d c n g h).2.1 83 = w0.2.1 83 := rfl
theorem sm_ext {F G : Nat → Nat → Int32} {A B : Nat → Nat → Int32} (h1 : ∀ j k, F j k = G j k) (h2 : ∀ j, A j = B j) (r : (Nat → Nat → Int64) × (Nat × Nat)) : ((F, A, r) : WD) = (G, B, r) := by
  have e1 : F = G := funext fun j => funext fun k => h1 j k
  have e2 : A = B := funext h2
  rw [e1, e2]
theorem sm_u (k0 : Nat) (hk : 15 ≤ k0 ∧ k0 ≤ 21 ∧ k0 ≠ 16) {x : Int32} {a' : Nat} {f' v' : Int32} {d' c' n' : Nat} (hx : fx a' f' v' d' c' n' k0 = x) (ho : ∀ k, 15 ≤ k → k ≤ 21 → k ≠ 16 → k ≠ k0 → fx a' f' v' d' c' n' k = fx a f v d c n k) : uI (smW w0 a f v d c n g h) 77 k0 x = smW w0 a' f' v' d' c' n' g h := by
  refine sm_ext (fun j k => ?_) (fun _ => rfl) _
  show (if j = 77 ∧ k = k0 then x else if j = 77 ∧ (15 ≤ k ∧ k ≤ 21 ∧ k ≠ 16) then fx a f v d c n k else w0.1 j k) = (if j = 77 ∧ (15 ≤ k ∧ k ≤ 21 ∧ k ≠ 16) then fx a' f' v' d' c' n' k else w0.1 j k)
  by_cases q : j = 77 ∧ k = k0
  · obtain ⟨rfl, rfl⟩ := q
    rw [if_pos ⟨rfl, rfl⟩, if_pos ⟨rfl, hk⟩, hx]
  · rw [if_neg q]
    by_cases q2 : j = 77 ∧ (15 ≤ k ∧ k ≤ 21 ∧ k ≠ 16)
    · rw [if_pos q2, if_pos q2, ho k q2.2.1 q2.2.2.1 q2.2.2.2 (fun z => q ⟨q2.1, z⟩)]
    · rw [if_neg q2, if_neg q2]
theorem sm_u15 (a' : Nat) : uI (smW w0 a f v d c n g h) 77 15 (nI a') = smW w0 a' f v d c n g h := sm_u 15 (by decide) rfl (fun k _ _ _ q => by unfold fx; rw [if_neg q, if_neg q])
theorem sm_u17 (f' : Int32) : uI (smW w0 a f v d c n g h) 77 17 f' = smW w0 a f' v d c n g h := sm_u 17 (by decide) rfl (fun k _ _ _ q => by unfold fx; rw [if_neg q, if_neg q])
theorem sm_u18 (v' : Int32) : uI (smW w0 a f v d c n g h) 77 18 v' = smW w0 a f v' d c n g h := sm_u 18 (by decide) rfl (fun k _ _ _ q => by unfold fx; rw [if_neg q, if_neg q])
theorem sm_u19 (d' : Nat) : uI (smW w0 a f v d c n g h) 77 19 (nI d') = smW w0 a f v d' c n g h := sm_u 19 (by decide) rfl (fun k _ _ _ q => by unfold fx; rw [if_neg q, if_neg q])
theorem sm_u20 (c' : Nat) : uI (smW w0 a f v d c n g h) 77 20 (nI c') = smW w0 a f v d c' n g h := sm_u 20 (by decide) rfl (fun k _ _ _ q => by unfold fx; rw [if_neg q, if_neg q])
theorem sm_u21 (n' : Nat) : uI (smW w0 a f v d c n g h) 77 21 (nI n') = smW w0 a f v d c n' g h := sm_u 21 (by decide) rfl (fun k _ h2 _ q => by
  unfold fx
  have hk : k = 15 ∨ k = 16 ∨ k = 17 ∨ k = 18 ∨ k = 19 ∨ k = 20 := by omega
  rcases hk with rfl | rfl | rfl | rfl | rfl | rfl <;> first | rfl | contradiction)
theorem sm_uS (g' : Nat → Int32) : uA (smW w0 a f v d c n g h) 84 g' = smW w0 a f v d c n g' h := by
  refine sm_ext (fun _ _ => rfl) (fun j => ?_) _
  show (if j = 84 then g' else if j = 84 then g else if j = 85 then h else w0.2.1 j) = (if j = 84 then g' else if j = 85 then h else w0.2.1 j)
  by_cases q : j = 84
  · rw [if_pos q, if_pos q]
  · rw [if_neg q, if_neg q, if_neg q]
theorem sm_uH (h' : Nat → Int32) : uA (smW w0 a f v d c n g h) 85 h' = smW w0 a f v d c n g h' := by
  refine sm_ext (fun _ _ => rfl) (fun j => ?_) _
  show (if j = 85 then h' else if j = 84 then g else if j = 85 then h else w0.2.1 j) = (if j = 84 then g else if j = 85 then h' else w0.2.1 j)
  by_cases q : j = 85
  · subst q
    rfl
  · rw [if_neg q]
    by_cases q2 : j = 84
    · rw [if_pos q2, if_pos q2]
    · rw [if_neg q2, if_neg q2, if_neg q, if_neg q]
end
def TxM (w0 : WD) (len : Nat) (ch : Nat → Nat) : Prop := w0.1 77 16 = nI len ∧ len ≤ 240 ∧ TX (w0.2.1 83) len ch
theorem chm_le {f : Nat → Int32} {len : Nat} {ch : Nat → Nat} (h : TX f len ch) (a : Nat) : ch a ≤ 256 := by
  rcases Nat.lt_or_ge a len with q | q
  · have := (h.1 a q).1
    omega
  · rw [h.2 a q]
    exact Nat.le_refl _
section
variable {b : Nat} {w0 : WD} {a d c n len : Nat} {f v : Int32} {g h : Nat → Int32} {ch : Nat → Nat}
theorem sm_here (hT : TxM w0 len ch) (ha : a ≤ len) : FX12_here (mk b (smW w0 a f v d c n g h)) (b + 77) = some (txv (ch a)) := by
  obtain ⟨h1, h2, h3⟩ := hT
  unfold FX12_here
  rw [gI_12_77_15, Option.bind_some, gI_12_77_16, Option.bind_some, sm_15, sm_16, h1]
  rcases Nat.lt_or_ge a len with q | q
  · obtain ⟨c1, c2⟩ := h3.1 a q
    rw [if_neg (nI_ge q (by omega)), gR_12_77_13, Option.bind_some, Option.bind_some, rdN_mk (t := 1) (j := 83) (n := 260) (by decide +kernel) (by decide) b _ (by omega), Option.bind_some, sm_83, c2]
    unfold txv
    rw [if_neg (by omega)]
  · have : a = len := by omega
    rw [this, if_pos (Int32.le_refl _), h3.2 len (Nat.le_refl _)]
    rfl
theorem sm_wrong (m p : Nat) : FX12_wrongAt (mk b (smW w0 a f v d c n g h)) (b + 77) (nI m) (nI p) = some (0, mk b (smW w0 a (flt (m, p)) v d c n g h)) := by
  unfold FX12_wrongAt
  rw [sI_12_77_17, Option.bind_some, sm_u17]
  rfl
theorem sm_dig (hT : TxM w0 len ch) (ha : a ≤ len) : FX12_isDigit (mk b (smW w0 a f v d c n g h)) (b + 77) = some (if dg (ch a) then 1 else 0) := by
  unfold FX12_isDigit
  obtain ⟨d1, d2⟩ := dg_c (chm_le hT.2.2) a
  rw [rc_12_77, sm_here hT ha, Option.bind_some]
  by_cases c1 : txv (ch a) < (48 : Int32)
  · rw [if_pos c1, d1 c1]
    rfl
  · rw [if_neg c1, Option.bind_some]
    by_cases c2 : txv (ch a) ≤ (57 : Int32)
    · rw [if_neg (fun z => (fa_of_lt z).2.1 c2), (d2 c1).mp c2]
      rfl
    · have hd0 : dg (ch a) = false := by
        rw [← Bool.not_eq_true]
        exact fun z => c2 ((d2 c1).mpr z)
      rw [if_pos (fa_of_nle c2), hd0]
      rfl
theorem sm_notes (hc : c < 260) (k x : Nat) : FX12_notes (mk b (smW w0 a f v d c n g h)) (b + 77) (nI k) (nI x) = some (mk b (smW w0 a f v d (c + 1) n (upd g c (nI (1048576 * k + x))) h)) := by
  unfold FX12_notes
  rw [gR_12_77_24, Option.bind_some, gI_12_77_20, Option.bind_some, sm_20, wrI_mk (j := 84) (n := 260) (by decide +kernel) b _ hc, Option.bind_some, sm_84, sm_uS, gI_12_77_20, Option.bind_some, sm_20, nI_1, sI_12_77_20, Option.bind_some, sm_u20, fa_lit 1048576, pk_mul, nI_add]
theorem sm_opens (hn : n < 260) (hd : d ≤ 6) (k : Nat) : FX12_opens (mk b (smW w0 a f v d c n g h)) (b + 77) (nI k) = if d = 6 then some (0, mk b (smW w0 a (flt (5, a)) v d c n g h)) else some (1, mk b (smW w0 (a + 1) f v (d + 1) c (n + 1) g (upd h n (nI (1048576 * k))))) := by
  unfold FX12_opens
  rw [gI_12_77_19, Option.bind_some, sm_19]
  by_cases q : d = 6
  · have e := sm_wrong (b := b) (w0 := w0) (a := a) (f := f) (v := v) (d := d) (c := c) (n := n) (g := g) (h := h) 5 a
    have e : FX12_wrongAt (mk b (smW w0 a f v d c n g h)) (b + 77) (5 : Int32) (nI a) = some (0, mk b (smW w0 a (flt (5, a)) v d c n g h)) := e
    rw [if_pos (show nI d = (6 : Int32) by rw [q]; rfl), if_pos q, gI_12_77_15, Option.bind_some, sm_15, rc_12_77, e, Option.bind_some]
    unfold bz
    rw [if_pos (Or.inl rfl)]
  · have q6 : ¬ nI d = (6 : Int32) := fun z => q (nI_inj (a := d) (b := 6) (by omega) (by decide) z)
    rw [if_neg q6, if_neg q, Option.bind_some, nI_1, sI_12_77_19, Option.bind_some, sm_u19, gR_12_77_25, Option.bind_some, gI_12_77_21, Option.bind_some, sm_21, wrI_mk (j := 85) (n := 260) (by decide +kernel) b _ hn, Option.bind_some, sm_85, sm_uH, gI_12_77_21, Option.bind_some, sm_21, nI_1, sI_12_77_21, Option.bind_some, sm_u21, gI_12_77_15, Option.bind_some, sm_15, nI_1, sI_12_77_15, Option.bind_some, sm_u15, fa_lit 1048576, pk_mul]
/-- the kind of what waits on top -/
def topK (h : Nat → Int32) (n k : Nat) : Prop := ∃ x, x < 1048576 ∧ k ≤ 14 ∧ h (n - 1) = nI (1048576 * k + x)
theorem sm_top0 : FX12_waitTop (mk b (smW w0 a f v d c 0 g h)) (b + 77) = some (-1) := by
  unfold FX12_waitTop
  rw [gI_12_77_21, Option.bind_some, sm_21, if_pos (by decide)]
theorem dv_w {k x : Nat} (hk : k ≤ 14) (hx : x < 1048576) : dvI (nI (1048576 * k + x)) 1048576 = some (nI k) := by
  unfold dvI
  rw [if_neg (by decide), fa_lit 1048576, pk_div (by omega) (by decide) (by decide)]
  congr 2
  omega
theorem rm_w {k x : Nat} (hk : k ≤ 14) (hx : x < 1048576) : rmI (nI (1048576 * k + x)) 1048576 = some (nI x) := by
  unfold rmI
  rw [if_neg (by decide), fa_lit 1048576, pk_rem (by omega) (by decide) (by decide)]
  congr 2
  omega
theorem sm_top {k : Nat} (hn : n < 260) (ht : topK h (n + 1) k) : FX12_waitTop (mk b (smW w0 a f v d c (n + 1) g h)) (b + 77) = some (nI k) := by
  obtain ⟨x, h1, h2, h3⟩ := ht
  rw [Nat.add_sub_cancel] at h3
  unfold FX12_waitTop
  rw [gI_12_77_21, Option.bind_some, sm_21, if_neg (nI_ne0 (by omega) (by omega)), gR_12_77_25, Option.bind_some, Option.bind_some, nI_pred, rdN_mk (t := 0) (j := 85) (n := 260) (by decide +kernel) (by decide) b _ hn, Option.bind_some, sm_85, h3, dv_w h2 h1, Option.bind_some]
end
