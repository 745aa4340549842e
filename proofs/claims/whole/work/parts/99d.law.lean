/-! law, on both sides -/
def noE (n : Nat) : Option CT → Bool
  | some (Sum.inl p) => p.2.all (fun e => e != n)
  | _ => true
theorem sR_law (b : Nat) (w : WD) (x : Nat) : sR [5] 0 (mk b w) (b + 34) (b + x) = some (mk b (uS w x w.2.2.2.2)) := by
  have h : lay[34]? = some (.inl (5, [1, 0, 0, 0, 0, 0, 0, 45, 46, 8, 33, 28, 47])) := rfl
  unfold sR sV
  rw [mk_at, h]
  show some (upH (mk b w) (b + 34) _) = _
  congr 1
  refine mk_ext ?_ (fun j' hj c hc => ?_)
  · rw [h]
    rfl
  · rcases c with ⟨ci, es⟩ | ⟨t, n⟩
    · show Sum.inr (ci, _) = Sum.inr (ci, _)
      congr 2
      refine List.ext_getElem? (fun i => ?_)
      rw [List.getElem?_mapIdx, List.getElem?_mapIdx]
      cases he : es[i]? with
      | none => rfl
      | some e =>
        show some (fv b (uS w x w.2.2.2.2) j' i e) = some (fv b w j' i e)
        rw [fv_uS (fun q => ?_) (fun _ => rfl)]
        exfalso
        have key : ∀ j, j < 106 → j ≠ 34 → noE 1 (lay[j]?) = true := by decide +kernel
        have hj2 : j' < 106 := by
          rcases Nat.lt_or_ge j' 106 with z | z
          · exact z
          · rw [List.getElem?_eq_none (by show 106 ≤ j'; exact z)] at hc
            cases hc
        have := key j' hj2 hj
        rw [hc] at this
        have this : es.all (fun e => e != 1) = true := this
        rw [List.all_eq_true] at this
        have := this e (List.mem_of_getElem? he)
        rw [q] at this
        exact absurd this (by decide)
    · rfl
theorem sR_spare (b : Nat) (w : WD) (x : Nat) : sR [11] 15 (mk b w) (b + 0) (b + x) = some (mk b (uS w w.2.2.2.1 x)) := by
  have h : lay[0]? = some (.inl (11, [4, 6, 8, 18, 28, 33, 34, 35, 36, 37, 54, 67, 71, 72, 0, 2])) := rfl
  unfold sR sV
  rw [mk_at, h]
  show some (upH (mk b w) (b + 0) _) = _
  congr 1
  refine mk_ext ?_ (fun j' hj c hc => ?_)
  · rw [h]
    rfl
  · rcases c with ⟨ci, es⟩ | ⟨t, n⟩
    · show Sum.inr (ci, _) = Sum.inr (ci, _)
      congr 2
      refine List.ext_getElem? (fun i => ?_)
      rw [List.getElem?_mapIdx, List.getElem?_mapIdx]
      cases he : es[i]? with
      | none => rfl
      | some e =>
        show some (fv b (uS w w.2.2.2.1 x) j' i e) = some (fv b w j' i e)
        rw [fv_uS (fun _ => rfl) (fun q => ?_)]
        exfalso
        have key : ∀ j, j < 106 → j ≠ 0 → noE 2 (lay[j]?) = true := by decide +kernel
        have hj2 : j' < 106 := by
          rcases Nat.lt_or_ge j' 106 with z | z
          · exact z
          · rw [List.getElem?_eq_none (by show 106 ≤ j'; exact z)] at hc
            cases hc
        have := key j' hj2 hj
        rw [hc] at this
        have this : es.all (fun e => e != 2) = true := this
        rw [List.all_eq_true] at this
        have := this e (List.mem_of_getElem? he)
        rw [q] at this
        exact absurd this (by decide)
    · rfl
/-- what a law's reading leaves alone -/
def zPI (j k : Nat) : Bool := !(j == 35 || j == 70) && !(j == 1 && k == 1) && !(j == 77 && (decide (14 ≤ k) && decide (k ≤ 23)))
def zPA (j : Nat) : Bool := !([36, 37, 38, 39, 71, 72, 73, 74, 84, 85, 86, 87, 88, 89, 90, 91, 92, 93, 94].contains j)
def frZ (w w' : WD) : Prop := (∀ j k, zPI j k = true → w'.1 j k = w.1 j k) ∧ (∀ j, zPA j = true → w'.2.1 j = w.2.1 j) ∧ w'.2.2.1 = w.2.2.1
theorem frZ_trans {w w' w'' : WD} (h : frZ w w') (h2 : frZ w' w'') : frZ w w'' := ⟨fun j k e => (h2.1 j k e).trans (h.1 j k e), fun j e => (h2.2.1 j e).trans (h.2.1 j e), h2.2.2.trans h.2.2⟩
theorem frZ_uI (w : WD) {j k : Nat} (v : Int32) (h : zPI j k = false) : frZ w (uI w j k v) := ⟨(sP_uI (pI := zPI) (pA := aL) (pL := aL) w v h).1, fun _ _ => rfl, rfl⟩
theorem frZ_uA (w : WD) {j : Nat} (f : Nat → Int32) (h : zPA j = false) : frZ w (uA w j f) := ⟨fun _ _ _ => rfl, (sP_uA (pI := zPI) (pA := zPA) (pL := aL) w f h).2.1, rfl⟩
theorem Rel_law {w w' : WD} (h : Rel RLaw w) (s : frZ w w') (hS : w'.2.2.2 = (35, 70) ∨ w'.2.2.2 = (70, 35)) (ht : R_tape w') (hL : RLaw w') : Rel RLaw w' := by
  obtain ⟨a1, a2, a3, a4, a5, a6, a7, a8⟩ := h
  have q5 : ∀ k, k < 6 → zPI 77 (7 + k) = true ∧ zPI 77 (59 + k) = true := by decide
  have q6 : ∀ k, k < 6 → zPI 68 k = true ∧ zPI 69 k = true := by decide
  refine ⟨hS, R_tab_of a2 (s.2.1 79 rfl) (s.2.1 80 rfl) (s.2.1 81 rfl) (s.2.1 82 rfl) (fun k hk => by rw [s.2.2]) (fun k hk => by rw [s.2.2]) (by rw [s.2.2]) (by rw [s.2.2]) (s.1 77 6 rfl), R_st_of a3 (fun k hk => s.1 68 k (q6 k hk).1) (fun k hk => s.1 77 _ (q5 k hk).1), R_st_of a4 (fun k hk => s.1 69 k (q6 k hk).2) (fun k hk => s.1 77 _ (q5 k hk).2), R_int_of a5 (s.1 5 1 rfl) (s.1 77 5 rfl) (s.1 15 1 rfl) (s.1 77 6 rfl) (s.1 0 14 rfl) (s.1 77 65 rfl), ht, R_price_of a7 (s.2.1 26 rfl) (s.2.1 78 rfl) (s.2.1 27 rfl) (s.2.1 28 rfl) (s.2.1 29 rfl), hL⟩
theorem smW_frZ (w0 : WD) (a : Nat) (f v : Int32) (d c n : Nat) (g h : Nat → Int32) : frZ w0 (smW w0 a f v d c n g h) := by
  refine ⟨fun j k e => ?_, fun j e => ?_, rfl⟩
  · show (if j = 77 ∧ (15 ≤ k ∧ k ≤ 21 ∧ k ≠ 16) then fx a f v d c n k else w0.1 j k) = _
    rw [if_neg]
    rintro ⟨rfl, h1, h2, h3⟩
    unfold zPI at e
    rw [decide_eq_true (show 14 ≤ k by omega), decide_eq_true (show k ≤ 23 by omega)] at e
    simp at e
  · show (if j = 84 then g else if j = 85 then h else w0.2.1 j) = _
    rw [if_neg (fun q => by rw [q] at e; cases e), if_neg (fun q => by rw [q] at e; cases e)]
theorem raW_frZ (w0 : WD) (l1 l2 l3 l4 : Nat → Int32) (r : Nat) : frZ w0 (raW w0 l1 l2 l3 l4 r) := frZ_trans (frZ_trans (frZ_trans (frZ_trans (frZ_uA w0 l1 rfl) (frZ_uA _ l2 rfl)) (frZ_uA _ l3 rfl)) (frZ_uA _ l4 rfl)) (frZ_uI _ _ rfl)
def qrW (V : WD) (y1 y2 y3 y4 : Nat → Int32) : WD := uA (uA (uA (uA V 91 y1) 92 y2) 93 y3) 94 y4
theorem qr_1 (V : WD) (y1 y2 y3 y4 z : Nat → Int32) : uA (qrW V y1 y2 y3 y4) 91 z = qrW V z y2 y3 y4 := by
  unfold qrW
  rw [uA_swap _ (by decide), uA_swap (uA (uA V 91 y1) 92 y2) (by decide), uA_swap (uA V 91 y1) (by decide), uA_uA]
theorem qr_2 (V : WD) (y1 y2 y3 y4 z : Nat → Int32) : uA (qrW V y1 y2 y3 y4) 92 z = qrW V y1 z y3 y4 := by
  unfold qrW
  rw [uA_swap _ (by decide), uA_swap (uA (uA V 91 y1) 92 y2) (by decide), uA_uA]
theorem qr_3 (V : WD) (y1 y2 y3 y4 z : Nat → Int32) : uA (qrW V y1 y2 y3 y4) 93 z = qrW V y1 y2 z y4 := by
  unfold qrW
  rw [uA_swap _ (by decide), uA_uA]
theorem qr_4 (V : WD) (y1 y2 y3 y4 z : Nat → Int32) : uA (qrW V y1 y2 y3 y4) 94 z = qrW V y1 y2 y3 z := by
  unfold qrW
  rw [uA_uA]
section
variable {V : WD} {y1 y2 y3 y4 : Nat → Int32}
theorem qr_91 : (qrW V y1 y2 y3 y4).2.1 91 = y1 := rfl
theorem qr_92 : (qrW V y1 y2 y3 y4).2.1 92 = y2 := rfl
theorem qr_93 : (qrW V y1 y2 y3 y4).2.1 93 = y3 := rfl
theorem qr_94 : (qrW V y1 y2 y3 y4).2.1 94 = y4 := rfl
theorem qr_86 : (qrW V y1 y2 y3 y4).2.1 86 = V.2.1 86 := rfl
theorem qr_87 : (qrW V y1 y2 y3 y4).2.1 87 = V.2.1 87 := rfl
theorem qr_88 : (qrW V y1 y2 y3 y4).2.1 88 = V.2.1 88 := rfl
theorem qr_89 : (qrW V y1 y2 y3 y4).2.1 89 = V.2.1 89 := rfl
end
section
variable {b : Nat} {w : WD}
/-- what the reference makes of the text -/
theorem law_m {n : Nat} {ch : Nat → Nat} (hn1 : 1 ≤ n) (hn : n ≤ 240) (hX : TX (w.2.1 83) n ch) (htap : nI n ≤ w.1 77 14) : ∃ ans w', FX12_law (mk b w) (b + 77) (nI n) = some (ans, mk b w') ∧ frZ w w' ∧ (∀ j k, j ≠ 77 → w'.1 j k = w.1 j k) ∧ (∀ j, (j < 84 ∨ 94 < j) → w'.2.1 j = w.2.1 j) ∧ w'.2.2 = w.2.2 ∧ w'.1 77 14 = 0 ∧ (match pLaw ch 16 0 [] with
    | .inl z => ans = flt z ∧ w'.1 77 23 = w.1 77 23 ∧ ∀ j, 90 ≤ j → j ≤ 94 → w'.2.1 j = w.2.1 j
    | .inr rs => ans = nI rs.length ∧ lawM (w'.1 77 23) (w'.2.1 91) (w'.2.1 92) (w'.2.1 93) (w'.2.1 94) (w'.2.1 90) rs.length (fun j => (nth rs j).1) (fun j => (nth rs j).2.1) (fun j => (nth rs j).2.2)) := by
  obtain ⟨d, hd⟩ := nI_any (w.1 77 19)
  obtain ⟨q, hq⟩ := nI_any (w.1 77 21)
  have hT : TxM (uI w 77 16 (nI n)) n ch := ⟨rfl, hn, hX⟩
  have ew : uI (uI (uI (uI w 77 15 0) 77 16 (nI n)) 77 20 0) 77 22 0 = smW (raW (uI w 77 16 (nI n)) (w.2.1 86) (w.2.1 87) (w.2.1 88) (w.2.1 89) 0) 0 (w.1 77 17) (w.1 77 18) d 0 q (w.2.1 84) (w.2.1 85) := by
    refine sm_ext (fun j k => ?_) (fun j => ?_) _
    · show (if j = 77 ∧ k = 22 then 0 else if j = 77 ∧ k = 20 then 0 else if j = 77 ∧ k = 16 then nI n else if j = 77 ∧ k = 15 then 0 else w.1 j k) = (if j = 77 ∧ (15 ≤ k ∧ k ≤ 21 ∧ k ≠ 16) then fx 0 (w.1 77 17) (w.1 77 18) d 0 q k else if j = 77 ∧ k = 22 then nI 0 else if j = 77 ∧ k = 16 then nI n else w.1 j k)
      by_cases j77 : j = 77
      · subst j77
        by_cases h14 : 15 ≤ k ∧ k ≤ 22
        · have hk : k = 15 ∨ k = 16 ∨ k = 17 ∨ k = 18 ∨ k = 19 ∨ k = 20 ∨ k = 21 ∨ k = 22 := by omega
          rcases hk with rfl | rfl | rfl | rfl | rfl | rfl | rfl | rfl
          · rfl
          · rfl
          · rfl
          · rfl
          · exact hd
          · rfl
          · exact hq
          · rfl
        · rw [if_neg (by omega), if_neg (by omega), if_neg (by omega), if_neg (by omega), if_neg (by omega), if_neg (by omega), if_neg (by omega)]
      · rw [if_neg (fun z => j77 z.1), if_neg (fun z => j77 z.1), if_neg (fun z => j77 z.1), if_neg (fun z => j77 z.1), if_neg (fun z => j77 z.1), if_neg (fun z => j77 z.1), if_neg (fun z => j77 z.1)]
    · show w.2.1 j = (if j = 84 then w.2.1 84 else if j = 85 then w.2.1 85 else if j = 89 then w.2.1 89 else if j = 88 then w.2.1 88 else if j = 87 then w.2.1 87 else if j = 86 then w.2.1 86 else w.2.1 j)
      by_cases h1 : j = 84
      · rw [if_pos h1, h1]
      · rw [if_neg h1]
        by_cases h2 : j = 85
        · rw [if_pos h2, h2]
        · rw [if_neg h2]
          by_cases h3 : j = 89
          · rw [if_pos h3, h3]
          · rw [if_neg h3]
            by_cases h4 : j = 88
            · rw [if_pos h4, h4]
            · rw [if_neg h4]
              by_cases h5 : j = 87
              · rw [if_pos h5, h5]
              · rw [if_neg h5]
                by_cases h6 : j = 86
                · rw [if_pos h6, h6]
                · rw [if_neg h6]
  unfold FX12_law
  rw [in_yes (a := 1) (c := 240) hn1 hn, Option.bind_some, if_neg (by decide), gI_12_77_14, Option.bind_some, if_pos htap, sI_12_77_15, Option.bind_some, sI_12_77_16, Option.bind_some, sI_12_77_20, Option.bind_some, sI_12_77_22, Option.bind_some]
  obtain ⟨good, W1, r1, r2⟩ := rules_m (b := b) (w0 := uI w 77 16 (nI n)) (d := d) (n := q) (f := w.1 77 17) (v := w.1 77 18) (g := w.2.1 84) (h := w.2.1 85) (l1 := w.2.1 86) (l2 := w.2.1 87) (l3 := w.2.1 88) (l4 := w.2.1 89) hT hn1 (fun (y9 : Int32 × HP) => (sI [12] 14 y9.2 (b + 77) (0 : Int32)).bind (fun hp10 => if y9.1 = 0 then (gI [12] 17 hp10 (b + 77)).bind (fun v11 => some (v11, hp10)) else (gI [12] 22 hp10 (b + 77)).bind (fun v12 => (sI [12] 23 hp10 (b + 77) v12).bind (fun hp13 => (lp (fun (s14 : Int32 × HP) => (gI [12] 20 s14.2 (b + 77)).bind (fun v37 => if v37 ≤ s14.1 then some (Sum.inl s14.2) else (gR [12] 30 s14.2 (b + 77)).bind (fun v38 => (gR [12] 24 s14.2 (b + 77)).bind (fun v39 => (rdN 0 s14.2 v39 s14.1).bind (fun v40 => (wrI s14.2 v38 s14.1 v40).bind (fun hp41 => vl (s14.1 + (1 : Int32)) (fun x42 => some (Sum.inr (x42, hp41))))))))) FU ((0 : Int32), hp13)).bind (fun (y15 : HP) => (lp (fun (s16 : Int32 × HP) => (gI [12] 22 s16.2 (b + 77)).bind (fun v19 => if v19 ≤ s16.1 then some (Sum.inl s16.2) else (gR [12] 31 s16.2 (b + 77)).bind (fun v20 => (gR [12] 26 s16.2 (b + 77)).bind (fun v21 => (rdN 0 s16.2 v21 s16.1).bind (fun v22 => (wrI s16.2 v20 s16.1 v22).bind (fun hp23 => (gR [12] 32 hp23 (b + 77)).bind (fun v24 => (gR [12] 27 hp23 (b + 77)).bind (fun v25 => (rdN 0 hp23 v25 s16.1).bind (fun v26 => (wrI hp23 v24 s16.1 v26).bind (fun hp27 => (gR [12] 33 hp27 (b + 77)).bind (fun v28 => (gR [12] 28 hp27 (b + 77)).bind (fun v29 => (rdN 0 hp27 v29 s16.1).bind (fun v30 => (wrI hp27 v28 s16.1 v30).bind (fun hp31 => (gR [12] 34 hp31 (b + 77)).bind (fun v32 => (gR [12] 29 hp31 (b + 77)).bind (fun v33 => (rdN 0 hp31 v33 s16.1).bind (fun v34 => (wrI hp31 v32 s16.1 v34).bind (fun hp35 => vl (s16.1 + (1 : Int32)) (fun x36 => some (Sum.inr (x36, hp35))))))))))))))))))))) FU ((0 : Int32), y15)).bind (fun (y17 : HP) => (gI [12] 22 y17 (b + 77)).bind (fun v18 => some (v18, y17)))))))) (mk b (uI (uI (uI (uI w 77 15 0) 77 16 (nI n)) 77 20 0) 77 22 0)) (by rw [ew])
  rw [r1]
  dsimp only
  rw [sI_12_77_14, Option.bind_some]
  rcases r2 with ⟨rfl, z, k1, k2, k3, k4, r, a', v', d', c', n', g', h', hp, rfl⟩ | ⟨rfl, rs, k1, k2, k3, k4, a', f', v', d', c', n', g', h', hp, rfl, hL, hc, hrs⟩
  · rw [if_pos rfl, gI_12_77_17, Option.bind_some, hp]
    refine ⟨_, _, rfl, frZ_trans (frZ_trans (frZ_trans (frZ_uI w _ rfl) (raW_frZ _ _ _ _ _ _)) (smW_frZ _ _ _ _ _ _ _ _ _)) (frZ_uI _ _ rfl), fun j k hj => ?_, fun j hj => ?_, rfl, rfl, rfl, rfl, fun j h1 h2 => ?_⟩
    · show (if j = 77 ∧ k = 14 then 0 else if j = 77 ∧ (15 ≤ k ∧ k ≤ 21 ∧ k ≠ 16) then _ else if j = 77 ∧ k = 22 then _ else if j = 77 ∧ k = 16 then nI n else w.1 j k) = _
      rw [if_neg (fun z => hj z.1), if_neg (fun z => hj z.1), if_neg (fun z => hj z.1), if_neg (fun z => hj z.1)]
    · show (if j = 84 then g' else if j = 85 then h' else if j = 89 then k4 else if j = 88 then k3 else if j = 87 then k2 else if j = 86 then k1 else w.2.1 j) = _
      rw [if_neg (by omega), if_neg (by omega), if_neg (by omega), if_neg (by omega), if_neg (by omega), if_neg (by omega)]
    · show (if j = 84 then g' else if j = 85 then h' else if j = 89 then k4 else if j = 88 then k3 else if j = 87 then k2 else if j = 86 then k1 else w.2.1 j) = _
      rw [if_neg (by omega), if_neg (by omega), if_neg (by omega), if_neg (by omega), if_neg (by omega), if_neg (by omega)]
  · generalize hW : uI (uI (smW (raW (uI w 77 16 (nI n)) k1 k2 k3 k4 rs.length) a' f' v' d' c' n' g' h') 77 14 0) 77 23 (nI rs.length) = W
    have h22 : W.1 77 22 = nI rs.length := by rw [← hW]; rfl
    have h20 : W.1 77 20 = nI c' := by rw [← hW]; rfl
    have h23 : W.1 77 23 = nI rs.length := by rw [← hW]; rfl
    have h14 : W.1 77 14 = 0 := by rw [← hW]; rfl
    have a84 : W.2.1 84 = g' := by rw [← hW]; rfl
    have a86 : W.2.1 86 = k1 := by rw [← hW]; rfl
    have a87 : W.2.1 87 = k2 := by rw [← hW]; rfl
    have a88 : W.2.1 88 = k3 := by rw [← hW]; rfl
    have a89 : W.2.1 89 = k4 := by rw [← hW]; rfl
    have fW : frZ w W := by
      rw [← hW]
      exact frZ_trans (frZ_trans (frZ_trans (frZ_trans (frZ_uI w _ rfl) (raW_frZ _ _ _ _ _ _)) (smW_frZ _ _ _ _ _ _ _ _ _)) (frZ_uI _ _ rfl)) (frZ_uI _ _ rfl)
    have jW : ∀ j k, j ≠ 77 → W.1 j k = w.1 j k := by
      intro j k hj
      rw [← hW]
      show (if j = 77 ∧ k = 23 then _ else if j = 77 ∧ k = 14 then 0 else if j = 77 ∧ (15 ≤ k ∧ k ≤ 21 ∧ k ≠ 16) then _ else if j = 77 ∧ k = 22 then _ else if j = 77 ∧ k = 16 then nI n else w.1 j k) = _
      rw [if_neg (fun z => hj z.1), if_neg (fun z => hj z.1), if_neg (fun z => hj z.1), if_neg (fun z => hj z.1), if_neg (fun z => hj z.1)]
    have aW : ∀ j, (j < 84 ∨ 94 < j) → W.2.1 j = w.2.1 j := by
      intro j hj
      rw [← hW]
      show (if j = 84 then g' else if j = 85 then h' else if j = 89 then k4 else if j = 88 then k3 else if j = 87 then k2 else if j = 86 then k1 else w.2.1 j) = _
      rw [if_neg (by omega), if_neg (by omega), if_neg (by omega), if_neg (by omega), if_neg (by omega), if_neg (by omega)]
    have sW : W.2.2 = w.2.2 := by rw [← hW]; rfl
    rw [if_neg (by decide), gI_12_77_22, Option.bind_some, sI_12_77_23, Option.bind_some, show (uI (smW (raW (uI w 77 16 (nI n)) k1 k2 k3 k4 rs.length) a' f' v' d' c' n' g' h') 77 14 0).1 77 22 = nI rs.length from rfl, hW]
    -- the codes
    have l1 := lpb_inv (kf := fun (x : HP) => some x) (N := FU) (body := fun (s14 : Int32 × HP) => (gI [12] 20 s14.2 (b + 77)).bind (fun v37 => if v37 ≤ s14.1 then some (Sum.inl s14.2) else (gR [12] 30 s14.2 (b + 77)).bind (fun v38 => (gR [12] 24 s14.2 (b + 77)).bind (fun v39 => (rdN 0 s14.2 v39 s14.1).bind (fun v40 => (wrI s14.2 v38 s14.1 v40).bind (fun hp41 => vl (s14.1 + (1 : Int32)) (fun x42 => some (Sum.inr (x42, hp41)))))))))
      (s0 := ((0 : Int32), mk b W)) (fun k s14 => ∃ y, s14 = (nI k, mk b (uA W 90 y)) ∧ ∀ i, i < k → y i = g' i) (fun r => ∃ y, r = mk b (uA W 90 y) ∧ ∀ i, i < c' → y i = g' i) c' (by unfold FU; omega) ⟨W.2.1 90, by rw [uA_self]; rfl, fun i hi => absurd hi (Nat.not_lt_zero i)⟩ (fun k hk s14 => ?_) (fun s14 => ?_)
    · obtain ⟨x, q1, y, rfl, q2⟩ := l1
      rw [Option.bind_eq_some_iff] at q1
      obtain ⟨x, q3, q4⟩ := q1
      have q4 := Option.some.inj q4
      subst q4
      rw [q3, Option.bind_some]
      have h22' : (uA W 90 y).1 77 22 = nI rs.length := h22
      -- the rules' rows
      have l2 := lpb_inv (kf := fun (x : HP) => some x) (N := FU) (body := fun (s16 : Int32 × HP) => (gI [12] 22 s16.2 (b + 77)).bind (fun v19 => if v19 ≤ s16.1 then some (Sum.inl s16.2) else (gR [12] 31 s16.2 (b + 77)).bind (fun v20 => (gR [12] 26 s16.2 (b + 77)).bind (fun v21 => (rdN 0 s16.2 v21 s16.1).bind (fun v22 => (wrI s16.2 v20 s16.1 v22).bind (fun hp23 => (gR [12] 32 hp23 (b + 77)).bind (fun v24 => (gR [12] 27 hp23 (b + 77)).bind (fun v25 => (rdN 0 hp23 v25 s16.1).bind (fun v26 => (wrI hp23 v24 s16.1 v26).bind (fun hp27 => (gR [12] 33 hp27 (b + 77)).bind (fun v28 => (gR [12] 28 hp27 (b + 77)).bind (fun v29 => (rdN 0 hp27 v29 s16.1).bind (fun v30 => (wrI hp27 v28 s16.1 v30).bind (fun hp31 => (gR [12] 34 hp31 (b + 77)).bind (fun v32 => (gR [12] 29 hp31 (b + 77)).bind (fun v33 => (rdN 0 hp31 v33 s16.1).bind (fun v34 => (wrI hp31 v32 s16.1 v34).bind (fun hp35 => vl (s16.1 + (1 : Int32)) (fun x36 => some (Sum.inr (x36, hp35)))))))))))))))))))))
        (s0 := ((0 : Int32), mk b (uA W 90 y))) (fun k s16 => ∃ y1 y2 y3 y4, s16 = (nI k, mk b (qrW (uA W 90 y) y1 y2 y3 y4)) ∧ ∀ i, i < k → y1 i = k1 i ∧ y2 i = k2 i ∧ y3 i = k3 i ∧ y4 i = k4 i)
        (fun r => ∃ y1 y2 y3 y4, r = mk b (qrW (uA W 90 y) y1 y2 y3 y4) ∧ ∀ i, i < rs.length → y1 i = k1 i ∧ y2 i = k2 i ∧ y3 i = k3 i ∧ y4 i = k4 i) rs.length (by unfold FU; omega)
        ⟨W.2.1 91, W.2.1 92, W.2.1 93, W.2.1 94, by
          have e1 : uA (uA W 90 y) 91 (W.2.1 91) = uA W 90 y := uA_self (uA W 90 y) 91
          have e2 : uA (uA W 90 y) 92 (W.2.1 92) = uA W 90 y := uA_self (uA W 90 y) 92
          have e3 : uA (uA W 90 y) 93 (W.2.1 93) = uA W 90 y := uA_self (uA W 90 y) 93
          have e4 : uA (uA W 90 y) 94 (W.2.1 94) = uA W 90 y := uA_self (uA W 90 y) 94
          show ((0 : Int32), mk b (uA W 90 y)) = (nI 0, mk b (uA (uA (uA (uA (uA W 90 y) 91 (W.2.1 91)) 92 (W.2.1 92)) 93 (W.2.1 93)) 94 (W.2.1 94)))
          rw [e1, e2, e3, e4]
          rfl, fun i hi => absurd hi (Nat.not_lt_zero i)⟩ (fun k hk s16 => ?_) (fun s16 => ?_)
      · obtain ⟨x, q5, y1, y2, y3, y4, rfl, q6⟩ := l2
        rw [Option.bind_eq_some_iff] at q5
        obtain ⟨x, q7, q8⟩ := q5
        have q8 := Option.some.inj q8
        subst q8
        rw [q7, Option.bind_some, gI_12_77_22, Option.bind_some, hp]
        refine ⟨_, _, rfl, frZ_trans fW (frZ_trans (frZ_trans (frZ_trans (frZ_trans (frZ_uA W y rfl) (frZ_uA _ y1 rfl)) (frZ_uA _ y2 rfl)) (frZ_uA _ y3 rfl)) (frZ_uA _ y4 rfl)), jW, fun j hj => ?_, sW, h14, h22, h23, fun j hj => ?_⟩
        · unfold qrW
          rw [uA_ne _ _ (by omega), uA_ne _ _ (by omega), uA_ne _ _ (by omega), uA_ne _ _ (by omega), uA_ne _ _ (by omega)]
          exact aW j hj
        · obtain ⟨c1, p, c2, c3, c4, c5, c6, c7⟩ := hL j hj
          obtain ⟨z1, z2, z3, z4⟩ := q6 j hj
          refine ⟨?_, p, ?_, ?_, ?_, ?_, ?_, by show p + (nth rs j).2.1.length + (nth rs j).2.2.length < 260; omega⟩
          · show y1 j = _
            rw [z1]; exact c1
          · show y2 j = _
            rw [z2]; exact c2
          · show layd cM y p _
            exact layd_cong _ _ (fun i h5 h6 => q2 i (by dsimp only at h6; omega)) c3
          · show y3 j = _
            rw [z3]; exact c4
          · show layd cM y _ _
            exact layd_cong _ _ (fun i h5 h6 => q2 i (by dsimp only at h6; omega)) c5
          · show y4 j = _
            rw [z4]; exact c6
      · rintro ⟨y1, y2, y3, y4, rfl, hy⟩
        dsimp only
        have e22 : (qrW (uA W 90 y) y1 y2 y3 y4).1 77 22 = nI rs.length := h22
        have b86 : (uA W 90 y).2.1 86 = k1 := a86
        have b87 : (uA W 90 y).2.1 87 = k2 := a87
        have b88 : (uA W 90 y).2.1 88 = k3 := a88
        have b89 : (uA W 90 y).2.1 89 = k4 := a89
        rw [gI_12_77_22, Option.bind_some, e22, if_neg (nI_ge hk (by omega)), gR_12_77_31, Option.bind_some, gR_12_77_26, Option.bind_some, rdN_mk (t := 0) (j := 86) (n := 16) (by decide +kernel) (by decide) b _ (by omega), Option.bind_some, qr_86, b86, wrI_mk (j := 91) (n := 16) (by decide +kernel) b _ (by omega), Option.bind_some, qr_91, qr_1, gR_12_77_32, Option.bind_some, gR_12_77_27, Option.bind_some, rdN_mk (t := 0) (j := 87) (n := 16) (by decide +kernel) (by decide) b _ (by omega), Option.bind_some, qr_87, b87, wrI_mk (j := 92) (n := 16) (by decide +kernel) b _ (by omega), Option.bind_some, qr_92, qr_2, gR_12_77_33, Option.bind_some, gR_12_77_28, Option.bind_some, rdN_mk (t := 0) (j := 88) (n := 16) (by decide +kernel) (by decide) b _ (by omega), Option.bind_some, qr_88, b88, wrI_mk (j := 93) (n := 16) (by decide +kernel) b _ (by omega), Option.bind_some, qr_93, qr_3, gR_12_77_34, Option.bind_some, gR_12_77_29, Option.bind_some, rdN_mk (t := 0) (j := 89) (n := 16) (by decide +kernel) (by decide) b _ (by omega), Option.bind_some, qr_89, b89, wrI_mk (j := 94) (n := 16) (by decide +kernel) b _ (by omega), Option.bind_some, qr_94, qr_4, vl_eq, nI_1]
        refine ⟨_, rfl, upd y1 k (k1 k), upd y2 k (k2 k), upd y3 k (k3 k), upd y4 k (k4 k), rfl, fun i hi => ?_⟩
        rcases Nat.lt_or_ge i k with z | z
        · rw [pk_un (by omega), pk_un (by omega), pk_un (by omega), pk_un (by omega)]
          exact hy i z
        · have : i = k := by omega
          rw [this, pk_us, pk_us, pk_us, pk_us]
          exact ⟨rfl, rfl, rfl, rfl⟩
      · rintro ⟨y1, y2, y3, y4, rfl, hy⟩
        have e22 : (qrW (uA W 90 y) y1 y2 y3 y4).1 77 22 = nI rs.length := h22
        refine ⟨mk b (qrW (uA W 90 y) y1 y2 y3 y4), ?_, _, rfl, y1, y2, y3, y4, rfl, hy⟩
        dsimp only
        rw [gI_12_77_22, Option.bind_some, e22, if_pos (Int32.le_refl _)]
    · rintro ⟨y, rfl, hy⟩
      dsimp only
      have e20 : (uA W 90 y).1 77 20 = nI c' := h20
      have e84 : (uA W 90 y).2.1 84 k = g' k := congrFun a84 k
      rw [gI_12_77_20, Option.bind_some, e20, if_neg (nI_ge hk (by omega)), gR_12_77_30, Option.bind_some, gR_12_77_24, Option.bind_some, rdN_mk (t := 0) (j := 84) (n := 260) (by decide +kernel) (by decide) b _ (by omega), Option.bind_some, e84, wrI_mk (j := 90) (n := 260) (by decide +kernel) b _ (by omega), Option.bind_some, vl_eq, nI_1, uA_at, uA_uA]
      refine ⟨_, rfl, _, rfl, fun i hi => ?_⟩
      rcases Nat.lt_or_ge i k with z | z
      · rw [pk_un (by omega)]
        exact hy i z
      · have : i = k := by omega
        rw [this, pk_us]
    · rintro ⟨y, rfl, hy⟩
      have e20 : (uA W 90 y).1 77 20 = nI c' := h20
      refine ⟨mk b (uA W 90 y), ?_, _, rfl, y, rfl, hy⟩
      dsimp only
      rw [gI_12_77_20, Option.bind_some, e20, if_pos (Int32.le_refl _)]
end
