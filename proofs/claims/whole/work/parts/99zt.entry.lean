/-! what holds at the law's entry -/
theorem lwI0 : Cond.instantiable RX0 2 ∈ gd_tbl := in_I 190 (by decide +kernel)
theorem lwI1 : Cond.instantiable RX1 6 ∈ gd_tbl := in_I 148 (by decide +kernel)
theorem lwI2 : Cond.instantiable RX2 13 ∈ gd_tbl := in_I 251 (by decide +kernel)
theorem lwI3 : Cond.instantiable RX3 4 ∈ gd_tbl := in_I 208 (by decide +kernel)
theorem lwI5 : Cond.instantiable RX5 13 ∈ gd_tbl := in_I 249 (by decide +kernel)
theorem lwI6 : Cond.instantiable RX6 6 ∈ gd_tbl := in_I 295 (by decide +kernel)
theorem lwI8 : Cond.instantiable RX8 2 ∈ gd_tbl := in_I 133 (by decide +kernel)
theorem lwI9 : Cond.instantiable RX9 3 ∈ gd_tbl := in_I 404 (by decide +kernel)
theorem lwI10 : Cond.instantiable RX10 4 ∈ gd_tbl := in_I 382 (by decide +kernel)
theorem lwI11 : Cond.instantiable RX11 16 ∈ gd_tbl := in_I 125 (by decide +kernel)
theorem lwI12 : Cond.instantiable RX12 66 ∈ gd_tbl := in_I 1103 (by decide +kernel)
section
variable {s : State} {A : Array Value}
theorem ent_C (hts : ∀ w ∈ gd_tbl, w.before A s = true) : ∀ (k : Nat) (q : vw_C), cls[k]? = some q → ∃ (c : ClassId) (i : Nat → Nat), u_Kn s q.1 q.2.1 q.2.2 c i := by
  intro k q hq
  match k, hq with
  | 0, hq => cases hq; exact u_known (n := 2) hts iX0 (hts _ lwI0)
  | 1, hq => cases hq; exact u_known (n := 6) hts iX1 (hts _ lwI1)
  | 2, hq => cases hq; exact u_known (n := 13) hts iX2 (hts _ lwI2)
  | 3, hq => cases hq; exact u_known (n := 4) hts iX3 (hts _ lwI3)
  | 4, hq => cases hq; exact u_known (n := 2) hts iX8 (hts _ lwI8)
  | 5, hq => cases hq; exact u_known (n := 13) hts iX5 (hts _ lwI5)
  | 6, hq => cases hq; exact u_known (n := 6) hts iX6 (hts _ lwI6)
  | 7, hq => cases hq; exact u_known (n := 2) hts iX8 (hts _ lwI8)
  | 8, hq => cases hq; exact u_known (n := 2) hts iX8 (hts _ lwI8)
  | 9, hq => cases hq; exact u_known (n := 3) hts iX9 (hts _ lwI9)
  | 10, hq => cases hq; exact u_known (n := 4) hts iX10 (hts _ lwI10)
  | 11, hq => cases hq; exact u_known (n := 16) hts iX11 (hts _ lwI11)
  | 12, hq => cases hq; exact u_known (n := 66) hts iX12 (hts _ lwI12)
  | k + 13, hq =>
    have h0 : (none : Option vw_C) = some q := hq
    cases h0
theorem ent_D (hts : ∀ w ∈ gd_tbl, w.before A s = true) : ∃ D : va_G, ∀ (k : Nat) (q : vw_C), cls[k]? = some q → u_Kn s q.1 q.2.1 q.2.2 (D.1 k) (D.2 k) := by
  have h1 : ∀ k : Nat, ∃ z : ClassId × (Nat → Nat), ∀ q, cls[k]? = some q → u_Kn s q.1 q.2.1 q.2.2 z.1 z.2 := by
    intro k
    cases e : cls[k]? with
    | none =>
      obtain ⟨c, i, _⟩ := ent_C hts 0 _ rfl
      exact ⟨(c, i), fun q hq => by cases hq⟩
    | some q0 =>
      obtain ⟨c, i, h⟩ := ent_C hts k q0 e
      exact ⟨(c, i), fun q hq => by cases hq; exact h⟩
  obtain ⟨f, hf⟩ := Classical.axiomOfChoice h1
  exact ⟨(fun k => (f k).1, fun k => (f k).2), hf⟩
theorem ent_P {t : FieldType} (h : (Cond.arrayClass t).before A s = true) (hra : ∀ c, s.vm.findClass ("[" ++ t.toString) = some c → va_RA s c t) : ∃ c, ArrOfT s c t ∧ va_RA s c t := by
  obtain ⟨c, k, comp, h1, h2, h3⟩ := Cond.arrayClass_spec h
  exact ⟨c, fun n z => ⟨fun k h => (by cases h), k, h2, comp, h3⟩, hra c h1⟩
theorem ent_A (h : (Cond.arrayOver (.array .long)).before A s = true) : ∃ c, ArrOfT s c (.array .long) ∧ va_RA s c (.array .long) := by
  obtain ⟨comp, c, k, h1, h2, h3, h4, h5⟩ := arrayOverA_spec h
  exact ⟨c, fun n z => ⟨fun k h => (by cases h), k, h3, comp, h4⟩, h5⟩
theorem ent_O {C : String} (h : (Cond.arrayOver (.object C)).before A s = true) : ∃ c, ArrOfT s c (.object C) ∧ va_RA s c (.object C) := by
  obtain ⟨comp, c, k, h1, h2, h3, h4, h5⟩ := Cond.arrayOver_spec h
  exact ⟨c, fun n z => ⟨fun k h => (by cases h), k, h3, comp, h4⟩, k, comp, h3, h4, h1, h5⟩
theorem ent_K (hts : ∀ w ∈ lw_tbl, w.before A s = true) : ∃ (D : va_G) (tg : Nat → ClassId), va_K D cls (tysOf tg) s := by
  obtain ⟨D, hD⟩ := ent_D (A := A) (fun w hw => hts w (List.mem_filter.mp hw).1)
  have pr : ∀ t, Cond.arrayClass t ∈ gd_tbl → (Cond.arrayClass t).before A s = true := fun t h => hts _ (List.mem_filter.mp h).1
  obtain ⟨c0, g0⟩ := ent_P (t := .int) (pr _ lzA_int) (fun _ h => h)
  obtain ⟨c1, g1⟩ := ent_P (t := .byte) (pr _ lzA_byte) (fun _ h => h)
  obtain ⟨c2, g2⟩ := ent_P (t := .boolean) (pr _ lzA_boolean) (fun _ h => h)
  obtain ⟨c3, g3⟩ := ent_P (t := .long) (pr _ lzA_long) (fun _ h => h)
  obtain ⟨c4, g4⟩ := ent_A (A := A) (s := s) (hts _ (by decide +kernel))
  obtain ⟨c5, g5⟩ := ent_O (C := "PactYears$Standing") (A := A) (s := s) (hts _ (by decide +kernel))
  refine ⟨D, fun k => match k with | 0 => c0 | 1 => c1 | 2 => c2 | 3 => c3 | 4 => c4 | _ => c5, hD, fun k q hq => ?_⟩
  match k, hq with
  | 0, hq => cases hq; exact g0
  | 1, hq => cases hq; exact g1
  | 2, hq => cases hq; exact g2
  | 3, hq => cases hq; exact g3
  | 4, hq => cases hq; exact g4
  | 5, hq => cases hq; exact g5
  | k + 6, hq =>
    have h0 : (none : Option (ClassId × FieldType)) = some q := hq
    cases h0
theorem ent_N (hts : ∀ w ∈ lw_tbl, w.before A s = true) : NX s := by
  refine ⟨va_AO.of (A := A) (hts _ (by decide +kernel)), (hts (Cond.arrayOver (.array .long)) (by decide +kernel) : _), fun q hq => ?_⟩
  simp only [nxL, List.mem_cons, List.not_mem_nil, or_false] at hq
  rcases hq with rfl | rfl | rfl | rfl | rfl | rfl
  · exact va_Nw.of rfl (hts _ (by decide +kernel))
  · exact va_Nw.of rfl (hts _ (by decide +kernel))
  · exact va_Nw.of rfl (hts _ (by decide +kernel))
  · exact va_Nw.of rfl (hts _ (by decide +kernel))
  · exact va_Nw.of rfl (hts _ (by decide +kernel))
  · exact va_Nw.of rfl (hts _ (by decide +kernel))
theorem ent_S (hts : ∀ w ∈ lw_tbl, w.before A s = true) (hgv : (Jvm.Cond.and given_1 narrow_1).before A s = true) : ∃ sa : Nat → Nat, SF s.heap.size sa s := by
  have hs := flat_of_before _ hgv
  have hA : ∀ a : Nat, a < s.heap.size → ¬ (fun q : Nat => s.heap.size ≤ q) a := fun a h => Nat.not_le.mpr h
  obtain ⟨t, e1, hT⟩ := va_Tof (args := A) (s := s) (tm := .static "PactYears$Tables" "SO" "[J") (ty := .long) (N := 6) (f := fun j => .long (soW j)) (A := fun q => s.heap.size ≤ q) (by decide) (hs _ (by decide +kernel)) (va_eqt (z := 6) (hs _ (by decide +kernel))) (fun j hj => by
    obtain rfl | rfl | rfl | rfl | rfl | rfl := (show j = 0 ∨ j = 1 ∨ j = 2 ∨ j = 3 ∨ j = 4 ∨ j = 5 by omega)
    · exact va_eqtl (z := -6148914691236517206) (hs _ (by decide +kernel))
    · exact va_eqtl (z := -3689348814741910324) (hs _ (by decide +kernel))
    · exact va_eqtl (z := -1085102592571150096) (hs _ (by decide +kernel))
    · exact va_eqtl (z := -71777214294589696) (hs _ (by decide +kernel))
    · exact va_eqtl (z := -281470681808896) (hs _ (by decide +kernel))
    · exact va_eqtl (z := -4294967296) (hs _ (by decide +kernel))) hA
  obtain ⟨adK, adV, hS, hE⟩ := vk_Sof (args := A) (s := s) (N := 1) (tm := fun _ => .string "PactYears$Law" 84) (len := [8]) (byt := [[119, 99, 112, 115, 110, 121, 109, 122]]) (A := fun q => s.heap.size ≤ q) (fun i hi => by
      obtain rfl : i = 0 := by omega
      decide) (fun i hi => hs _ (by decide +kernel)) (fun i hi => hs _ (by decide +kernel)) (fun i hi => hs _ (by decide +kernel)) (fun i hi => by
      obtain rfl : i = 0 := by omega
      exact hs (Cond.eq (.length (.field (.string "PactYears$Law" 84) "java/lang/String" "value" "[B")) (.int 8)) (by decide +kernel)) (fun i hi j hj => by
      obtain rfl : i = 0 := by omega
      have hj : j < 8 := hj
      obtain rfl | rfl | rfl | rfl | rfl | rfl | rfl | rfl := (show j = 0 ∨ j = 1 ∨ j = 2 ∨ j = 3 ∨ j = 4 ∨ j = 5 ∨ j = 6 ∨ j = 7 by omega)
      · exact hs (Cond.eq (.elem (.field (.string "PactYears$Law" 84) "java/lang/String" "value" "[B") (.int 0)) (.int 119)) (by decide +kernel)
      · exact hs (Cond.eq (.elem (.field (.string "PactYears$Law" 84) "java/lang/String" "value" "[B") (.int 1)) (.int 99)) (by decide +kernel)
      · exact hs (Cond.eq (.elem (.field (.string "PactYears$Law" 84) "java/lang/String" "value" "[B") (.int 2)) (.int 112)) (by decide +kernel)
      · exact hs (Cond.eq (.elem (.field (.string "PactYears$Law" 84) "java/lang/String" "value" "[B") (.int 3)) (.int 115)) (by decide +kernel)
      · exact hs (Cond.eq (.elem (.field (.string "PactYears$Law" 84) "java/lang/String" "value" "[B") (.int 4)) (.int 110)) (by decide +kernel)
      · exact hs (Cond.eq (.elem (.field (.string "PactYears$Law" 84) "java/lang/String" "value" "[B") (.int 5)) (.int 121)) (by decide +kernel)
      · exact hs (Cond.eq (.elem (.field (.string "PactYears$Law" 84) "java/lang/String" "value" "[B") (.int 6)) (.int 109)) (by decide +kernel)
      · exact hs (Cond.eq (.elem (.field (.string "PactYears$Law" 84) "java/lang/String" "value" "[B") (.int 7)) (.int 122)) (by decide +kernel)) (fun i j hi hj hne => absurd (show i = j by omega) hne) hA
  refine ⟨fun k => match k with | 0 => t | 1 => adK 0 | _ => adV 0, va_Zof (hts (.laysStatic "PactYears$Tables" "SO" "[J") (by decide +kernel)) (hts (.initialized "PactYears$Tables") (by decide +kernel)) e1 hA, hT, va_Zof (hts (.laysStatic "java/lang/String" "COMPACT_STRINGS" "Z") (by decide +kernel)) (hts (.initialized "java/lang/String") (by decide +kernel)) (va_eqt (hs _ (by decide +kernel))) hA, vk_R.of (A := A) (hts (.stringRef "PactYears$Law" 84 "wcpsnymz") (by decide +kernel)) (hE 0 (by decide)), fun i hi => ?_, fun i j hi hj _ => by omega⟩
  obtain rfl : i = 0 := by omega
  exact hS.1 0 hi
end
