theorem dX1_formula_0 : decode cX1_formula 0 = .ok (.lconst 0, 1) := by decide +kernel
theorem dX1_formula_1 : decode cX1_formula 1 = .ok (.lstore_n 2, 1) := by decide +kernel
theorem dX1_formula_2 : decode cX1_formula 2 = .ok (.lconst 0, 1) := by decide +kernel
theorem dX1_formula_3 : decode cX1_formula 3 = .ok (.lstore 4, 2) := by decide +kernel
theorem dX1_formula_5 : decode cX1_formula 5 = .ok (.aload_n 0, 1) := by decide +kernel
theorem dX1_formula_6 : decode cX1_formula 6 = .ok (.iload_n 1, 1) := by decide +kernel
theorem dX1_formula_7 : decode cX1_formula 7 = .ok (.invokevirtual 37, 3) := by decide +kernel
theorem dX1_formula_10 : decode cX1_formula 10 = .ok (.lstore 6, 2) := by decide +kernel
theorem dX1_formula_12 : decode cX1_formula 12 = .ok (.iconst 0, 1) := by decide +kernel
theorem dX1_formula_13 : decode cX1_formula 13 = .ok (.istore 8, 2) := by decide +kernel
theorem dX1_formula_15 : decode cX1_formula 15 = .ok (.iload 8, 2) := by decide +kernel
theorem dX1_formula_17 : decode cX1_formula 17 = .ok (.aload_n 0, 1) := by decide +kernel
theorem dX1_formula_18 : decode cX1_formula 18 = .ok (.getfield 40, 3) := by decide +kernel
theorem dX1_formula_21 : decode cX1_formula 21 = .ok (.if_icmp .ge 106, 3) := by decide +kernel
theorem dX1_formula_24 : decode cX1_formula 24 = .ok (.aload_n 0, 1) := by decide +kernel
theorem dX1_formula_25 : decode cX1_formula 25 = .ok (.getfield 34, 3) := by decide +kernel
theorem dX1_formula_28 : decode cX1_formula 28 = .ok (.ifCond .ne 99, 3) := by decide +kernel
theorem dX1_formula_31 : decode cX1_formula 31 = .ok (.aload_n 0, 1) := by decide +kernel
theorem dX1_formula_32 : decode cX1_formula 32 = .ok (.invokevirtual 27, 3) := by decide +kernel
theorem dX1_formula_35 : decode cX1_formula 35 = .ok (.istore 9, 2) := by decide +kernel
theorem dX1_formula_37 : decode cX1_formula 37 = .ok (.iload 9, 2) := by decide +kernel
theorem dX1_formula_39 : decode cX1_formula 39 = .ok (.bipush 38, 2) := by decide +kernel
theorem dX1_formula_41 : decode cX1_formula 41 = .ok (.if_icmp .eq 20, 3) := by decide +kernel
theorem dX1_formula_44 : decode cX1_formula 44 = .ok (.iload 9, 2) := by decide +kernel
theorem dX1_formula_46 : decode cX1_formula 46 = .ok (.bipush 94, 2) := by decide +kernel
theorem dX1_formula_48 : decode cX1_formula 48 = .ok (.if_icmp .eq 13, 3) := by decide +kernel
theorem dX1_formula_51 : decode cX1_formula 51 = .ok (.iload 9, 2) := by decide +kernel
theorem dX1_formula_53 : decode cX1_formula 53 = .ok (.bipush 124, 2) := by decide +kernel
theorem dX1_formula_55 : decode cX1_formula 55 = .ok (.if_icmp .eq 6, 3) := by decide +kernel
theorem dX1_formula_58 : decode cX1_formula 58 = .ok (.goto 69, 3) := by decide +kernel
theorem dX1_formula_61 : decode cX1_formula 61 = .ok (.aload_n 0, 1) := by decide +kernel
theorem dX1_formula_62 : decode cX1_formula 62 = .ok (.dup, 1) := by decide +kernel
theorem dX1_formula_63 : decode cX1_formula 63 = .ok (.getfield 43, 3) := by decide +kernel
theorem dX1_formula_66 : decode cX1_formula 66 = .ok (.iconst 1, 1) := by decide +kernel
theorem dX1_formula_67 : decode cX1_formula 67 = .ok (.iadd, 1) := by decide +kernel
theorem dX1_formula_68 : decode cX1_formula 68 = .ok (.putfield 43, 3) := by decide +kernel
theorem dX1_formula_71 : decode cX1_formula 71 = .ok (.aload_n 0, 1) := by decide +kernel
theorem dX1_formula_72 : decode cX1_formula 72 = .ok (.iload_n 1, 1) := by decide +kernel
theorem dX1_formula_73 : decode cX1_formula 73 = .ok (.invokevirtual 37, 3) := by decide +kernel
theorem dX1_formula_76 : decode cX1_formula 76 = .ok (.lstore 10, 2) := by decide +kernel
theorem dX1_formula_78 : decode cX1_formula 78 = .ok (.iload 9, 2) := by decide +kernel
theorem dX1_formula_80 : decode cX1_formula 80 = .ok (.bipush 38, 2) := by decide +kernel
theorem dX1_formula_82 : decode cX1_formula 82 = .ok (.if_icmp .ne 13, 3) := by decide +kernel
theorem dX1_formula_85 : decode cX1_formula 85 = .ok (.lload 6, 2) := by decide +kernel
theorem dX1_formula_87 : decode cX1_formula 87 = .ok (.lload 10, 2) := by decide +kernel
theorem dX1_formula_89 : decode cX1_formula 89 = .ok (.land, 1) := by decide +kernel
theorem dX1_formula_90 : decode cX1_formula 90 = .ok (.lstore 6, 2) := by decide +kernel
theorem dX1_formula_92 : decode cX1_formula 92 = .ok (.goto 29, 3) := by decide +kernel
theorem dX1_formula_95 : decode cX1_formula 95 = .ok (.lload 4, 2) := by decide +kernel
theorem dX1_formula_97 : decode cX1_formula 97 = .ok (.lload 6, 2) := by decide +kernel
theorem dX1_formula_99 : decode cX1_formula 99 = .ok (.lxor, 1) := by decide +kernel
theorem dX1_formula_100 : decode cX1_formula 100 = .ok (.lstore 4, 2) := by decide +kernel
theorem dX1_formula_102 : decode cX1_formula 102 = .ok (.lload 10, 2) := by decide +kernel
theorem dX1_formula_104 : decode cX1_formula 104 = .ok (.lstore 6, 2) := by decide +kernel
theorem dX1_formula_106 : decode cX1_formula 106 = .ok (.iload 9, 2) := by decide +kernel
theorem dX1_formula_108 : decode cX1_formula 108 = .ok (.bipush 124, 2) := by decide +kernel
theorem dX1_formula_110 : decode cX1_formula 110 = .ok (.if_icmp .ne 11, 3) := by decide +kernel
theorem dX1_formula_113 : decode cX1_formula 113 = .ok (.lload_n 2, 1) := by decide +kernel
theorem dX1_formula_114 : decode cX1_formula 114 = .ok (.lload 4, 2) := by decide +kernel
theorem dX1_formula_116 : decode cX1_formula 116 = .ok (.lor, 1) := by decide +kernel
theorem dX1_formula_117 : decode cX1_formula 117 = .ok (.lstore_n 2, 1) := by decide +kernel
theorem dX1_formula_118 : decode cX1_formula 118 = .ok (.lconst 0, 1) := by decide +kernel
theorem dX1_formula_119 : decode cX1_formula 119 = .ok (.lstore 4, 2) := by decide +kernel
theorem dX1_formula_121 : decode cX1_formula 121 = .ok (.iinc 8 1, 3) := by decide +kernel
theorem dX1_formula_124 : decode cX1_formula 124 = .ok (.goto (-109), 3) := by decide +kernel
theorem dX1_formula_127 : decode cX1_formula 127 = .ok (.lload_n 2, 1) := by decide +kernel
theorem dX1_formula_128 : decode cX1_formula 128 = .ok (.lload 4, 2) := by decide +kernel
theorem dX1_formula_130 : decode cX1_formula 130 = .ok (.lload 6, 2) := by decide +kernel
theorem dX1_formula_132 : decode cX1_formula 132 = .ok (.lxor, 1) := by decide +kernel
theorem dX1_formula_133 : decode cX1_formula 133 = .ok (.lor, 1) := by decide +kernel
theorem dX1_formula_134 : decode cX1_formula 134 = .ok (.lreturn, 1) := by decide +kernel
def FBX1_formula (rX1_formula : HP → Nat → Int32 → Option (Int64 × HP)) (rX1_piece : HP → Nat → Int32 → Option (Int64 × HP)) (rX1_soMany : HP → Nat → Int32 → Int32 → Option (Int64 × HP)) (hp : HP) (p0 : Nat) (p1 : Int32) : Option (Int64 × HP) := (rc [1] hp p0 (rX1_piece hp p0 p1)).bind (fun w1 => (lp (fun (s2 : Int64 × Int64 × Int64 × Int32 × HP) => (gI [1] 1 s2.2.2.2.2 p0).bind (fun v4 => if v4 ≤ s2.2.2.2.1 then some (Sum.inl (s2.1, s2.2.1, s2.2.2.1, s2.2.2.2.2)) else (gI [1] 3 s2.2.2.2.2 p0).bind (fun v5 => if v5 = 0 then (rc [1] s2.2.2.2.2 p0 (FX4_here s2.2.2.2.2 p0)).bind (fun v6 => jn (A := Unit) (fun a7 => (gI [1] 2 s2.2.2.2.2 p0).bind (fun v9 => (sI [1] 2 s2.2.2.2.2 p0 (v9 + (1 : Int32))).bind (fun hp10 => (rc [1] hp10 p0 (rX1_piece hp10 p0 p1)).bind (fun w11 => if v6 = (38 : Int32) then vl (s2.2.2.1 &&& w11.1) (fun x12 => vl (s2.2.2.2.1 + (1 : Int32)) (fun x13 => some (Sum.inr (s2.1, s2.2.1, x12, x13, w11.2)))) else vl (s2.2.1 ^^^ s2.2.2.1) (fun x14 => if v6 = (124 : Int32) then vl (s2.1 ||| x14) (fun x15 => vl (s2.2.2.2.1 + (1 : Int32)) (fun x16 => some (Sum.inr (x15, (0 : Int64), w11.1, x16, w11.2)))) else vl (s2.2.2.2.1 + (1 : Int32)) (fun x17 => some (Sum.inr (s2.1, x14, w11.1, x17, w11.2)))))))) (fun J8 => if v6 = (38 : Int32) then J8 () else if v6 = (94 : Int32) then J8 () else if v6 = (124 : Int32) then J8 () else some (Sum.inl (s2.1, s2.2.1, s2.2.2.1, s2.2.2.2.2)))) else some (Sum.inl (s2.1, s2.2.1, s2.2.2.1, s2.2.2.2.2))))) FU ((0 : Int64), (0 : Int64), w1.1, (0 : Int32), w1.2)).bind (fun (y3 : Int64 × Int64 × Int64 × HP) => some ((y3.1 ||| (y3.2.1 ^^^ y3.2.2.1)), y3.2.2.2)))
set_option maxHeartbeats 4000000 in
set_option maxRecDepth 100000 in
theorem cbX1_formula (l : Launch) (D : va_G) (tg : Nat → ClassId) (bs : Nat) (sa : Nat → Nat) (rX1_formula : HP → Nat → Int32 → Option (Int64 × HP)) (rX1_piece : HP → Nat → Int32 → Option (Int64 × HP)) (rX1_soMany : HP → Nat → Int32 → Int32 → Option (Int64 × HP)) (Lr : Nat) (hLr : 2 ≤ Lr) (hrX1_formula : ∀ (hp : HP) (p0 : Nat) (p1 : Int32), Ct l D tg bs sa yX1_formula cX1_formula 12 (some .long) Lr [.ref p0, .int p1] hp (rX1_formula hp p0 p1) (fun r => some (.long r.1)) (fun r => r.2)) (hrX1_piece : ∀ (hp : HP) (p0 : Nat) (p1 : Int32), Ct l D tg bs sa yX1_piece cX1_piece 5 (some .long) Lr [.ref p0, .int p1] hp (rX1_piece hp p0 p1) (fun r => some (.long r.1)) (fun r => r.2)) (hrX1_soMany : ∀ (hp : HP) (p0 : Nat) (p1 : Int32) (p2 : Int32), Ct l D tg bs sa yX1_soMany cX1_soMany 18 (some .long) Lr [.ref p0, .int p1, .int p2] hp (rX1_soMany hp p0 p1 p2) (fun r => some (.long r.1)) (fun r => r.2)) (hp : HP) (p0 : Nat) (p1 : Int32) : Ct l D tg bs sa yX1_formula cX1_formula 12 (some .long) (Lr + 1) [.ref p0, .int p1] hp (FBX1_formula rX1_formula rX1_piece rX1_soMany hp p0 p1) (fun r => some (.long r.1)) (fun r => r.2) := by
  refine Ct.of (by decide) (Nat.le_of_ble_eq_true rfl) ?_
  intro V Q hVl hVd hVt hVb hVs hC
  subst hVl; subst hVd; subst hVt; subst hVb; subst hVs
  unfold FBX1_formula
  show Zs V Q (0, 0) 12 _ _ hp [(0, .ref p0), (1, .int p1)] 0 []
  refine z_lconst hC (0 : Int64) dX1_formula_0 (by decide) ?_
  refine z_lstore_n hC [(0, .ref p0), (1, .int p1), (2, .long (0 : Int64))] [1, 2, 0] dX1_formula_1 rfl (by decide) rfl ?_
  refine z_lconst hC (0 : Int64) dX1_formula_2 (by decide) ?_
  refine z_lstore hC [(0, .ref p0), (1, .int p1), (2, .long (0 : Int64)), (4, .long (0 : Int64))] [1, 2, 3, 0] dX1_formula_3 (by decide) rfl ?_
  refine z_aload_n hC 0 dX1_formula_5 rfl rfl ?_
  refine z_iload_n hC 1 dX1_formula_6 rfl rfl ?_
  refine z_callVl hC (ci := 1) rfl lmRX1_37 (hrX1_piece hp p0 p1) (Nat.le_refl _) hn0 dX1_formula_7 rfl rfl (Nat.le_of_ble_eq_true rfl) (fun w1 => ?_)
  refine z_lstore hC [(0, .ref p0), (1, .int p1), (2, .long (0 : Int64)), (4, .long (0 : Int64)), (6, .long w1.1)] [1, 2, 3, 4, 0] dX1_formula_10 (by decide) rfl ?_
  refine z_iconst hC (0 : Int32) dX1_formula_12 (by decide) ?_
  refine z_istore hC [(0, .ref p0), (1, .int p1), (2, .long (0 : Int64)), (4, .long (0 : Int64)), (6, .long w1.1), (8, .int (0 : Int32))] [1, 2, 3, 4, 5, 0] dX1_formula_13 (by decide) rfl ?_
  refine z_lp (S := Int64 × Int64 × Int64 × Int32 × HP) (Y := Int64 × Int64 × Int64 × HP) (fun s2 => s2.2.2.2.2) (fun s2 => [(0, .ref p0), (1, .int p1), (2, .long s2.1), (4, .long s2.2.1), (6, .long s2.2.2.1), (8, .int s2.2.2.2.1)]) (fun y3 => y3.2.2.2) (fun y3 => [(2, .long y3.1), (4, .long y3.2.1), (6, .long y3.2.2.1)]) 127 [] (fun y3 => ?_) (fun s2 => ?_) rfl rfl
  · refine z_lload_n hC 0 dX1_formula_127 rfl rfl ?_
    refine z_lload hC 1 dX1_formula_128 rfl ?_
    refine z_lload hC 2 dX1_formula_130 rfl ?_
    refine z_lxor hC dX1_formula_132 ?_
    refine z_lor hC dX1_formula_133 ?_
    exact z_lret hC (fun h => h) dX1_formula_134
  · refine z_iload hC 5 dX1_formula_15 rfl ?_
    refine z_aload_n hC 0 dX1_formula_17 rfl rfl ?_
    refine z_getI hC lgRX1_40 dX1_formula_18 (fun v4 => ?_)
    refine z_icmp_ge hC 127 dX1_formula_21 (by decide) (fun _ => ?_) (fun _ => ?_)
    · refine z_weak [(2, .long s2.1), (4, .long s2.2.1), (6, .long s2.2.2.1)] [2, 3, 4] rfl ?_
      exact z_leaf (fun h => h)
    · refine z_aload_n hC 0 dX1_formula_24 rfl rfl ?_
      refine z_getI hC lgRX1_34 dX1_formula_25 (fun v5 => ?_)
      refine z_if_ne hC 127 dX1_formula_28 (by decide) (fun _ => ?_) (fun _ => ?_)
      · refine z_aload_n hC 0 dX1_formula_31 rfl rfl ?_
        refine z_callUi hC lmRX1_27 (ctX4_here (vLa V) (vDa V) (vTg V) (vBs V) (vSa V) s2.2.2.2.2 p0) (by have := hLr; omega) hn0 dX1_formula_32 rfl rfl (Nat.le_of_ble_eq_true rfl) (fun v6 => ?_)
        refine z_istore hC [(0, .ref p0), (1, .int p1), (2, .long s2.1), (4, .long s2.2.1), (6, .long s2.2.2.1), (8, .int s2.2.2.2.1), (9, .int v6)] [1, 2, 3, 4, 5, 6, 0] dX1_formula_35 (by decide) rfl ?_
        refine z_iload hC 6 dX1_formula_37 rfl ?_
        refine z_bipush hC (38 : Int32) dX1_formula_39 (by decide) ?_
        refine z_jn (A := Unit) (fun a7 => s2.2.2.2.2) (fun a7 => [(0, .ref p0), (1, .int p1), (2, .long s2.1), (4, .long s2.2.1), (6, .long s2.2.2.1), (8, .int s2.2.2.2.1), (9, .int v6)]) 61 (fun a7 => []) (fun a7 => ?_) (fun J8 hJ8 => ?_)
        · refine z_aload_n hC 0 dX1_formula_61 rfl rfl ?_
          refine z_dup hC dX1_formula_62 rfl ?_
          refine z_getI hC lgRX1_43 dX1_formula_63 (fun v9 => ?_)
          refine z_iconst hC (1 : Int32) dX1_formula_66 (by decide) ?_
          refine z_iadd hC dX1_formula_67 ?_
          refine z_putI hC lpRX1_43 dX1_formula_68 (fun hp10 => ?_)
          refine z_aload_n hC 0 dX1_formula_71 rfl rfl ?_
          refine z_iload_n hC 1 dX1_formula_72 rfl rfl ?_
          refine z_callVl hC (ci := 1) rfl lmRX1_37 (hrX1_piece hp10 p0 p1) (Nat.le_refl _) hn0 dX1_formula_73 rfl rfl (Nat.le_of_ble_eq_true rfl) (fun w11 => ?_)
          refine z_lstore hC [(0, .ref p0), (1, .int p1), (2, .long s2.1), (4, .long s2.2.1), (6, .long s2.2.2.1), (8, .int s2.2.2.2.1), (9, .int v6), (10, .long w11.1)] [1, 2, 3, 4, 5, 6, 7, 0] dX1_formula_76 (by decide) rfl ?_
          refine z_iload hC 6 dX1_formula_78 rfl ?_
          refine z_bipush hC (38 : Int32) dX1_formula_80 (by decide) ?_
          refine z_icmp_ne hC 95 dX1_formula_82 (by decide) (fun _ => ?_) (fun _ => ?_)
          · refine z_lload hC 4 dX1_formula_85 rfl ?_
            refine z_lload hC 7 dX1_formula_87 rfl ?_
            refine z_land hC dX1_formula_89 ?_
            refine z_vll (fun x12 => ?_)
            refine z_lstore hC [(0, .ref p0), (1, .int p1), (2, .long s2.1), (4, .long s2.2.1), (6, .long x12), (8, .int s2.2.2.2.1), (9, .int v6), (10, .long w11.1)] [1, 2, 3, 4, 0, 5, 6, 7] dX1_formula_90 (by decide) rfl ?_
            refine z_goto hC 121 dX1_formula_92 (by decide) ?_
            refine z_iincv hC (1 : Int32) 5 (fun x13 => [(0, .ref p0), (1, .int p1), (2, .long s2.1), (4, .long s2.2.1), (6, .long x12), (8, .int x13), (9, .int v6), (10, .long w11.1)]) [1, 2, 3, 4, 5, 0, 6, 7] dX1_formula_121 rfl (by decide) (by decide) (fun _ => rfl) (fun x13 => ?_)
            refine z_goto hC 15 dX1_formula_124 (by decide) ?_
            refine z_weak [(0, .ref p0), (1, .int p1), (2, .long s2.1), (4, .long s2.2.1), (6, .long x12), (8, .int x13)] [0, 1, 2, 3, 4, 5] rfl ?_
            exact z_leaf (fun h => h)
          · refine z_lload hC 3 dX1_formula_95 rfl ?_
            refine z_lload hC 4 dX1_formula_97 rfl ?_
            refine z_lxor hC dX1_formula_99 ?_
            refine z_vll (fun x14 => ?_)
            refine z_lstore hC [(0, .ref p0), (1, .int p1), (2, .long s2.1), (4, .long x14), (6, .long s2.2.2.1), (8, .int s2.2.2.2.1), (9, .int v6), (10, .long w11.1)] [1, 2, 3, 0, 4, 5, 6, 7] dX1_formula_100 (by decide) rfl ?_
            refine z_lload hC 7 dX1_formula_102 rfl ?_
            refine z_lstore hC [(0, .ref p0), (1, .int p1), (2, .long s2.1), (4, .long x14), (6, .long w11.1), (8, .int s2.2.2.2.1), (9, .int v6), (10, .long w11.1)] [1, 2, 3, 4, 0, 5, 6, 7] dX1_formula_104 (by decide) rfl ?_
            refine z_iload hC 6 dX1_formula_106 rfl ?_
            refine z_bipush hC (124 : Int32) dX1_formula_108 (by decide) ?_
            refine z_icmp_ne hC 121 dX1_formula_110 (by decide) (fun _ => ?_) (fun _ => ?_)
            · refine z_lload_n hC 2 dX1_formula_113 rfl rfl ?_
              refine z_lload hC 3 dX1_formula_114 rfl ?_
              refine z_lor hC dX1_formula_116 ?_
              refine z_vll (fun x15 => ?_)
              refine z_lstore_n hC [(0, .ref p0), (1, .int p1), (2, .long x15), (4, .long x14), (6, .long w11.1), (8, .int s2.2.2.2.1), (9, .int v6), (10, .long w11.1)] [1, 2, 0, 3, 4, 5, 6, 7] dX1_formula_117 rfl (by decide) rfl ?_
              refine z_lconst hC (0 : Int64) dX1_formula_118 (by decide) ?_
              refine z_lstore hC [(0, .ref p0), (1, .int p1), (2, .long x15), (4, .long (0 : Int64)), (6, .long w11.1), (8, .int s2.2.2.2.1), (9, .int v6), (10, .long w11.1)] [1, 2, 3, 0, 4, 5, 6, 7] dX1_formula_119 (by decide) rfl ?_
              refine z_iincv hC (1 : Int32) 5 (fun x16 => [(0, .ref p0), (1, .int p1), (2, .long x15), (4, .long (0 : Int64)), (6, .long w11.1), (8, .int x16), (9, .int v6), (10, .long w11.1)]) [1, 2, 3, 4, 5, 0, 6, 7] dX1_formula_121 rfl (by decide) (by decide) (fun _ => rfl) (fun x16 => ?_)
              refine z_goto hC 15 dX1_formula_124 (by decide) ?_
              refine z_weak [(0, .ref p0), (1, .int p1), (2, .long x15), (4, .long (0 : Int64)), (6, .long w11.1), (8, .int x16)] [0, 1, 2, 3, 4, 5] rfl ?_
              exact z_leaf (fun h => h)
            · refine z_iincv hC (1 : Int32) 5 (fun x17 => [(0, .ref p0), (1, .int p1), (2, .long s2.1), (4, .long x14), (6, .long w11.1), (8, .int x17), (9, .int v6), (10, .long w11.1)]) [1, 2, 3, 4, 5, 0, 6, 7] dX1_formula_121 rfl (by decide) (by decide) (fun _ => rfl) (fun x17 => ?_)
              refine z_goto hC 15 dX1_formula_124 (by decide) ?_
              refine z_weak [(0, .ref p0), (1, .int p1), (2, .long s2.1), (4, .long x14), (6, .long w11.1), (8, .int x17)] [0, 1, 2, 3, 4, 5] rfl ?_
              exact z_leaf (fun h => h)
        · refine z_icmp_eq hC 61 dX1_formula_41 (by decide) (fun _ => ?_) (fun _ => ?_)
          · exact hJ8 ()
          · refine z_iload hC 6 dX1_formula_44 rfl ?_
            refine z_bipush hC (94 : Int32) dX1_formula_46 (by decide) ?_
            refine z_icmp_eq hC 61 dX1_formula_48 (by decide) (fun _ => ?_) (fun _ => ?_)
            · exact hJ8 ()
            · refine z_iload hC 6 dX1_formula_51 rfl ?_
              refine z_bipush hC (124 : Int32) dX1_formula_53 (by decide) ?_
              refine z_icmp_eq hC 61 dX1_formula_55 (by decide) (fun _ => ?_) (fun _ => ?_)
              · exact hJ8 ()
              · refine z_goto hC 127 dX1_formula_58 (by decide) ?_
                refine z_weak [(2, .long s2.1), (4, .long s2.2.1), (6, .long s2.2.2.1)] [2, 3, 4] rfl ?_
                exact z_leaf (fun h => h)
      · refine z_weak [(2, .long s2.1), (4, .long s2.2.1), (6, .long s2.2.2.1)] [2, 3, 4] rfl ?_
        exact z_leaf (fun h => h)
theorem dX1_piece_0 : decode cX1_piece 0 = .ok (.aload_n 0, 1) := by decide +kernel
theorem dX1_piece_1 : decode cX1_piece 1 = .ok (.invokevirtual 27, 3) := by decide +kernel
theorem dX1_piece_4 : decode cX1_piece 4 = .ok (.istore_n 2, 1) := by decide +kernel
theorem dX1_piece_5 : decode cX1_piece 5 = .ok (.iload_n 2, 1) := by decide +kernel
theorem dX1_piece_6 : decode cX1_piece 6 = .ok (.invokestatic 46, 3) := by decide +kernel
theorem dX1_piece_9 : decode cX1_piece 9 = .ok (.ifCond .ne 10, 3) := by decide +kernel
theorem dX1_piece_12 : decode cX1_piece 12 = .ok (.aload_n 0, 1) := by decide +kernel
theorem dX1_piece_13 : decode cX1_piece 13 = .ok (.iconst 1, 1) := by decide +kernel
theorem dX1_piece_14 : decode cX1_piece 14 = .ok (.invokevirtual 31, 3) := by decide +kernel
theorem dX1_piece_17 : decode cX1_piece 17 = .ok (.lconst 0, 1) := by decide +kernel
theorem dX1_piece_18 : decode cX1_piece 18 = .ok (.lreturn, 1) := by decide +kernel
theorem dX1_piece_19 : decode cX1_piece 19 = .ok (.iload_n 2, 1) := by decide +kernel
theorem dX1_piece_20 : decode cX1_piece 20 = .ok (.bipush 97, 2) := by decide +kernel
theorem dX1_piece_22 : decode cX1_piece 22 = .ok (.if_icmp .ge 15, 3) := by decide +kernel
theorem dX1_piece_25 : decode cX1_piece 25 = .ok (.iload_n 2, 1) := by decide +kernel
theorem dX1_piece_26 : decode cX1_piece 26 = .ok (.bipush 48, 2) := by decide +kernel
theorem dX1_piece_28 : decode cX1_piece 28 = .ok (.if_icmp .eq 9, 3) := by decide +kernel
theorem dX1_piece_31 : decode cX1_piece 31 = .ok (.iload_n 2, 1) := by decide +kernel
theorem dX1_piece_32 : decode cX1_piece 32 = .ok (.bipush 49, 2) := by decide +kernel
theorem dX1_piece_34 : decode cX1_piece 34 = .ok (.if_icmp .ne 39, 3) := by decide +kernel
theorem dX1_piece_37 : decode cX1_piece 37 = .ok (.aload_n 0, 1) := by decide +kernel
theorem dX1_piece_38 : decode cX1_piece 38 = .ok (.dup, 1) := by decide +kernel
theorem dX1_piece_39 : decode cX1_piece 39 = .ok (.getfield 43, 3) := by decide +kernel
theorem dX1_piece_42 : decode cX1_piece 42 = .ok (.iconst 1, 1) := by decide +kernel
theorem dX1_piece_43 : decode cX1_piece 43 = .ok (.iadd, 1) := by decide +kernel
theorem dX1_piece_44 : decode cX1_piece 44 = .ok (.putfield 43, 3) := by decide +kernel
theorem dX1_piece_47 : decode cX1_piece 47 = .ok (.iload_n 2, 1) := by decide +kernel
theorem dX1_piece_48 : decode cX1_piece 48 = .ok (.bipush 97, 2) := by decide +kernel
theorem dX1_piece_50 : decode cX1_piece 50 = .ok (.if_icmp .lt 17, 3) := by decide +kernel
theorem dX1_piece_53 : decode cX1_piece 53 = .ok (.iload_n 2, 1) := by decide +kernel
theorem dX1_piece_54 : decode cX1_piece 54 = .ok (.bipush 97, 2) := by decide +kernel
theorem dX1_piece_56 : decode cX1_piece 56 = .ok (.isub, 1) := by decide +kernel
theorem dX1_piece_57 : decode cX1_piece 57 = .ok (.aload_n 0, 1) := by decide +kernel
theorem dX1_piece_58 : decode cX1_piece 58 = .ok (.getfield 15, 3) := by decide +kernel
theorem dX1_piece_61 : decode cX1_piece 61 = .ok (.invokestatic 50, 3) := by decide +kernel
theorem dX1_piece_64 : decode cX1_piece 64 = .ok (.goto 8, 3) := by decide +kernel
theorem dX1_piece_67 : decode cX1_piece 67 = .ok (.bipush 48, 2) := by decide +kernel
theorem dX1_piece_69 : decode cX1_piece 69 = .ok (.iload_n 2, 1) := by decide +kernel
theorem dX1_piece_70 : decode cX1_piece 70 = .ok (.isub, 1) := by decide +kernel
theorem dX1_piece_71 : decode cX1_piece 71 = .ok (.i2l, 1) := by decide +kernel
theorem dX1_piece_72 : decode cX1_piece 72 = .ok (.lreturn, 1) := by decide +kernel
theorem dX1_piece_73 : decode cX1_piece 73 = .ok (.aload_n 0, 1) := by decide +kernel
theorem dX1_piece_74 : decode cX1_piece 74 = .ok (.iload_n 1, 1) := by decide +kernel
theorem dX1_piece_75 : decode cX1_piece 75 = .ok (.invokevirtual 56, 3) := by decide +kernel
theorem dX1_piece_78 : decode cX1_piece 78 = .ok (.aload_n 0, 1) := by decide +kernel
theorem dX1_piece_79 : decode cX1_piece 79 = .ok (.getfield 34, 3) := by decide +kernel
theorem dX1_piece_82 : decode cX1_piece 82 = .ok (.ifCond .eq 5, 3) := by decide +kernel
theorem dX1_piece_85 : decode cX1_piece 85 = .ok (.lconst 0, 1) := by decide +kernel
theorem dX1_piece_86 : decode cX1_piece 86 = .ok (.lreturn, 1) := by decide +kernel
theorem dX1_piece_87 : decode cX1_piece 87 = .ok (.iload_n 2, 1) := by decide +kernel
theorem dX1_piece_88 : decode cX1_piece 88 = .ok (.bipush 33, 2) := by decide +kernel
theorem dX1_piece_90 : decode cX1_piece 90 = .ok (.if_icmp .ne 15, 3) := by decide +kernel
theorem dX1_piece_93 : decode cX1_piece 93 = .ok (.aload_n 0, 1) := by decide +kernel
theorem dX1_piece_94 : decode cX1_piece 94 = .ok (.iload_n 1, 1) := by decide +kernel
theorem dX1_piece_95 : decode cX1_piece 95 = .ok (.iconst 1, 1) := by decide +kernel
theorem dX1_piece_96 : decode cX1_piece 96 = .ok (.iadd, 1) := by decide +kernel
theorem dX1_piece_97 : decode cX1_piece 97 = .ok (.invokevirtual 37, 3) := by decide +kernel
theorem dX1_piece_100 : decode cX1_piece 100 = .ok (.ldc2_w 59, 3) := by decide +kernel
theorem dX1_piece_103 : decode cX1_piece 103 = .ok (.lxor, 1) := by decide +kernel
theorem dX1_piece_104 : decode cX1_piece 104 = .ok (.lreturn, 1) := by decide +kernel
theorem dX1_piece_105 : decode cX1_piece 105 = .ok (.iload_n 2, 1) := by decide +kernel
theorem dX1_piece_106 : decode cX1_piece 106 = .ok (.bipush 40, 2) := by decide +kernel
theorem dX1_piece_108 : decode cX1_piece 108 = .ok (.if_icmp .eq 15, 3) := by decide +kernel
theorem dX1_piece_111 : decode cX1_piece 111 = .ok (.aload_n 0, 1) := by decide +kernel
theorem dX1_piece_112 : decode cX1_piece 112 = .ok (.iload_n 2, 1) := by decide +kernel
theorem dX1_piece_113 : decode cX1_piece 113 = .ok (.bipush 48, 2) := by decide +kernel
theorem dX1_piece_115 : decode cX1_piece 115 = .ok (.isub, 1) := by decide +kernel
theorem dX1_piece_116 : decode cX1_piece 116 = .ok (.iload_n 1, 1) := by decide +kernel
theorem dX1_piece_117 : decode cX1_piece 117 = .ok (.iconst 1, 1) := by decide +kernel
theorem dX1_piece_118 : decode cX1_piece 118 = .ok (.iadd, 1) := by decide +kernel
theorem dX1_piece_119 : decode cX1_piece 119 = .ok (.invokevirtual 61, 3) := by decide +kernel
theorem dX1_piece_122 : decode cX1_piece 122 = .ok (.lreturn, 1) := by decide +kernel
theorem dX1_piece_123 : decode cX1_piece 123 = .ok (.aload_n 0, 1) := by decide +kernel
theorem dX1_piece_124 : decode cX1_piece 124 = .ok (.iload_n 1, 1) := by decide +kernel
theorem dX1_piece_125 : decode cX1_piece 125 = .ok (.iconst 1, 1) := by decide +kernel
theorem dX1_piece_126 : decode cX1_piece 126 = .ok (.iadd, 1) := by decide +kernel
theorem dX1_piece_127 : decode cX1_piece 127 = .ok (.invokevirtual 23, 3) := by decide +kernel
theorem dX1_piece_130 : decode cX1_piece 130 = .ok (.lstore_n 3, 1) := by decide +kernel
theorem dX1_piece_131 : decode cX1_piece 131 = .ok (.aload_n 0, 1) := by decide +kernel
theorem dX1_piece_132 : decode cX1_piece 132 = .ok (.bipush 41, 2) := by decide +kernel
theorem dX1_piece_134 : decode cX1_piece 134 = .ok (.invokevirtual 64, 3) := by decide +kernel
theorem dX1_piece_137 : decode cX1_piece 137 = .ok (.lload_n 3, 1) := by decide +kernel
theorem dX1_piece_138 : decode cX1_piece 138 = .ok (.lreturn, 1) := by decide +kernel
def FBX1_piece (rX1_formula : HP → Nat → Int32 → Option (Int64 × HP)) (rX1_piece : HP → Nat → Int32 → Option (Int64 × HP)) (rX1_soMany : HP → Nat → Int32 → Int32 → Option (Int64 × HP)) (hp : HP) (p0 : Nat) (p1 : Int32) : Option (Int64 × HP) := (rc [1] hp p0 (FX4_here hp p0)).bind (fun v1 => (FX1_canBegin v1).bind (fun v2 => if v2 = 0 then (rc [1] hp p0 (FX4_fail hp p0 (1 : Int32))).bind (fun w3 => some ((0 : Int64), w3)) else jn (A := Unit) (fun a4 => (gI [1] 2 hp p0).bind (fun v6 => (sI [1] 2 hp p0 (v6 + (1 : Int32))).bind (fun hp7 => if v1 < (97 : Int32) then some ((((48 : Int32) - v1)).toInt64, hp7) else (gI [1] 5 hp7 p0).bind (fun v8 => (FX7_soWord hp7 (v1 - (97 : Int32)) v8).bind (fun v9 => some (v9, hp7)))))) (fun J5 => if (97 : Int32) ≤ v1 then J5 () else if v1 = (48 : Int32) then J5 () else if v1 = (49 : Int32) then J5 () else (rc [1] hp p0 (FX4_open hp p0 p1)).bind (fun w10 => (gI [1] 3 w10 p0).bind (fun v11 => if v11 = 0 then if v1 = (33 : Int32) then (rc [1] w10 p0 (rX1_piece w10 p0 (p1 + (1 : Int32)))).bind (fun w12 => some ((w12.1 ^^^ (-1 : Int64)), w12.2)) else if v1 = (40 : Int32) then (rc [1] w10 p0 (rX1_formula w10 p0 (p1 + (1 : Int32)))).bind (fun w13 => (rc [1] w13.2 p0 (FX4_expect w13.2 p0 (41 : Int32))).bind (fun w14 => some (w13.1, w14))) else (rc [1] w10 p0 (rX1_soMany w10 p0 (v1 - (48 : Int32)) (p1 + (1 : Int32)))).bind (fun w15 => some (w15.1, w15.2)) else some ((0 : Int64), w10))))))
set_option maxHeartbeats 4000000 in
set_option maxRecDepth 100000 in
theorem cbX1_piece (l : Launch) (D : va_G) (tg : Nat → ClassId) (bs : Nat) (sa : Nat → Nat) (rX1_formula : HP → Nat → Int32 → Option (Int64 × HP)) (rX1_piece : HP → Nat → Int32 → Option (Int64 × HP)) (rX1_soMany : HP → Nat → Int32 → Int32 → Option (Int64 × HP)) (Lr : Nat) (hLr : 2 ≤ Lr) (hrX1_formula : ∀ (hp : HP) (p0 : Nat) (p1 : Int32), Ct l D tg bs sa yX1_formula cX1_formula 12 (some .long) Lr [.ref p0, .int p1] hp (rX1_formula hp p0 p1) (fun r => some (.long r.1)) (fun r => r.2)) (hrX1_piece : ∀ (hp : HP) (p0 : Nat) (p1 : Int32), Ct l D tg bs sa yX1_piece cX1_piece 5 (some .long) Lr [.ref p0, .int p1] hp (rX1_piece hp p0 p1) (fun r => some (.long r.1)) (fun r => r.2)) (hrX1_soMany : ∀ (hp : HP) (p0 : Nat) (p1 : Int32) (p2 : Int32), Ct l D tg bs sa yX1_soMany cX1_soMany 18 (some .long) Lr [.ref p0, .int p1, .int p2] hp (rX1_soMany hp p0 p1 p2) (fun r => some (.long r.1)) (fun r => r.2)) (hp : HP) (p0 : Nat) (p1 : Int32) : Ct l D tg bs sa yX1_piece cX1_piece 5 (some .long) (Lr + 1) [.ref p0, .int p1] hp (FBX1_piece rX1_formula rX1_piece rX1_soMany hp p0 p1) (fun r => some (.long r.1)) (fun r => r.2) := by
  refine Ct.of (by decide) (Nat.le_of_ble_eq_true rfl) ?_
  intro V Q hVl hVd hVt hVb hVs hC
  subst hVl; subst hVd; subst hVt; subst hVb; subst hVs
  unfold FBX1_piece
  show Zs V Q (0, 0) 5 _ _ hp [(0, .ref p0), (1, .int p1)] 0 []
  refine z_aload_n hC 0 dX1_piece_0 rfl rfl ?_
  refine z_callUi hC lmRX1_27 (ctX4_here (vLa V) (vDa V) (vTg V) (vBs V) (vSa V) hp p0) (by have := hLr; omega) hn0 dX1_piece_1 rfl rfl (Nat.le_of_ble_eq_true rfl) (fun v1 => ?_)
  refine z_istore_n hC [(0, .ref p0), (1, .int p1), (2, .int v1)] [1, 2, 0] dX1_piece_4 rfl (by decide) rfl ?_
  refine z_iload_n hC 2 dX1_piece_5 rfl rfl ?_
  refine z_callSi hC lmRX1_46 (ctX1_canBegin (vLa V) (vDa V) (vTg V) (vBs V) (vSa V) hp v1) (by have := hLr; omega) hn0 dX1_piece_6 rfl rfl (Nat.le_of_ble_eq_true rfl) (fun v2 => ?_)
  refine z_if_ne hC 19 dX1_piece_9 (by decide) (fun _ => ?_) (fun _ => ?_)
  · refine z_aload_n hC 0 dX1_piece_12 rfl rfl ?_
    refine z_iconst hC (1 : Int32) dX1_piece_13 (by decide) ?_
    refine z_callUv hC lmRX1_31 (ctX4_fail (vLa V) (vDa V) (vTg V) (vBs V) (vSa V) hp p0 (1 : Int32)) (by have := hLr; omega) hn0 dX1_piece_14 rfl rfl (Nat.le_of_ble_eq_true rfl) (fun w3 => ?_)
    refine z_lconst hC (0 : Int64) dX1_piece_17 (by decide) ?_
    exact z_lret hC (fun h => h) dX1_piece_18
  · refine z_iload_n hC 2 dX1_piece_19 rfl rfl ?_
    refine z_bipush hC (97 : Int32) dX1_piece_20 (by decide) ?_
    refine z_jn (A := Unit) (fun a4 => hp) (fun a4 => [(0, .ref p0), (2, .int v1)]) 37 (fun a4 => []) (fun a4 => ?_) (fun J5 hJ5 => ?_)
    · refine z_aload_n hC 0 dX1_piece_37 rfl rfl ?_
      refine z_dup hC dX1_piece_38 rfl ?_
      refine z_getI hC lgRX1_43 dX1_piece_39 (fun v6 => ?_)
      refine z_iconst hC (1 : Int32) dX1_piece_42 (by decide) ?_
      refine z_iadd hC dX1_piece_43 ?_
      refine z_putI hC lpRX1_43 dX1_piece_44 (fun hp7 => ?_)
      refine z_iload_n hC 1 dX1_piece_47 rfl rfl ?_
      refine z_bipush hC (97 : Int32) dX1_piece_48 (by decide) ?_
      refine z_icmp_lt hC 67 dX1_piece_50 (by decide) (fun _ => ?_) (fun _ => ?_)
      · refine z_bipush hC (48 : Int32) dX1_piece_67 (by decide) ?_
        refine z_iload_n hC 1 dX1_piece_69 rfl rfl ?_
        refine z_isub hC dX1_piece_70 ?_
        refine z_i2l hC dX1_piece_71 ?_
        exact z_lret hC (fun h => h) dX1_piece_72
      · refine z_iload_n hC 1 dX1_piece_53 rfl rfl ?_
        refine z_bipush hC (97 : Int32) dX1_piece_54 (by decide) ?_
        refine z_isub hC dX1_piece_56 ?_
        refine z_aload_n hC 0 dX1_piece_57 rfl rfl ?_
        refine z_getI hC lgRX1_15 dX1_piece_58 (fun v8 => ?_)
        refine z_callSl hC lmRX1_50 (ctX7_soWord (vLa V) (vDa V) (vTg V) (vBs V) (vSa V) hp7 (v1 - (97 : Int32)) v8) (by have := hLr; omega) hn0 dX1_piece_61 rfl rfl (Nat.le_of_ble_eq_true rfl) (fun v9 => ?_)
        refine z_goto hC 72 dX1_piece_64 (by decide) ?_
        exact z_lret hC (fun h => h) dX1_piece_72
    · refine z_icmp_ge hC 37 dX1_piece_22 (by decide) (fun _ => ?_) (fun _ => ?_)
      · refine z_weak [(0, .ref p0), (2, .int v1)] [0, 2] rfl ?_
        exact hJ5 ()
      · refine z_iload_n hC 2 dX1_piece_25 rfl rfl ?_
        refine z_bipush hC (48 : Int32) dX1_piece_26 (by decide) ?_
        refine z_icmp_eq hC 37 dX1_piece_28 (by decide) (fun _ => ?_) (fun _ => ?_)
        · refine z_weak [(0, .ref p0), (2, .int v1)] [0, 2] rfl ?_
          exact hJ5 ()
        · refine z_iload_n hC 2 dX1_piece_31 rfl rfl ?_
          refine z_bipush hC (49 : Int32) dX1_piece_32 (by decide) ?_
          refine z_icmp_ne hC 73 dX1_piece_34 (by decide) (fun _ => ?_) (fun _ => ?_)
          · refine z_weak [(0, .ref p0), (2, .int v1)] [0, 2] rfl ?_
            exact hJ5 ()
          · refine z_aload_n hC 0 dX1_piece_73 rfl rfl ?_
            refine z_iload_n hC 1 dX1_piece_74 rfl rfl ?_
            refine z_callUv hC lmRX1_56 (ctX4_open (vLa V) (vDa V) (vTg V) (vBs V) (vSa V) hp p0 p1) (by have := hLr; omega) hn0 dX1_piece_75 rfl rfl (Nat.le_of_ble_eq_true rfl) (fun w10 => ?_)
            refine z_aload_n hC 0 dX1_piece_78 rfl rfl ?_
            refine z_getI hC lgRX1_34 dX1_piece_79 (fun v11 => ?_)
            refine z_if_eq hC 87 dX1_piece_82 (by decide) (fun _ => ?_) (fun _ => ?_)
            · refine z_iload_n hC 2 dX1_piece_87 rfl rfl ?_
              refine z_bipush hC (33 : Int32) dX1_piece_88 (by decide) ?_
              refine z_icmp_ne hC 105 dX1_piece_90 (by decide) (fun _ => ?_) (fun _ => ?_)
              · refine z_aload_n hC 0 dX1_piece_93 rfl rfl ?_
                refine z_iload_n hC 1 dX1_piece_94 rfl rfl ?_
                refine z_iconst hC (1 : Int32) dX1_piece_95 (by decide) ?_
                refine z_iadd hC dX1_piece_96 ?_
                refine z_callVl hC (ci := 1) rfl lmRX1_37 (hrX1_piece w10 p0 (p1 + (1 : Int32))) (Nat.le_refl _) hn0 dX1_piece_97 rfl rfl (Nat.le_of_ble_eq_true rfl) (fun w12 => ?_)
                refine z_ldc2 hC (-1 : Int64) lcRX1_59 dX1_piece_100 ?_
                refine z_lxor hC dX1_piece_103 ?_
                exact z_lret hC (fun h => h) dX1_piece_104
              · refine z_iload_n hC 2 dX1_piece_105 rfl rfl ?_
                refine z_bipush hC (40 : Int32) dX1_piece_106 (by decide) ?_
                refine z_icmp_eq hC 123 dX1_piece_108 (by decide) (fun _ => ?_) (fun _ => ?_)
                · refine z_aload_n hC 0 dX1_piece_123 rfl rfl ?_
                  refine z_iload_n hC 1 dX1_piece_124 rfl rfl ?_
                  refine z_iconst hC (1 : Int32) dX1_piece_125 (by decide) ?_
                  refine z_iadd hC dX1_piece_126 ?_
                  refine z_callVl hC (ci := 1) rfl lmRX1_23 (hrX1_formula w10 p0 (p1 + (1 : Int32))) (Nat.le_refl _) hn0 dX1_piece_127 rfl rfl (Nat.le_of_ble_eq_true rfl) (fun w13 => ?_)
                  refine z_lstore_n hC [(0, .ref p0), (1, .int p1), (2, .int v1), (3, .long w13.1)] [1, 2, 3, 0] dX1_piece_130 rfl (by decide) rfl ?_
                  refine z_aload_n hC 0 dX1_piece_131 rfl rfl ?_
                  refine z_bipush hC (41 : Int32) dX1_piece_132 (by decide) ?_
                  refine z_callUv hC lmRX1_64 (ctX4_expect (vLa V) (vDa V) (vTg V) (vBs V) (vSa V) w13.2 p0 (41 : Int32)) (by have := hLr; omega) hn0 dX1_piece_134 rfl rfl (Nat.le_of_ble_eq_true rfl) (fun w14 => ?_)
                  refine z_lload_n hC 3 dX1_piece_137 rfl rfl ?_
                  exact z_lret hC (fun h => h) dX1_piece_138
                · refine z_aload_n hC 0 dX1_piece_111 rfl rfl ?_
                  refine z_iload_n hC 2 dX1_piece_112 rfl rfl ?_
                  refine z_bipush hC (48 : Int32) dX1_piece_113 (by decide) ?_
                  refine z_isub hC dX1_piece_115 ?_
                  refine z_iload_n hC 1 dX1_piece_116 rfl rfl ?_
                  refine z_iconst hC (1 : Int32) dX1_piece_117 (by decide) ?_
                  refine z_iadd hC dX1_piece_118 ?_
                  refine z_callVl hC (ci := 1) rfl lmRX1_61 (hrX1_soMany w10 p0 (v1 - (48 : Int32)) (p1 + (1 : Int32))) (Nat.le_refl _) hn0 dX1_piece_119 rfl rfl (Nat.le_of_ble_eq_true rfl) (fun w15 => ?_)
                  exact z_lret hC (fun h => h) dX1_piece_122
            · refine z_lconst hC (0 : Int64) dX1_piece_85 (by decide) ?_
              exact z_lret hC (fun h => h) dX1_piece_86
theorem dX1_soMany_0 : decode cX1_soMany 0 = .ok (.lconst 0, 1) := by decide +kernel
theorem dX1_soMany_1 : decode cX1_soMany 1 = .ok (.lstore_n 3, 1) := by decide +kernel
theorem dX1_soMany_2 : decode cX1_soMany 2 = .ok (.lconst 0, 1) := by decide +kernel
theorem dX1_soMany_3 : decode cX1_soMany 3 = .ok (.lstore 5, 2) := by decide +kernel
theorem dX1_soMany_5 : decode cX1_soMany 5 = .ok (.lconst 0, 1) := by decide +kernel
theorem dX1_soMany_6 : decode cX1_soMany 6 = .ok (.lstore 7, 2) := by decide +kernel
theorem dX1_soMany_8 : decode cX1_soMany 8 = .ok (.lconst 0, 1) := by decide +kernel
theorem dX1_soMany_9 : decode cX1_soMany 9 = .ok (.lstore 9, 2) := by decide +kernel
theorem dX1_soMany_11 : decode cX1_soMany 11 = .ok (.aload_n 0, 1) := by decide +kernel
theorem dX1_soMany_12 : decode cX1_soMany 12 = .ok (.bipush 40, 2) := by decide +kernel
theorem dX1_soMany_14 : decode cX1_soMany 14 = .ok (.invokevirtual 64, 3) := by decide +kernel
theorem dX1_soMany_17 : decode cX1_soMany 17 = .ok (.iconst 1, 1) := by decide +kernel
theorem dX1_soMany_18 : decode cX1_soMany 18 = .ok (.istore 11, 2) := by decide +kernel
theorem dX1_soMany_20 : decode cX1_soMany 20 = .ok (.iload 11, 2) := by decide +kernel
theorem dX1_soMany_22 : decode cX1_soMany 22 = .ok (.bipush 10, 2) := by decide +kernel
theorem dX1_soMany_24 : decode cX1_soMany 24 = .ok (.if_icmp .gt 113, 3) := by decide +kernel
theorem dX1_soMany_27 : decode cX1_soMany 27 = .ok (.aload_n 0, 1) := by decide +kernel
theorem dX1_soMany_28 : decode cX1_soMany 28 = .ok (.getfield 34, 3) := by decide +kernel
theorem dX1_soMany_31 : decode cX1_soMany 31 = .ok (.ifCond .ne 106, 3) := by decide +kernel
theorem dX1_soMany_34 : decode cX1_soMany 34 = .ok (.aload_n 0, 1) := by decide +kernel
theorem dX1_soMany_35 : decode cX1_soMany 35 = .ok (.iload_n 2, 1) := by decide +kernel
theorem dX1_soMany_36 : decode cX1_soMany 36 = .ok (.invokevirtual 23, 3) := by decide +kernel
theorem dX1_soMany_39 : decode cX1_soMany 39 = .ok (.lstore 12, 2) := by decide +kernel
theorem dX1_soMany_41 : decode cX1_soMany 41 = .ok (.lload_n 3, 1) := by decide +kernel
theorem dX1_soMany_42 : decode cX1_soMany 42 = .ok (.lload 12, 2) := by decide +kernel
theorem dX1_soMany_44 : decode cX1_soMany 44 = .ok (.land, 1) := by decide +kernel
theorem dX1_soMany_45 : decode cX1_soMany 45 = .ok (.lstore 14, 2) := by decide +kernel
theorem dX1_soMany_47 : decode cX1_soMany 47 = .ok (.lload_n 3, 1) := by decide +kernel
theorem dX1_soMany_48 : decode cX1_soMany 48 = .ok (.lload 12, 2) := by decide +kernel
theorem dX1_soMany_50 : decode cX1_soMany 50 = .ok (.lxor, 1) := by decide +kernel
theorem dX1_soMany_51 : decode cX1_soMany 51 = .ok (.lstore_n 3, 1) := by decide +kernel
theorem dX1_soMany_52 : decode cX1_soMany 52 = .ok (.lload 5, 2) := by decide +kernel
theorem dX1_soMany_54 : decode cX1_soMany 54 = .ok (.lload 14, 2) := by decide +kernel
theorem dX1_soMany_56 : decode cX1_soMany 56 = .ok (.land, 1) := by decide +kernel
theorem dX1_soMany_57 : decode cX1_soMany 57 = .ok (.lstore 16, 2) := by decide +kernel
theorem dX1_soMany_59 : decode cX1_soMany 59 = .ok (.lload 5, 2) := by decide +kernel
theorem dX1_soMany_61 : decode cX1_soMany 61 = .ok (.lload 14, 2) := by decide +kernel
theorem dX1_soMany_63 : decode cX1_soMany 63 = .ok (.lxor, 1) := by decide +kernel
theorem dX1_soMany_64 : decode cX1_soMany 64 = .ok (.lstore 5, 2) := by decide +kernel
theorem dX1_soMany_66 : decode cX1_soMany 66 = .ok (.lload 9, 2) := by decide +kernel
theorem dX1_soMany_68 : decode cX1_soMany 68 = .ok (.lload 7, 2) := by decide +kernel
theorem dX1_soMany_70 : decode cX1_soMany 70 = .ok (.lload 16, 2) := by decide +kernel
theorem dX1_soMany_72 : decode cX1_soMany 72 = .ok (.land, 1) := by decide +kernel
theorem dX1_soMany_73 : decode cX1_soMany 73 = .ok (.lxor, 1) := by decide +kernel
theorem dX1_soMany_74 : decode cX1_soMany 74 = .ok (.lstore 9, 2) := by decide +kernel
theorem dX1_soMany_76 : decode cX1_soMany 76 = .ok (.lload 7, 2) := by decide +kernel
theorem dX1_soMany_78 : decode cX1_soMany 78 = .ok (.lload 16, 2) := by decide +kernel
theorem dX1_soMany_80 : decode cX1_soMany 80 = .ok (.lxor, 1) := by decide +kernel
theorem dX1_soMany_81 : decode cX1_soMany 81 = .ok (.lstore 7, 2) := by decide +kernel
theorem dX1_soMany_83 : decode cX1_soMany 83 = .ok (.aload_n 0, 1) := by decide +kernel
theorem dX1_soMany_84 : decode cX1_soMany 84 = .ok (.invokevirtual 27, 3) := by decide +kernel
theorem dX1_soMany_87 : decode cX1_soMany 87 = .ok (.bipush 44, 2) := by decide +kernel
theorem dX1_soMany_89 : decode cX1_soMany 89 = .ok (.if_icmp .eq 6, 3) := by decide +kernel
theorem dX1_soMany_92 : decode cX1_soMany 92 = .ok (.goto 45, 3) := by decide +kernel
theorem dX1_soMany_95 : decode cX1_soMany 95 = .ok (.aload_n 0, 1) := by decide +kernel
theorem dX1_soMany_96 : decode cX1_soMany 96 = .ok (.dup, 1) := by decide +kernel
theorem dX1_soMany_97 : decode cX1_soMany 97 = .ok (.getfield 43, 3) := by decide +kernel
theorem dX1_soMany_100 : decode cX1_soMany 100 = .ok (.iconst 1, 1) := by decide +kernel
theorem dX1_soMany_101 : decode cX1_soMany 101 = .ok (.iadd, 1) := by decide +kernel
theorem dX1_soMany_102 : decode cX1_soMany 102 = .ok (.putfield 43, 3) := by decide +kernel
theorem dX1_soMany_105 : decode cX1_soMany 105 = .ok (.iload 11, 2) := by decide +kernel
theorem dX1_soMany_107 : decode cX1_soMany 107 = .ok (.bipush 10, 2) := by decide +kernel
theorem dX1_soMany_109 : decode cX1_soMany 109 = .ok (.if_icmp .ne 22, 3) := by decide +kernel
theorem dX1_soMany_112 : decode cX1_soMany 112 = .ok (.aload_n 0, 1) := by decide +kernel
theorem dX1_soMany_113 : decode cX1_soMany 113 = .ok (.aload_n 0, 1) := by decide +kernel
theorem dX1_soMany_114 : decode cX1_soMany 114 = .ok (.invokevirtual 27, 3) := by decide +kernel
theorem dX1_soMany_117 : decode cX1_soMany 117 = .ok (.invokestatic 46, 3) := by decide +kernel
theorem dX1_soMany_120 : decode cX1_soMany 120 = .ok (.ifCond .eq 7, 3) := by decide +kernel
theorem dX1_soMany_123 : decode cX1_soMany 123 = .ok (.iconst 4, 1) := by decide +kernel
theorem dX1_soMany_124 : decode cX1_soMany 124 = .ok (.goto 4, 3) := by decide +kernel
theorem dX1_soMany_127 : decode cX1_soMany 127 = .ok (.iconst 1, 1) := by decide +kernel
theorem dX1_soMany_128 : decode cX1_soMany 128 = .ok (.invokevirtual 31, 3) := by decide +kernel
theorem dX1_soMany_131 : decode cX1_soMany 131 = .ok (.iinc 11 1, 3) := by decide +kernel
theorem dX1_soMany_134 : decode cX1_soMany 134 = .ok (.goto (-114), 3) := by decide +kernel
theorem dX1_soMany_137 : decode cX1_soMany 137 = .ok (.aload_n 0, 1) := by decide +kernel
theorem dX1_soMany_138 : decode cX1_soMany 138 = .ok (.bipush 41, 2) := by decide +kernel
theorem dX1_soMany_140 : decode cX1_soMany 140 = .ok (.invokevirtual 64, 3) := by decide +kernel
theorem dX1_soMany_143 : decode cX1_soMany 143 = .ok (.ldc2_w 59, 3) := by decide +kernel
theorem dX1_soMany_146 : decode cX1_soMany 146 = .ok (.lstore 11, 2) := by decide +kernel
theorem dX1_soMany_148 : decode cX1_soMany 148 = .ok (.lconst 0, 1) := by decide +kernel
theorem dX1_soMany_149 : decode cX1_soMany 149 = .ok (.lstore 13, 2) := by decide +kernel
theorem dX1_soMany_151 : decode cX1_soMany 151 = .ok (.iconst 3, 1) := by decide +kernel
theorem dX1_soMany_152 : decode cX1_soMany 152 = .ok (.istore 15, 2) := by decide +kernel
theorem dX1_soMany_154 : decode cX1_soMany 154 = .ok (.iload 15, 2) := by decide +kernel
theorem dX1_soMany_156 : decode cX1_soMany 156 = .ok (.ifCond .lt 85, 3) := by decide +kernel
theorem dX1_soMany_159 : decode cX1_soMany 159 = .ok (.iload 15, 2) := by decide +kernel
theorem dX1_soMany_161 : decode cX1_soMany 161 = .ok (.iconst 3, 1) := by decide +kernel
theorem dX1_soMany_162 : decode cX1_soMany 162 = .ok (.if_icmp .ne 8, 3) := by decide +kernel
theorem dX1_soMany_165 : decode cX1_soMany 165 = .ok (.lload 9, 2) := by decide +kernel
theorem dX1_soMany_167 : decode cX1_soMany 167 = .ok (.goto 26, 3) := by decide +kernel
theorem dX1_soMany_170 : decode cX1_soMany 170 = .ok (.iload 15, 2) := by decide +kernel
theorem dX1_soMany_172 : decode cX1_soMany 172 = .ok (.iconst 2, 1) := by decide +kernel
theorem dX1_soMany_173 : decode cX1_soMany 173 = .ok (.if_icmp .ne 8, 3) := by decide +kernel
theorem dX1_soMany_176 : decode cX1_soMany 176 = .ok (.lload 7, 2) := by decide +kernel
theorem dX1_soMany_178 : decode cX1_soMany 178 = .ok (.goto 15, 3) := by decide +kernel
theorem dX1_soMany_181 : decode cX1_soMany 181 = .ok (.iload 15, 2) := by decide +kernel
theorem dX1_soMany_183 : decode cX1_soMany 183 = .ok (.iconst 1, 1) := by decide +kernel
theorem dX1_soMany_184 : decode cX1_soMany 184 = .ok (.if_icmp .ne 8, 3) := by decide +kernel
theorem dX1_soMany_187 : decode cX1_soMany 187 = .ok (.lload 5, 2) := by decide +kernel
theorem dX1_soMany_189 : decode cX1_soMany 189 = .ok (.goto 4, 3) := by decide +kernel
theorem dX1_soMany_192 : decode cX1_soMany 192 = .ok (.lload_n 3, 1) := by decide +kernel
theorem dX1_soMany_193 : decode cX1_soMany 193 = .ok (.lstore 16, 2) := by decide +kernel
theorem dX1_soMany_195 : decode cX1_soMany 195 = .ok (.iload_n 1, 1) := by decide +kernel
theorem dX1_soMany_196 : decode cX1_soMany 196 = .ok (.iload 15, 2) := by decide +kernel
theorem dX1_soMany_198 : decode cX1_soMany 198 = .ok (.ishr, 1) := by decide +kernel
theorem dX1_soMany_199 : decode cX1_soMany 199 = .ok (.iconst 1, 1) := by decide +kernel
theorem dX1_soMany_200 : decode cX1_soMany 200 = .ok (.iand, 1) := by decide +kernel
theorem dX1_soMany_201 : decode cX1_soMany 201 = .ok (.ifCond .ne 27, 3) := by decide +kernel
theorem dX1_soMany_204 : decode cX1_soMany 204 = .ok (.lload 13, 2) := by decide +kernel
theorem dX1_soMany_206 : decode cX1_soMany 206 = .ok (.lload 11, 2) := by decide +kernel
theorem dX1_soMany_208 : decode cX1_soMany 208 = .ok (.lload 16, 2) := by decide +kernel
theorem dX1_soMany_210 : decode cX1_soMany 210 = .ok (.land, 1) := by decide +kernel
theorem dX1_soMany_211 : decode cX1_soMany 211 = .ok (.lor, 1) := by decide +kernel
theorem dX1_soMany_212 : decode cX1_soMany 212 = .ok (.lstore 13, 2) := by decide +kernel
theorem dX1_soMany_214 : decode cX1_soMany 214 = .ok (.lload 11, 2) := by decide +kernel
theorem dX1_soMany_216 : decode cX1_soMany 216 = .ok (.lload 16, 2) := by decide +kernel
theorem dX1_soMany_218 : decode cX1_soMany 218 = .ok (.ldc2_w 59, 3) := by decide +kernel
theorem dX1_soMany_221 : decode cX1_soMany 221 = .ok (.lxor, 1) := by decide +kernel
theorem dX1_soMany_222 : decode cX1_soMany 222 = .ok (.land, 1) := by decide +kernel
theorem dX1_soMany_223 : decode cX1_soMany 223 = .ok (.lstore 11, 2) := by decide +kernel
theorem dX1_soMany_225 : decode cX1_soMany 225 = .ok (.goto 10, 3) := by decide +kernel
theorem dX1_soMany_228 : decode cX1_soMany 228 = .ok (.lload 11, 2) := by decide +kernel
theorem dX1_soMany_230 : decode cX1_soMany 230 = .ok (.lload 16, 2) := by decide +kernel
theorem dX1_soMany_232 : decode cX1_soMany 232 = .ok (.land, 1) := by decide +kernel
theorem dX1_soMany_233 : decode cX1_soMany 233 = .ok (.lstore 11, 2) := by decide +kernel
theorem dX1_soMany_235 : decode cX1_soMany 235 = .ok (.iinc 15 (-1), 3) := by decide +kernel
theorem dX1_soMany_238 : decode cX1_soMany 238 = .ok (.goto (-84), 3) := by decide +kernel
theorem dX1_soMany_241 : decode cX1_soMany 241 = .ok (.lload 13, 2) := by decide +kernel
theorem dX1_soMany_243 : decode cX1_soMany 243 = .ok (.lload 11, 2) := by decide +kernel
theorem dX1_soMany_245 : decode cX1_soMany 245 = .ok (.lor, 1) := by decide +kernel
theorem dX1_soMany_246 : decode cX1_soMany 246 = .ok (.lreturn, 1) := by decide +kernel
def FBX1_soMany (rX1_formula : HP → Nat → Int32 → Option (Int64 × HP)) (rX1_piece : HP → Nat → Int32 → Option (Int64 × HP)) (rX1_soMany : HP → Nat → Int32 → Int32 → Option (Int64 × HP)) (hp : HP) (p0 : Nat) (p1 : Int32) (p2 : Int32) : Option (Int64 × HP) := (rc [1] hp p0 (FX4_expect hp p0 (40 : Int32))).bind (fun w1 => (lp (fun (s2 : Int64 × Int64 × Int64 × Int64 × Int32 × HP) => if (10 : Int32) < s2.2.2.2.2.1 then some (Sum.inl (s2.1, s2.2.1, s2.2.2.1, s2.2.2.2.1, s2.2.2.2.2.2)) else (gI [1] 3 s2.2.2.2.2.2 p0).bind (fun v14 => if v14 = 0 then (rc [1] s2.2.2.2.2.2 p0 (rX1_formula s2.2.2.2.2.2 p0 p2)).bind (fun w15 => vl (s2.1 &&& w15.1) (fun x16 => vl (s2.1 ^^^ w15.1) (fun x17 => vl (s2.2.1 &&& x16) (fun x18 => vl (s2.2.1 ^^^ x16) (fun x19 => vl (s2.2.2.2.1 ^^^ (s2.2.2.1 &&& x18)) (fun x20 => vl (s2.2.2.1 ^^^ x18) (fun x21 => (rc [1] w15.2 p0 (FX4_here w15.2 p0)).bind (fun v22 => if v22 = (44 : Int32) then (gI [1] 2 w15.2 p0).bind (fun v23 => (sI [1] 2 w15.2 p0 (v23 + (1 : Int32))).bind (fun hp24 => if s2.2.2.2.2.1 = (10 : Int32) then (rc [1] hp24 p0 (FX4_here hp24 p0)).bind (fun v25 => (FX1_canBegin v25).bind (fun v26 => jn (A := Int32) (fun a27 => (rc [1] hp24 p0 (FX4_fail hp24 p0 a27)).bind (fun w29 => vl (s2.2.2.2.2.1 + (1 : Int32)) (fun x30 => some (Sum.inr (x17, x19, x21, x20, x30, w29))))) (fun J28 => if v26 = 0 then J28 (1 : Int32) else J28 (4 : Int32)))) else vl (s2.2.2.2.2.1 + (1 : Int32)) (fun x31 => some (Sum.inr (x17, x19, x21, x20, x31, hp24))))) else some (Sum.inl (x17, x19, x21, x20, w15.2)))))))))) else some (Sum.inl (s2.1, s2.2.1, s2.2.2.1, s2.2.2.2.1, s2.2.2.2.2.2)))) FU ((0 : Int64), (0 : Int64), (0 : Int64), (0 : Int64), (1 : Int32), w1)).bind (fun (y3 : Int64 × Int64 × Int64 × Int64 × HP) => (rc [1] y3.2.2.2.2 p0 (FX4_expect y3.2.2.2.2 p0 (41 : Int32))).bind (fun w4 => (lp (fun (s5 : Int64 × Int64 × Int32) => if s5.2.2 < 0 then some (Sum.inl (s5.1, s5.2.1)) else jn (A := Int64) (fun a7 => if ((p1 >>> (s5.2.2 &&& 31)) &&& (1 : Int32)) = 0 then vl (s5.2.1 ||| (s5.1 &&& a7)) (fun x9 => vl (s5.1 &&& (a7 ^^^ (-1 : Int64))) (fun x10 => vl (s5.2.2 + (-1 : Int32)) (fun x11 => some (Sum.inr (x10, x9, x11))))) else vl (s5.1 &&& a7) (fun x12 => vl (s5.2.2 + (-1 : Int32)) (fun x13 => some (Sum.inr (x12, s5.2.1, x13))))) (fun J8 => if s5.2.2 = (3 : Int32) then J8 y3.2.2.2.1 else if s5.2.2 = (2 : Int32) then J8 y3.2.2.1 else if s5.2.2 = (1 : Int32) then J8 y3.2.1 else J8 y3.1)) FU ((-1 : Int64), (0 : Int64), (3 : Int32))).bind (fun (y6 : Int64 × Int64) => some ((y6.2 ||| y6.1), w4)))))
set_option maxHeartbeats 4000000 in
set_option maxRecDepth 100000 in
theorem cbX1_soMany (l : Launch) (D : va_G) (tg : Nat → ClassId) (bs : Nat) (sa : Nat → Nat) (rX1_formula : HP → Nat → Int32 → Option (Int64 × HP)) (rX1_piece : HP → Nat → Int32 → Option (Int64 × HP)) (rX1_soMany : HP → Nat → Int32 → Int32 → Option (Int64 × HP)) (Lr : Nat) (hLr : 2 ≤ Lr) (hrX1_formula : ∀ (hp : HP) (p0 : Nat) (p1 : Int32), Ct l D tg bs sa yX1_formula cX1_formula 12 (some .long) Lr [.ref p0, .int p1] hp (rX1_formula hp p0 p1) (fun r => some (.long r.1)) (fun r => r.2)) (hrX1_piece : ∀ (hp : HP) (p0 : Nat) (p1 : Int32), Ct l D tg bs sa yX1_piece cX1_piece 5 (some .long) Lr [.ref p0, .int p1] hp (rX1_piece hp p0 p1) (fun r => some (.long r.1)) (fun r => r.2)) (hrX1_soMany : ∀ (hp : HP) (p0 : Nat) (p1 : Int32) (p2 : Int32), Ct l D tg bs sa yX1_soMany cX1_soMany 18 (some .long) Lr [.ref p0, .int p1, .int p2] hp (rX1_soMany hp p0 p1 p2) (fun r => some (.long r.1)) (fun r => r.2)) (hp : HP) (p0 : Nat) (p1 : Int32) (p2 : Int32) : Ct l D tg bs sa yX1_soMany cX1_soMany 18 (some .long) (Lr + 1) [.ref p0, .int p1, .int p2] hp (FBX1_soMany rX1_formula rX1_piece rX1_soMany hp p0 p1 p2) (fun r => some (.long r.1)) (fun r => r.2) := by
  refine Ct.of (by decide) (Nat.le_of_ble_eq_true rfl) ?_
  intro V Q hVl hVd hVt hVb hVs hC
  subst hVl; subst hVd; subst hVt; subst hVb; subst hVs
  unfold FBX1_soMany
  show Zs V Q (0, 0) 18 _ _ hp [(0, .ref p0), (1, .int p1), (2, .int p2)] 0 []
  refine z_lconst hC (0 : Int64) dX1_soMany_0 (by decide) ?_
  refine z_lstore_n hC [(0, .ref p0), (1, .int p1), (2, .int p2), (3, .long (0 : Int64))] [1, 2, 3, 0] dX1_soMany_1 rfl (by decide) rfl ?_
  refine z_lconst hC (0 : Int64) dX1_soMany_2 (by decide) ?_
  refine z_lstore hC [(0, .ref p0), (1, .int p1), (2, .int p2), (3, .long (0 : Int64)), (5, .long (0 : Int64))] [1, 2, 3, 4, 0] dX1_soMany_3 (by decide) rfl ?_
  refine z_lconst hC (0 : Int64) dX1_soMany_5 (by decide) ?_
  refine z_lstore hC [(0, .ref p0), (1, .int p1), (2, .int p2), (3, .long (0 : Int64)), (5, .long (0 : Int64)), (7, .long (0 : Int64))] [1, 2, 3, 4, 5, 0] dX1_soMany_6 (by decide) rfl ?_
  refine z_lconst hC (0 : Int64) dX1_soMany_8 (by decide) ?_
  refine z_lstore hC [(0, .ref p0), (1, .int p1), (2, .int p2), (3, .long (0 : Int64)), (5, .long (0 : Int64)), (7, .long (0 : Int64)), (9, .long (0 : Int64))] [1, 2, 3, 4, 5, 6, 0] dX1_soMany_9 (by decide) rfl ?_
  refine z_aload_n hC 0 dX1_soMany_11 rfl rfl ?_
  refine z_bipush hC (40 : Int32) dX1_soMany_12 (by decide) ?_
  refine z_callUv hC lmRX1_64 (ctX4_expect (vLa V) (vDa V) (vTg V) (vBs V) (vSa V) hp p0 (40 : Int32)) (by have := hLr; omega) hn0 dX1_soMany_14 rfl rfl (Nat.le_of_ble_eq_true rfl) (fun w1 => ?_)
  refine z_iconst hC (1 : Int32) dX1_soMany_17 (by decide) ?_
  refine z_istore hC [(0, .ref p0), (1, .int p1), (2, .int p2), (3, .long (0 : Int64)), (5, .long (0 : Int64)), (7, .long (0 : Int64)), (9, .long (0 : Int64)), (11, .int (1 : Int32))] [1, 2, 3, 4, 5, 6, 7, 0] dX1_soMany_18 (by decide) rfl ?_
  refine z_lp (S := Int64 × Int64 × Int64 × Int64 × Int32 × HP) (Y := Int64 × Int64 × Int64 × Int64 × HP) (fun s2 => s2.2.2.2.2.2) (fun s2 => [(0, .ref p0), (1, .int p1), (2, .int p2), (3, .long s2.1), (5, .long s2.2.1), (7, .long s2.2.2.1), (9, .long s2.2.2.2.1), (11, .int s2.2.2.2.2.1)]) (fun y3 => y3.2.2.2.2) (fun y3 => [(0, .ref p0), (1, .int p1), (3, .long y3.1), (5, .long y3.2.1), (7, .long y3.2.2.1), (9, .long y3.2.2.2.1)]) 137 [] (fun y3 => ?_) (fun s2 => ?_) rfl rfl
  · refine z_aload_n hC 0 dX1_soMany_137 rfl rfl ?_
    refine z_bipush hC (41 : Int32) dX1_soMany_138 (by decide) ?_
    refine z_callUv hC lmRX1_64 (ctX4_expect (vLa V) (vDa V) (vTg V) (vBs V) (vSa V) y3.2.2.2.2 p0 (41 : Int32)) (by have := hLr; omega) hn0 dX1_soMany_140 rfl rfl (Nat.le_of_ble_eq_true rfl) (fun w4 => ?_)
    refine z_ldc2 hC (-1 : Int64) lcRX1_59 dX1_soMany_143 ?_
    refine z_lstore hC [(0, .ref p0), (1, .int p1), (3, .long y3.1), (5, .long y3.2.1), (7, .long y3.2.2.1), (9, .long y3.2.2.2.1), (11, .long (-1 : Int64))] [1, 2, 3, 4, 5, 6, 0] dX1_soMany_146 (by decide) rfl ?_
    refine z_lconst hC (0 : Int64) dX1_soMany_148 (by decide) ?_
    refine z_lstore hC [(0, .ref p0), (1, .int p1), (3, .long y3.1), (5, .long y3.2.1), (7, .long y3.2.2.1), (9, .long y3.2.2.2.1), (11, .long (-1 : Int64)), (13, .long (0 : Int64))] [1, 2, 3, 4, 5, 6, 7, 0] dX1_soMany_149 (by decide) rfl ?_
    refine z_iconst hC (3 : Int32) dX1_soMany_151 (by decide) ?_
    refine z_istore hC [(0, .ref p0), (1, .int p1), (3, .long y3.1), (5, .long y3.2.1), (7, .long y3.2.2.1), (9, .long y3.2.2.2.1), (11, .long (-1 : Int64)), (13, .long (0 : Int64)), (15, .int (3 : Int32))] [1, 2, 3, 4, 5, 6, 7, 8, 0] dX1_soMany_152 (by decide) rfl ?_
    refine z_weak [(1, .int p1), (3, .long y3.1), (5, .long y3.2.1), (7, .long y3.2.2.1), (9, .long y3.2.2.2.1), (11, .long (-1 : Int64)), (13, .long (0 : Int64)), (15, .int (3 : Int32))] [1, 2, 3, 4, 5, 6, 7, 8] rfl ?_
    refine z_lp (S := Int64 × Int64 × Int32) (Y := Int64 × Int64) (fun s5 => w4) (fun s5 => [(1, .int p1), (3, .long y3.1), (5, .long y3.2.1), (7, .long y3.2.2.1), (9, .long y3.2.2.2.1), (11, .long s5.1), (13, .long s5.2.1), (15, .int s5.2.2)]) (fun y6 => w4) (fun y6 => [(11, .long y6.1), (13, .long y6.2)]) 241 [] (fun y6 => ?_) (fun s5 => ?_) rfl rfl
    · refine z_lload hC 1 dX1_soMany_241 rfl ?_
      refine z_lload hC 0 dX1_soMany_243 rfl ?_
      refine z_lor hC dX1_soMany_245 ?_
      exact z_lret hC (fun h => h) dX1_soMany_246
    · refine z_iload hC 7 dX1_soMany_154 rfl ?_
      refine z_if_lt hC 241 dX1_soMany_156 (by decide) (fun _ => ?_) (fun _ => ?_)
      · refine z_weak [(11, .long s5.1), (13, .long s5.2.1)] [5, 6] rfl ?_
        exact z_leaf (fun h => h)
      · refine z_iload hC 7 dX1_soMany_159 rfl ?_
        refine z_iconst hC (3 : Int32) dX1_soMany_161 (by decide) ?_
        refine z_jn (A := Int64) (fun a7 => w4) (fun a7 => [(1, .int p1), (3, .long y3.1), (5, .long y3.2.1), (7, .long y3.2.2.1), (9, .long y3.2.2.2.1), (11, .long s5.1), (13, .long s5.2.1), (15, .int s5.2.2)]) 193 (fun a7 => [.long a7]) (fun a7 => ?_) (fun J8 hJ8 => ?_)
        · refine z_lstore hC [(1, .int p1), (3, .long y3.1), (5, .long y3.2.1), (7, .long y3.2.2.1), (9, .long y3.2.2.2.1), (11, .long s5.1), (13, .long s5.2.1), (15, .int s5.2.2), (16, .long a7)] [1, 2, 3, 4, 5, 6, 7, 8, 0] dX1_soMany_193 (by decide) rfl ?_
          refine z_iload_n hC 0 dX1_soMany_195 rfl rfl ?_
          refine z_iload hC 7 dX1_soMany_196 rfl ?_
          refine z_ishr hC dX1_soMany_198 ?_
          refine z_iconst hC (1 : Int32) dX1_soMany_199 (by decide) ?_
          refine z_iand hC dX1_soMany_200 ?_
          refine z_if_ne hC 228 dX1_soMany_201 (by decide) (fun _ => ?_) (fun _ => ?_)
          · refine z_lload hC 6 dX1_soMany_204 rfl ?_
            refine z_lload hC 5 dX1_soMany_206 rfl ?_
            refine z_lload hC 8 dX1_soMany_208 rfl ?_
            refine z_land hC dX1_soMany_210 ?_
            refine z_lor hC dX1_soMany_211 ?_
            refine z_vll (fun x9 => ?_)
            refine z_lstore hC [(1, .int p1), (3, .long y3.1), (5, .long y3.2.1), (7, .long y3.2.2.1), (9, .long y3.2.2.2.1), (11, .long s5.1), (13, .long x9), (15, .int s5.2.2), (16, .long a7)] [1, 2, 3, 4, 5, 6, 0, 7, 8] dX1_soMany_212 (by decide) rfl ?_
            refine z_lload hC 5 dX1_soMany_214 rfl ?_
            refine z_lload hC 8 dX1_soMany_216 rfl ?_
            refine z_ldc2 hC (-1 : Int64) lcRX1_59 dX1_soMany_218 ?_
            refine z_lxor hC dX1_soMany_221 ?_
            refine z_land hC dX1_soMany_222 ?_
            refine z_vll (fun x10 => ?_)
            refine z_lstore hC [(1, .int p1), (3, .long y3.1), (5, .long y3.2.1), (7, .long y3.2.2.1), (9, .long y3.2.2.2.1), (11, .long x10), (13, .long x9), (15, .int s5.2.2), (16, .long a7)] [1, 2, 3, 4, 5, 0, 6, 7, 8] dX1_soMany_223 (by decide) rfl ?_
            refine z_goto hC 235 dX1_soMany_225 (by decide) ?_
            refine z_iincv hC (-1 : Int32) 7 (fun x11 => [(1, .int p1), (3, .long y3.1), (5, .long y3.2.1), (7, .long y3.2.2.1), (9, .long y3.2.2.2.1), (11, .long x10), (13, .long x9), (15, .int x11), (16, .long a7)]) [1, 2, 3, 4, 5, 6, 7, 0, 8] dX1_soMany_235 rfl (by decide) (by decide) (fun _ => rfl) (fun x11 => ?_)
            refine z_goto hC 154 dX1_soMany_238 (by decide) ?_
            refine z_weak [(1, .int p1), (3, .long y3.1), (5, .long y3.2.1), (7, .long y3.2.2.1), (9, .long y3.2.2.2.1), (11, .long x10), (13, .long x9), (15, .int x11)] [0, 1, 2, 3, 4, 5, 6, 7] rfl ?_
            exact z_leaf (fun h => h)
          · refine z_lload hC 5 dX1_soMany_228 rfl ?_
            refine z_lload hC 8 dX1_soMany_230 rfl ?_
            refine z_land hC dX1_soMany_232 ?_
            refine z_vll (fun x12 => ?_)
            refine z_lstore hC [(1, .int p1), (3, .long y3.1), (5, .long y3.2.1), (7, .long y3.2.2.1), (9, .long y3.2.2.2.1), (11, .long x12), (13, .long s5.2.1), (15, .int s5.2.2), (16, .long a7)] [1, 2, 3, 4, 5, 0, 6, 7, 8] dX1_soMany_233 (by decide) rfl ?_
            refine z_iincv hC (-1 : Int32) 7 (fun x13 => [(1, .int p1), (3, .long y3.1), (5, .long y3.2.1), (7, .long y3.2.2.1), (9, .long y3.2.2.2.1), (11, .long x12), (13, .long s5.2.1), (15, .int x13), (16, .long a7)]) [1, 2, 3, 4, 5, 6, 7, 0, 8] dX1_soMany_235 rfl (by decide) (by decide) (fun _ => rfl) (fun x13 => ?_)
            refine z_goto hC 154 dX1_soMany_238 (by decide) ?_
            refine z_weak [(1, .int p1), (3, .long y3.1), (5, .long y3.2.1), (7, .long y3.2.2.1), (9, .long y3.2.2.2.1), (11, .long x12), (13, .long s5.2.1), (15, .int x13)] [0, 1, 2, 3, 4, 5, 6, 7] rfl ?_
            exact z_leaf (fun h => h)
        · refine z_icmp_ne hC 170 dX1_soMany_162 (by decide) (fun _ => ?_) (fun _ => ?_)
          · refine z_lload hC 4 dX1_soMany_165 rfl ?_
            refine z_goto hC 193 dX1_soMany_167 (by decide) ?_
            exact hJ8 y3.2.2.2.1
          · refine z_iload hC 7 dX1_soMany_170 rfl ?_
            refine z_iconst hC (2 : Int32) dX1_soMany_172 (by decide) ?_
            refine z_icmp_ne hC 181 dX1_soMany_173 (by decide) (fun _ => ?_) (fun _ => ?_)
            · refine z_lload hC 3 dX1_soMany_176 rfl ?_
              refine z_goto hC 193 dX1_soMany_178 (by decide) ?_
              exact hJ8 y3.2.2.1
            · refine z_iload hC 7 dX1_soMany_181 rfl ?_
              refine z_iconst hC (1 : Int32) dX1_soMany_183 (by decide) ?_
              refine z_icmp_ne hC 192 dX1_soMany_184 (by decide) (fun _ => ?_) (fun _ => ?_)
              · refine z_lload hC 2 dX1_soMany_187 rfl ?_
                refine z_goto hC 193 dX1_soMany_189 (by decide) ?_
                exact hJ8 y3.2.1
              · refine z_lload_n hC 1 dX1_soMany_192 rfl rfl ?_
                exact hJ8 y3.1
  · refine z_iload hC 7 dX1_soMany_20 rfl ?_
    refine z_bipush hC (10 : Int32) dX1_soMany_22 (by decide) ?_
    refine z_icmp_gt hC 137 dX1_soMany_24 (by decide) (fun _ => ?_) (fun _ => ?_)
    · refine z_weak [(0, .ref p0), (1, .int p1), (3, .long s2.1), (5, .long s2.2.1), (7, .long s2.2.2.1), (9, .long s2.2.2.2.1)] [0, 1, 3, 4, 5, 6] rfl ?_
      exact z_leaf (fun h => h)
    · refine z_aload_n hC 0 dX1_soMany_27 rfl rfl ?_
      refine z_getI hC lgRX1_34 dX1_soMany_28 (fun v14 => ?_)
      refine z_if_ne hC 137 dX1_soMany_31 (by decide) (fun _ => ?_) (fun _ => ?_)
      · refine z_aload_n hC 0 dX1_soMany_34 rfl rfl ?_
        refine z_iload_n hC 2 dX1_soMany_35 rfl rfl ?_
        refine z_callVl hC (ci := 1) rfl lmRX1_23 (hrX1_formula s2.2.2.2.2.2 p0 p2) (Nat.le_refl _) hn0 dX1_soMany_36 rfl rfl (Nat.le_of_ble_eq_true rfl) (fun w15 => ?_)
        refine z_lstore hC [(0, .ref p0), (1, .int p1), (2, .int p2), (3, .long s2.1), (5, .long s2.2.1), (7, .long s2.2.2.1), (9, .long s2.2.2.2.1), (11, .int s2.2.2.2.2.1), (12, .long w15.1)] [1, 2, 3, 4, 5, 6, 7, 8, 0] dX1_soMany_39 (by decide) rfl ?_
        refine z_lload_n hC 3 dX1_soMany_41 rfl rfl ?_
        refine z_lload hC 8 dX1_soMany_42 rfl ?_
        refine z_land hC dX1_soMany_44 ?_
        refine z_vll (fun x16 => ?_)
        refine z_lstore hC [(0, .ref p0), (1, .int p1), (2, .int p2), (3, .long s2.1), (5, .long s2.2.1), (7, .long s2.2.2.1), (9, .long s2.2.2.2.1), (11, .int s2.2.2.2.2.1), (12, .long w15.1), (14, .long x16)] [1, 2, 3, 4, 5, 6, 7, 8, 9, 0] dX1_soMany_45 (by decide) rfl ?_
        refine z_lload_n hC 3 dX1_soMany_47 rfl rfl ?_
        refine z_lload hC 8 dX1_soMany_48 rfl ?_
        refine z_lxor hC dX1_soMany_50 ?_
        refine z_vll (fun x17 => ?_)
        refine z_lstore_n hC [(0, .ref p0), (1, .int p1), (2, .int p2), (3, .long x17), (5, .long s2.2.1), (7, .long s2.2.2.1), (9, .long s2.2.2.2.1), (11, .int s2.2.2.2.2.1), (12, .long w15.1), (14, .long x16)] [1, 2, 3, 0, 4, 5, 6, 7, 8, 9] dX1_soMany_51 rfl (by decide) rfl ?_
        refine z_lload hC 4 dX1_soMany_52 rfl ?_
        refine z_lload hC 9 dX1_soMany_54 rfl ?_
        refine z_land hC dX1_soMany_56 ?_
        refine z_vll (fun x18 => ?_)
        refine z_lstore hC [(0, .ref p0), (1, .int p1), (2, .int p2), (3, .long x17), (5, .long s2.2.1), (7, .long s2.2.2.1), (9, .long s2.2.2.2.1), (11, .int s2.2.2.2.2.1), (12, .long w15.1), (14, .long x16), (16, .long x18)] [1, 2, 3, 4, 5, 6, 7, 8, 9, 10, 0] dX1_soMany_57 (by decide) rfl ?_
        refine z_lload hC 4 dX1_soMany_59 rfl ?_
        refine z_lload hC 9 dX1_soMany_61 rfl ?_
        refine z_lxor hC dX1_soMany_63 ?_
        refine z_vll (fun x19 => ?_)
        refine z_lstore hC [(0, .ref p0), (1, .int p1), (2, .int p2), (3, .long x17), (5, .long x19), (7, .long s2.2.2.1), (9, .long s2.2.2.2.1), (11, .int s2.2.2.2.2.1), (12, .long w15.1), (14, .long x16), (16, .long x18)] [1, 2, 3, 4, 0, 5, 6, 7, 8, 9, 10] dX1_soMany_64 (by decide) rfl ?_
        refine z_lload hC 6 dX1_soMany_66 rfl ?_
        refine z_lload hC 5 dX1_soMany_68 rfl ?_
        refine z_lload hC 10 dX1_soMany_70 rfl ?_
        refine z_land hC dX1_soMany_72 ?_
        refine z_lxor hC dX1_soMany_73 ?_
        refine z_vll (fun x20 => ?_)
        refine z_lstore hC [(0, .ref p0), (1, .int p1), (2, .int p2), (3, .long x17), (5, .long x19), (7, .long s2.2.2.1), (9, .long x20), (11, .int s2.2.2.2.2.1), (12, .long w15.1), (14, .long x16), (16, .long x18)] [1, 2, 3, 4, 5, 6, 0, 7, 8, 9, 10] dX1_soMany_74 (by decide) rfl ?_
        refine z_lload hC 5 dX1_soMany_76 rfl ?_
        refine z_lload hC 10 dX1_soMany_78 rfl ?_
        refine z_lxor hC dX1_soMany_80 ?_
        refine z_vll (fun x21 => ?_)
        refine z_lstore hC [(0, .ref p0), (1, .int p1), (2, .int p2), (3, .long x17), (5, .long x19), (7, .long x21), (9, .long x20), (11, .int s2.2.2.2.2.1), (12, .long w15.1), (14, .long x16), (16, .long x18)] [1, 2, 3, 4, 5, 0, 6, 7, 8, 9, 10] dX1_soMany_81 (by decide) rfl ?_
        refine z_aload_n hC 0 dX1_soMany_83 rfl rfl ?_
        refine z_callUi hC lmRX1_27 (ctX4_here (vLa V) (vDa V) (vTg V) (vBs V) (vSa V) w15.2 p0) (by have := hLr; omega) hn0 dX1_soMany_84 rfl rfl (Nat.le_of_ble_eq_true rfl) (fun v22 => ?_)
        refine z_bipush hC (44 : Int32) dX1_soMany_87 (by decide) ?_
        refine z_icmp_eq hC 95 dX1_soMany_89 (by decide) (fun _ => ?_) (fun _ => ?_)
        · refine z_aload_n hC 0 dX1_soMany_95 rfl rfl ?_
          refine z_dup hC dX1_soMany_96 rfl ?_
          refine z_getI hC lgRX1_43 dX1_soMany_97 (fun v23 => ?_)
          refine z_iconst hC (1 : Int32) dX1_soMany_100 (by decide) ?_
          refine z_iadd hC dX1_soMany_101 ?_
          refine z_putI hC lpRX1_43 dX1_soMany_102 (fun hp24 => ?_)
          refine z_iload hC 7 dX1_soMany_105 rfl ?_
          refine z_bipush hC (10 : Int32) dX1_soMany_107 (by decide) ?_
          refine z_icmp_ne hC 131 dX1_soMany_109 (by decide) (fun _ => ?_) (fun _ => ?_)
          · refine z_aload_n hC 0 dX1_soMany_112 rfl rfl ?_
            refine z_aload_n hC 0 dX1_soMany_113 rfl rfl ?_
            refine z_callUi hC lmRX1_27 (ctX4_here (vLa V) (vDa V) (vTg V) (vBs V) (vSa V) hp24 p0) (by have := hLr; omega) hn0 dX1_soMany_114 rfl rfl (Nat.le_of_ble_eq_true rfl) (fun v25 => ?_)
            refine z_callSi hC lmRX1_46 (ctX1_canBegin (vLa V) (vDa V) (vTg V) (vBs V) (vSa V) hp24 v25) (by have := hLr; omega) hn0 dX1_soMany_117 rfl rfl (Nat.le_of_ble_eq_true rfl) (fun v26 => ?_)
            refine z_jn (A := Int32) (fun a27 => hp24) (fun a27 => [(0, .ref p0), (1, .int p1), (2, .int p2), (3, .long x17), (5, .long x19), (7, .long x21), (9, .long x20), (11, .int s2.2.2.2.2.1)]) 128 (fun a27 => [.int a27, .ref p0]) (fun a27 => ?_) (fun J28 hJ28 => ?_)
            · refine z_callUv hC lmRX1_31 (ctX4_fail (vLa V) (vDa V) (vTg V) (vBs V) (vSa V) hp24 p0 a27) (by have := hLr; omega) hn0 dX1_soMany_128 rfl rfl (Nat.le_of_ble_eq_true rfl) (fun w29 => ?_)
              refine z_iincv hC (1 : Int32) 7 (fun x30 => [(0, .ref p0), (1, .int p1), (2, .int p2), (3, .long x17), (5, .long x19), (7, .long x21), (9, .long x20), (11, .int x30)]) [1, 2, 3, 4, 5, 6, 7, 0] dX1_soMany_131 rfl (by decide) (by decide) (fun _ => rfl) (fun x30 => ?_)
              refine z_goto hC 20 dX1_soMany_134 (by decide) ?_
              exact z_leaf (fun h => h)
            · refine z_if_eq hC 127 dX1_soMany_120 (by decide) (fun _ => ?_) (fun _ => ?_)
              · refine z_iconst hC (1 : Int32) dX1_soMany_127 (by decide) ?_
                refine z_weak [(0, .ref p0), (1, .int p1), (2, .int p2), (3, .long x17), (5, .long x19), (7, .long x21), (9, .long x20), (11, .int s2.2.2.2.2.1)] [0, 1, 2, 3, 4, 5, 6, 7] rfl ?_
                exact hJ28 (1 : Int32)
              · refine z_iconst hC (4 : Int32) dX1_soMany_123 (by decide) ?_
                refine z_goto hC 128 dX1_soMany_124 (by decide) ?_
                refine z_weak [(0, .ref p0), (1, .int p1), (2, .int p2), (3, .long x17), (5, .long x19), (7, .long x21), (9, .long x20), (11, .int s2.2.2.2.2.1)] [0, 1, 2, 3, 4, 5, 6, 7] rfl ?_
                exact hJ28 (4 : Int32)
          · refine z_iincv hC (1 : Int32) 7 (fun x31 => [(0, .ref p0), (1, .int p1), (2, .int p2), (3, .long x17), (5, .long x19), (7, .long x21), (9, .long x20), (11, .int x31), (12, .long w15.1), (14, .long x16), (16, .long x18)]) [1, 2, 3, 4, 5, 6, 7, 0, 8, 9, 10] dX1_soMany_131 rfl (by decide) (by decide) (fun _ => rfl) (fun x31 => ?_)
            refine z_goto hC 20 dX1_soMany_134 (by decide) ?_
            refine z_weak [(0, .ref p0), (1, .int p1), (2, .int p2), (3, .long x17), (5, .long x19), (7, .long x21), (9, .long x20), (11, .int x31)] [0, 1, 2, 3, 4, 5, 6, 7] rfl ?_
            exact z_leaf (fun h => h)
        · refine z_goto hC 137 dX1_soMany_92 (by decide) ?_
          refine z_weak [(0, .ref p0), (1, .int p1), (3, .long x17), (5, .long x19), (7, .long x21), (9, .long x20)] [0, 1, 3, 4, 5, 6] rfl ?_
          exact z_leaf (fun h => h)
      · refine z_weak [(0, .ref p0), (1, .int p1), (3, .long s2.1), (5, .long s2.2.1), (7, .long s2.2.2.1), (9, .long s2.2.2.2.1)] [0, 1, 3, 4, 5, 6] rfl ?_
        exact z_leaf (fun h => h)
def FGFO : Nat → (HP → Nat → Int32 → Option (Int64 × HP)) × (HP → Nat → Int32 → Option (Int64 × HP)) × (HP → Nat → Int32 → Int32 → Option (Int64 × HP))
  | 0 => ((fun _ _ _ => none), (fun _ _ _ => none), (fun _ _ _ _ => none))
  | d + 1 => (FBX1_formula (FGFO d).1 (FGFO d).2.1 (FGFO d).2.2, FBX1_piece (FGFO d).1 (FGFO d).2.1 (FGFO d).2.2, FBX1_soMany (FGFO d).1 (FGFO d).2.1 (FGFO d).2.2)
def FX1_formula (d : Nat) : HP → Nat → Int32 → Option (Int64 × HP) := (FGFO d).1
def FX1_piece (d : Nat) : HP → Nat → Int32 → Option (Int64 × HP) := (FGFO d).2.1
def FX1_soMany (d : Nat) : HP → Nat → Int32 → Int32 → Option (Int64 × HP) := (FGFO d).2.2
theorem cgFO (l : Launch) (D : va_G) (tg : Nat → ClassId) (bs : Nat) (sa : Nat → Nat) : ∀ d : Nat, (∀ (hp : HP) (p0 : Nat) (p1 : Int32), Ct l D tg bs sa yX1_formula cX1_formula 12 (some .long) (2 + d) [.ref p0, .int p1] hp (FX1_formula d hp p0 p1) (fun r => some (.long r.1)) (fun r => r.2)) ∧ (∀ (hp : HP) (p0 : Nat) (p1 : Int32), Ct l D tg bs sa yX1_piece cX1_piece 5 (some .long) (2 + d) [.ref p0, .int p1] hp (FX1_piece d hp p0 p1) (fun r => some (.long r.1)) (fun r => r.2)) ∧ (∀ (hp : HP) (p0 : Nat) (p1 : Int32) (p2 : Int32), Ct l D tg bs sa yX1_soMany cX1_soMany 18 (some .long) (2 + d) [.ref p0, .int p1, .int p2] hp (FX1_soMany d hp p0 p1 p2) (fun r => some (.long r.1)) (fun r => r.2)) := by
  intro d
  induction d with
  | zero => exact ⟨(fun hp _ _ x hx => by cases hx), (fun hp _ _ x hx => by cases hx), (fun hp _ _ _ x hx => by cases hx)⟩
  | succ d ih =>
    exact ⟨cbX1_formula l D tg bs sa (FX1_formula d) (FX1_piece d) (FX1_soMany d) (2 + d) (Nat.le_add_right _ _) ih.1 ih.2.1 ih.2.2, cbX1_piece l D tg bs sa (FX1_formula d) (FX1_piece d) (FX1_soMany d) (2 + d) (Nat.le_add_right _ _) ih.1 ih.2.1 ih.2.2, cbX1_soMany l D tg bs sa (FX1_formula d) (FX1_piece d) (FX1_soMany d) (2 + d) (Nat.le_add_right _ _) ih.1 ih.2.1 ih.2.2⟩
theorem ctX1_formula (l : Launch) (D : va_G) (tg : Nat → ClassId) (bs : Nat) (sa : Nat → Nat) (d : Nat) (hp : HP) (p0 : Nat) (p1 : Int32) : Ct l D tg bs sa yX1_formula cX1_formula 12 (some .long) (2 + d) [.ref p0, .int p1] hp (FX1_formula d hp p0 p1) (fun r => some (.long r.1)) (fun r => r.2) := (cgFO l D tg bs sa d).1 hp p0 p1
theorem ctX1_piece (l : Launch) (D : va_G) (tg : Nat → ClassId) (bs : Nat) (sa : Nat → Nat) (d : Nat) (hp : HP) (p0 : Nat) (p1 : Int32) : Ct l D tg bs sa yX1_piece cX1_piece 5 (some .long) (2 + d) [.ref p0, .int p1] hp (FX1_piece d hp p0 p1) (fun r => some (.long r.1)) (fun r => r.2) := (cgFO l D tg bs sa d).2.1 hp p0 p1
theorem ctX1_soMany (l : Launch) (D : va_G) (tg : Nat → ClassId) (bs : Nat) (sa : Nat → Nat) (d : Nat) (hp : HP) (p0 : Nat) (p1 : Int32) (p2 : Int32) : Ct l D tg bs sa yX1_soMany cX1_soMany 18 (some .long) (2 + d) [.ref p0, .int p1, .int p2] hp (FX1_soMany d hp p0 p1 p2) (fun r => some (.long r.1)) (fun r => r.2) := (cgFO l D tg bs sa d).2.2 hp p0 p1 p2
theorem dX1_read_0 : decode cX1_read 0 = .ok (.iconst 0, 1) := by decide +kernel
theorem dX1_read_1 : decode cX1_read 1 = .ok (.istore_n 2, 1) := by decide +kernel
theorem dX1_read_2 : decode cX1_read 2 = .ok (.iload_n 2, 1) := by decide +kernel
theorem dX1_read_3 : decode cX1_read 3 = .ok (.bipush 16, 2) := by decide +kernel
theorem dX1_read_5 : decode cX1_read 5 = .ok (.if_icmp .ge 55, 3) := by decide +kernel
theorem dX1_read_8 : decode cX1_read 8 = .ok (.aload_n 0, 1) := by decide +kernel
theorem dX1_read_9 : decode cX1_read 9 = .ok (.iload_n 2, 1) := by decide +kernel
theorem dX1_read_10 : decode cX1_read 10 = .ok (.putfield 15, 3) := by decide +kernel
theorem dX1_read_13 : decode cX1_read 13 = .ok (.aload_n 0, 1) := by decide +kernel
theorem dX1_read_14 : decode cX1_read 14 = .ok (.iload_n 1, 1) := by decide +kernel
theorem dX1_read_15 : decode cX1_read 15 = .ok (.invokevirtual 19, 3) := by decide +kernel
theorem dX1_read_18 : decode cX1_read 18 = .ok (.aload_n 0, 1) := by decide +kernel
theorem dX1_read_19 : decode cX1_read 19 = .ok (.getfield 9, 3) := by decide +kernel
theorem dX1_read_22 : decode cX1_read 22 = .ok (.iload_n 2, 1) := by decide +kernel
theorem dX1_read_23 : decode cX1_read 23 = .ok (.aload_n 0, 1) := by decide +kernel
theorem dX1_read_24 : decode cX1_read 24 = .ok (.iconst 0, 1) := by decide +kernel
theorem dX1_read_25 : decode cX1_read 25 = .ok (.invokevirtual 23, 3) := by decide +kernel
theorem dX1_read_28 : decode cX1_read 28 = .ok (.lastore, 1) := by decide +kernel
theorem dX1_read_29 : decode cX1_read 29 = .ok (.aload_n 0, 1) := by decide +kernel
theorem dX1_read_30 : decode cX1_read 30 = .ok (.invokevirtual 27, 3) := by decide +kernel
theorem dX1_read_33 : decode cX1_read 33 = .ok (.iconst (-1), 1) := by decide +kernel
theorem dX1_read_34 : decode cX1_read 34 = .ok (.if_icmp .eq 8, 3) := by decide +kernel
theorem dX1_read_37 : decode cX1_read 37 = .ok (.aload_n 0, 1) := by decide +kernel
theorem dX1_read_38 : decode cX1_read 38 = .ok (.iconst 1, 1) := by decide +kernel
theorem dX1_read_39 : decode cX1_read 39 = .ok (.invokevirtual 31, 3) := by decide +kernel
theorem dX1_read_42 : decode cX1_read 42 = .ok (.aload_n 0, 1) := by decide +kernel
theorem dX1_read_43 : decode cX1_read 43 = .ok (.getfield 34, 3) := by decide +kernel
theorem dX1_read_46 : decode cX1_read 46 = .ok (.ifCond .eq 8, 3) := by decide +kernel
theorem dX1_read_49 : decode cX1_read 49 = .ok (.aload_n 0, 1) := by decide +kernel
theorem dX1_read_50 : decode cX1_read 50 = .ok (.getfield 34, 3) := by decide +kernel
theorem dX1_read_53 : decode cX1_read 53 = .ok (.ireturn, 1) := by decide +kernel
theorem dX1_read_54 : decode cX1_read 54 = .ok (.iinc 2 1, 3) := by decide +kernel
theorem dX1_read_57 : decode cX1_read 57 = .ok (.goto (-55), 3) := by decide +kernel
theorem dX1_read_60 : decode cX1_read 60 = .ok (.iconst 0, 1) := by decide +kernel
theorem dX1_read_61 : decode cX1_read 61 = .ok (.ireturn, 1) := by decide +kernel
def FX1_read (hp : HP) (p0 : Nat) (p1 : Int32) : Option (Int32 × HP) := (lp (fun (s1 : Int32 × HP) => if (16 : Int32) ≤ s1.1 then some (Sum.inl (Sum.inr s1.2)) else (sI [1] 5 s1.2 p0 s1.1).bind (fun hp3 => (rc [1] hp3 p0 (FX4_begin hp3 p0 p1)).bind (fun w4 => (gR [1] 4 w4 p0).bind (fun v5 => (rc [1] w4 p0 (FX1_formula 30 w4 p0 (0 : Int32))).bind (fun w6 => (wrL w6.2 v5 s1.1 w6.1).bind (fun hp7 => (rc [1] hp7 p0 (FX4_here hp7 p0)).bind (fun v8 => jn (A := HP) (fun a9 => (gI [1] 3 a9 p0).bind (fun v11 => if v11 = 0 then vl (s1.1 + (1 : Int32)) (fun x12 => some (Sum.inr (x12, a9))) else (gI [1] 3 a9 p0).bind (fun v13 => some (Sum.inl (Sum.inl (v13, a9)))))) (fun J10 => if v8 = (-1 : Int32) then J10 hp7 else (rc [1] hp7 p0 (FX4_fail hp7 p0 (1 : Int32))).bind (fun w14 => J10 w14))))))))) FU ((0 : Int32), hp)).bind (lk (P := Int32 × HP) (fun r => r) (fun (y2 : HP) => some ((0 : Int32), y2)))
set_option maxHeartbeats 4000000 in
set_option maxRecDepth 100000 in
theorem ctX1_read (l : Launch) (D : va_G) (tg : Nat → ClassId) (bs : Nat) (sa : Nat → Nat) (hp : HP) (p0 : Nat) (p1 : Int32) : Ct l D tg bs sa yX1_read cX1_read 3 (some .int) 33 [.ref p0, .int p1] hp (FX1_read hp p0 p1) (fun r => some (.int r.1)) (fun r => r.2) := by
  refine Ct.of (by decide) (Nat.le_of_ble_eq_true rfl) ?_
  intro V Q hVl hVd hVt hVb hVs hC
  subst hVl; subst hVd; subst hVt; subst hVb; subst hVs
  unfold FX1_read
  show Zs V Q (0, 0) 3 _ _ hp [(0, .ref p0), (1, .int p1)] 0 []
  refine z_iconst hC (0 : Int32) dX1_read_0 (by decide) ?_
  refine z_istore_n hC [(0, .ref p0), (1, .int p1), (2, .int (0 : Int32))] [1, 2, 0] dX1_read_1 rfl (by decide) rfl ?_
  refine z_lpR (S := Int32 × HP) (Y := HP) (fun s1 => s1.2) (fun s1 => [(0, .ref p0), (1, .int p1), (2, .int s1.1)]) (fun y2 => y2) (fun y2 => []) 60 [] (fun y2 => ?_) (fun s1 => ?_) rfl rfl
  · refine z_iconst hC (0 : Int32) dX1_read_60 (by decide) ?_
    exact z_iret hC (fun h => h) dX1_read_61
  · refine z_iload_n hC 2 dX1_read_2 rfl rfl ?_
    refine z_bipush hC (16 : Int32) dX1_read_3 (by decide) ?_
    refine z_icmp_ge hC 60 dX1_read_5 (by decide) (fun _ => ?_) (fun _ => ?_)
    · refine z_weak [] [] rfl ?_
      exact z_leaf (fun h => h)
    · refine z_aload_n hC 0 dX1_read_8 rfl rfl ?_
      refine z_iload_n hC 2 dX1_read_9 rfl rfl ?_
      refine z_putI hC lpRX1_15 dX1_read_10 (fun hp3 => ?_)
      refine z_aload_n hC 0 dX1_read_13 rfl rfl ?_
      refine z_iload_n hC 1 dX1_read_14 rfl rfl ?_
      refine z_callUv hC lmRX1_19 (ctX4_begin (vLa V) (vDa V) (vTg V) (vBs V) (vSa V) hp3 p0 p1) (by decide) hn0 dX1_read_15 rfl rfl (Nat.le_of_ble_eq_true rfl) (fun w4 => ?_)
      refine z_aload_n hC 0 dX1_read_18 rfl rfl ?_
      refine z_getR hC lgRX1_9 dX1_read_19 (fun v5 => ?_)
      refine z_iload_n hC 2 dX1_read_22 rfl rfl ?_
      refine z_aload_n hC 0 dX1_read_23 rfl rfl ?_
      refine z_iconst hC (0 : Int32) dX1_read_24 (by decide) ?_
      refine z_callVl hC (ci := 1) rfl lmRX1_23 (ctX1_formula (vLa V) (vDa V) (vTg V) (vBs V) (vSa V) 30 w4 p0 (0 : Int32)) (by decide) hn0 dX1_read_25 rfl rfl (Nat.le_of_ble_eq_true rfl) (fun w6 => ?_)
      refine z_last hC dX1_read_28 (fun hp7 => ?_)
      refine z_aload_n hC 0 dX1_read_29 rfl rfl ?_
      refine z_callUi hC lmRX1_27 (ctX4_here (vLa V) (vDa V) (vTg V) (vBs V) (vSa V) hp7 p0) (by decide) hn0 dX1_read_30 rfl rfl (Nat.le_of_ble_eq_true rfl) (fun v8 => ?_)
      refine z_iconst hC (-1 : Int32) dX1_read_33 (by decide) ?_
      refine z_jn (A := HP) (fun a9 => a9) (fun a9 => [(0, .ref p0), (1, .int p1), (2, .int s1.1)]) 42 (fun a9 => []) (fun a9 => ?_) (fun J10 hJ10 => ?_)
      · refine z_aload_n hC 0 dX1_read_42 rfl rfl ?_
        refine z_getI hC lgRX1_34 dX1_read_43 (fun v11 => ?_)
        refine z_if_eq hC 54 dX1_read_46 (by decide) (fun _ => ?_) (fun _ => ?_)
        · refine z_iincv hC (1 : Int32) 2 (fun x12 => [(0, .ref p0), (1, .int p1), (2, .int x12)]) [1, 2, 0] dX1_read_54 rfl (by decide) (by decide) (fun _ => rfl) (fun x12 => ?_)
          refine z_goto hC 2 dX1_read_57 (by decide) ?_
          exact z_leaf (fun h => h)
        · refine z_aload_n hC 0 dX1_read_49 rfl rfl ?_
          refine z_getI hC lgRX1_34 dX1_read_50 (fun v13 => ?_)
          exact z_iret hC (fun h => h) dX1_read_53
      · refine z_icmp_eq hC 42 dX1_read_34 (by decide) (fun _ => ?_) (fun _ => ?_)
        · exact hJ10 hp7
        · refine z_aload_n hC 0 dX1_read_37 rfl rfl ?_
          refine z_iconst hC (1 : Int32) dX1_read_38 (by decide) ?_
          refine z_callUv hC lmRX1_31 (ctX4_fail (vLa V) (vDa V) (vTg V) (vBs V) (vSa V) hp7 p0 (1 : Int32)) (by decide) hn0 dX1_read_39 rfl rfl (Nat.le_of_ble_eq_true rfl) (fun w14 => ?_)
          exact hJ10 w14

theorem dX2_emit_0 : decode cX2_emit 0 = .ok (.aload_n 0, 1) := by decide +kernel
theorem dX2_emit_1 : decode cX2_emit 1 = .ok (.getfield 38, 3) := by decide +kernel
theorem dX2_emit_4 : decode cX2_emit 4 = .ok (.sipush 240, 3) := by decide +kernel
theorem dX2_emit_7 : decode cX2_emit 7 = .ok (.if_icmp .ge 23, 3) := by decide +kernel
theorem dX2_emit_10 : decode cX2_emit 10 = .ok (.aload_n 0, 1) := by decide +kernel
theorem dX2_emit_11 : decode cX2_emit 11 = .ok (.getfield 21, 3) := by decide +kernel
theorem dX2_emit_14 : decode cX2_emit 14 = .ok (.aload_n 0, 1) := by decide +kernel
theorem dX2_emit_15 : decode cX2_emit 15 = .ok (.getfield 38, 3) := by decide +kernel
theorem dX2_emit_18 : decode cX2_emit 18 = .ok (.iload_n 1, 1) := by decide +kernel
theorem dX2_emit_19 : decode cX2_emit 19 = .ok (.iastore, 1) := by decide +kernel
theorem dX2_emit_20 : decode cX2_emit 20 = .ok (.aload_n 0, 1) := by decide +kernel
theorem dX2_emit_21 : decode cX2_emit 21 = .ok (.dup, 1) := by decide +kernel
theorem dX2_emit_22 : decode cX2_emit 22 = .ok (.getfield 38, 3) := by decide +kernel
theorem dX2_emit_25 : decode cX2_emit 25 = .ok (.iconst 1, 1) := by decide +kernel
theorem dX2_emit_26 : decode cX2_emit 26 = .ok (.iadd, 1) := by decide +kernel
theorem dX2_emit_27 : decode cX2_emit 27 = .ok (.putfield 38, 3) := by decide +kernel
theorem dX2_emit_30 : decode cX2_emit 30 = .ok (.return_, 1) := by decide +kernel
def FX2_emit (hp : HP) (p0 : Nat) (p1 : Int32) : Option (HP) := (gI [2] 9 hp p0).bind (fun v1 => if (240 : Int32) ≤ v1 then some hp else (gR [2] 8 hp p0).bind (fun v2 => (gI [2] 9 hp p0).bind (fun v3 => (wrI hp v2 v3 p1).bind (fun hp4 => (gI [2] 9 hp4 p0).bind (fun v5 => (sI [2] 9 hp4 p0 (v5 + (1 : Int32))).bind (fun hp6 => some hp6))))))
set_option maxHeartbeats 4000000 in
set_option maxRecDepth 100000 in
theorem ctX2_emit (l : Launch) (D : va_G) (tg : Nat → ClassId) (bs : Nat) (sa : Nat → Nat) (hp : HP) (p0 : Nat) (p1 : Int32) : Ct l D tg bs sa yX2_emit cX2_emit 2 none 0 [.ref p0, .int p1] hp (FX2_emit hp p0 p1) (fun _ => none) (fun r => r) := by
  refine Ct.of (by decide) (Nat.le_of_ble_eq_true rfl) ?_
  intro V Q hVl hVd hVt hVb hVs hC
  subst hVl; subst hVd; subst hVt; subst hVb; subst hVs
  unfold FX2_emit
  show Zs V Q (0, 0) 2 _ _ hp [(0, .ref p0), (1, .int p1)] 0 []
  refine z_aload_n hC 0 dX2_emit_0 rfl rfl ?_
  refine z_getI hC lgRX2_38 dX2_emit_1 (fun v1 => ?_)
  refine z_sipush hC (240 : Int32) dX2_emit_4 (by decide) ?_
  refine z_icmp_ge hC 30 dX2_emit_7 (by decide) (fun _ => ?_) (fun _ => ?_)
  · exact z_vret hC (fun h => h) dX2_emit_30
  · refine z_aload_n hC 0 dX2_emit_10 rfl rfl ?_
    refine z_getR hC lgRX2_21 dX2_emit_11 (fun v2 => ?_)
    refine z_aload_n hC 0 dX2_emit_14 rfl rfl ?_
    refine z_getI hC lgRX2_38 dX2_emit_15 (fun v3 => ?_)
    refine z_iload_n hC 1 dX2_emit_18 rfl rfl ?_
    refine z_iast hC dX2_emit_19 (fun hp4 => ?_)
    refine z_aload_n hC 0 dX2_emit_20 rfl rfl ?_
    refine z_dup hC dX2_emit_21 rfl ?_
    refine z_getI hC lgRX2_38 dX2_emit_22 (fun v5 => ?_)
    refine z_iconst hC (1 : Int32) dX2_emit_25 (by decide) ?_
    refine z_iadd hC dX2_emit_26 ?_
    refine z_putI hC lpRX2_38 dX2_emit_27 (fun hp6 => ?_)
    exact z_vret hC (fun h => h) dX2_emit_30

theorem dX2_readNumber_0 : decode cX2_readNumber 0 = .ok (.iconst 0, 1) := by decide +kernel
theorem dX2_readNumber_1 : decode cX2_readNumber 1 = .ok (.istore_n 1, 1) := by decide +kernel
theorem dX2_readNumber_2 : decode cX2_readNumber 2 = .ok (.iconst 0, 1) := by decide +kernel
theorem dX2_readNumber_3 : decode cX2_readNumber 3 = .ok (.istore_n 2, 1) := by decide +kernel
theorem dX2_readNumber_4 : decode cX2_readNumber 4 = .ok (.iload_n 2, 1) := by decide +kernel
theorem dX2_readNumber_5 : decode cX2_readNumber 5 = .ok (.iconst 5, 1) := by decide +kernel
theorem dX2_readNumber_6 : decode cX2_readNumber 6 = .ok (.if_icmp .gt 62, 3) := by decide +kernel
theorem dX2_readNumber_9 : decode cX2_readNumber 9 = .ok (.aload_n 0, 1) := by decide +kernel
theorem dX2_readNumber_10 : decode cX2_readNumber 10 = .ok (.invokevirtual 47, 3) := by decide +kernel
theorem dX2_readNumber_13 : decode cX2_readNumber 13 = .ok (.istore_n 3, 1) := by decide +kernel
theorem dX2_readNumber_14 : decode cX2_readNumber 14 = .ok (.iload_n 3, 1) := by decide +kernel
theorem dX2_readNumber_15 : decode cX2_readNumber 15 = .ok (.bipush 48, 2) := by decide +kernel
theorem dX2_readNumber_17 : decode cX2_readNumber 17 = .ok (.if_icmp .lt 51, 3) := by decide +kernel
theorem dX2_readNumber_20 : decode cX2_readNumber 20 = .ok (.iload_n 3, 1) := by decide +kernel
theorem dX2_readNumber_21 : decode cX2_readNumber 21 = .ok (.bipush 57, 2) := by decide +kernel
theorem dX2_readNumber_23 : decode cX2_readNumber 23 = .ok (.if_icmp .le 6, 3) := by decide +kernel
theorem dX2_readNumber_26 : decode cX2_readNumber 26 = .ok (.goto 42, 3) := by decide +kernel
theorem dX2_readNumber_29 : decode cX2_readNumber 29 = .ok (.iload_n 2, 1) := by decide +kernel
theorem dX2_readNumber_30 : decode cX2_readNumber 30 = .ok (.iconst 5, 1) := by decide +kernel
theorem dX2_readNumber_31 : decode cX2_readNumber 31 = .ok (.if_icmp .ne 11, 3) := by decide +kernel
theorem dX2_readNumber_34 : decode cX2_readNumber 34 = .ok (.aload_n 0, 1) := by decide +kernel
theorem dX2_readNumber_35 : decode cX2_readNumber 35 = .ok (.iconst 2, 1) := by decide +kernel
theorem dX2_readNumber_36 : decode cX2_readNumber 36 = .ok (.invokevirtual 54, 3) := by decide +kernel
theorem dX2_readNumber_39 : decode cX2_readNumber 39 = .ok (.goto 29, 3) := by decide +kernel
theorem dX2_readNumber_42 : decode cX2_readNumber 42 = .ok (.iload_n 1, 1) := by decide +kernel
theorem dX2_readNumber_43 : decode cX2_readNumber 43 = .ok (.bipush 10, 2) := by decide +kernel
theorem dX2_readNumber_45 : decode cX2_readNumber 45 = .ok (.imul, 1) := by decide +kernel
theorem dX2_readNumber_46 : decode cX2_readNumber 46 = .ok (.iload_n 3, 1) := by decide +kernel
theorem dX2_readNumber_47 : decode cX2_readNumber 47 = .ok (.iadd, 1) := by decide +kernel
theorem dX2_readNumber_48 : decode cX2_readNumber 48 = .ok (.bipush 48, 2) := by decide +kernel
theorem dX2_readNumber_50 : decode cX2_readNumber 50 = .ok (.isub, 1) := by decide +kernel
theorem dX2_readNumber_51 : decode cX2_readNumber 51 = .ok (.istore_n 1, 1) := by decide +kernel
theorem dX2_readNumber_52 : decode cX2_readNumber 52 = .ok (.aload_n 0, 1) := by decide +kernel
theorem dX2_readNumber_53 : decode cX2_readNumber 53 = .ok (.dup, 1) := by decide +kernel
theorem dX2_readNumber_54 : decode cX2_readNumber 54 = .ok (.getfield 57, 3) := by decide +kernel
theorem dX2_readNumber_57 : decode cX2_readNumber 57 = .ok (.iconst 1, 1) := by decide +kernel
theorem dX2_readNumber_58 : decode cX2_readNumber 58 = .ok (.iadd, 1) := by decide +kernel
theorem dX2_readNumber_59 : decode cX2_readNumber 59 = .ok (.putfield 57, 3) := by decide +kernel
theorem dX2_readNumber_62 : decode cX2_readNumber 62 = .ok (.iinc 2 1, 3) := by decide +kernel
theorem dX2_readNumber_65 : decode cX2_readNumber 65 = .ok (.goto (-61), 3) := by decide +kernel
theorem dX2_readNumber_68 : decode cX2_readNumber 68 = .ok (.aload_n 0, 1) := by decide +kernel
theorem dX2_readNumber_69 : decode cX2_readNumber 69 = .ok (.iload_n 1, 1) := by decide +kernel
theorem dX2_readNumber_70 : decode cX2_readNumber 70 = .ok (.invokevirtual 60, 3) := by decide +kernel
theorem dX2_readNumber_73 : decode cX2_readNumber 73 = .ok (.return_, 1) := by decide +kernel
def FX2_readNumber (hp : HP) (p0 : Nat) : Option (HP) := (lp (fun (s1 : Int32 × Int32 × HP) => if (5 : Int32) < s1.2.1 then some (Sum.inl (s1.1, s1.2.2)) else (rc [2] s1.2.2 p0 (FX4_here s1.2.2 p0)).bind (fun v4 => if v4 < (48 : Int32) then some (Sum.inl (s1.1, s1.2.2)) else if v4 ≤ (57 : Int32) then if s1.2.1 = (5 : Int32) then (rc [2] s1.2.2 p0 (FX4_fail s1.2.2 p0 (2 : Int32))).bind (fun w5 => some (Sum.inl (s1.1, w5))) else vl (((s1.1 * (10 : Int32)) + v4) - (48 : Int32)) (fun x6 => (gI [2] 2 s1.2.2 p0).bind (fun v7 => (sI [2] 2 s1.2.2 p0 (v7 + (1 : Int32))).bind (fun hp8 => vl (s1.2.1 + (1 : Int32)) (fun x9 => some (Sum.inr (x6, x9, hp8)))))) else some (Sum.inl (s1.1, s1.2.2)))) FU ((0 : Int32), (0 : Int32), hp)).bind (fun (y2 : Int32 × HP) => (rc [2] y2.2 p0 (FX2_emit y2.2 p0 y2.1)).bind (fun w3 => some w3))
set_option maxHeartbeats 4000000 in
set_option maxRecDepth 100000 in
theorem ctX2_readNumber (l : Launch) (D : va_G) (tg : Nat → ClassId) (bs : Nat) (sa : Nat → Nat) (hp : HP) (p0 : Nat) : Ct l D tg bs sa yX2_readNumber cX2_readNumber 4 none 2 [.ref p0] hp (FX2_readNumber hp p0) (fun _ => none) (fun r => r) := by
  refine Ct.of (by decide) (Nat.le_of_ble_eq_true rfl) ?_
  intro V Q hVl hVd hVt hVb hVs hC
  subst hVl; subst hVd; subst hVt; subst hVb; subst hVs
  unfold FX2_readNumber
  show Zs V Q (0, 0) 4 _ _ hp [(0, .ref p0)] 0 []
  refine z_iconst hC (0 : Int32) dX2_readNumber_0 (by decide) ?_
  refine z_istore_n hC [(0, .ref p0), (1, .int (0 : Int32))] [1, 0] dX2_readNumber_1 rfl (by decide) rfl ?_
  refine z_iconst hC (0 : Int32) dX2_readNumber_2 (by decide) ?_
  refine z_istore_n hC [(0, .ref p0), (1, .int (0 : Int32)), (2, .int (0 : Int32))] [1, 2, 0] dX2_readNumber_3 rfl (by decide) rfl ?_
  refine z_lp (S := Int32 × Int32 × HP) (Y := Int32 × HP) (fun s1 => s1.2.2) (fun s1 => [(0, .ref p0), (1, .int s1.1), (2, .int s1.2.1)]) (fun y2 => y2.2) (fun y2 => [(0, .ref p0), (1, .int y2.1)]) 68 [] (fun y2 => ?_) (fun s1 => ?_) rfl rfl
  · refine z_aload_n hC 0 dX2_readNumber_68 rfl rfl ?_
    refine z_iload_n hC 1 dX2_readNumber_69 rfl rfl ?_
    refine z_callVv hC (ci := 2) rfl lmRX2_60 (ctX2_emit (vLa V) (vDa V) (vTg V) (vBs V) (vSa V) y2.2 p0 y2.1) (by decide) hn0 dX2_readNumber_70 rfl rfl (Nat.le_of_ble_eq_true rfl) (fun w3 => ?_)
    exact z_vret hC (fun h => h) dX2_readNumber_73
  · refine z_iload_n hC 2 dX2_readNumber_4 rfl rfl ?_
    refine z_iconst hC (5 : Int32) dX2_readNumber_5 (by decide) ?_
    refine z_icmp_gt hC 68 dX2_readNumber_6 (by decide) (fun _ => ?_) (fun _ => ?_)
    · refine z_weak [(0, .ref p0), (1, .int s1.1)] [0, 1] rfl ?_
      exact z_leaf (fun h => h)
    · refine z_aload_n hC 0 dX2_readNumber_9 rfl rfl ?_
      refine z_callUi hC lmRX2_47 (ctX4_here (vLa V) (vDa V) (vTg V) (vBs V) (vSa V) s1.2.2 p0) (by decide) hn0 dX2_readNumber_10 rfl rfl (Nat.le_of_ble_eq_true rfl) (fun v4 => ?_)
      refine z_istore_n hC [(0, .ref p0), (1, .int s1.1), (2, .int s1.2.1), (3, .int v4)] [1, 2, 3, 0] dX2_readNumber_13 rfl (by decide) rfl ?_
      refine z_iload_n hC 3 dX2_readNumber_14 rfl rfl ?_
      refine z_bipush hC (48 : Int32) dX2_readNumber_15 (by decide) ?_
      refine z_icmp_lt hC 68 dX2_readNumber_17 (by decide) (fun _ => ?_) (fun _ => ?_)
      · refine z_weak [(0, .ref p0), (1, .int s1.1)] [0, 1] rfl ?_
        exact z_leaf (fun h => h)
      · refine z_iload_n hC 3 dX2_readNumber_20 rfl rfl ?_
        refine z_bipush hC (57 : Int32) dX2_readNumber_21 (by decide) ?_
        refine z_icmp_le hC 29 dX2_readNumber_23 (by decide) (fun _ => ?_) (fun _ => ?_)
        · refine z_iload_n hC 2 dX2_readNumber_29 rfl rfl ?_
          refine z_iconst hC (5 : Int32) dX2_readNumber_30 (by decide) ?_
          refine z_icmp_ne hC 42 dX2_readNumber_31 (by decide) (fun _ => ?_) (fun _ => ?_)
          · refine z_aload_n hC 0 dX2_readNumber_34 rfl rfl ?_
            refine z_iconst hC (2 : Int32) dX2_readNumber_35 (by decide) ?_
            refine z_callUv hC lmRX2_54 (ctX4_fail (vLa V) (vDa V) (vTg V) (vBs V) (vSa V) s1.2.2 p0 (2 : Int32)) (by decide) hn0 dX2_readNumber_36 rfl rfl (Nat.le_of_ble_eq_true rfl) (fun w5 => ?_)
            refine z_goto hC 68 dX2_readNumber_39 (by decide) ?_
            refine z_weak [(0, .ref p0), (1, .int s1.1)] [0, 1] rfl ?_
            exact z_leaf (fun h => h)
          · refine z_iload_n hC 1 dX2_readNumber_42 rfl rfl ?_
            refine z_bipush hC (10 : Int32) dX2_readNumber_43 (by decide) ?_
            refine z_imul hC dX2_readNumber_45 ?_
            refine z_iload_n hC 3 dX2_readNumber_46 rfl rfl ?_
            refine z_iadd hC dX2_readNumber_47 ?_
            refine z_bipush hC (48 : Int32) dX2_readNumber_48 (by decide) ?_
            refine z_isub hC dX2_readNumber_50 ?_
            refine z_vli (fun x6 => ?_)
            refine z_istore_n hC [(0, .ref p0), (1, .int x6), (2, .int s1.2.1), (3, .int v4)] [1, 0, 2, 3] dX2_readNumber_51 rfl (by decide) rfl ?_
            refine z_aload_n hC 0 dX2_readNumber_52 rfl rfl ?_
            refine z_dup hC dX2_readNumber_53 rfl ?_
            refine z_getI hC lgRX2_57 dX2_readNumber_54 (fun v7 => ?_)
            refine z_iconst hC (1 : Int32) dX2_readNumber_57 (by decide) ?_
            refine z_iadd hC dX2_readNumber_58 ?_
            refine z_putI hC lpRX2_57 dX2_readNumber_59 (fun hp8 => ?_)
            refine z_iincv hC (1 : Int32) 2 (fun x9 => [(0, .ref p0), (1, .int x6), (2, .int x9), (3, .int v4)]) [1, 2, 0, 3] dX2_readNumber_62 rfl (by decide) (by decide) (fun _ => rfl) (fun x9 => ?_)
            refine z_goto hC 4 dX2_readNumber_65 (by decide) ?_
            refine z_weak [(0, .ref p0), (1, .int x6), (2, .int x9)] [0, 1, 2] rfl ?_
            exact z_leaf (fun h => h)
        · refine z_goto hC 68 dX2_readNumber_26 (by decide) ?_
          refine z_weak [(0, .ref p0), (1, .int s1.1)] [0, 1] rfl ?_
          exact z_leaf (fun h => h)

