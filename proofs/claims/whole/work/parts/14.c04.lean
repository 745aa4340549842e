theorem dX3_nearest_0 : decode cX3_nearest 0 = .ok (.ldc 41, 2) := by decide +kernel
theorem dX3_nearest_2 : decode cX3_nearest 2 = .ok (.istore 4, 2) := by decide +kernel
theorem dX3_nearest_4 : decode cX3_nearest 4 = .ok (.iconst 0, 1) := by decide +kernel
theorem dX3_nearest_5 : decode cX3_nearest 5 = .ok (.istore 5, 2) := by decide +kernel
theorem dX3_nearest_7 : decode cX3_nearest 7 = .ok (.iload 5, 2) := by decide +kernel
theorem dX3_nearest_9 : decode cX3_nearest 9 = .ok (.bipush 16, 2) := by decide +kernel
theorem dX3_nearest_11 : decode cX3_nearest 11 = .ok (.if_icmp .ge 137, 3) := by decide +kernel
theorem dX3_nearest_14 : decode cX3_nearest 14 = .ok (.iload 5, 2) := by decide +kernel
theorem dX3_nearest_16 : decode cX3_nearest 16 = .ok (.iload_n 3, 1) := by decide +kernel
theorem dX3_nearest_17 : decode cX3_nearest 17 = .ok (.bipush 6, 2) := by decide +kernel
theorem dX3_nearest_19 : decode cX3_nearest 19 = .ok (.ishr, 1) := by decide +kernel
theorem dX3_nearest_20 : decode cX3_nearest 20 = .ok (.ixor, 1) := by decide +kernel
theorem dX3_nearest_21 : decode cX3_nearest 21 = .ok (.bipush 15, 2) := by decide +kernel
theorem dX3_nearest_23 : decode cX3_nearest 23 = .ok (.iand, 1) := by decide +kernel
theorem dX3_nearest_24 : decode cX3_nearest 24 = .ok (.istore 6, 2) := by decide +kernel
theorem dX3_nearest_26 : decode cX3_nearest 26 = .ok (.aload_n 1, 1) := by decide +kernel
theorem dX3_nearest_27 : decode cX3_nearest 27 = .ok (.iload 6, 2) := by decide +kernel
theorem dX3_nearest_29 : decode cX3_nearest 29 = .ok (.laload, 1) := by decide +kernel
theorem dX3_nearest_30 : decode cX3_nearest 30 = .ok (.aload_n 2, 1) := by decide +kernel
theorem dX3_nearest_31 : decode cX3_nearest 31 = .ok (.iload 6, 2) := by decide +kernel
theorem dX3_nearest_33 : decode cX3_nearest 33 = .ok (.laload, 1) := by decide +kernel
theorem dX3_nearest_34 : decode cX3_nearest 34 = .ok (.land, 1) := by decide +kernel
theorem dX3_nearest_35 : decode cX3_nearest 35 = .ok (.lstore 7, 2) := by decide +kernel
theorem dX3_nearest_37 : decode cX3_nearest 37 = .ok (.iconst 0, 1) := by decide +kernel
theorem dX3_nearest_38 : decode cX3_nearest 38 = .ok (.istore 9, 2) := by decide +kernel
theorem dX3_nearest_40 : decode cX3_nearest 40 = .ok (.iload 9, 2) := by decide +kernel
theorem dX3_nearest_42 : decode cX3_nearest 42 = .ok (.bipush 64, 2) := by decide +kernel
theorem dX3_nearest_44 : decode cX3_nearest 44 = .ok (.if_icmp .ge 98, 3) := by decide +kernel
theorem dX3_nearest_47 : decode cX3_nearest 47 = .ok (.lload 7, 2) := by decide +kernel
theorem dX3_nearest_49 : decode cX3_nearest 49 = .ok (.lconst 0, 1) := by decide +kernel
theorem dX3_nearest_50 : decode cX3_nearest 50 = .ok (.lcmp, 1) := by decide +kernel
theorem dX3_nearest_51 : decode cX3_nearest 51 = .ok (.ifCond .eq 91, 3) := by decide +kernel
theorem dX3_nearest_54 : decode cX3_nearest 54 = .ok (.aload_n 0, 1) := by decide +kernel
theorem dX3_nearest_55 : decode cX3_nearest 55 = .ok (.getfield 21, 3) := by decide +kernel
theorem dX3_nearest_58 : decode cX3_nearest 58 = .ok (.iload 9, 2) := by decide +kernel
theorem dX3_nearest_60 : decode cX3_nearest 60 = .ok (.iaload, 1) := by decide +kernel
theorem dX3_nearest_61 : decode cX3_nearest 61 = .ok (.bipush 63, 2) := by decide +kernel
theorem dX3_nearest_63 : decode cX3_nearest 63 = .ok (.iand, 1) := by decide +kernel
theorem dX3_nearest_64 : decode cX3_nearest 64 = .ok (.istore 10, 2) := by decide +kernel
theorem dX3_nearest_66 : decode cX3_nearest 66 = .ok (.aload_n 0, 1) := by decide +kernel
theorem dX3_nearest_67 : decode cX3_nearest 67 = .ok (.getfield 18, 3) := by decide +kernel
theorem dX3_nearest_70 : decode cX3_nearest 70 = .ok (.iload 5, 2) := by decide +kernel
theorem dX3_nearest_72 : decode cX3_nearest 72 = .ok (.iaload, 1) := by decide +kernel
theorem dX3_nearest_73 : decode cX3_nearest 73 = .ok (.aload_n 0, 1) := by decide +kernel
theorem dX3_nearest_74 : decode cX3_nearest 74 = .ok (.getfield 15, 3) := by decide +kernel
theorem dX3_nearest_77 : decode cX3_nearest 77 = .ok (.iload 10, 2) := by decide +kernel
theorem dX3_nearest_79 : decode cX3_nearest 79 = .ok (.iaload, 1) := by decide +kernel
theorem dX3_nearest_80 : decode cX3_nearest 80 = .ok (.iadd, 1) := by decide +kernel
theorem dX3_nearest_81 : decode cX3_nearest 81 = .ok (.sipush 1024, 3) := by decide +kernel
theorem dX3_nearest_84 : decode cX3_nearest 84 = .ok (.imul, 1) := by decide +kernel
theorem dX3_nearest_85 : decode cX3_nearest 85 = .ok (.istore 11, 2) := by decide +kernel
theorem dX3_nearest_87 : decode cX3_nearest 87 = .ok (.iload 11, 2) := by decide +kernel
theorem dX3_nearest_89 : decode cX3_nearest 89 = .ok (.iload 4, 2) := by decide +kernel
theorem dX3_nearest_91 : decode cX3_nearest 91 = .ok (.if_icmp .le 6, 3) := by decide +kernel
theorem dX3_nearest_94 : decode cX3_nearest 94 = .ok (.goto 48, 3) := by decide +kernel
theorem dX3_nearest_97 : decode cX3_nearest 97 = .ok (.iload 10, 2) := by decide +kernel
theorem dX3_nearest_99 : decode cX3_nearest 99 = .ok (.iload_n 3, 1) := by decide +kernel
theorem dX3_nearest_100 : decode cX3_nearest 100 = .ok (.bipush 63, 2) := by decide +kernel
theorem dX3_nearest_102 : decode cX3_nearest 102 = .ok (.iand, 1) := by decide +kernel
theorem dX3_nearest_103 : decode cX3_nearest 103 = .ok (.ixor, 1) := by decide +kernel
theorem dX3_nearest_104 : decode cX3_nearest 104 = .ok (.istore 12, 2) := by decide +kernel
theorem dX3_nearest_106 : decode cX3_nearest 106 = .ok (.lload 7, 2) := by decide +kernel
theorem dX3_nearest_108 : decode cX3_nearest 108 = .ok (.iload 12, 2) := by decide +kernel
theorem dX3_nearest_110 : decode cX3_nearest 110 = .ok (.lushr, 1) := by decide +kernel
theorem dX3_nearest_111 : decode cX3_nearest 111 = .ok (.lconst 1, 1) := by decide +kernel
theorem dX3_nearest_112 : decode cX3_nearest 112 = .ok (.land, 1) := by decide +kernel
theorem dX3_nearest_113 : decode cX3_nearest 113 = .ok (.lconst 0, 1) := by decide +kernel
theorem dX3_nearest_114 : decode cX3_nearest 114 = .ok (.lcmp, 1) := by decide +kernel
theorem dX3_nearest_115 : decode cX3_nearest 115 = .ok (.ifCond .eq 21, 3) := by decide +kernel
theorem dX3_nearest_118 : decode cX3_nearest 118 = .ok (.iload 4, 2) := by decide +kernel
theorem dX3_nearest_120 : decode cX3_nearest 120 = .ok (.iload 11, 2) := by decide +kernel
theorem dX3_nearest_122 : decode cX3_nearest 122 = .ok (.iload 6, 2) := by decide +kernel
theorem dX3_nearest_124 : decode cX3_nearest 124 = .ok (.bipush 64, 2) := by decide +kernel
theorem dX3_nearest_126 : decode cX3_nearest 126 = .ok (.imul, 1) := by decide +kernel
theorem dX3_nearest_127 : decode cX3_nearest 127 = .ok (.iadd, 1) := by decide +kernel
theorem dX3_nearest_128 : decode cX3_nearest 128 = .ok (.iload 12, 2) := by decide +kernel
theorem dX3_nearest_130 : decode cX3_nearest 130 = .ok (.iadd, 1) := by decide +kernel
theorem dX3_nearest_131 : decode cX3_nearest 131 = .ok (.invokestatic 42, 3) := by decide +kernel
theorem dX3_nearest_134 : decode cX3_nearest 134 = .ok (.istore 4, 2) := by decide +kernel
theorem dX3_nearest_136 : decode cX3_nearest 136 = .ok (.iinc 9 1, 3) := by decide +kernel
theorem dX3_nearest_139 : decode cX3_nearest 139 = .ok (.goto (-99), 3) := by decide +kernel
theorem dX3_nearest_142 : decode cX3_nearest 142 = .ok (.iinc 5 1, 3) := by decide +kernel
theorem dX3_nearest_145 : decode cX3_nearest 145 = .ok (.goto (-138), 3) := by decide +kernel
theorem dX3_nearest_148 : decode cX3_nearest 148 = .ok (.iload 4, 2) := by decide +kernel
theorem dX3_nearest_150 : decode cX3_nearest 150 = .ok (.ldc 41, 2) := by decide +kernel
theorem dX3_nearest_152 : decode cX3_nearest 152 = .ok (.if_icmp .ne 7, 3) := by decide +kernel
theorem dX3_nearest_155 : decode cX3_nearest 155 = .ok (.iconst (-1), 1) := by decide +kernel
theorem dX3_nearest_156 : decode cX3_nearest 156 = .ok (.goto 9, 3) := by decide +kernel
theorem dX3_nearest_159 : decode cX3_nearest 159 = .ok (.iload 4, 2) := by decide +kernel
theorem dX3_nearest_161 : decode cX3_nearest 161 = .ok (.sipush 1024, 3) := by decide +kernel
theorem dX3_nearest_164 : decode cX3_nearest 164 = .ok (.irem, 1) := by decide +kernel
theorem dX3_nearest_165 : decode cX3_nearest 165 = .ok (.ireturn, 1) := by decide +kernel
def FX3_nearest (hp : HP) (p0 : Nat) (p1 : Nat) (p2 : Nat) (p3 : Int32) : Option (Int32) := (lp (fun (s1 : Int32 × Int32) => if (16 : Int32) ≤ s1.2 then some (Sum.inl s1.1) else vl ((s1.2 ^^^ (p3 >>> ((6 : Int32) &&& 31))) &&& (15 : Int32)) (fun x4 => (rdL hp p1 x4).bind (fun v5 => (rdL hp p2 x4).bind (fun v6 => vl (v5 &&& v6) (fun x7 => (lp (fun (s8 : Int32 × Int32) => if (64 : Int32) ≤ s8.2 then some (Sum.inl s8.1) else if (lg_cmp x7 (0 : Int64)) = 0 then some (Sum.inl s8.1) else (gR [3] 3 hp p0).bind (fun v11 => (rdN 0 hp v11 s8.2).bind (fun v12 => vl (v12 &&& (63 : Int32)) (fun x13 => (gR [3] 2 hp p0).bind (fun v14 => (rdN 0 hp v14 s1.2).bind (fun v15 => (gR [3] 1 hp p0).bind (fun v16 => (rdN 0 hp v16 x13).bind (fun v17 => vl ((v15 + v17) * (1024 : Int32)) (fun x18 => if x18 ≤ s8.1 then vl (x13 ^^^ (p3 &&& (63 : Int32))) (fun x19 => if (lg_cmp (((x7).toUInt64 >>> ((x19).toInt64.toUInt64 &&& Int64.toUInt64 63)).toInt64 &&& (1 : Int64)) (0 : Int64)) = 0 then vl (s8.2 + (1 : Int32)) (fun x20 => some (Sum.inr (s8.1, x20))) else vl (mnI s8.1 ((x18 + (x4 * (64 : Int32))) + x19)) (fun x21 => vl (s8.2 + (1 : Int32)) (fun x22 => some (Sum.inr (x21, x22))))) else some (Sum.inl s8.1)))))))))) FU (s1.1, (0 : Int32))).bind (fun (y9 : Int32) => vl (s1.2 + (1 : Int32)) (fun x10 => some (Sum.inr (y9, x10))))))))) FU ((1000000000 : Int32), (0 : Int32))).bind (fun (y2 : Int32) => if y2 = (1000000000 : Int32) then some (-1 : Int32) else (rmI y2 (1024 : Int32)).bind (fun v3 => some v3))
set_option maxHeartbeats 4000000 in
set_option maxRecDepth 100000 in
theorem ctX3_nearest (l : Launch) (D : va_G) (tg : Nat → ClassId) (bs : Nat) (sa : Nat → Nat) (hp : HP) (p0 : Nat) (p1 : Nat) (p2 : Nat) (p3 : Int32) : Ct l D tg bs sa yX3_nearest cX3_nearest 13 (some .int) 1 [.ref p0, .ref p1, .ref p2, .int p3] hp (FX3_nearest hp p0 p1 p2 p3) (fun r => some (.int r)) (fun _ => hp) := by
  refine Ct.of (by decide) (Nat.le_of_ble_eq_true rfl) ?_
  intro V Q hVl hVd hVt hVb hVs hC
  subst hVl; subst hVd; subst hVt; subst hVb; subst hVs
  unfold FX3_nearest
  show Zs V Q (0, 0) 13 _ _ hp [(0, .ref p0), (1, .ref p1), (2, .ref p2), (3, .int p3)] 0 []
  refine z_ldc hC (1000000000 : Int32) lcRX3_41 dX3_nearest_0 ?_
  refine z_istore hC [(0, .ref p0), (1, .ref p1), (2, .ref p2), (3, .int p3), (4, .int (1000000000 : Int32))] [1, 2, 3, 4, 0] dX3_nearest_2 (by decide) rfl ?_
  refine z_iconst hC (0 : Int32) dX3_nearest_4 (by decide) ?_
  refine z_istore hC [(0, .ref p0), (1, .ref p1), (2, .ref p2), (3, .int p3), (4, .int (1000000000 : Int32)), (5, .int (0 : Int32))] [1, 2, 3, 4, 5, 0] dX3_nearest_5 (by decide) rfl ?_
  refine z_lp (S := Int32 × Int32) (Y := Int32) (fun s1 => hp) (fun s1 => [(0, .ref p0), (1, .ref p1), (2, .ref p2), (3, .int p3), (4, .int s1.1), (5, .int s1.2)]) (fun y2 => hp) (fun y2 => [(4, .int y2)]) 148 [] (fun y2 => ?_) (fun s1 => ?_) rfl rfl
  · refine z_iload hC 0 dX3_nearest_148 rfl ?_
    refine z_ldc hC (1000000000 : Int32) lcRX3_41 dX3_nearest_150 ?_
    refine z_icmp_ne hC 159 dX3_nearest_152 (by decide) (fun _ => ?_) (fun _ => ?_)
    · refine z_iconst hC (-1 : Int32) dX3_nearest_155 (by decide) ?_
      refine z_goto hC 165 dX3_nearest_156 (by decide) ?_
      exact z_iret hC (fun h => h) dX3_nearest_165
    · refine z_iload hC 0 dX3_nearest_159 rfl ?_
      refine z_sipush hC (1024 : Int32) dX3_nearest_161 (by decide) ?_
      refine z_irem hC dX3_nearest_164 (fun v3 => ?_)
      exact z_iret hC (fun h => h) dX3_nearest_165
  · refine z_iload hC 5 dX3_nearest_7 rfl ?_
    refine z_bipush hC (16 : Int32) dX3_nearest_9 (by decide) ?_
    refine z_icmp_ge hC 148 dX3_nearest_11 (by decide) (fun _ => ?_) (fun _ => ?_)
    · refine z_weak [(4, .int s1.1)] [4] rfl ?_
      exact z_leaf (fun h => h)
    · refine z_iload hC 5 dX3_nearest_14 rfl ?_
      refine z_iload_n hC 3 dX3_nearest_16 rfl rfl ?_
      refine z_bipush hC (6 : Int32) dX3_nearest_17 (by decide) ?_
      refine z_ishr hC dX3_nearest_19 ?_
      refine z_ixor hC dX3_nearest_20 ?_
      refine z_bipush hC (15 : Int32) dX3_nearest_21 (by decide) ?_
      refine z_iand hC dX3_nearest_23 ?_
      refine z_vli (fun x4 => ?_)
      refine z_istore hC [(0, .ref p0), (1, .ref p1), (2, .ref p2), (3, .int p3), (4, .int s1.1), (5, .int s1.2), (6, .int x4)] [1, 2, 3, 4, 5, 6, 0] dX3_nearest_24 (by decide) rfl ?_
      refine z_aload_n hC 1 dX3_nearest_26 rfl rfl ?_
      refine z_iload hC 6 dX3_nearest_27 rfl ?_
      refine z_lald hC dX3_nearest_29 (fun v5 => ?_)
      refine z_aload_n hC 2 dX3_nearest_30 rfl rfl ?_
      refine z_iload hC 6 dX3_nearest_31 rfl ?_
      refine z_lald hC dX3_nearest_33 (fun v6 => ?_)
      refine z_land hC dX3_nearest_34 ?_
      refine z_vll (fun x7 => ?_)
      refine z_lstore hC [(0, .ref p0), (1, .ref p1), (2, .ref p2), (3, .int p3), (4, .int s1.1), (5, .int s1.2), (6, .int x4), (7, .long x7)] [1, 2, 3, 4, 5, 6, 7, 0] dX3_nearest_35 (by decide) rfl ?_
      refine z_iconst hC (0 : Int32) dX3_nearest_37 (by decide) ?_
      refine z_istore hC [(0, .ref p0), (1, .ref p1), (2, .ref p2), (3, .int p3), (4, .int s1.1), (5, .int s1.2), (6, .int x4), (7, .long x7), (9, .int (0 : Int32))] [1, 2, 3, 4, 5, 6, 7, 8, 0] dX3_nearest_38 (by decide) rfl ?_
      refine z_lp (S := Int32 × Int32) (Y := Int32) (fun s8 => hp) (fun s8 => [(0, .ref p0), (1, .ref p1), (2, .ref p2), (3, .int p3), (4, .int s8.1), (5, .int s1.2), (6, .int x4), (7, .long x7), (9, .int s8.2)]) (fun y9 => hp) (fun y9 => [(0, .ref p0), (1, .ref p1), (2, .ref p2), (3, .int p3), (4, .int y9), (5, .int s1.2)]) 142 [] (fun y9 => ?_) (fun s8 => ?_) rfl rfl
      · refine z_iincv hC (1 : Int32) 5 (fun x10 => [(0, .ref p0), (1, .ref p1), (2, .ref p2), (3, .int p3), (4, .int y9), (5, .int x10)]) [1, 2, 3, 4, 5, 0] dX3_nearest_142 rfl (by decide) (by decide) (fun _ => rfl) (fun x10 => ?_)
        refine z_goto hC 7 dX3_nearest_145 (by decide) ?_
        exact z_leaf (fun h => h)
      · refine z_iload hC 8 dX3_nearest_40 rfl ?_
        refine z_bipush hC (64 : Int32) dX3_nearest_42 (by decide) ?_
        refine z_icmp_ge hC 142 dX3_nearest_44 (by decide) (fun _ => ?_) (fun _ => ?_)
        · refine z_weak [(0, .ref p0), (1, .ref p1), (2, .ref p2), (3, .int p3), (4, .int s8.1), (5, .int s1.2)] [0, 1, 2, 3, 4, 5] rfl ?_
          exact z_leaf (fun h => h)
        · refine z_lload hC 7 dX3_nearest_47 rfl ?_
          refine z_lconst hC (0 : Int64) dX3_nearest_49 (by decide) ?_
          refine z_lcmp hC dX3_nearest_50 ?_
          refine z_if_eq hC 142 dX3_nearest_51 (by decide) (fun _ => ?_) (fun _ => ?_)
          · refine z_weak [(0, .ref p0), (1, .ref p1), (2, .ref p2), (3, .int p3), (4, .int s8.1), (5, .int s1.2)] [0, 1, 2, 3, 4, 5] rfl ?_
            exact z_leaf (fun h => h)
          · refine z_aload_n hC 0 dX3_nearest_54 rfl rfl ?_
            refine z_getR hC lgRX3_21 dX3_nearest_55 (fun v11 => ?_)
            refine z_iload hC 8 dX3_nearest_58 rfl ?_
            refine z_iald hC dX3_nearest_60 (fun v12 => ?_)
            refine z_bipush hC (63 : Int32) dX3_nearest_61 (by decide) ?_
            refine z_iand hC dX3_nearest_63 ?_
            refine z_vli (fun x13 => ?_)
            refine z_istore hC [(0, .ref p0), (1, .ref p1), (2, .ref p2), (3, .int p3), (4, .int s8.1), (5, .int s1.2), (6, .int x4), (7, .long x7), (9, .int s8.2), (10, .int x13)] [1, 2, 3, 4, 5, 6, 7, 8, 9, 0] dX3_nearest_64 (by decide) rfl ?_
            refine z_aload_n hC 0 dX3_nearest_66 rfl rfl ?_
            refine z_getR hC lgRX3_18 dX3_nearest_67 (fun v14 => ?_)
            refine z_iload hC 5 dX3_nearest_70 rfl ?_
            refine z_iald hC dX3_nearest_72 (fun v15 => ?_)
            refine z_aload_n hC 0 dX3_nearest_73 rfl rfl ?_
            refine z_getR hC lgRX3_15 dX3_nearest_74 (fun v16 => ?_)
            refine z_iload hC 9 dX3_nearest_77 rfl ?_
            refine z_iald hC dX3_nearest_79 (fun v17 => ?_)
            refine z_iadd hC dX3_nearest_80 ?_
            refine z_sipush hC (1024 : Int32) dX3_nearest_81 (by decide) ?_
            refine z_imul hC dX3_nearest_84 ?_
            refine z_vli (fun x18 => ?_)
            refine z_istore hC [(0, .ref p0), (1, .ref p1), (2, .ref p2), (3, .int p3), (4, .int s8.1), (5, .int s1.2), (6, .int x4), (7, .long x7), (9, .int s8.2), (10, .int x13), (11, .int x18)] [1, 2, 3, 4, 5, 6, 7, 8, 9, 10, 0] dX3_nearest_85 (by decide) rfl ?_
            refine z_iload hC 10 dX3_nearest_87 rfl ?_
            refine z_iload hC 4 dX3_nearest_89 rfl ?_
            refine z_icmp_le hC 97 dX3_nearest_91 (by decide) (fun _ => ?_) (fun _ => ?_)
            · refine z_iload hC 9 dX3_nearest_97 rfl ?_
              refine z_iload_n hC 3 dX3_nearest_99 rfl rfl ?_
              refine z_bipush hC (63 : Int32) dX3_nearest_100 (by decide) ?_
              refine z_iand hC dX3_nearest_102 ?_
              refine z_ixor hC dX3_nearest_103 ?_
              refine z_vli (fun x19 => ?_)
              refine z_istore hC [(0, .ref p0), (1, .ref p1), (2, .ref p2), (3, .int p3), (4, .int s8.1), (5, .int s1.2), (6, .int x4), (7, .long x7), (9, .int s8.2), (10, .int x13), (11, .int x18), (12, .int x19)] [1, 2, 3, 4, 5, 6, 7, 8, 9, 10, 11, 0] dX3_nearest_104 (by decide) rfl ?_
              refine z_lload hC 7 dX3_nearest_106 rfl ?_
              refine z_iload hC 11 dX3_nearest_108 rfl ?_
              refine z_lushr hC dX3_nearest_110 ?_
              refine z_lconst hC (1 : Int64) dX3_nearest_111 (by decide) ?_
              refine z_land hC dX3_nearest_112 ?_
              refine z_lconst hC (0 : Int64) dX3_nearest_113 (by decide) ?_
              refine z_lcmp hC dX3_nearest_114 ?_
              refine z_if_eq hC 136 dX3_nearest_115 (by decide) (fun _ => ?_) (fun _ => ?_)
              · refine z_iincv hC (1 : Int32) 8 (fun x20 => [(0, .ref p0), (1, .ref p1), (2, .ref p2), (3, .int p3), (4, .int s8.1), (5, .int s1.2), (6, .int x4), (7, .long x7), (9, .int x20), (10, .int x13), (11, .int x18), (12, .int x19)]) [1, 2, 3, 4, 5, 6, 7, 8, 0, 9, 10, 11] dX3_nearest_136 rfl (by decide) (by decide) (fun _ => rfl) (fun x20 => ?_)
                refine z_goto hC 40 dX3_nearest_139 (by decide) ?_
                refine z_weak [(0, .ref p0), (1, .ref p1), (2, .ref p2), (3, .int p3), (4, .int s8.1), (5, .int s1.2), (6, .int x4), (7, .long x7), (9, .int x20)] [0, 1, 2, 3, 4, 5, 6, 7, 8] rfl ?_
                exact z_leaf (fun h => h)
              · refine z_iload hC 4 dX3_nearest_118 rfl ?_
                refine z_iload hC 10 dX3_nearest_120 rfl ?_
                refine z_iload hC 6 dX3_nearest_122 rfl ?_
                refine z_bipush hC (64 : Int32) dX3_nearest_124 (by decide) ?_
                refine z_imul hC dX3_nearest_126 ?_
                refine z_iadd hC dX3_nearest_127 ?_
                refine z_iload hC 11 dX3_nearest_128 rfl ?_
                refine z_iadd hC dX3_nearest_130 ?_
                refine z_mmin hC laRX3_42 hn0 (Nat.le_of_ble_eq_true rfl) dX3_nearest_131 ?_
                refine z_vli (fun x21 => ?_)
                refine z_istore hC [(0, .ref p0), (1, .ref p1), (2, .ref p2), (3, .int p3), (4, .int x21), (5, .int s1.2), (6, .int x4), (7, .long x7), (9, .int s8.2), (10, .int x13), (11, .int x18), (12, .int x19)] [1, 2, 3, 4, 0, 5, 6, 7, 8, 9, 10, 11] dX3_nearest_134 (by decide) rfl ?_
                refine z_iincv hC (1 : Int32) 8 (fun x22 => [(0, .ref p0), (1, .ref p1), (2, .ref p2), (3, .int p3), (4, .int x21), (5, .int s1.2), (6, .int x4), (7, .long x7), (9, .int x22), (10, .int x13), (11, .int x18), (12, .int x19)]) [1, 2, 3, 4, 5, 6, 7, 8, 0, 9, 10, 11] dX3_nearest_136 rfl (by decide) (by decide) (fun _ => rfl) (fun x22 => ?_)
                refine z_goto hC 40 dX3_nearest_139 (by decide) ?_
                refine z_weak [(0, .ref p0), (1, .ref p1), (2, .ref p2), (3, .int p3), (4, .int x21), (5, .int s1.2), (6, .int x4), (7, .long x7), (9, .int x22)] [0, 1, 2, 3, 4, 5, 6, 7, 8] rfl ?_
                exact z_leaf (fun h => h)
            · refine z_goto hC 142 dX3_nearest_94 (by decide) ?_
              refine z_weak [(0, .ref p0), (1, .ref p1), (2, .ref p2), (3, .int p3), (4, .int s8.1), (5, .int s1.2)] [0, 1, 2, 3, 4, 5] rfl ?_
              exact z_leaf (fun h => h)

theorem dX6_isFetched_0 : decode cX6_isFetched 0 = .ok (.aload_n 0, 1) := by decide +kernel
theorem dX6_isFetched_1 : decode cX6_isFetched 1 = .ok (.getfield 15, 3) := by decide +kernel
theorem dX6_isFetched_4 : decode cX6_isFetched 4 = .ok (.sipush 8640, 3) := by decide +kernel
theorem dX6_isFetched_7 : decode cX6_isFetched 7 = .ok (.if_icmp .lt 7, 3) := by decide +kernel
theorem dX6_isFetched_10 : decode cX6_isFetched 10 = .ok (.iconst 1, 1) := by decide +kernel
theorem dX6_isFetched_11 : decode cX6_isFetched 11 = .ok (.goto 4, 3) := by decide +kernel
theorem dX6_isFetched_14 : decode cX6_isFetched 14 = .ok (.iconst 0, 1) := by decide +kernel
theorem dX6_isFetched_15 : decode cX6_isFetched 15 = .ok (.ireturn, 1) := by decide +kernel
def FX6_isFetched (hp : HP) (p0 : Nat) : Option (Int32) := (gI [6] 1 hp p0).bind (fun v1 => if v1 < (8640 : Int32) then some (0 : Int32) else some (1 : Int32))
set_option maxHeartbeats 4000000 in
set_option maxRecDepth 100000 in
theorem ctX6_isFetched (l : Launch) (D : va_G) (tg : Nat → ClassId) (bs : Nat) (sa : Nat → Nat) (hp : HP) (p0 : Nat) : Ct l D tg bs sa yX6_isFetched cX6_isFetched 1 (some .boolean) 0 [.ref p0] hp (FX6_isFetched hp p0) (fun r => some (.int r)) (fun _ => hp) := by
  refine Ct.of (by decide) (Nat.le_of_ble_eq_true rfl) ?_
  intro V Q hVl hVd hVt hVb hVs hC
  subst hVl; subst hVd; subst hVt; subst hVb; subst hVs
  unfold FX6_isFetched
  show Zs V Q (0, 0) 1 _ _ hp [(0, .ref p0)] 0 []
  refine z_aload_n hC 0 dX6_isFetched_0 rfl rfl ?_
  refine z_getI hC lgRX6_15 dX6_isFetched_1 (fun v1 => ?_)
  refine z_sipush hC (8640 : Int32) dX6_isFetched_4 (by decide) ?_
  refine z_icmp_lt hC 14 dX6_isFetched_7 (by decide) (fun _ => ?_) (fun _ => ?_)
  · refine z_iconst hC (0 : Int32) dX6_isFetched_14 (by decide) ?_
    exact z_zret hC (by decide) (fun h => h) dX6_isFetched_15
  · refine z_iconst hC (1 : Int32) dX6_isFetched_10 (by decide) ?_
    refine z_goto hC 15 dX6_isFetched_11 (by decide) ?_
    exact z_zret hC (by decide) (fun h => h) dX6_isFetched_15

theorem dX6_isOver_0 : decode cX6_isOver 0 = .ok (.aload_n 0, 1) := by decide +kernel
theorem dX6_isOver_1 : decode cX6_isOver 1 = .ok (.getfield 27, 3) := by decide +kernel
theorem dX6_isOver_4 : decode cX6_isOver 4 = .ok (.ifCond .ne 10, 3) := by decide +kernel
theorem dX6_isOver_7 : decode cX6_isOver 7 = .ok (.aload_n 0, 1) := by decide +kernel
theorem dX6_isOver_8 : decode cX6_isOver 8 = .ok (.invokevirtual 31, 3) := by decide +kernel
theorem dX6_isOver_11 : decode cX6_isOver 11 = .ok (.ifCond .eq 7, 3) := by decide +kernel
theorem dX6_isOver_14 : decode cX6_isOver 14 = .ok (.iconst 1, 1) := by decide +kernel
theorem dX6_isOver_15 : decode cX6_isOver 15 = .ok (.goto 4, 3) := by decide +kernel
theorem dX6_isOver_18 : decode cX6_isOver 18 = .ok (.iconst 0, 1) := by decide +kernel
theorem dX6_isOver_19 : decode cX6_isOver 19 = .ok (.ireturn, 1) := by decide +kernel
def FX6_isOver (hp : HP) (p0 : Nat) : Option (Int32) := (gI [6] 5 hp p0).bind (fun v1 => if v1 = 0 then (rc [6] hp p0 (FX6_isFetched hp p0)).bind (fun v2 => if v2 = 0 then some (0 : Int32) else some (1 : Int32)) else some (1 : Int32))
set_option maxHeartbeats 4000000 in
set_option maxRecDepth 100000 in
theorem ctX6_isOver (l : Launch) (D : va_G) (tg : Nat → ClassId) (bs : Nat) (sa : Nat → Nat) (hp : HP) (p0 : Nat) : Ct l D tg bs sa yX6_isOver cX6_isOver 1 (some .boolean) 1 [.ref p0] hp (FX6_isOver hp p0) (fun r => some (.int r)) (fun _ => hp) := by
  refine Ct.of (by decide) (Nat.le_of_ble_eq_true rfl) ?_
  intro V Q hVl hVd hVt hVb hVs hC
  subst hVl; subst hVd; subst hVt; subst hVb; subst hVs
  unfold FX6_isOver
  show Zs V Q (0, 0) 1 _ _ hp [(0, .ref p0)] 0 []
  refine z_aload_n hC 0 dX6_isOver_0 rfl rfl ?_
  refine z_getI hC lgRX6_27 dX6_isOver_1 (fun v1 => ?_)
  refine z_if_ne hC 14 dX6_isOver_4 (by decide) (fun _ => ?_) (fun _ => ?_)
  · refine z_aload_n hC 0 dX6_isOver_7 rfl rfl ?_
    refine z_callVi hC (ci := 6) rfl lmRX6_31 (ctX6_isFetched (vLa V) (vDa V) (vTg V) (vBs V) (vSa V) hp p0) (by decide) hn0 dX6_isOver_8 rfl rfl (Nat.le_of_ble_eq_true rfl) (fun v2 => ?_)
    refine z_if_eq hC 18 dX6_isOver_11 (by decide) (fun _ => ?_) (fun _ => ?_)
    · refine z_iconst hC (0 : Int32) dX6_isOver_18 (by decide) ?_
      exact z_zret hC (by decide) (fun h => h) dX6_isOver_19
    · refine z_iconst hC (1 : Int32) dX6_isOver_14 (by decide) ?_
      refine z_goto hC 19 dX6_isOver_15 (by decide) ?_
      exact z_zret hC (by decide) (fun h => h) dX6_isOver_19
  · refine z_iconst hC (1 : Int32) dX6_isOver_14 (by decide) ?_
    refine z_goto hC 19 dX6_isOver_15 (by decide) ?_
    exact z_zret hC (by decide) (fun h => h) dX6_isOver_19

theorem dX5_plan_0 : decode cX5_plan 0 = .ok (.aload_n 0, 1) := by decide +kernel
theorem dX5_plan_1 : decode cX5_plan 1 = .ok (.aload_n 1, 1) := by decide +kernel
theorem dX5_plan_2 : decode cX5_plan 2 = .ok (.getfield 41, 3) := by decide +kernel
theorem dX5_plan_5 : decode cX5_plan 5 = .ok (.putfield 45, 3) := by decide +kernel
theorem dX5_plan_8 : decode cX5_plan 8 = .ok (.aload_n 0, 1) := by decide +kernel
theorem dX5_plan_9 : decode cX5_plan 9 = .ok (.iconst 0, 1) := by decide +kernel
theorem dX5_plan_10 : decode cX5_plan 10 = .ok (.putfield 46, 3) := by decide +kernel
theorem dX5_plan_13 : decode cX5_plan 13 = .ok (.aload_n 0, 1) := by decide +kernel
theorem dX5_plan_14 : decode cX5_plan 14 = .ok (.iconst 0, 1) := by decide +kernel
theorem dX5_plan_15 : decode cX5_plan 15 = .ok (.putfield 49, 3) := by decide +kernel
theorem dX5_plan_18 : decode cX5_plan 18 = .ok (.aload_n 0, 1) := by decide +kernel
theorem dX5_plan_19 : decode cX5_plan 19 = .ok (.iconst 0, 1) := by decide +kernel
theorem dX5_plan_20 : decode cX5_plan 20 = .ok (.putfield 52, 3) := by decide +kernel
theorem dX5_plan_23 : decode cX5_plan 23 = .ok (.aload_n 1, 1) := by decide +kernel
theorem dX5_plan_24 : decode cX5_plan 24 = .ok (.invokevirtual 55, 3) := by decide +kernel
theorem dX5_plan_27 : decode cX5_plan 27 = .ok (.ifCond .eq 10, 3) := by decide +kernel
theorem dX5_plan_30 : decode cX5_plan 30 = .ok (.aload_n 0, 1) := by decide +kernel
theorem dX5_plan_31 : decode cX5_plan 31 = .ok (.bipush (-5), 2) := by decide +kernel
theorem dX5_plan_33 : decode cX5_plan 33 = .ok (.putfield 59, 3) := by decide +kernel
theorem dX5_plan_36 : decode cX5_plan 36 = .ok (.return_, 1) := by decide +kernel
theorem dX5_plan_37 : decode cX5_plan 37 = .ok (.aload_n 1, 1) := by decide +kernel
theorem dX5_plan_38 : decode cX5_plan 38 = .ok (.getfield 62, 3) := by decide +kernel
theorem dX5_plan_41 : decode cX5_plan 41 = .ok (.iload_n 2, 1) := by decide +kernel
theorem dX5_plan_42 : decode cX5_plan 42 = .ok (.ishr, 1) := by decide +kernel
theorem dX5_plan_43 : decode cX5_plan 43 = .ok (.iconst 1, 1) := by decide +kernel
theorem dX5_plan_44 : decode cX5_plan 44 = .ok (.iand, 1) := by decide +kernel
theorem dX5_plan_45 : decode cX5_plan 45 = .ok (.ifCond .eq 10, 3) := by decide +kernel
theorem dX5_plan_48 : decode cX5_plan 48 = .ok (.aload_n 0, 1) := by decide +kernel
theorem dX5_plan_49 : decode cX5_plan 49 = .ok (.bipush (-4), 2) := by decide +kernel
theorem dX5_plan_51 : decode cX5_plan 51 = .ok (.putfield 59, 3) := by decide +kernel
theorem dX5_plan_54 : decode cX5_plan 54 = .ok (.return_, 1) := by decide +kernel
theorem dX5_plan_55 : decode cX5_plan 55 = .ok (.aload_n 0, 1) := by decide +kernel
theorem dX5_plan_56 : decode cX5_plan 56 = .ok (.getfield 36, 3) := by decide +kernel
theorem dX5_plan_59 : decode cX5_plan 59 = .ok (.aload_n 0, 1) := by decide +kernel
theorem dX5_plan_60 : decode cX5_plan 60 = .ok (.getfield 32, 3) := by decide +kernel
theorem dX5_plan_63 : decode cX5_plan 63 = .ok (.aload_n 0, 1) := by decide +kernel
theorem dX5_plan_64 : decode cX5_plan 64 = .ok (.getfield 28, 3) := by decide +kernel
theorem dX5_plan_67 : decode cX5_plan 67 = .ok (.getfield 65, 3) := by decide +kernel
theorem dX5_plan_70 : decode cX5_plan 70 = .ok (.iload_n 2, 1) := by decide +kernel
theorem dX5_plan_71 : decode cX5_plan 71 = .ok (.bipush 7, 2) := by decide +kernel
theorem dX5_plan_73 : decode cX5_plan 73 = .ok (.iand, 1) := by decide +kernel
theorem dX5_plan_74 : decode cX5_plan 74 = .ok (.aaload, 1) := by decide +kernel
theorem dX5_plan_75 : decode cX5_plan 75 = .ok (.aload_n 1, 1) := by decide +kernel
theorem dX5_plan_76 : decode cX5_plan 76 = .ok (.getfield 41, 3) := by decide +kernel
theorem dX5_plan_79 : decode cX5_plan 79 = .ok (.invokevirtual 71, 3) := by decide +kernel
theorem dX5_plan_82 : decode cX5_plan 82 = .ok (.istore_n 3, 1) := by decide +kernel
theorem dX5_plan_83 : decode cX5_plan 83 = .ok (.iload_n 3, 1) := by decide +kernel
theorem dX5_plan_84 : decode cX5_plan 84 = .ok (.ifCond .ge 10, 3) := by decide +kernel
theorem dX5_plan_87 : decode cX5_plan 87 = .ok (.aload_n 0, 1) := by decide +kernel
theorem dX5_plan_88 : decode cX5_plan 88 = .ok (.bipush (-2), 2) := by decide +kernel
theorem dX5_plan_90 : decode cX5_plan 90 = .ok (.putfield 59, 3) := by decide +kernel
theorem dX5_plan_93 : decode cX5_plan 93 = .ok (.return_, 1) := by decide +kernel
theorem dX5_plan_94 : decode cX5_plan 94 = .ok (.aload_n 1, 1) := by decide +kernel
theorem dX5_plan_95 : decode cX5_plan 95 = .ok (.getfield 41, 3) := by decide +kernel
theorem dX5_plan_98 : decode cX5_plan 98 = .ok (.iload_n 3, 1) := by decide +kernel
theorem dX5_plan_99 : decode cX5_plan 99 = .ok (.ixor, 1) := by decide +kernel
theorem dX5_plan_100 : decode cX5_plan 100 = .ok (.istore 4, 2) := by decide +kernel
theorem dX5_plan_102 : decode cX5_plan 102 = .ok (.aload_n 0, 1) := by decide +kernel
theorem dX5_plan_103 : decode cX5_plan 103 = .ok (.getfield 24, 3) := by decide +kernel
theorem dX5_plan_106 : decode cX5_plan 106 = .ok (.iload_n 2, 1) := by decide +kernel
theorem dX5_plan_107 : decode cX5_plan 107 = .ok (.iload 4, 2) := by decide +kernel
theorem dX5_plan_109 : decode cX5_plan 109 = .ok (.invokestatic 77, 3) := by decide +kernel
theorem dX5_plan_112 : decode cX5_plan 112 = .ok (.aload_n 0, 1) := by decide +kernel
theorem dX5_plan_113 : decode cX5_plan 113 = .ok (.getfield 36, 3) := by decide +kernel
theorem dX5_plan_116 : decode cX5_plan 116 = .ok (.iload 4, 2) := by decide +kernel
theorem dX5_plan_118 : decode cX5_plan 118 = .ok (.invokevirtual 83, 3) := by decide +kernel
theorem dX5_plan_121 : decode cX5_plan 121 = .ok (.aload_n 1, 1) := by decide +kernel
theorem dX5_plan_122 : decode cX5_plan 122 = .ok (.invokevirtual 86, 3) := by decide +kernel
theorem dX5_plan_125 : decode cX5_plan 125 = .ok (.aload_n 0, 1) := by decide +kernel
theorem dX5_plan_126 : decode cX5_plan 126 = .ok (.getfield 24, 3) := by decide +kernel
theorem dX5_plan_129 : decode cX5_plan 129 = .ok (.bipush 120, 2) := by decide +kernel
theorem dX5_plan_131 : decode cX5_plan 131 = .ok (.iconst 1, 1) := by decide +kernel
theorem dX5_plan_132 : decode cX5_plan 132 = .ok (.invokevirtual 92, 3) := by decide +kernel
theorem dX5_plan_135 : decode cX5_plan 135 = .ok (.ifCond .eq 10, 3) := by decide +kernel
theorem dX5_plan_138 : decode cX5_plan 138 = .ok (.aload_n 0, 1) := by decide +kernel
theorem dX5_plan_139 : decode cX5_plan 139 = .ok (.bipush (-3), 2) := by decide +kernel
theorem dX5_plan_141 : decode cX5_plan 141 = .ok (.putfield 59, 3) := by decide +kernel
theorem dX5_plan_144 : decode cX5_plan 144 = .ok (.return_, 1) := by decide +kernel
theorem dX5_plan_145 : decode cX5_plan 145 = .ok (.aload_n 0, 1) := by decide +kernel
theorem dX5_plan_146 : decode cX5_plan 146 = .ok (.aload_n 0, 1) := by decide +kernel
theorem dX5_plan_147 : decode cX5_plan 147 = .ok (.getfield 24, 3) := by decide +kernel
theorem dX5_plan_150 : decode cX5_plan 150 = .ok (.bipush 100, 2) := by decide +kernel
theorem dX5_plan_152 : decode cX5_plan 152 = .ok (.sipush 999, 3) := by decide +kernel
theorem dX5_plan_155 : decode cX5_plan 155 = .ok (.invokevirtual 92, 3) := by decide +kernel
theorem dX5_plan_158 : decode cX5_plan 158 = .ok (.putfield 59, 3) := by decide +kernel
theorem dX5_plan_161 : decode cX5_plan 161 = .ok (.aload_n 0, 1) := by decide +kernel
theorem dX5_plan_162 : decode cX5_plan 162 = .ok (.aload_n 0, 1) := by decide +kernel
theorem dX5_plan_163 : decode cX5_plan 163 = .ok (.getfield 24, 3) := by decide +kernel
theorem dX5_plan_166 : decode cX5_plan 166 = .ok (.bipush 103, 2) := by decide +kernel
theorem dX5_plan_168 : decode cX5_plan 168 = .ok (.bipush 99, 2) := by decide +kernel
theorem dX5_plan_170 : decode cX5_plan 170 = .ok (.invokevirtual 92, 3) := by decide +kernel
theorem dX5_plan_173 : decode cX5_plan 173 = .ok (.putfield 52, 3) := by decide +kernel
theorem dX5_plan_176 : decode cX5_plan 176 = .ok (.aload_n 0, 1) := by decide +kernel
theorem dX5_plan_177 : decode cX5_plan 177 = .ok (.iload_n 3, 1) := by decide +kernel
theorem dX5_plan_178 : decode cX5_plan 178 = .ok (.putfield 45, 3) := by decide +kernel
theorem dX5_plan_181 : decode cX5_plan 181 = .ok (.aload_n 0, 1) := by decide +kernel
theorem dX5_plan_182 : decode cX5_plan 182 = .ok (.iload 4, 2) := by decide +kernel
theorem dX5_plan_184 : decode cX5_plan 184 = .ok (.invokestatic 77, 3) := by decide +kernel
theorem dX5_plan_187 : decode cX5_plan 187 = .ok (.putfield 46, 3) := by decide +kernel
theorem dX5_plan_190 : decode cX5_plan 190 = .ok (.aload_n 0, 1) := by decide +kernel
theorem dX5_plan_191 : decode cX5_plan 191 = .ok (.aload_n 0, 1) := by decide +kernel
theorem dX5_plan_192 : decode cX5_plan 192 = .ok (.getfield 36, 3) := by decide +kernel
theorem dX5_plan_195 : decode cX5_plan 195 = .ok (.iload 4, 2) := by decide +kernel
theorem dX5_plan_197 : decode cX5_plan 197 = .ok (.invokevirtual 83, 3) := by decide +kernel
theorem dX5_plan_200 : decode cX5_plan 200 = .ok (.putfield 49, 3) := by decide +kernel
theorem dX5_plan_203 : decode cX5_plan 203 = .ok (.return_, 1) := by decide +kernel
def FX5_plan (hp : HP) (p0 : Nat) (p1 : Nat) (p2 : Int32) : Option (HP) := (gI [6] 0 hp p1).bind (fun v1 => (sI [5] 2 hp p0 v1).bind (fun hp2 => (sI [5] 3 hp2 p0 (0 : Int32)).bind (fun hp3 => (sI [5] 4 hp3 p0 (0 : Int32)).bind (fun hp4 => (sI [5] 5 hp4 p0 (0 : Int32)).bind (fun hp5 => (rc [6] hp5 p1 (FX6_isOver hp5 p1)).bind (fun v6 => if v6 = 0 then (gI [6] 4 hp5 p1).bind (fun v7 => if ((v7 >>> (p2 &&& 31)) &&& (1 : Int32)) = 0 then (gR [5] 11 hp5 p0).bind (fun v8 => (gR [5] 10 hp5 p0).bind (fun v9 => (gR [5] 9 hp5 p0).bind (fun v10 => (gR [0] 0 hp5 v10).bind (fun v11 => (rdA 4 hp5 v11 (p2 &&& (7 : Int32))).bind (fun v12 => (gI [6] 0 hp5 p1).bind (fun v13 => (rc [3] hp5 v8 (FX3_nearest hp5 v8 v9 v12 v13)).bind (fun v14 => if 0 ≤ v14 then (gI [6] 0 hp5 p1).bind (fun v15 => vl (v15 ^^^ v14) (fun x16 => (gR [5] 0 hp5 p0).bind (fun v17 => (FJ6_bitCount_0f7a4 x16).bind (fun v18 => (gR [5] 11 hp5 p0).bind (fun v19 => (rc [3] hp5 v19 (FX3_of hp5 v19 x16)).bind (fun v20 => (rc [2] hp5 v17 (FX2_look hp5 v17 p2 v18 v20 p1)).bind (fun w21 => (gR [5] 0 w21 p0).bind (fun v22 => (rc [2] w21 v22 (FX2_worth w21 v22 (120 : Int32) (1 : Int32))).bind (fun w23 => if w23.1 = 0 then (gR [5] 0 w23.2 p0).bind (fun v24 => (rc [2] w23.2 v24 (FX2_worth w23.2 v24 (100 : Int32) (999 : Int32))).bind (fun w25 => (sI [5] 1 w25.2 p0 w25.1).bind (fun hp26 => (gR [5] 0 hp26 p0).bind (fun v27 => (rc [2] hp26 v27 (FX2_worth hp26 v27 (103 : Int32) (99 : Int32))).bind (fun w28 => (sI [5] 5 w28.2 p0 w28.1).bind (fun hp29 => (sI [5] 2 hp29 p0 v14).bind (fun hp30 => (FJ6_bitCount_0f7a4 x16).bind (fun v31 => (sI [5] 3 hp30 p0 v31).bind (fun hp32 => (gR [5] 11 hp32 p0).bind (fun v33 => (rc [3] hp32 v33 (FX3_of hp32 v33 x16)).bind (fun v34 => (sI [5] 4 hp32 p0 v34).bind (fun hp35 => some hp35)))))))))))) else (sI [5] 1 w23.2 p0 (-3 : Int32)).bind (fun hp36 => some hp36)))))))))) else (sI [5] 1 hp5 p0 (-2 : Int32)).bind (fun hp37 => some hp37)))))))) else (sI [5] 1 hp5 p0 (-4 : Int32)).bind (fun hp38 => some hp38)) else (sI [5] 1 hp5 p0 (-5 : Int32)).bind (fun hp39 => some hp39)))))))
set_option maxHeartbeats 4000000 in
set_option maxRecDepth 100000 in
theorem ctX5_plan (l : Launch) (D : va_G) (tg : Nat → ClassId) (bs : Nat) (sa : Nat → Nat) (hp : HP) (p0 : Nat) (p1 : Nat) (p2 : Int32) : Ct l D tg bs sa yX5_plan cX5_plan 5 none 3 [.ref p0, .ref p1, .int p2] hp (FX5_plan hp p0 p1 p2) (fun _ => none) (fun r => r) := by
  refine Ct.of (by decide) (Nat.le_of_ble_eq_true rfl) ?_
  intro V Q hVl hVd hVt hVb hVs hC
  subst hVl; subst hVd; subst hVt; subst hVb; subst hVs
  unfold FX5_plan
  show Zs V Q (0, 0) 5 _ _ hp [(0, .ref p0), (1, .ref p1), (2, .int p2)] 0 []
  refine z_aload_n hC 0 dX5_plan_0 rfl rfl ?_
  refine z_aload_n hC 1 dX5_plan_1 rfl rfl ?_
  refine z_getI hC lgRX5_41 dX5_plan_2 (fun v1 => ?_)
  refine z_putI hC lpRX5_45 dX5_plan_5 (fun hp2 => ?_)
  refine z_aload_n hC 0 dX5_plan_8 rfl rfl ?_
  refine z_iconst hC (0 : Int32) dX5_plan_9 (by decide) ?_
  refine z_putI hC lpRX5_46 dX5_plan_10 (fun hp3 => ?_)
  refine z_aload_n hC 0 dX5_plan_13 rfl rfl ?_
  refine z_iconst hC (0 : Int32) dX5_plan_14 (by decide) ?_
  refine z_putI hC lpRX5_49 dX5_plan_15 (fun hp4 => ?_)
  refine z_aload_n hC 0 dX5_plan_18 rfl rfl ?_
  refine z_iconst hC (0 : Int32) dX5_plan_19 (by decide) ?_
  refine z_putI hC lpRX5_52 dX5_plan_20 (fun hp5 => ?_)
  refine z_aload_n hC 1 dX5_plan_23 rfl rfl ?_
  refine z_callVi hC (ci := 6) rfl lmRX5_55 (ctX6_isOver (vLa V) (vDa V) (vTg V) (vBs V) (vSa V) hp5 p1) (by decide) hn0 dX5_plan_24 rfl rfl (Nat.le_of_ble_eq_true rfl) (fun v6 => ?_)
  refine z_if_eq hC 37 dX5_plan_27 (by decide) (fun _ => ?_) (fun _ => ?_)
  · refine z_aload_n hC 1 dX5_plan_37 rfl rfl ?_
    refine z_getI hC lgRX5_62 dX5_plan_38 (fun v7 => ?_)
    refine z_iload_n hC 2 dX5_plan_41 rfl rfl ?_
    refine z_ishr hC dX5_plan_42 ?_
    refine z_iconst hC (1 : Int32) dX5_plan_43 (by decide) ?_
    refine z_iand hC dX5_plan_44 ?_
    refine z_if_eq hC 55 dX5_plan_45 (by decide) (fun _ => ?_) (fun _ => ?_)
    · refine z_aload_n hC 0 dX5_plan_55 rfl rfl ?_
      refine z_getR hC lgRX5_36 dX5_plan_56 (fun v8 => ?_)
      refine z_aload_n hC 0 dX5_plan_59 rfl rfl ?_
      refine z_getR hC lgRX5_32 dX5_plan_60 (fun v9 => ?_)
      refine z_aload_n hC 0 dX5_plan_63 rfl rfl ?_
      refine z_getR hC lgRX5_28 dX5_plan_64 (fun v10 => ?_)
      refine z_getR hC lgRX5_65 dX5_plan_67 (fun v11 => ?_)
      refine z_iload_n hC 2 dX5_plan_70 rfl rfl ?_
      refine z_bipush hC (7 : Int32) dX5_plan_71 (by decide) ?_
      refine z_iand hC dX5_plan_73 ?_
      refine z_aald4 hC dX5_plan_74 (fun v12 => ?_)
      refine z_aload_n hC 1 dX5_plan_75 rfl rfl ?_
      refine z_getI hC lgRX5_41 dX5_plan_76 (fun v13 => ?_)
      refine z_callVi hC (ci := 3) rfl lmRX5_71 (ctX3_nearest (vLa V) (vDa V) (vTg V) (vBs V) (vSa V) hp5 v8 v9 v12 v13) (by decide) hn0 dX5_plan_79 rfl rfl (Nat.le_of_ble_eq_true rfl) (fun v14 => ?_)
      refine z_istore_n hC [(0, .ref p0), (1, .ref p1), (2, .int p2), (3, .int v14)] [1, 2, 3, 0] dX5_plan_82 rfl (by decide) rfl ?_
      refine z_iload_n hC 3 dX5_plan_83 rfl rfl ?_
      refine z_if_ge hC 94 dX5_plan_84 (by decide) (fun _ => ?_) (fun _ => ?_)
      · refine z_aload_n hC 1 dX5_plan_94 rfl rfl ?_
        refine z_getI hC lgRX5_41 dX5_plan_95 (fun v15 => ?_)
        refine z_iload_n hC 3 dX5_plan_98 rfl rfl ?_
        refine z_ixor hC dX5_plan_99 ?_
        refine z_vli (fun x16 => ?_)
        refine z_istore hC [(0, .ref p0), (1, .ref p1), (2, .int p2), (3, .int v14), (4, .int x16)] [1, 2, 3, 4, 0] dX5_plan_100 (by decide) rfl ?_
        refine z_aload_n hC 0 dX5_plan_102 rfl rfl ?_
        refine z_getR hC lgRX5_24 dX5_plan_103 (fun v17 => ?_)
        refine z_iload_n hC 2 dX5_plan_106 rfl rfl ?_
        refine z_iload hC 4 dX5_plan_107 rfl ?_
        refine z_callSi hC lmRX5_77 (ctJ6_bitCount_0f7a4 (vLa V) (vDa V) (vTg V) (vBs V) (vSa V) hp5 x16) (by decide) hn0 dX5_plan_109 rfl rfl (Nat.le_of_ble_eq_true rfl) (fun v18 => ?_)
        refine z_aload_n hC 0 dX5_plan_112 rfl rfl ?_
        refine z_getR hC lgRX5_36 dX5_plan_113 (fun v19 => ?_)
        refine z_iload hC 4 dX5_plan_116 rfl ?_
        refine z_callVi hC (ci := 3) rfl lmRX5_83 (ctX3_of (vLa V) (vDa V) (vTg V) (vBs V) (vSa V) hp5 v19 x16) (by decide) hn0 dX5_plan_118 rfl rfl (Nat.le_of_ble_eq_true rfl) (fun v20 => ?_)
        refine z_aload_n hC 1 dX5_plan_121 rfl rfl ?_
        refine z_callVv hC (ci := 2) rfl lmRX5_86 (ctX2_look (vLa V) (vDa V) (vTg V) (vBs V) (vSa V) hp5 v17 p2 v18 v20 p1) (by decide) hn0 dX5_plan_122 rfl rfl (Nat.le_of_ble_eq_true rfl) (fun w21 => ?_)
        refine z_aload_n hC 0 dX5_plan_125 rfl rfl ?_
        refine z_getR hC lgRX5_24 dX5_plan_126 (fun v22 => ?_)
        refine z_bipush hC (120 : Int32) dX5_plan_129 (by decide) ?_
        refine z_iconst hC (1 : Int32) dX5_plan_131 (by decide) ?_
        refine z_callVi hC (ci := 2) rfl lmRX5_92 (ctX2_worth (vLa V) (vDa V) (vTg V) (vBs V) (vSa V) w21 v22 (120 : Int32) (1 : Int32)) (by decide) hn0 dX5_plan_132 rfl rfl (Nat.le_of_ble_eq_true rfl) (fun w23 => ?_)
        refine z_if_eq hC 145 dX5_plan_135 (by decide) (fun _ => ?_) (fun _ => ?_)
        · refine z_aload_n hC 0 dX5_plan_145 rfl rfl ?_
          refine z_aload_n hC 0 dX5_plan_146 rfl rfl ?_
          refine z_getR hC lgRX5_24 dX5_plan_147 (fun v24 => ?_)
          refine z_bipush hC (100 : Int32) dX5_plan_150 (by decide) ?_
          refine z_sipush hC (999 : Int32) dX5_plan_152 (by decide) ?_
          refine z_callVi hC (ci := 2) rfl lmRX5_92 (ctX2_worth (vLa V) (vDa V) (vTg V) (vBs V) (vSa V) w23.2 v24 (100 : Int32) (999 : Int32)) (by decide) hn0 dX5_plan_155 rfl rfl (Nat.le_of_ble_eq_true rfl) (fun w25 => ?_)
          refine z_putI hC lpRX5_59 dX5_plan_158 (fun hp26 => ?_)
          refine z_aload_n hC 0 dX5_plan_161 rfl rfl ?_
          refine z_aload_n hC 0 dX5_plan_162 rfl rfl ?_
          refine z_getR hC lgRX5_24 dX5_plan_163 (fun v27 => ?_)
          refine z_bipush hC (103 : Int32) dX5_plan_166 (by decide) ?_
          refine z_bipush hC (99 : Int32) dX5_plan_168 (by decide) ?_
          refine z_callVi hC (ci := 2) rfl lmRX5_92 (ctX2_worth (vLa V) (vDa V) (vTg V) (vBs V) (vSa V) hp26 v27 (103 : Int32) (99 : Int32)) (by decide) hn0 dX5_plan_170 rfl rfl (Nat.le_of_ble_eq_true rfl) (fun w28 => ?_)
          refine z_putI hC lpRX5_52 dX5_plan_173 (fun hp29 => ?_)
          refine z_aload_n hC 0 dX5_plan_176 rfl rfl ?_
          refine z_iload_n hC 3 dX5_plan_177 rfl rfl ?_
          refine z_putI hC lpRX5_45 dX5_plan_178 (fun hp30 => ?_)
          refine z_aload_n hC 0 dX5_plan_181 rfl rfl ?_
          refine z_iload hC 4 dX5_plan_182 rfl ?_
          refine z_callSi hC lmRX5_77 (ctJ6_bitCount_0f7a4 (vLa V) (vDa V) (vTg V) (vBs V) (vSa V) hp30 x16) (by decide) hn0 dX5_plan_184 rfl rfl (Nat.le_of_ble_eq_true rfl) (fun v31 => ?_)
          refine z_putI hC lpRX5_46 dX5_plan_187 (fun hp32 => ?_)
          refine z_aload_n hC 0 dX5_plan_190 rfl rfl ?_
          refine z_aload_n hC 0 dX5_plan_191 rfl rfl ?_
          refine z_getR hC lgRX5_36 dX5_plan_192 (fun v33 => ?_)
          refine z_iload hC 4 dX5_plan_195 rfl ?_
          refine z_callVi hC (ci := 3) rfl lmRX5_83 (ctX3_of (vLa V) (vDa V) (vTg V) (vBs V) (vSa V) hp32 v33 x16) (by decide) hn0 dX5_plan_197 rfl rfl (Nat.le_of_ble_eq_true rfl) (fun v34 => ?_)
          refine z_putI hC lpRX5_49 dX5_plan_200 (fun hp35 => ?_)
          exact z_vret hC (fun h => h) dX5_plan_203
        · refine z_aload_n hC 0 dX5_plan_138 rfl rfl ?_
          refine z_bipush hC (-3 : Int32) dX5_plan_139 (by decide) ?_
          refine z_putI hC lpRX5_59 dX5_plan_141 (fun hp36 => ?_)
          exact z_vret hC (fun h => h) dX5_plan_144
      · refine z_aload_n hC 0 dX5_plan_87 rfl rfl ?_
        refine z_bipush hC (-2 : Int32) dX5_plan_88 (by decide) ?_
        refine z_putI hC lpRX5_59 dX5_plan_90 (fun hp37 => ?_)
        exact z_vret hC (fun h => h) dX5_plan_93
    · refine z_aload_n hC 0 dX5_plan_48 rfl rfl ?_
      refine z_bipush hC (-4 : Int32) dX5_plan_49 (by decide) ?_
      refine z_putI hC lpRX5_59 dX5_plan_51 (fun hp38 => ?_)
      exact z_vret hC (fun h => h) dX5_plan_54
  · refine z_aload_n hC 0 dX5_plan_30 rfl rfl ?_
    refine z_bipush hC (-5 : Int32) dX5_plan_31 (by decide) ?_
    refine z_putI hC lpRX5_59 dX5_plan_33 (fun hp39 => ?_)
    exact z_vret hC (fun h => h) dX5_plan_36

theorem dX6_passDays_0 : decode cX6_passDays 0 = .ok (.aload_n 0, 1) := by decide +kernel
theorem dX6_passDays_1 : decode cX6_passDays 1 = .ok (.sipush 8640, 3) := by decide +kernel
theorem dX6_passDays_4 : decode cX6_passDays 4 = .ok (.aload_n 0, 1) := by decide +kernel
theorem dX6_passDays_5 : decode cX6_passDays 5 = .ok (.getfield 15, 3) := by decide +kernel
theorem dX6_passDays_8 : decode cX6_passDays 8 = .ok (.iload_n 1, 1) := by decide +kernel
theorem dX6_passDays_9 : decode cX6_passDays 9 = .ok (.iadd, 1) := by decide +kernel
theorem dX6_passDays_10 : decode cX6_passDays 10 = .ok (.invokestatic 35, 3) := by decide +kernel
theorem dX6_passDays_13 : decode cX6_passDays 13 = .ok (.putfield 15, 3) := by decide +kernel
theorem dX6_passDays_16 : decode cX6_passDays 16 = .ok (.return_, 1) := by decide +kernel
def FX6_passDays (hp : HP) (p0 : Nat) (p1 : Int32) : Option (HP) := (gI [6] 1 hp p0).bind (fun v1 => (sI [6] 1 hp p0 (mnI (8640 : Int32) (v1 + p1))).bind (fun hp2 => some hp2))
set_option maxHeartbeats 4000000 in
set_option maxRecDepth 100000 in
theorem ctX6_passDays (l : Launch) (D : va_G) (tg : Nat → ClassId) (bs : Nat) (sa : Nat → Nat) (hp : HP) (p0 : Nat) (p1 : Int32) : Ct l D tg bs sa yX6_passDays cX6_passDays 2 none 1 [.ref p0, .int p1] hp (FX6_passDays hp p0 p1) (fun _ => none) (fun r => r) := by
  refine Ct.of (by decide) (Nat.le_of_ble_eq_true rfl) ?_
  intro V Q hVl hVd hVt hVb hVs hC
  subst hVl; subst hVd; subst hVt; subst hVb; subst hVs
  unfold FX6_passDays
  show Zs V Q (0, 0) 2 _ _ hp [(0, .ref p0), (1, .int p1)] 0 []
  refine z_aload_n hC 0 dX6_passDays_0 rfl rfl ?_
  refine z_sipush hC (8640 : Int32) dX6_passDays_1 (by decide) ?_
  refine z_aload_n hC 0 dX6_passDays_4 rfl rfl ?_
  refine z_getI hC lgRX6_15 dX6_passDays_5 (fun v1 => ?_)
  refine z_iload_n hC 1 dX6_passDays_8 rfl rfl ?_
  refine z_iadd hC dX6_passDays_9 ?_
  refine z_mmin hC laRX6_35 hn0 (Nat.le_of_ble_eq_true rfl) dX6_passDays_10 ?_
  refine z_putI hC lpRX6_15 dX6_passDays_13 (fun hp2 => ?_)
  exact z_vret hC (fun h => h) dX6_passDays_16

theorem dX6_addSins_0 : decode cX6_addSins 0 = .ok (.aload_n 0, 1) := by decide +kernel
theorem dX6_addSins_1 : decode cX6_addSins 1 = .ok (.sipush 9999, 3) := by decide +kernel
theorem dX6_addSins_4 : decode cX6_addSins 4 = .ok (.aload_n 0, 1) := by decide +kernel
theorem dX6_addSins_5 : decode cX6_addSins 5 = .ok (.getfield 18, 3) := by decide +kernel
theorem dX6_addSins_8 : decode cX6_addSins 8 = .ok (.iload_n 1, 1) := by decide +kernel
theorem dX6_addSins_9 : decode cX6_addSins 9 = .ok (.iadd, 1) := by decide +kernel
theorem dX6_addSins_10 : decode cX6_addSins 10 = .ok (.invokestatic 35, 3) := by decide +kernel
theorem dX6_addSins_13 : decode cX6_addSins 13 = .ok (.putfield 18, 3) := by decide +kernel
theorem dX6_addSins_16 : decode cX6_addSins 16 = .ok (.return_, 1) := by decide +kernel
def FX6_addSins (hp : HP) (p0 : Nat) (p1 : Int32) : Option (HP) := (gI [6] 2 hp p0).bind (fun v1 => (sI [6] 2 hp p0 (mnI (9999 : Int32) (v1 + p1))).bind (fun hp2 => some hp2))
set_option maxHeartbeats 4000000 in
set_option maxRecDepth 100000 in
theorem ctX6_addSins (l : Launch) (D : va_G) (tg : Nat → ClassId) (bs : Nat) (sa : Nat → Nat) (hp : HP) (p0 : Nat) (p1 : Int32) : Ct l D tg bs sa yX6_addSins cX6_addSins 2 none 1 [.ref p0, .int p1] hp (FX6_addSins hp p0 p1) (fun _ => none) (fun r => r) := by
  refine Ct.of (by decide) (Nat.le_of_ble_eq_true rfl) ?_
  intro V Q hVl hVd hVt hVb hVs hC
  subst hVl; subst hVd; subst hVt; subst hVb; subst hVs
  unfold FX6_addSins
  show Zs V Q (0, 0) 2 _ _ hp [(0, .ref p0), (1, .int p1)] 0 []
  refine z_aload_n hC 0 dX6_addSins_0 rfl rfl ?_
  refine z_sipush hC (9999 : Int32) dX6_addSins_1 (by decide) ?_
  refine z_aload_n hC 0 dX6_addSins_4 rfl rfl ?_
  refine z_getI hC lgRX6_18 dX6_addSins_5 (fun v1 => ?_)
  refine z_iload_n hC 1 dX6_addSins_8 rfl rfl ?_
  refine z_iadd hC dX6_addSins_9 ?_
  refine z_mmin hC laRX6_35 hn0 (Nat.le_of_ble_eq_true rfl) dX6_addSins_10 ?_
  refine z_putI hC lpRX6_18 dX6_addSins_13 (fun hp2 => ?_)
  exact z_vret hC (fun h => h) dX6_addSins_16

theorem dX5_grant_0 : decode cX5_grant 0 = .ok (.aload_n 1, 1) := by decide +kernel
theorem dX5_grant_1 : decode cX5_grant 1 = .ok (.aload_n 0, 1) := by decide +kernel
theorem dX5_grant_2 : decode cX5_grant 2 = .ok (.getfield 45, 3) := by decide +kernel
theorem dX5_grant_5 : decode cX5_grant 5 = .ok (.putfield 41, 3) := by decide +kernel
theorem dX5_grant_8 : decode cX5_grant 8 = .ok (.aload_n 1, 1) := by decide +kernel
theorem dX5_grant_9 : decode cX5_grant 9 = .ok (.aload_n 0, 1) := by decide +kernel
theorem dX5_grant_10 : decode cX5_grant 10 = .ok (.getfield 59, 3) := by decide +kernel
theorem dX5_grant_13 : decode cX5_grant 13 = .ok (.invokevirtual 96, 3) := by decide +kernel
theorem dX5_grant_16 : decode cX5_grant 16 = .ok (.aload_n 1, 1) := by decide +kernel
theorem dX5_grant_17 : decode cX5_grant 17 = .ok (.aload_n 0, 1) := by decide +kernel
theorem dX5_grant_18 : decode cX5_grant 18 = .ok (.getfield 52, 3) := by decide +kernel
theorem dX5_grant_21 : decode cX5_grant 21 = .ok (.invokevirtual 100, 3) := by decide +kernel
theorem dX5_grant_24 : decode cX5_grant 24 = .ok (.aload_n 1, 1) := by decide +kernel
theorem dX5_grant_25 : decode cX5_grant 25 = .ok (.dup, 1) := by decide +kernel
theorem dX5_grant_26 : decode cX5_grant 26 = .ok (.getfield 62, 3) := by decide +kernel
theorem dX5_grant_29 : decode cX5_grant 29 = .ok (.iconst 1, 1) := by decide +kernel
theorem dX5_grant_30 : decode cX5_grant 30 = .ok (.iload_n 2, 1) := by decide +kernel
theorem dX5_grant_31 : decode cX5_grant 31 = .ok (.ishl, 1) := by decide +kernel
theorem dX5_grant_32 : decode cX5_grant 32 = .ok (.ior, 1) := by decide +kernel
theorem dX5_grant_33 : decode cX5_grant 33 = .ok (.putfield 62, 3) := by decide +kernel
theorem dX5_grant_36 : decode cX5_grant 36 = .ok (.aload_n 1, 1) := by decide +kernel
theorem dX5_grant_37 : decode cX5_grant 37 = .ok (.dup, 1) := by decide +kernel
theorem dX5_grant_38 : decode cX5_grant 38 = .ok (.getfield 103, 3) := by decide +kernel
theorem dX5_grant_41 : decode cX5_grant 41 = .ok (.iconst 1, 1) := by decide +kernel
theorem dX5_grant_42 : decode cX5_grant 42 = .ok (.iadd, 1) := by decide +kernel
theorem dX5_grant_43 : decode cX5_grant 43 = .ok (.putfield 103, 3) := by decide +kernel
theorem dX5_grant_46 : decode cX5_grant 46 = .ok (.return_, 1) := by decide +kernel
def FX5_grant (hp : HP) (p0 : Nat) (p1 : Nat) (p2 : Int32) : Option (HP) := (gI [5] 2 hp p0).bind (fun v1 => (sI [6] 0 hp p1 v1).bind (fun hp2 => (gI [5] 1 hp2 p0).bind (fun v3 => (rc [6] hp2 p1 (FX6_passDays hp2 p1 v3)).bind (fun w4 => (gI [5] 5 w4 p0).bind (fun v5 => (rc [6] w4 p1 (FX6_addSins w4 p1 v5)).bind (fun w6 => (gI [6] 4 w6 p1).bind (fun v7 => (sI [6] 4 w6 p1 (v7 ||| ((1 : Int32) <<< (p2 &&& 31)))).bind (fun hp8 => (gI [6] 3 hp8 p1).bind (fun v9 => (sI [6] 3 hp8 p1 (v9 + (1 : Int32))).bind (fun hp10 => some hp10))))))))))
set_option maxHeartbeats 4000000 in
set_option maxRecDepth 100000 in
theorem ctX5_grant (l : Launch) (D : va_G) (tg : Nat → ClassId) (bs : Nat) (sa : Nat → Nat) (hp : HP) (p0 : Nat) (p1 : Nat) (p2 : Int32) : Ct l D tg bs sa yX5_grant cX5_grant 3 none 2 [.ref p0, .ref p1, .int p2] hp (FX5_grant hp p0 p1 p2) (fun _ => none) (fun r => r) := by
  refine Ct.of (by decide) (Nat.le_of_ble_eq_true rfl) ?_
  intro V Q hVl hVd hVt hVb hVs hC
  subst hVl; subst hVd; subst hVt; subst hVb; subst hVs
  unfold FX5_grant
  show Zs V Q (0, 0) 3 _ _ hp [(0, .ref p0), (1, .ref p1), (2, .int p2)] 0 []
  refine z_aload_n hC 1 dX5_grant_0 rfl rfl ?_
  refine z_aload_n hC 0 dX5_grant_1 rfl rfl ?_
  refine z_getI hC lgRX5_45 dX5_grant_2 (fun v1 => ?_)
  refine z_putI hC lpRX5_41 dX5_grant_5 (fun hp2 => ?_)
  refine z_aload_n hC 1 dX5_grant_8 rfl rfl ?_
  refine z_aload_n hC 0 dX5_grant_9 rfl rfl ?_
  refine z_getI hC lgRX5_59 dX5_grant_10 (fun v3 => ?_)
  refine z_callVv hC (ci := 6) rfl lmRX5_96 (ctX6_passDays (vLa V) (vDa V) (vTg V) (vBs V) (vSa V) hp2 p1 v3) (by decide) hn0 dX5_grant_13 rfl rfl (Nat.le_of_ble_eq_true rfl) (fun w4 => ?_)
  refine z_aload_n hC 1 dX5_grant_16 rfl rfl ?_
  refine z_aload_n hC 0 dX5_grant_17 rfl rfl ?_
  refine z_getI hC lgRX5_52 dX5_grant_18 (fun v5 => ?_)
  refine z_callVv hC (ci := 6) rfl lmRX5_100 (ctX6_addSins (vLa V) (vDa V) (vTg V) (vBs V) (vSa V) w4 p1 v5) (by decide) hn0 dX5_grant_21 rfl rfl (Nat.le_of_ble_eq_true rfl) (fun w6 => ?_)
  refine z_aload_n hC 1 dX5_grant_24 rfl rfl ?_
  refine z_dup hC dX5_grant_25 rfl ?_
  refine z_getI hC lgRX5_62 dX5_grant_26 (fun v7 => ?_)
  refine z_iconst hC (1 : Int32) dX5_grant_29 (by decide) ?_
  refine z_iload_n hC 2 dX5_grant_30 rfl rfl ?_
  refine z_ishl hC dX5_grant_31 ?_
  refine z_ior hC dX5_grant_32 ?_
  refine z_putI hC lpRX5_62 dX5_grant_33 (fun hp8 => ?_)
  refine z_aload_n hC 1 dX5_grant_36 rfl rfl ?_
  refine z_dup hC dX5_grant_37 rfl ?_
  refine z_getI hC lgRX5_103 dX5_grant_38 (fun v9 => ?_)
  refine z_iconst hC (1 : Int32) dX5_grant_41 (by decide) ?_
  refine z_iadd hC dX5_grant_42 ?_
  refine z_putI hC lpRX5_103 dX5_grant_43 (fun hp10 => ?_)
  exact z_vret hC (fun h => h) dX5_grant_46

theorem dX6_take_0 : decode cX6_take 0 = .ok (.aload_n 0, 1) := by decide +kernel
theorem dX6_take_1 : decode cX6_take 1 = .ok (.aload_n 1, 1) := by decide +kernel
theorem dX6_take_2 : decode cX6_take 2 = .ok (.getfield 9, 3) := by decide +kernel
theorem dX6_take_5 : decode cX6_take 5 = .ok (.putfield 9, 3) := by decide +kernel
theorem dX6_take_8 : decode cX6_take 8 = .ok (.aload_n 0, 1) := by decide +kernel
theorem dX6_take_9 : decode cX6_take 9 = .ok (.aload_n 1, 1) := by decide +kernel
theorem dX6_take_10 : decode cX6_take 10 = .ok (.getfield 15, 3) := by decide +kernel
theorem dX6_take_13 : decode cX6_take 13 = .ok (.putfield 15, 3) := by decide +kernel
theorem dX6_take_16 : decode cX6_take 16 = .ok (.aload_n 0, 1) := by decide +kernel
theorem dX6_take_17 : decode cX6_take 17 = .ok (.aload_n 1, 1) := by decide +kernel
theorem dX6_take_18 : decode cX6_take 18 = .ok (.getfield 18, 3) := by decide +kernel
theorem dX6_take_21 : decode cX6_take 21 = .ok (.putfield 18, 3) := by decide +kernel
theorem dX6_take_24 : decode cX6_take 24 = .ok (.aload_n 0, 1) := by decide +kernel
theorem dX6_take_25 : decode cX6_take 25 = .ok (.aload_n 1, 1) := by decide +kernel
theorem dX6_take_26 : decode cX6_take 26 = .ok (.getfield 21, 3) := by decide +kernel
theorem dX6_take_29 : decode cX6_take 29 = .ok (.putfield 21, 3) := by decide +kernel
theorem dX6_take_32 : decode cX6_take 32 = .ok (.aload_n 0, 1) := by decide +kernel
theorem dX6_take_33 : decode cX6_take 33 = .ok (.aload_n 1, 1) := by decide +kernel
theorem dX6_take_34 : decode cX6_take 34 = .ok (.getfield 24, 3) := by decide +kernel
theorem dX6_take_37 : decode cX6_take 37 = .ok (.putfield 24, 3) := by decide +kernel
theorem dX6_take_40 : decode cX6_take 40 = .ok (.aload_n 0, 1) := by decide +kernel
theorem dX6_take_41 : decode cX6_take 41 = .ok (.aload_n 1, 1) := by decide +kernel
theorem dX6_take_42 : decode cX6_take 42 = .ok (.getfield 27, 3) := by decide +kernel
theorem dX6_take_45 : decode cX6_take 45 = .ok (.putfield 27, 3) := by decide +kernel
theorem dX6_take_48 : decode cX6_take 48 = .ok (.return_, 1) := by decide +kernel
def FX6_take (hp : HP) (p0 : Nat) (p1 : Nat) : Option (HP) := (gI [6] 0 hp p1).bind (fun v1 => (sI [6] 0 hp p0 v1).bind (fun hp2 => (gI [6] 1 hp2 p1).bind (fun v3 => (sI [6] 1 hp2 p0 v3).bind (fun hp4 => (gI [6] 2 hp4 p1).bind (fun v5 => (sI [6] 2 hp4 p0 v5).bind (fun hp6 => (gI [6] 3 hp6 p1).bind (fun v7 => (sI [6] 3 hp6 p0 v7).bind (fun hp8 => (gI [6] 4 hp8 p1).bind (fun v9 => (sI [6] 4 hp8 p0 v9).bind (fun hp10 => (gI [6] 5 hp10 p1).bind (fun v11 => (sZ [6] 5 hp10 p0 v11).bind (fun hp12 => some hp12))))))))))))
set_option maxHeartbeats 4000000 in
set_option maxRecDepth 100000 in
theorem ctX6_take (l : Launch) (D : va_G) (tg : Nat → ClassId) (bs : Nat) (sa : Nat → Nat) (hp : HP) (p0 : Nat) (p1 : Nat) : Ct l D tg bs sa yX6_take cX6_take 2 none 0 [.ref p0, .ref p1] hp (FX6_take hp p0 p1) (fun _ => none) (fun r => r) := by
  refine Ct.of (by decide) (Nat.le_of_ble_eq_true rfl) ?_
  intro V Q hVl hVd hVt hVb hVs hC
  subst hVl; subst hVd; subst hVt; subst hVb; subst hVs
  unfold FX6_take
  show Zs V Q (0, 0) 2 _ _ hp [(0, .ref p0), (1, .ref p1)] 0 []
  refine z_aload_n hC 0 dX6_take_0 rfl rfl ?_
  refine z_aload_n hC 1 dX6_take_1 rfl rfl ?_
  refine z_getI hC lgRX6_9 dX6_take_2 (fun v1 => ?_)
  refine z_putI hC lpRX6_9 dX6_take_5 (fun hp2 => ?_)
  refine z_aload_n hC 0 dX6_take_8 rfl rfl ?_
  refine z_aload_n hC 1 dX6_take_9 rfl rfl ?_
  refine z_getI hC lgRX6_15 dX6_take_10 (fun v3 => ?_)
  refine z_putI hC lpRX6_15 dX6_take_13 (fun hp4 => ?_)
  refine z_aload_n hC 0 dX6_take_16 rfl rfl ?_
  refine z_aload_n hC 1 dX6_take_17 rfl rfl ?_
  refine z_getI hC lgRX6_18 dX6_take_18 (fun v5 => ?_)
  refine z_putI hC lpRX6_18 dX6_take_21 (fun hp6 => ?_)
  refine z_aload_n hC 0 dX6_take_24 rfl rfl ?_
  refine z_aload_n hC 1 dX6_take_25 rfl rfl ?_
  refine z_getI hC lgRX6_21 dX6_take_26 (fun v7 => ?_)
  refine z_putI hC lpRX6_21 dX6_take_29 (fun hp8 => ?_)
  refine z_aload_n hC 0 dX6_take_32 rfl rfl ?_
  refine z_aload_n hC 1 dX6_take_33 rfl rfl ?_
  refine z_getI hC lgRX6_24 dX6_take_34 (fun v9 => ?_)
  refine z_putI hC lpRX6_24 dX6_take_37 (fun hp10 => ?_)
  refine z_aload_n hC 0 dX6_take_40 rfl rfl ?_
  refine z_aload_n hC 1 dX6_take_41 rfl rfl ?_
  refine z_getI hC lgRX6_27 dX6_take_42 (fun v11 => ?_)
  refine z_putZ hC lpRX6_27 dX6_take_45 (fun hp12 => ?_)
  exact z_vret hC (fun h => h) dX6_take_48

theorem dX5_isGranted_0 : decode cX5_isGranted 0 = .ok (.iload_n 1, 1) := by decide +kernel
theorem dX5_isGranted_1 : decode cX5_isGranted 1 = .ok (.ifCond .lt 8, 3) := by decide +kernel
theorem dX5_isGranted_4 : decode cX5_isGranted 4 = .ok (.iload_n 1, 1) := by decide +kernel
theorem dX5_isGranted_5 : decode cX5_isGranted 5 = .ok (.iconst 5, 1) := by decide +kernel
theorem dX5_isGranted_6 : decode cX5_isGranted 6 = .ok (.if_icmp .lt 5, 3) := by decide +kernel
theorem dX5_isGranted_9 : decode cX5_isGranted 9 = .ok (.iconst 0, 1) := by decide +kernel
theorem dX5_isGranted_10 : decode cX5_isGranted 10 = .ok (.ireturn, 1) := by decide +kernel
theorem dX5_isGranted_11 : decode cX5_isGranted 11 = .ok (.aload_n 0, 1) := by decide +kernel
theorem dX5_isGranted_12 : decode cX5_isGranted 12 = .ok (.aload_n 0, 1) := by decide +kernel
theorem dX5_isGranted_13 : decode cX5_isGranted 13 = .ok (.getfield 20, 3) := by decide +kernel
theorem dX5_isGranted_16 : decode cX5_isGranted 16 = .ok (.iload_n 1, 1) := by decide +kernel
theorem dX5_isGranted_17 : decode cX5_isGranted 17 = .ok (.aaload, 1) := by decide +kernel
theorem dX5_isGranted_18 : decode cX5_isGranted 18 = .ok (.iload_n 2, 1) := by decide +kernel
theorem dX5_isGranted_19 : decode cX5_isGranted 19 = .ok (.invokevirtual 141, 3) := by decide +kernel
theorem dX5_isGranted_22 : decode cX5_isGranted 22 = .ok (.aload_n 0, 1) := by decide +kernel
theorem dX5_isGranted_23 : decode cX5_isGranted 23 = .ok (.getfield 59, 3) := by decide +kernel
theorem dX5_isGranted_26 : decode cX5_isGranted 26 = .ok (.ifCond .ge 5, 3) := by decide +kernel
theorem dX5_isGranted_29 : decode cX5_isGranted 29 = .ok (.iconst 0, 1) := by decide +kernel
theorem dX5_isGranted_30 : decode cX5_isGranted 30 = .ok (.ireturn, 1) := by decide +kernel
theorem dX5_isGranted_31 : decode cX5_isGranted 31 = .ok (.aload_n 0, 1) := by decide +kernel
theorem dX5_isGranted_32 : decode cX5_isGranted 32 = .ok (.getfield 20, 3) := by decide +kernel
theorem dX5_isGranted_35 : decode cX5_isGranted 35 = .ok (.iload_n 1, 1) := by decide +kernel
theorem dX5_isGranted_36 : decode cX5_isGranted 36 = .ok (.iconst 1, 1) := by decide +kernel
theorem dX5_isGranted_37 : decode cX5_isGranted 37 = .ok (.iadd, 1) := by decide +kernel
theorem dX5_isGranted_38 : decode cX5_isGranted 38 = .ok (.aaload, 1) := by decide +kernel
theorem dX5_isGranted_39 : decode cX5_isGranted 39 = .ok (.aload_n 0, 1) := by decide +kernel
theorem dX5_isGranted_40 : decode cX5_isGranted 40 = .ok (.getfield 20, 3) := by decide +kernel
theorem dX5_isGranted_43 : decode cX5_isGranted 43 = .ok (.iload_n 1, 1) := by decide +kernel
theorem dX5_isGranted_44 : decode cX5_isGranted 44 = .ok (.aaload, 1) := by decide +kernel
theorem dX5_isGranted_45 : decode cX5_isGranted 45 = .ok (.invokevirtual 110, 3) := by decide +kernel
theorem dX5_isGranted_48 : decode cX5_isGranted 48 = .ok (.aload_n 0, 1) := by decide +kernel
theorem dX5_isGranted_49 : decode cX5_isGranted 49 = .ok (.aload_n 0, 1) := by decide +kernel
theorem dX5_isGranted_50 : decode cX5_isGranted 50 = .ok (.getfield 20, 3) := by decide +kernel
theorem dX5_isGranted_53 : decode cX5_isGranted 53 = .ok (.iload_n 1, 1) := by decide +kernel
theorem dX5_isGranted_54 : decode cX5_isGranted 54 = .ok (.iconst 1, 1) := by decide +kernel
theorem dX5_isGranted_55 : decode cX5_isGranted 55 = .ok (.iadd, 1) := by decide +kernel
theorem dX5_isGranted_56 : decode cX5_isGranted 56 = .ok (.aaload, 1) := by decide +kernel
theorem dX5_isGranted_57 : decode cX5_isGranted 57 = .ok (.iload_n 2, 1) := by decide +kernel
theorem dX5_isGranted_58 : decode cX5_isGranted 58 = .ok (.invokevirtual 145, 3) := by decide +kernel
theorem dX5_isGranted_61 : decode cX5_isGranted 61 = .ok (.iconst 1, 1) := by decide +kernel
theorem dX5_isGranted_62 : decode cX5_isGranted 62 = .ok (.ireturn, 1) := by decide +kernel
def FX5_isGranted (hp : HP) (p0 : Nat) (p1 : Int32) (p2 : Int32) : Option (Int32 × HP) := if p1 < 0 then some ((0 : Int32), hp) else if p1 < (5 : Int32) then (gR [5] 12 hp p0).bind (fun v1 => (rdA 5 hp v1 p1).bind (fun v2 => (rc [5] hp p0 (FX5_plan hp p0 v2 p2)).bind (fun w3 => (gI [5] 1 w3 p0).bind (fun v4 => if 0 ≤ v4 then (gR [5] 12 w3 p0).bind (fun v5 => (rdA 5 w3 v5 (p1 + (1 : Int32))).bind (fun v6 => (gR [5] 12 w3 p0).bind (fun v7 => (rdA 5 w3 v7 p1).bind (fun v8 => (rc [6] w3 v6 (FX6_take w3 v6 v8)).bind (fun w9 => (gR [5] 12 w9 p0).bind (fun v10 => (rdA 5 w9 v10 (p1 + (1 : Int32))).bind (fun v11 => (rc [5] w9 p0 (FX5_grant w9 p0 v11 p2)).bind (fun w12 => some ((1 : Int32), w12))))))))) else some ((0 : Int32), w3))))) else some ((0 : Int32), hp)
set_option maxHeartbeats 4000000 in
set_option maxRecDepth 100000 in
theorem ctX5_isGranted (l : Launch) (D : va_G) (tg : Nat → ClassId) (bs : Nat) (sa : Nat → Nat) (hp : HP) (p0 : Nat) (p1 : Int32) (p2 : Int32) : Ct l D tg bs sa yX5_isGranted cX5_isGranted 3 (some .boolean) 4 [.ref p0, .int p1, .int p2] hp (FX5_isGranted hp p0 p1 p2) (fun r => some (.int r.1)) (fun r => r.2) := by
  refine Ct.of (by decide) (Nat.le_of_ble_eq_true rfl) ?_
  intro V Q hVl hVd hVt hVb hVs hC
  subst hVl; subst hVd; subst hVt; subst hVb; subst hVs
  unfold FX5_isGranted
  show Zs V Q (0, 0) 3 _ _ hp [(0, .ref p0), (1, .int p1), (2, .int p2)] 0 []
  refine z_iload_n hC 1 dX5_isGranted_0 rfl rfl ?_
  refine z_if_lt hC 9 dX5_isGranted_1 (by decide) (fun _ => ?_) (fun _ => ?_)
  · refine z_iconst hC (0 : Int32) dX5_isGranted_9 (by decide) ?_
    exact z_zret hC (by decide) (fun h => h) dX5_isGranted_10
  · refine z_iload_n hC 1 dX5_isGranted_4 rfl rfl ?_
    refine z_iconst hC (5 : Int32) dX5_isGranted_5 (by decide) ?_
    refine z_icmp_lt hC 11 dX5_isGranted_6 (by decide) (fun _ => ?_) (fun _ => ?_)
    · refine z_aload_n hC 0 dX5_isGranted_11 rfl rfl ?_
      refine z_aload_n hC 0 dX5_isGranted_12 rfl rfl ?_
      refine z_getR hC lgRX5_20 dX5_isGranted_13 (fun v1 => ?_)
      refine z_iload_n hC 1 dX5_isGranted_16 rfl rfl ?_
      refine z_aald5 hC dX5_isGranted_17 (fun v2 => ?_)
      refine z_iload_n hC 2 dX5_isGranted_18 rfl rfl ?_
      refine z_callVv hC (ci := 5) rfl lmRX5_141 (ctX5_plan (vLa V) (vDa V) (vTg V) (vBs V) (vSa V) hp p0 v2 p2) (by decide) hn0 dX5_isGranted_19 rfl rfl (Nat.le_of_ble_eq_true rfl) (fun w3 => ?_)
      refine z_aload_n hC 0 dX5_isGranted_22 rfl rfl ?_
      refine z_getI hC lgRX5_59 dX5_isGranted_23 (fun v4 => ?_)
      refine z_if_ge hC 31 dX5_isGranted_26 (by decide) (fun _ => ?_) (fun _ => ?_)
      · refine z_aload_n hC 0 dX5_isGranted_31 rfl rfl ?_
        refine z_getR hC lgRX5_20 dX5_isGranted_32 (fun v5 => ?_)
        refine z_iload_n hC 1 dX5_isGranted_35 rfl rfl ?_
        refine z_iconst hC (1 : Int32) dX5_isGranted_36 (by decide) ?_
        refine z_iadd hC dX5_isGranted_37 ?_
        refine z_aald5 hC dX5_isGranted_38 (fun v6 => ?_)
        refine z_aload_n hC 0 dX5_isGranted_39 rfl rfl ?_
        refine z_getR hC lgRX5_20 dX5_isGranted_40 (fun v7 => ?_)
        refine z_iload_n hC 1 dX5_isGranted_43 rfl rfl ?_
        refine z_aald5 hC dX5_isGranted_44 (fun v8 => ?_)
        refine z_callVv hC (ci := 6) rfl lmRX5_110 (ctX6_take (vLa V) (vDa V) (vTg V) (vBs V) (vSa V) w3 v6 v8) (by decide) hn0 dX5_isGranted_45 rfl rfl (Nat.le_of_ble_eq_true rfl) (fun w9 => ?_)
        refine z_aload_n hC 0 dX5_isGranted_48 rfl rfl ?_
        refine z_aload_n hC 0 dX5_isGranted_49 rfl rfl ?_
        refine z_getR hC lgRX5_20 dX5_isGranted_50 (fun v10 => ?_)
        refine z_iload_n hC 1 dX5_isGranted_53 rfl rfl ?_
        refine z_iconst hC (1 : Int32) dX5_isGranted_54 (by decide) ?_
        refine z_iadd hC dX5_isGranted_55 ?_
        refine z_aald5 hC dX5_isGranted_56 (fun v11 => ?_)
        refine z_iload_n hC 2 dX5_isGranted_57 rfl rfl ?_
        refine z_callVv hC (ci := 5) rfl lmRX5_145 (ctX5_grant (vLa V) (vDa V) (vTg V) (vBs V) (vSa V) w9 p0 v11 p2) (by decide) hn0 dX5_isGranted_58 rfl rfl (Nat.le_of_ble_eq_true rfl) (fun w12 => ?_)
        refine z_iconst hC (1 : Int32) dX5_isGranted_61 (by decide) ?_
        exact z_zret hC (by decide) (fun h => h) dX5_isGranted_62
      · refine z_iconst hC (0 : Int32) dX5_isGranted_29 (by decide) ?_
        exact z_zret hC (by decide) (fun h => h) dX5_isGranted_30
    · refine z_iconst hC (0 : Int32) dX5_isGranted_9 (by decide) ?_
      exact z_zret hC (by decide) (fun h => h) dX5_isGranted_10

theorem dX5_orderOn_0 : decode cX5_orderOn 0 = .ok (.iload_n 1, 1) := by decide +kernel
theorem dX5_orderOn_1 : decode cX5_orderOn 1 = .ok (.ifCond .ne 23, 3) := by decide +kernel
theorem dX5_orderOn_4 : decode cX5_orderOn 4 = .ok (.aload_n 0, 1) := by decide +kernel
theorem dX5_orderOn_5 : decode cX5_orderOn 5 = .ok (.iload_n 3, 1) := by decide +kernel
theorem dX5_orderOn_6 : decode cX5_orderOn 6 = .ok (.putfield 107, 3) := by decide +kernel
theorem dX5_orderOn_9 : decode cX5_orderOn 9 = .ok (.aload_n 0, 1) := by decide +kernel
theorem dX5_orderOn_10 : decode cX5_orderOn 10 = .ok (.getfield 9, 3) := by decide +kernel
theorem dX5_orderOn_13 : decode cX5_orderOn 13 = .ok (.iconst 0, 1) := by decide +kernel
theorem dX5_orderOn_14 : decode cX5_orderOn 14 = .ok (.aload_n 0, 1) := by decide +kernel
theorem dX5_orderOn_15 : decode cX5_orderOn 15 = .ok (.getfield 15, 3) := by decide +kernel
theorem dX5_orderOn_18 : decode cX5_orderOn 18 = .ok (.iconst 0, 1) := by decide +kernel
theorem dX5_orderOn_19 : decode cX5_orderOn 19 = .ok (.iconst 5, 1) := by decide +kernel
theorem dX5_orderOn_20 : decode cX5_orderOn 20 = .ok (.invokestatic 118, 3) := by decide +kernel
theorem dX5_orderOn_23 : decode cX5_orderOn 23 = .ok (.return_, 1) := by decide +kernel
theorem dX5_orderOn_24 : decode cX5_orderOn 24 = .ok (.iconst 0, 1) := by decide +kernel
theorem dX5_orderOn_25 : decode cX5_orderOn 25 = .ok (.istore 4, 2) := by decide +kernel
theorem dX5_orderOn_27 : decode cX5_orderOn 27 = .ok (.iload 4, 2) := by decide +kernel
theorem dX5_orderOn_29 : decode cX5_orderOn 29 = .ok (.bipush 8, 2) := by decide +kernel
theorem dX5_orderOn_31 : decode cX5_orderOn 31 = .ok (.if_icmp .ge 78, 3) := by decide +kernel
theorem dX5_orderOn_34 : decode cX5_orderOn 34 = .ok (.iload_n 2, 1) := by decide +kernel
theorem dX5_orderOn_35 : decode cX5_orderOn 35 = .ok (.iconst 5, 1) := by decide +kernel
theorem dX5_orderOn_36 : decode cX5_orderOn 36 = .ok (.if_icmp .ge 73, 3) := by decide +kernel
theorem dX5_orderOn_39 : decode cX5_orderOn 39 = .ok (.iload_n 1, 1) := by decide +kernel
theorem dX5_orderOn_40 : decode cX5_orderOn 40 = .ok (.iload 4, 2) := by decide +kernel
theorem dX5_orderOn_42 : decode cX5_orderOn 42 = .ok (.ishr, 1) := by decide +kernel
theorem dX5_orderOn_43 : decode cX5_orderOn 43 = .ok (.iconst 1, 1) := by decide +kernel
theorem dX5_orderOn_44 : decode cX5_orderOn 44 = .ok (.iand, 1) := by decide +kernel
theorem dX5_orderOn_45 : decode cX5_orderOn 45 = .ok (.ifCond .ne 6, 3) := by decide +kernel
theorem dX5_orderOn_48 : decode cX5_orderOn 48 = .ok (.goto 55, 3) := by decide +kernel
theorem dX5_orderOn_51 : decode cX5_orderOn 51 = .ok (.aload_n 0, 1) := by decide +kernel
theorem dX5_orderOn_52 : decode cX5_orderOn 52 = .ok (.iload_n 2, 1) := by decide +kernel
theorem dX5_orderOn_53 : decode cX5_orderOn 53 = .ok (.iload 4, 2) := by decide +kernel
theorem dX5_orderOn_55 : decode cX5_orderOn 55 = .ok (.invokevirtual 124, 3) := by decide +kernel
theorem dX5_orderOn_58 : decode cX5_orderOn 58 = .ok (.ifCond .eq 45, 3) := by decide +kernel
theorem dX5_orderOn_61 : decode cX5_orderOn 61 = .ok (.iload_n 3, 1) := by decide +kernel
theorem dX5_orderOn_62 : decode cX5_orderOn 62 = .ok (.aload_n 0, 1) := by decide +kernel
theorem dX5_orderOn_63 : decode cX5_orderOn 63 = .ok (.getfield 59, 3) := by decide +kernel
theorem dX5_orderOn_66 : decode cX5_orderOn 66 = .ok (.iadd, 1) := by decide +kernel
theorem dX5_orderOn_67 : decode cX5_orderOn 67 = .ok (.aload_n 0, 1) := by decide +kernel
theorem dX5_orderOn_68 : decode cX5_orderOn 68 = .ok (.getfield 107, 3) := by decide +kernel
theorem dX5_orderOn_71 : decode cX5_orderOn 71 = .ok (.if_icmp .ge 32, 3) := by decide +kernel
theorem dX5_orderOn_74 : decode cX5_orderOn 74 = .ok (.aload_n 0, 1) := by decide +kernel
theorem dX5_orderOn_75 : decode cX5_orderOn 75 = .ok (.getfield 9, 3) := by decide +kernel
theorem dX5_orderOn_78 : decode cX5_orderOn 78 = .ok (.iload_n 2, 1) := by decide +kernel
theorem dX5_orderOn_79 : decode cX5_orderOn 79 = .ok (.iload 4, 2) := by decide +kernel
theorem dX5_orderOn_81 : decode cX5_orderOn 81 = .ok (.iastore, 1) := by decide +kernel
theorem dX5_orderOn_82 : decode cX5_orderOn 82 = .ok (.aload_n 0, 1) := by decide +kernel
theorem dX5_orderOn_83 : decode cX5_orderOn 83 = .ok (.iload_n 1, 1) := by decide +kernel
theorem dX5_orderOn_84 : decode cX5_orderOn 84 = .ok (.iconst 1, 1) := by decide +kernel
theorem dX5_orderOn_85 : decode cX5_orderOn 85 = .ok (.iload 4, 2) := by decide +kernel
theorem dX5_orderOn_87 : decode cX5_orderOn 87 = .ok (.ishl, 1) := by decide +kernel
theorem dX5_orderOn_88 : decode cX5_orderOn 88 = .ok (.iconst (-1), 1) := by decide +kernel
theorem dX5_orderOn_89 : decode cX5_orderOn 89 = .ok (.ixor, 1) := by decide +kernel
theorem dX5_orderOn_90 : decode cX5_orderOn 90 = .ok (.iand, 1) := by decide +kernel
theorem dX5_orderOn_91 : decode cX5_orderOn 91 = .ok (.iload_n 2, 1) := by decide +kernel
theorem dX5_orderOn_92 : decode cX5_orderOn 92 = .ok (.iconst 1, 1) := by decide +kernel
theorem dX5_orderOn_93 : decode cX5_orderOn 93 = .ok (.iadd, 1) := by decide +kernel
theorem dX5_orderOn_94 : decode cX5_orderOn 94 = .ok (.iload_n 3, 1) := by decide +kernel
theorem dX5_orderOn_95 : decode cX5_orderOn 95 = .ok (.aload_n 0, 1) := by decide +kernel
theorem dX5_orderOn_96 : decode cX5_orderOn 96 = .ok (.getfield 59, 3) := by decide +kernel
theorem dX5_orderOn_99 : decode cX5_orderOn 99 = .ok (.iadd, 1) := by decide +kernel
theorem dX5_orderOn_100 : decode cX5_orderOn 100 = .ok (.invokevirtual 114, 3) := by decide +kernel
theorem dX5_orderOn_103 : decode cX5_orderOn 103 = .ok (.iinc 4 1, 3) := by decide +kernel
theorem dX5_orderOn_106 : decode cX5_orderOn 106 = .ok (.goto (-79), 3) := by decide +kernel
theorem dX5_orderOn_109 : decode cX5_orderOn 109 = .ok (.return_, 1) := by decide +kernel
def FBX5_orderOn (rX5_orderOn : HP → Nat → Int32 → Int32 → Int32 → Option (HP)) (hp : HP) (p0 : Nat) (p1 : Int32) (p2 : Int32) (p3 : Int32) : Option (HP) := if p1 = 0 then (sI [5] 6 hp p0 p3).bind (fun hp1 => (gR [5] 7 hp1 p0).bind (fun v2 => (gR [5] 8 hp1 p0).bind (fun v3 => (cpI hp1 v2 (0 : Int32) v3 (0 : Int32) (5 : Int32)).bind (fun hp4 => some hp4)))) else (lp (fun (s5 : Int32 × HP) => if (8 : Int32) ≤ s5.1 then some (Sum.inl s5.2) else if (5 : Int32) ≤ p2 then some (Sum.inl s5.2) else if ((p1 >>> (s5.1 &&& 31)) &&& (1 : Int32)) = 0 then vl (s5.1 + (1 : Int32)) (fun x7 => some (Sum.inr (x7, s5.2))) else (rc [5] s5.2 p0 (FX5_isGranted s5.2 p0 p2 s5.1)).bind (fun w8 => if w8.1 = 0 then vl (s5.1 + (1 : Int32)) (fun x9 => some (Sum.inr (x9, w8.2))) else (gI [5] 1 w8.2 p0).bind (fun v10 => (gI [5] 6 w8.2 p0).bind (fun v11 => if v11 ≤ (p3 + v10) then vl (s5.1 + (1 : Int32)) (fun x12 => some (Sum.inr (x12, w8.2))) else (gR [5] 7 w8.2 p0).bind (fun v13 => (wrI w8.2 v13 p2 s5.1).bind (fun hp14 => (gI [5] 1 hp14 p0).bind (fun v15 => (rc [5] hp14 p0 (rX5_orderOn hp14 p0 (p1 &&& (((1 : Int32) <<< (s5.1 &&& 31)) ^^^ (-1 : Int32))) (p2 + (1 : Int32)) (p3 + v15))).bind (fun w16 => vl (s5.1 + (1 : Int32)) (fun x17 => some (Sum.inr (x17, w16))))))))))) FU ((0 : Int32), hp)).bind (fun (y6 : HP) => some y6)
set_option maxHeartbeats 4000000 in
set_option maxRecDepth 100000 in
theorem cbX5_orderOn (l : Launch) (D : va_G) (tg : Nat → ClassId) (bs : Nat) (sa : Nat → Nat) (rX5_orderOn : HP → Nat → Int32 → Int32 → Int32 → Option (HP)) (Lr : Nat) (hLr : 4 ≤ Lr) (hrX5_orderOn : ∀ (hp : HP) (p0 : Nat) (p1 : Int32) (p2 : Int32) (p3 : Int32), Ct l D tg bs sa yX5_orderOn cX5_orderOn 5 none Lr [.ref p0, .int p1, .int p2, .int p3] hp (rX5_orderOn hp p0 p1 p2 p3) (fun _ => none) (fun r => r)) (hp : HP) (p0 : Nat) (p1 : Int32) (p2 : Int32) (p3 : Int32) : Ct l D tg bs sa yX5_orderOn cX5_orderOn 5 none (Lr + 1) [.ref p0, .int p1, .int p2, .int p3] hp (FBX5_orderOn rX5_orderOn hp p0 p1 p2 p3) (fun _ => none) (fun r => r) := by
  refine Ct.of (by decide) (Nat.le_of_ble_eq_true rfl) ?_
  intro V Q hVl hVd hVt hVb hVs hC
  subst hVl; subst hVd; subst hVt; subst hVb; subst hVs
  unfold FBX5_orderOn
  show Zs V Q (0, 0) 5 _ _ hp [(0, .ref p0), (1, .int p1), (2, .int p2), (3, .int p3)] 0 []
  refine z_iload_n hC 1 dX5_orderOn_0 rfl rfl ?_
  refine z_if_ne hC 24 dX5_orderOn_1 (by decide) (fun _ => ?_) (fun _ => ?_)
  · refine z_aload_n hC 0 dX5_orderOn_4 rfl rfl ?_
    refine z_iload_n hC 3 dX5_orderOn_5 rfl rfl ?_
    refine z_putI hC lpRX5_107 dX5_orderOn_6 (fun hp1 => ?_)
    refine z_aload_n hC 0 dX5_orderOn_9 rfl rfl ?_
    refine z_getR hC lgRX5_9 dX5_orderOn_10 (fun v2 => ?_)
    refine z_iconst hC (0 : Int32) dX5_orderOn_13 (by decide) ?_
    refine z_aload_n hC 0 dX5_orderOn_14 rfl rfl ?_
    refine z_getR hC lgRX5_15 dX5_orderOn_15 (fun v3 => ?_)
    refine z_iconst hC (0 : Int32) dX5_orderOn_18 (by decide) ?_
    refine z_iconst hC (5 : Int32) dX5_orderOn_19 (by decide) ?_
    refine z_cpI hC laRX5_118 dX5_orderOn_20 (fun hp4 => ?_)
    exact z_vret hC (fun h => h) dX5_orderOn_23
  · refine z_iconst hC (0 : Int32) dX5_orderOn_24 (by decide) ?_
    refine z_istore hC [(0, .ref p0), (1, .int p1), (2, .int p2), (3, .int p3), (4, .int (0 : Int32))] [1, 2, 3, 4, 0] dX5_orderOn_25 (by decide) rfl ?_
    refine z_lp (S := Int32 × HP) (Y := HP) (fun s5 => s5.2) (fun s5 => [(0, .ref p0), (1, .int p1), (2, .int p2), (3, .int p3), (4, .int s5.1)]) (fun y6 => y6) (fun y6 => []) 109 [] (fun y6 => ?_) (fun s5 => ?_) rfl rfl
    · exact z_vret hC (fun h => h) dX5_orderOn_109
    · refine z_iload hC 4 dX5_orderOn_27 rfl ?_
      refine z_bipush hC (8 : Int32) dX5_orderOn_29 (by decide) ?_
      refine z_icmp_ge hC 109 dX5_orderOn_31 (by decide) (fun _ => ?_) (fun _ => ?_)
      · refine z_weak [] [] rfl ?_
        exact z_leaf (fun h => h)
      · refine z_iload_n hC 2 dX5_orderOn_34 rfl rfl ?_
        refine z_iconst hC (5 : Int32) dX5_orderOn_35 (by decide) ?_
        refine z_icmp_ge hC 109 dX5_orderOn_36 (by decide) (fun _ => ?_) (fun _ => ?_)
        · refine z_weak [] [] rfl ?_
          exact z_leaf (fun h => h)
        · refine z_iload_n hC 1 dX5_orderOn_39 rfl rfl ?_
          refine z_iload hC 4 dX5_orderOn_40 rfl ?_
          refine z_ishr hC dX5_orderOn_42 ?_
          refine z_iconst hC (1 : Int32) dX5_orderOn_43 (by decide) ?_
          refine z_iand hC dX5_orderOn_44 ?_
          refine z_if_ne hC 51 dX5_orderOn_45 (by decide) (fun _ => ?_) (fun _ => ?_)
          · refine z_goto hC 103 dX5_orderOn_48 (by decide) ?_
            refine z_iincv hC (1 : Int32) 4 (fun x7 => [(0, .ref p0), (1, .int p1), (2, .int p2), (3, .int p3), (4, .int x7)]) [1, 2, 3, 4, 0] dX5_orderOn_103 rfl (by decide) (by decide) (fun _ => rfl) (fun x7 => ?_)
            refine z_goto hC 27 dX5_orderOn_106 (by decide) ?_
            exact z_leaf (fun h => h)
          · refine z_aload_n hC 0 dX5_orderOn_51 rfl rfl ?_
            refine z_iload_n hC 2 dX5_orderOn_52 rfl rfl ?_
            refine z_iload hC 4 dX5_orderOn_53 rfl ?_
            refine z_callVi hC (ci := 5) rfl lmRX5_124 (ctX5_isGranted (vLa V) (vDa V) (vTg V) (vBs V) (vSa V) s5.2 p0 p2 s5.1) (by have := hLr; omega) hn0 dX5_orderOn_55 rfl rfl (Nat.le_of_ble_eq_true rfl) (fun w8 => ?_)
            refine z_if_eq hC 103 dX5_orderOn_58 (by decide) (fun _ => ?_) (fun _ => ?_)
            · refine z_iincv hC (1 : Int32) 4 (fun x9 => [(0, .ref p0), (1, .int p1), (2, .int p2), (3, .int p3), (4, .int x9)]) [1, 2, 3, 4, 0] dX5_orderOn_103 rfl (by decide) (by decide) (fun _ => rfl) (fun x9 => ?_)
              refine z_goto hC 27 dX5_orderOn_106 (by decide) ?_
              exact z_leaf (fun h => h)
            · refine z_iload_n hC 3 dX5_orderOn_61 rfl rfl ?_
              refine z_aload_n hC 0 dX5_orderOn_62 rfl rfl ?_
              refine z_getI hC lgRX5_59 dX5_orderOn_63 (fun v10 => ?_)
              refine z_iadd hC dX5_orderOn_66 ?_
              refine z_aload_n hC 0 dX5_orderOn_67 rfl rfl ?_
              refine z_getI hC lgRX5_107 dX5_orderOn_68 (fun v11 => ?_)
              refine z_icmp_ge hC 103 dX5_orderOn_71 (by decide) (fun _ => ?_) (fun _ => ?_)
              · refine z_iincv hC (1 : Int32) 4 (fun x12 => [(0, .ref p0), (1, .int p1), (2, .int p2), (3, .int p3), (4, .int x12)]) [1, 2, 3, 4, 0] dX5_orderOn_103 rfl (by decide) (by decide) (fun _ => rfl) (fun x12 => ?_)
                refine z_goto hC 27 dX5_orderOn_106 (by decide) ?_
                exact z_leaf (fun h => h)
              · refine z_aload_n hC 0 dX5_orderOn_74 rfl rfl ?_
                refine z_getR hC lgRX5_9 dX5_orderOn_75 (fun v13 => ?_)
                refine z_iload_n hC 2 dX5_orderOn_78 rfl rfl ?_
                refine z_iload hC 4 dX5_orderOn_79 rfl ?_
                refine z_iast hC dX5_orderOn_81 (fun hp14 => ?_)
                refine z_aload_n hC 0 dX5_orderOn_82 rfl rfl ?_
                refine z_iload_n hC 1 dX5_orderOn_83 rfl rfl ?_
                refine z_iconst hC (1 : Int32) dX5_orderOn_84 (by decide) ?_
                refine z_iload hC 4 dX5_orderOn_85 rfl ?_
                refine z_ishl hC dX5_orderOn_87 ?_
                refine z_iconst hC (-1 : Int32) dX5_orderOn_88 (by decide) ?_
                refine z_ixor hC dX5_orderOn_89 ?_
                refine z_iand hC dX5_orderOn_90 ?_
                refine z_iload_n hC 2 dX5_orderOn_91 rfl rfl ?_
                refine z_iconst hC (1 : Int32) dX5_orderOn_92 (by decide) ?_
                refine z_iadd hC dX5_orderOn_93 ?_
                refine z_iload_n hC 3 dX5_orderOn_94 rfl rfl ?_
                refine z_aload_n hC 0 dX5_orderOn_95 rfl rfl ?_
                refine z_getI hC lgRX5_59 dX5_orderOn_96 (fun v15 => ?_)
                refine z_iadd hC dX5_orderOn_99 ?_
                refine z_callVv hC (ci := 5) rfl lmRX5_114 (hrX5_orderOn hp14 p0 (p1 &&& (((1 : Int32) <<< (s5.1 &&& 31)) ^^^ (-1 : Int32))) (p2 + (1 : Int32)) (p3 + v15)) (Nat.le_refl _) hn0 dX5_orderOn_100 rfl rfl (Nat.le_of_ble_eq_true rfl) (fun w16 => ?_)
                refine z_iincv hC (1 : Int32) 4 (fun x17 => [(0, .ref p0), (1, .int p1), (2, .int p2), (3, .int p3), (4, .int x17)]) [1, 2, 3, 4, 0] dX5_orderOn_103 rfl (by decide) (by decide) (fun _ => rfl) (fun x17 => ?_)
                refine z_goto hC 27 dX5_orderOn_106 (by decide) ?_
                exact z_leaf (fun h => h)
def FGX5_orderOn : Nat → (HP → Nat → Int32 → Int32 → Int32 → Option (HP))
  | 0 => (fun _ _ _ _ _ => none)
  | d + 1 => FBX5_orderOn (FGX5_orderOn d)
def FX5_orderOn (d : Nat) : HP → Nat → Int32 → Int32 → Int32 → Option (HP) := (FGX5_orderOn d)
theorem cgX5_orderOn (l : Launch) (D : va_G) (tg : Nat → ClassId) (bs : Nat) (sa : Nat → Nat) : ∀ d : Nat, (∀ (hp : HP) (p0 : Nat) (p1 : Int32) (p2 : Int32) (p3 : Int32), Ct l D tg bs sa yX5_orderOn cX5_orderOn 5 none (4 + d) [.ref p0, .int p1, .int p2, .int p3] hp (FX5_orderOn d hp p0 p1 p2 p3) (fun _ => none) (fun r => r)) := by
  intro d
  induction d with
  | zero => exact (fun hp _ _ _ _ x hx => by cases hx)
  | succ d ih =>
    exact cbX5_orderOn l D tg bs sa (FX5_orderOn d) (4 + d) (Nat.le_add_right _ _) ih
theorem ctX5_orderOn (l : Launch) (D : va_G) (tg : Nat → ClassId) (bs : Nat) (sa : Nat → Nat) (d : Nat) (hp : HP) (p0 : Nat) (p1 : Int32) (p2 : Int32) (p3 : Int32) : Ct l D tg bs sa yX5_orderOn cX5_orderOn 5 none (4 + d) [.ref p0, .int p1, .int p2, .int p3] hp (FX5_orderOn d hp p0 p1 p2 p3) (fun _ => none) (fun r => r) := (cgX5_orderOn l D tg bs sa d) hp p0 p1 p2 p3
theorem dX5_order_0 : decode cX5_order 0 = .ok (.aload_n 0, 1) := by decide +kernel
theorem dX5_order_1 : decode cX5_order 1 = .ok (.ldc 106, 2) := by decide +kernel
theorem dX5_order_3 : decode cX5_order 3 = .ok (.putfield 107, 3) := by decide +kernel
theorem dX5_order_6 : decode cX5_order 6 = .ok (.aload_n 0, 1) := by decide +kernel
theorem dX5_order_7 : decode cX5_order 7 = .ok (.getfield 20, 3) := by decide +kernel
theorem dX5_order_10 : decode cX5_order 10 = .ok (.iconst 0, 1) := by decide +kernel
theorem dX5_order_11 : decode cX5_order 11 = .ok (.aaload, 1) := by decide +kernel
theorem dX5_order_12 : decode cX5_order 12 = .ok (.aload_n 1, 1) := by decide +kernel
theorem dX5_order_13 : decode cX5_order 13 = .ok (.invokevirtual 110, 3) := by decide +kernel
theorem dX5_order_16 : decode cX5_order 16 = .ok (.aload_n 0, 1) := by decide +kernel
theorem dX5_order_17 : decode cX5_order 17 = .ok (.iload_n 2, 1) := by decide +kernel
theorem dX5_order_18 : decode cX5_order 18 = .ok (.iconst 0, 1) := by decide +kernel
theorem dX5_order_19 : decode cX5_order 19 = .ok (.iconst 0, 1) := by decide +kernel
theorem dX5_order_20 : decode cX5_order 20 = .ok (.invokevirtual 114, 3) := by decide +kernel
theorem dX5_order_23 : decode cX5_order 23 = .ok (.aload_n 0, 1) := by decide +kernel
theorem dX5_order_24 : decode cX5_order 24 = .ok (.getfield 107, 3) := by decide +kernel
theorem dX5_order_27 : decode cX5_order 27 = .ok (.ldc 106, 2) := by decide +kernel
theorem dX5_order_29 : decode cX5_order 29 = .ok (.if_icmp .eq 7, 3) := by decide +kernel
theorem dX5_order_32 : decode cX5_order 32 = .ok (.iconst 1, 1) := by decide +kernel
theorem dX5_order_33 : decode cX5_order 33 = .ok (.goto 4, 3) := by decide +kernel
theorem dX5_order_36 : decode cX5_order 36 = .ok (.iconst 0, 1) := by decide +kernel
theorem dX5_order_37 : decode cX5_order 37 = .ok (.ireturn, 1) := by decide +kernel
def FX5_order (hp : HP) (p0 : Nat) (p1 : Nat) (p2 : Int32) : Option (Int32 × HP) := (sI [5] 6 hp p0 (1000000000 : Int32)).bind (fun hp1 => (gR [5] 12 hp1 p0).bind (fun v2 => (rdA 5 hp1 v2 (0 : Int32)).bind (fun v3 => (rc [6] hp1 v3 (FX6_take hp1 v3 p1)).bind (fun w4 => (rc [5] w4 p0 (FX5_orderOn 8 w4 p0 p2 (0 : Int32) (0 : Int32))).bind (fun w5 => (gI [5] 6 w5 p0).bind (fun v6 => if v6 = (1000000000 : Int32) then some ((0 : Int32), w5) else some ((1 : Int32), w5)))))))
set_option maxHeartbeats 4000000 in
set_option maxRecDepth 100000 in
theorem ctX5_order (l : Launch) (D : va_G) (tg : Nat → ClassId) (bs : Nat) (sa : Nat → Nat) (hp : HP) (p0 : Nat) (p1 : Nat) (p2 : Int32) : Ct l D tg bs sa yX5_order cX5_order 3 (some .boolean) 13 [.ref p0, .ref p1, .int p2] hp (FX5_order hp p0 p1 p2) (fun r => some (.int r.1)) (fun r => r.2) := by
  refine Ct.of (by decide) (Nat.le_of_ble_eq_true rfl) ?_
  intro V Q hVl hVd hVt hVb hVs hC
  subst hVl; subst hVd; subst hVt; subst hVb; subst hVs
  unfold FX5_order
  show Zs V Q (0, 0) 3 _ _ hp [(0, .ref p0), (1, .ref p1), (2, .int p2)] 0 []
  refine z_aload_n hC 0 dX5_order_0 rfl rfl ?_
  refine z_ldc hC (1000000000 : Int32) lcRX5_106 dX5_order_1 ?_
  refine z_putI hC lpRX5_107 dX5_order_3 (fun hp1 => ?_)
  refine z_aload_n hC 0 dX5_order_6 rfl rfl ?_
  refine z_getR hC lgRX5_20 dX5_order_7 (fun v2 => ?_)
  refine z_iconst hC (0 : Int32) dX5_order_10 (by decide) ?_
  refine z_aald5 hC dX5_order_11 (fun v3 => ?_)
  refine z_aload_n hC 1 dX5_order_12 rfl rfl ?_
  refine z_callVv hC (ci := 6) rfl lmRX5_110 (ctX6_take (vLa V) (vDa V) (vTg V) (vBs V) (vSa V) hp1 v3 p1) (by decide) hn0 dX5_order_13 rfl rfl (Nat.le_of_ble_eq_true rfl) (fun w4 => ?_)
  refine z_aload_n hC 0 dX5_order_16 rfl rfl ?_
  refine z_iload_n hC 2 dX5_order_17 rfl rfl ?_
  refine z_iconst hC (0 : Int32) dX5_order_18 (by decide) ?_
  refine z_iconst hC (0 : Int32) dX5_order_19 (by decide) ?_
  refine z_callVv hC (ci := 5) rfl lmRX5_114 (ctX5_orderOn (vLa V) (vDa V) (vTg V) (vBs V) (vSa V) 8 w4 p0 p2 (0 : Int32) (0 : Int32)) (by decide) hn0 dX5_order_20 rfl rfl (Nat.le_of_ble_eq_true rfl) (fun w5 => ?_)
  refine z_aload_n hC 0 dX5_order_23 rfl rfl ?_
  refine z_getI hC lgRX5_107 dX5_order_24 (fun v6 => ?_)
  refine z_ldc hC (1000000000 : Int32) lcRX5_106 dX5_order_27 ?_
  refine z_icmp_eq hC 36 dX5_order_29 (by decide) (fun _ => ?_) (fun _ => ?_)
  · refine z_iconst hC (0 : Int32) dX5_order_36 (by decide) ?_
    exact z_zret hC (by decide) (fun h => h) dX5_order_37
  · refine z_iconst hC (1 : Int32) dX5_order_32 (by decide) ?_
    refine z_goto hC 37 dX5_order_33 (by decide) ?_
    exact z_zret hC (by decide) (fun h => h) dX5_order_37

theorem dX7_has_0 : decode cX7_has 0 = .ok (.aload_n 0, 1) := by decide +kernel
theorem dX7_has_1 : decode cX7_has 1 = .ok (.iload_n 1, 1) := by decide +kernel
theorem dX7_has_2 : decode cX7_has 2 = .ok (.bipush 6, 2) := by decide +kernel
theorem dX7_has_4 : decode cX7_has 4 = .ok (.ishr, 1) := by decide +kernel
theorem dX7_has_5 : decode cX7_has 5 = .ok (.bipush 15, 2) := by decide +kernel
theorem dX7_has_7 : decode cX7_has 7 = .ok (.iand, 1) := by decide +kernel
theorem dX7_has_8 : decode cX7_has 8 = .ok (.laload, 1) := by decide +kernel
theorem dX7_has_9 : decode cX7_has 9 = .ok (.iload_n 1, 1) := by decide +kernel
theorem dX7_has_10 : decode cX7_has 10 = .ok (.bipush 63, 2) := by decide +kernel
theorem dX7_has_12 : decode cX7_has 12 = .ok (.iand, 1) := by decide +kernel
theorem dX7_has_13 : decode cX7_has 13 = .ok (.lushr, 1) := by decide +kernel
theorem dX7_has_14 : decode cX7_has 14 = .ok (.lconst 1, 1) := by decide +kernel
theorem dX7_has_15 : decode cX7_has 15 = .ok (.land, 1) := by decide +kernel
theorem dX7_has_16 : decode cX7_has 16 = .ok (.lconst 0, 1) := by decide +kernel
theorem dX7_has_17 : decode cX7_has 17 = .ok (.lcmp, 1) := by decide +kernel
theorem dX7_has_18 : decode cX7_has 18 = .ok (.ifCond .eq 7, 3) := by decide +kernel
theorem dX7_has_21 : decode cX7_has 21 = .ok (.iconst 1, 1) := by decide +kernel
theorem dX7_has_22 : decode cX7_has 22 = .ok (.goto 4, 3) := by decide +kernel
theorem dX7_has_25 : decode cX7_has 25 = .ok (.iconst 0, 1) := by decide +kernel
theorem dX7_has_26 : decode cX7_has 26 = .ok (.ireturn, 1) := by decide +kernel
def FX7_has (hp : HP) (p0 : Nat) (p1 : Int32) : Option (Int32) := (rdL hp p0 ((p1 >>> ((6 : Int32) &&& 31)) &&& (15 : Int32))).bind (fun v1 => if (lg_cmp (((v1).toUInt64 >>> (((p1 &&& (63 : Int32))).toInt64.toUInt64 &&& Int64.toUInt64 63)).toInt64 &&& (1 : Int64)) (0 : Int64)) = 0 then some (0 : Int32) else some (1 : Int32))
set_option maxHeartbeats 4000000 in
set_option maxRecDepth 100000 in
theorem ctX7_has (l : Launch) (D : va_G) (tg : Nat → ClassId) (bs : Nat) (sa : Nat → Nat) (hp : HP) (p0 : Nat) (p1 : Int32) : Ct l D tg bs sa yX7_has cX7_has 2 (some .boolean) 0 [.ref p0, .int p1] hp (FX7_has hp p0 p1) (fun r => some (.int r)) (fun _ => hp) := by
  refine Ct.of (by decide) (Nat.le_of_ble_eq_true rfl) ?_
  intro V Q hVl hVd hVt hVb hVs hC
  subst hVl; subst hVd; subst hVt; subst hVb; subst hVs
  unfold FX7_has
  show Zs V Q (0, 0) 2 _ _ hp [(0, .ref p0), (1, .int p1)] 0 []
  refine z_aload_n hC 0 dX7_has_0 rfl rfl ?_
  refine z_iload_n hC 1 dX7_has_1 rfl rfl ?_
  refine z_bipush hC (6 : Int32) dX7_has_2 (by decide) ?_
  refine z_ishr hC dX7_has_4 ?_
  refine z_bipush hC (15 : Int32) dX7_has_5 (by decide) ?_
  refine z_iand hC dX7_has_7 ?_
  refine z_lald hC dX7_has_8 (fun v1 => ?_)
  refine z_iload_n hC 1 dX7_has_9 rfl rfl ?_
  refine z_bipush hC (63 : Int32) dX7_has_10 (by decide) ?_
  refine z_iand hC dX7_has_12 ?_
  refine z_lushr hC dX7_has_13 ?_
  refine z_lconst hC (1 : Int64) dX7_has_14 (by decide) ?_
  refine z_land hC dX7_has_15 ?_
  refine z_lconst hC (0 : Int64) dX7_has_16 (by decide) ?_
  refine z_lcmp hC dX7_has_17 ?_
  refine z_if_eq hC 25 dX7_has_18 (by decide) (fun _ => ?_) (fun _ => ?_)
  · refine z_iconst hC (0 : Int32) dX7_has_25 (by decide) ?_
    exact z_zret hC (by decide) (fun h => h) dX7_has_26
  · refine z_iconst hC (1 : Int32) dX7_has_21 (by decide) ?_
    refine z_goto hC 26 dX7_has_22 (by decide) ?_
    exact z_zret hC (by decide) (fun h => h) dX7_has_26

