theorem dX12_hindered_0 : decode cX12_hindered 0 = .ok (.iload_n 1, 1) := by decide +kernel
theorem dX12_hindered_1 : decode cX12_hindered 1 = .ok (.iconst 1, 1) := by decide +kernel
theorem dX12_hindered_2 : decode cX12_hindered 2 = .ok (.sipush 1023, 3) := by decide +kernel
theorem dX12_hindered_5 : decode cX12_hindered 5 = .ok (.invokestatic 99, 3) := by decide +kernel
theorem dX12_hindered_8 : decode cX12_hindered 8 = .ok (.ifCond .eq 12, 3) := by decide +kernel
theorem dX12_hindered_11 : decode cX12_hindered 11 = .ok (.iload_n 2, 1) := by decide +kernel
theorem dX12_hindered_12 : decode cX12_hindered 12 = .ok (.iconst 0, 1) := by decide +kernel
theorem dX12_hindered_13 : decode cX12_hindered 13 = .ok (.iconst 1, 1) := by decide +kernel
theorem dX12_hindered_14 : decode cX12_hindered 14 = .ok (.invokestatic 99, 3) := by decide +kernel
theorem dX12_hindered_17 : decode cX12_hindered 17 = .ok (.ifCond .ne 5, 3) := by decide +kernel
theorem dX12_hindered_20 : decode cX12_hindered 20 = .ok (.iconst (-1), 1) := by decide +kernel
theorem dX12_hindered_21 : decode cX12_hindered 21 = .ok (.ireturn, 1) := by decide +kernel
theorem dX12_hindered_22 : decode cX12_hindered 22 = .ok (.iconst (-1), 1) := by decide +kernel
theorem dX12_hindered_23 : decode cX12_hindered 23 = .ok (.istore_n 3, 1) := by decide +kernel
theorem dX12_hindered_24 : decode cX12_hindered 24 = .ok (.iconst (-1), 1) := by decide +kernel
theorem dX12_hindered_25 : decode cX12_hindered 25 = .ok (.istore 4, 2) := by decide +kernel
theorem dX12_hindered_27 : decode cX12_hindered 27 = .ok (.iconst 0, 1) := by decide +kernel
theorem dX12_hindered_28 : decode cX12_hindered 28 = .ok (.istore 5, 2) := by decide +kernel
theorem dX12_hindered_30 : decode cX12_hindered 30 = .ok (.iload 5, 2) := by decide +kernel
theorem dX12_hindered_32 : decode cX12_hindered 32 = .ok (.bipush 10, 2) := by decide +kernel
theorem dX12_hindered_34 : decode cX12_hindered 34 = .ok (.if_icmp .ge 93, 3) := by decide +kernel
theorem dX12_hindered_37 : decode cX12_hindered 37 = .ok (.iload_n 1, 1) := by decide +kernel
theorem dX12_hindered_38 : decode cX12_hindered 38 = .ok (.iload 5, 2) := by decide +kernel
theorem dX12_hindered_40 : decode cX12_hindered 40 = .ok (.invokestatic 107, 3) := by decide +kernel
theorem dX12_hindered_43 : decode cX12_hindered 43 = .ok (.ifCond .ne 6, 3) := by decide +kernel
theorem dX12_hindered_46 : decode cX12_hindered 46 = .ok (.goto 75, 3) := by decide +kernel
theorem dX12_hindered_49 : decode cX12_hindered 49 = .ok (.iconst 0, 1) := by decide +kernel
theorem dX12_hindered_50 : decode cX12_hindered 50 = .ok (.istore 6, 2) := by decide +kernel
theorem dX12_hindered_52 : decode cX12_hindered 52 = .ok (.iconst 0, 1) := by decide +kernel
theorem dX12_hindered_53 : decode cX12_hindered 53 = .ok (.istore 7, 2) := by decide +kernel
theorem dX12_hindered_55 : decode cX12_hindered 55 = .ok (.iload 7, 2) := by decide +kernel
theorem dX12_hindered_57 : decode cX12_hindered 57 = .ok (.sipush 1024, 3) := by decide +kernel
theorem dX12_hindered_60 : decode cX12_hindered 60 = .ok (.if_icmp .ge 44, 3) := by decide +kernel
theorem dX12_hindered_63 : decode cX12_hindered 63 = .ok (.iload 6, 2) := by decide +kernel
theorem dX12_hindered_65 : decode cX12_hindered 65 = .ok (.aload_n 0, 1) := by decide +kernel
theorem dX12_hindered_66 : decode cX12_hindered 66 = .ok (.getfield 20, 3) := by decide +kernel
theorem dX12_hindered_69 : decode cX12_hindered 69 = .ok (.iload 7, 2) := by decide +kernel
theorem dX12_hindered_71 : decode cX12_hindered 71 = .ok (.baload, 1) := by decide +kernel
theorem dX12_hindered_72 : decode cX12_hindered 72 = .ok (.ifCond .eq 22, 3) := by decide +kernel
theorem dX12_hindered_75 : decode cX12_hindered 75 = .ok (.aload_n 0, 1) := by decide +kernel
theorem dX12_hindered_76 : decode cX12_hindered 76 = .ok (.getfield 20, 3) := by decide +kernel
theorem dX12_hindered_79 : decode cX12_hindered 79 = .ok (.iload 7, 2) := by decide +kernel
theorem dX12_hindered_81 : decode cX12_hindered 81 = .ok (.iconst 1, 1) := by decide +kernel
theorem dX12_hindered_82 : decode cX12_hindered 82 = .ok (.iload 5, 2) := by decide +kernel
theorem dX12_hindered_84 : decode cX12_hindered 84 = .ok (.ishl, 1) := by decide +kernel
theorem dX12_hindered_85 : decode cX12_hindered 85 = .ok (.ixor, 1) := by decide +kernel
theorem dX12_hindered_86 : decode cX12_hindered 86 = .ok (.baload, 1) := by decide +kernel
theorem dX12_hindered_87 : decode cX12_hindered 87 = .ok (.ifCond .ne 7, 3) := by decide +kernel
theorem dX12_hindered_90 : decode cX12_hindered 90 = .ok (.iconst 1, 1) := by decide +kernel
theorem dX12_hindered_91 : decode cX12_hindered 91 = .ok (.goto 4, 3) := by decide +kernel
theorem dX12_hindered_94 : decode cX12_hindered 94 = .ok (.iconst 0, 1) := by decide +kernel
theorem dX12_hindered_95 : decode cX12_hindered 95 = .ok (.iadd, 1) := by decide +kernel
theorem dX12_hindered_96 : decode cX12_hindered 96 = .ok (.istore 6, 2) := by decide +kernel
theorem dX12_hindered_98 : decode cX12_hindered 98 = .ok (.iinc 7 1, 3) := by decide +kernel
theorem dX12_hindered_101 : decode cX12_hindered 101 = .ok (.goto (-46), 3) := by decide +kernel
theorem dX12_hindered_104 : decode cX12_hindered 104 = .ok (.iload 6, 2) := by decide +kernel
theorem dX12_hindered_106 : decode cX12_hindered 106 = .ok (.iload 4, 2) := by decide +kernel
theorem dX12_hindered_108 : decode cX12_hindered 108 = .ok (.if_icmp .gt 6, 3) := by decide +kernel
theorem dX12_hindered_111 : decode cX12_hindered 111 = .ok (.goto 10, 3) := by decide +kernel
theorem dX12_hindered_114 : decode cX12_hindered 114 = .ok (.iload 6, 2) := by decide +kernel
theorem dX12_hindered_116 : decode cX12_hindered 116 = .ok (.istore 4, 2) := by decide +kernel
theorem dX12_hindered_118 : decode cX12_hindered 118 = .ok (.iload 5, 2) := by decide +kernel
theorem dX12_hindered_120 : decode cX12_hindered 120 = .ok (.istore_n 3, 1) := by decide +kernel
theorem dX12_hindered_121 : decode cX12_hindered 121 = .ok (.iinc 5 1, 3) := by decide +kernel
theorem dX12_hindered_124 : decode cX12_hindered 124 = .ok (.goto (-94), 3) := by decide +kernel
theorem dX12_hindered_127 : decode cX12_hindered 127 = .ok (.iload_n 2, 1) := by decide +kernel
theorem dX12_hindered_128 : decode cX12_hindered 128 = .ok (.ifCond .ne 7, 3) := by decide +kernel
theorem dX12_hindered_131 : decode cX12_hindered 131 = .ok (.iload_n 3, 1) := by decide +kernel
theorem dX12_hindered_132 : decode cX12_hindered 132 = .ok (.goto 5, 3) := by decide +kernel
theorem dX12_hindered_135 : decode cX12_hindered 135 = .ok (.iload 4, 2) := by decide +kernel
theorem dX12_hindered_137 : decode cX12_hindered 137 = .ok (.ireturn, 1) := by decide +kernel
def FX12_hindered (hp : HP) (p0 : Nat) (p1 : Int32) (p2 : Int32) : Option (Int32) := (FX12_in p1 (1 : Int32) (1023 : Int32)).bind (fun v1 => if v1 = 0 then some (-1 : Int32) else (FX12_in p2 (0 : Int32) (1 : Int32)).bind (fun v2 => if v2 = 0 then some (-1 : Int32) else (lp (fun (s3 : Int32 × Int32 × Int32) => if (10 : Int32) ≤ s3.2.2 then some (Sum.inl (s3.1, s3.2.1)) else (FX12_has p1 s3.2.2).bind (fun v5 => if v5 = 0 then vl (s3.2.2 + (1 : Int32)) (fun x6 => some (Sum.inr (s3.1, s3.2.1, x6))) else (lp (fun (s7 : Int32 × Int32) => if (1024 : Int32) ≤ s7.2 then some (Sum.inl s7.1) else (gR [12] 3 hp p0).bind (fun v11 => (rdN 2 hp v11 s7.2).bind (fun v12 => if v12 = 0 then vl (s7.1 + (0 : Int32)) (fun x13 => vl (s7.2 + (1 : Int32)) (fun x14 => some (Sum.inr (x13, x14)))) else (gR [12] 3 hp p0).bind (fun v15 => (rdN 2 hp v15 (s7.2 ^^^ ((1 : Int32) <<< (s3.2.2 &&& 31)))).bind (fun v16 => if v16 = 0 then vl (s7.1 + (1 : Int32)) (fun x17 => vl (s7.2 + (1 : Int32)) (fun x18 => some (Sum.inr (x17, x18)))) else vl (s7.1 + (0 : Int32)) (fun x19 => vl (s7.2 + (1 : Int32)) (fun x20 => some (Sum.inr (x19, x20))))))))) FU ((0 : Int32), (0 : Int32))).bind (fun (y8 : Int32) => if s3.2.1 < y8 then vl (s3.2.2 + (1 : Int32)) (fun x9 => some (Sum.inr (s3.2.2, y8, x9))) else vl (s3.2.2 + (1 : Int32)) (fun x10 => some (Sum.inr (s3.1, s3.2.1, x10)))))) FU ((-1 : Int32), (-1 : Int32), (0 : Int32))).bind (fun (y4 : Int32 × Int32) => if p2 = 0 then some y4.1 else some y4.2)))
set_option maxHeartbeats 4000000 in
set_option maxRecDepth 100000 in
theorem ctX12_hindered (l : Launch) (D : va_G) (tg : Nat → ClassId) (bs : Nat) (sa : Nat → Nat) (hp : HP) (p0 : Nat) (p1 : Int32) (p2 : Int32) : Ct l D tg bs sa yX12_hindered cX12_hindered 8 (some .int) 1 [.ref p0, .int p1, .int p2] hp (FX12_hindered hp p0 p1 p2) (fun r => some (.int r)) (fun _ => hp) := by
  refine Ct.of (by decide) (Nat.le_of_ble_eq_true rfl) ?_
  intro V Q hVl hVd hVt hVb hVs hC
  subst hVl; subst hVd; subst hVt; subst hVb; subst hVs
  unfold FX12_hindered
  show Zs V Q (0, 0) 8 _ _ hp [(0, .ref p0), (1, .int p1), (2, .int p2)] 0 []
  refine z_iload_n hC 1 dX12_hindered_0 rfl rfl ?_
  refine z_iconst hC (1 : Int32) dX12_hindered_1 (by decide) ?_
  refine z_sipush hC (1023 : Int32) dX12_hindered_2 (by decide) ?_
  refine z_callSi hC lmRX12_99 (ctX12_in (vLa V) (vDa V) (vTg V) (vBs V) (vSa V) hp p1 (1 : Int32) (1023 : Int32)) (by decide) hn0 dX12_hindered_5 rfl rfl (Nat.le_of_ble_eq_true rfl) (fun v1 => ?_)
  refine z_if_eq hC 20 dX12_hindered_8 (by decide) (fun _ => ?_) (fun _ => ?_)
  · refine z_iconst hC (-1 : Int32) dX12_hindered_20 (by decide) ?_
    exact z_iret hC (fun h => h) dX12_hindered_21
  · refine z_iload_n hC 2 dX12_hindered_11 rfl rfl ?_
    refine z_iconst hC (0 : Int32) dX12_hindered_12 (by decide) ?_
    refine z_iconst hC (1 : Int32) dX12_hindered_13 (by decide) ?_
    refine z_callSi hC lmRX12_99 (ctX12_in (vLa V) (vDa V) (vTg V) (vBs V) (vSa V) hp p2 (0 : Int32) (1 : Int32)) (by decide) hn0 dX12_hindered_14 rfl rfl (Nat.le_of_ble_eq_true rfl) (fun v2 => ?_)
    refine z_if_ne hC 22 dX12_hindered_17 (by decide) (fun _ => ?_) (fun _ => ?_)
    · refine z_iconst hC (-1 : Int32) dX12_hindered_20 (by decide) ?_
      exact z_iret hC (fun h => h) dX12_hindered_21
    · refine z_iconst hC (-1 : Int32) dX12_hindered_22 (by decide) ?_
      refine z_istore_n hC [(0, .ref p0), (1, .int p1), (2, .int p2), (3, .int (-1 : Int32))] [1, 2, 3, 0] dX12_hindered_23 rfl (by decide) rfl ?_
      refine z_iconst hC (-1 : Int32) dX12_hindered_24 (by decide) ?_
      refine z_istore hC [(0, .ref p0), (1, .int p1), (2, .int p2), (3, .int (-1 : Int32)), (4, .int (-1 : Int32))] [1, 2, 3, 4, 0] dX12_hindered_25 (by decide) rfl ?_
      refine z_iconst hC (0 : Int32) dX12_hindered_27 (by decide) ?_
      refine z_istore hC [(0, .ref p0), (1, .int p1), (2, .int p2), (3, .int (-1 : Int32)), (4, .int (-1 : Int32)), (5, .int (0 : Int32))] [1, 2, 3, 4, 5, 0] dX12_hindered_28 (by decide) rfl ?_
      refine z_lp (S := Int32 × Int32 × Int32) (Y := Int32 × Int32) (fun s3 => hp) (fun s3 => [(0, .ref p0), (1, .int p1), (2, .int p2), (3, .int s3.1), (4, .int s3.2.1), (5, .int s3.2.2)]) (fun y4 => hp) (fun y4 => [(2, .int p2), (3, .int y4.1), (4, .int y4.2)]) 127 [] (fun y4 => ?_) (fun s3 => ?_) rfl rfl
      · refine z_iload_n hC 0 dX12_hindered_127 rfl rfl ?_
        refine z_if_ne hC 135 dX12_hindered_128 (by decide) (fun _ => ?_) (fun _ => ?_)
        · refine z_iload_n hC 1 dX12_hindered_131 rfl rfl ?_
          refine z_goto hC 137 dX12_hindered_132 (by decide) ?_
          exact z_iret hC (fun h => h) dX12_hindered_137
        · refine z_iload hC 2 dX12_hindered_135 rfl ?_
          exact z_iret hC (fun h => h) dX12_hindered_137
      · refine z_iload hC 5 dX12_hindered_30 rfl ?_
        refine z_bipush hC (10 : Int32) dX12_hindered_32 (by decide) ?_
        refine z_icmp_ge hC 127 dX12_hindered_34 (by decide) (fun _ => ?_) (fun _ => ?_)
        · refine z_weak [(2, .int p2), (3, .int s3.1), (4, .int s3.2.1)] [2, 3, 4] rfl ?_
          exact z_leaf (fun h => h)
        · refine z_iload_n hC 1 dX12_hindered_37 rfl rfl ?_
          refine z_iload hC 5 dX12_hindered_38 rfl ?_
          refine z_callSi hC lmRX12_107 (ctX12_has (vLa V) (vDa V) (vTg V) (vBs V) (vSa V) hp p1 s3.2.2) (by decide) hn0 dX12_hindered_40 rfl rfl (Nat.le_of_ble_eq_true rfl) (fun v5 => ?_)
          refine z_if_ne hC 49 dX12_hindered_43 (by decide) (fun _ => ?_) (fun _ => ?_)
          · refine z_goto hC 121 dX12_hindered_46 (by decide) ?_
            refine z_iincv hC (1 : Int32) 5 (fun x6 => [(0, .ref p0), (1, .int p1), (2, .int p2), (3, .int s3.1), (4, .int s3.2.1), (5, .int x6)]) [1, 2, 3, 4, 5, 0] dX12_hindered_121 rfl (by decide) (by decide) (fun _ => rfl) (fun x6 => ?_)
            refine z_goto hC 30 dX12_hindered_124 (by decide) ?_
            exact z_leaf (fun h => h)
          · refine z_iconst hC (0 : Int32) dX12_hindered_49 (by decide) ?_
            refine z_istore hC [(0, .ref p0), (1, .int p1), (2, .int p2), (3, .int s3.1), (4, .int s3.2.1), (5, .int s3.2.2), (6, .int (0 : Int32))] [1, 2, 3, 4, 5, 6, 0] dX12_hindered_50 (by decide) rfl ?_
            refine z_iconst hC (0 : Int32) dX12_hindered_52 (by decide) ?_
            refine z_istore hC [(0, .ref p0), (1, .int p1), (2, .int p2), (3, .int s3.1), (4, .int s3.2.1), (5, .int s3.2.2), (6, .int (0 : Int32)), (7, .int (0 : Int32))] [1, 2, 3, 4, 5, 6, 7, 0] dX12_hindered_53 (by decide) rfl ?_
            refine z_lp (S := Int32 × Int32) (Y := Int32) (fun s7 => hp) (fun s7 => [(0, .ref p0), (1, .int p1), (2, .int p2), (3, .int s3.1), (4, .int s3.2.1), (5, .int s3.2.2), (6, .int s7.1), (7, .int s7.2)]) (fun y8 => hp) (fun y8 => [(0, .ref p0), (1, .int p1), (2, .int p2), (3, .int s3.1), (4, .int s3.2.1), (5, .int s3.2.2), (6, .int y8)]) 104 [] (fun y8 => ?_) (fun s7 => ?_) rfl rfl
            · refine z_iload hC 6 dX12_hindered_104 rfl ?_
              refine z_iload hC 4 dX12_hindered_106 rfl ?_
              refine z_icmp_gt hC 114 dX12_hindered_108 (by decide) (fun _ => ?_) (fun _ => ?_)
              · refine z_iload hC 6 dX12_hindered_114 rfl ?_
                refine z_istore hC [(0, .ref p0), (1, .int p1), (2, .int p2), (3, .int s3.1), (4, .int y8), (5, .int s3.2.2), (6, .int y8)] [1, 2, 3, 4, 0, 5, 6] dX12_hindered_116 (by decide) rfl ?_
                refine z_iload hC 5 dX12_hindered_118 rfl ?_
                refine z_istore_n hC [(0, .ref p0), (1, .int p1), (2, .int p2), (3, .int s3.2.2), (4, .int y8), (5, .int s3.2.2), (6, .int y8)] [1, 2, 3, 0, 4, 5, 6] dX12_hindered_120 rfl (by decide) rfl ?_
                refine z_iincv hC (1 : Int32) 5 (fun x9 => [(0, .ref p0), (1, .int p1), (2, .int p2), (3, .int s3.2.2), (4, .int y8), (5, .int x9), (6, .int y8)]) [1, 2, 3, 4, 5, 0, 6] dX12_hindered_121 rfl (by decide) (by decide) (fun _ => rfl) (fun x9 => ?_)
                refine z_goto hC 30 dX12_hindered_124 (by decide) ?_
                refine z_weak [(0, .ref p0), (1, .int p1), (2, .int p2), (3, .int s3.2.2), (4, .int y8), (5, .int x9)] [0, 1, 2, 3, 4, 5] rfl ?_
                exact z_leaf (fun h => h)
              · refine z_goto hC 121 dX12_hindered_111 (by decide) ?_
                refine z_iincv hC (1 : Int32) 5 (fun x10 => [(0, .ref p0), (1, .int p1), (2, .int p2), (3, .int s3.1), (4, .int s3.2.1), (5, .int x10), (6, .int y8)]) [1, 2, 3, 4, 5, 0, 6] dX12_hindered_121 rfl (by decide) (by decide) (fun _ => rfl) (fun x10 => ?_)
                refine z_goto hC 30 dX12_hindered_124 (by decide) ?_
                refine z_weak [(0, .ref p0), (1, .int p1), (2, .int p2), (3, .int s3.1), (4, .int s3.2.1), (5, .int x10)] [0, 1, 2, 3, 4, 5] rfl ?_
                exact z_leaf (fun h => h)
            · refine z_iload hC 7 dX12_hindered_55 rfl ?_
              refine z_sipush hC (1024 : Int32) dX12_hindered_57 (by decide) ?_
              refine z_icmp_ge hC 104 dX12_hindered_60 (by decide) (fun _ => ?_) (fun _ => ?_)
              · refine z_weak [(0, .ref p0), (1, .int p1), (2, .int p2), (3, .int s3.1), (4, .int s3.2.1), (5, .int s3.2.2), (6, .int s7.1)] [0, 1, 2, 3, 4, 5, 6] rfl ?_
                exact z_leaf (fun h => h)
              · refine z_iload hC 6 dX12_hindered_63 rfl ?_
                refine z_aload_n hC 0 dX12_hindered_65 rfl rfl ?_
                refine z_getR hC lgRX12_20 dX12_hindered_66 (fun v11 => ?_)
                refine z_iload hC 7 dX12_hindered_69 rfl ?_
                refine z_zald hC dX12_hindered_71 (fun v12 => ?_)
                refine z_if_eq hC 94 dX12_hindered_72 (by decide) (fun _ => ?_) (fun _ => ?_)
                · refine z_iconst hC (0 : Int32) dX12_hindered_94 (by decide) ?_
                  refine z_iadd hC dX12_hindered_95 ?_
                  refine z_vli (fun x13 => ?_)
                  refine z_istore hC [(0, .ref p0), (1, .int p1), (2, .int p2), (3, .int s3.1), (4, .int s3.2.1), (5, .int s3.2.2), (6, .int x13), (7, .int s7.2)] [1, 2, 3, 4, 5, 6, 0, 7] dX12_hindered_96 (by decide) rfl ?_
                  refine z_iincv hC (1 : Int32) 7 (fun x14 => [(0, .ref p0), (1, .int p1), (2, .int p2), (3, .int s3.1), (4, .int s3.2.1), (5, .int s3.2.2), (6, .int x13), (7, .int x14)]) [1, 2, 3, 4, 5, 6, 7, 0] dX12_hindered_98 rfl (by decide) (by decide) (fun _ => rfl) (fun x14 => ?_)
                  refine z_goto hC 55 dX12_hindered_101 (by decide) ?_
                  exact z_leaf (fun h => h)
                · refine z_aload_n hC 0 dX12_hindered_75 rfl rfl ?_
                  refine z_getR hC lgRX12_20 dX12_hindered_76 (fun v15 => ?_)
                  refine z_iload hC 7 dX12_hindered_79 rfl ?_
                  refine z_iconst hC (1 : Int32) dX12_hindered_81 (by decide) ?_
                  refine z_iload hC 5 dX12_hindered_82 rfl ?_
                  refine z_ishl hC dX12_hindered_84 ?_
                  refine z_ixor hC dX12_hindered_85 ?_
                  refine z_zald hC dX12_hindered_86 (fun v16 => ?_)
                  refine z_if_ne hC 94 dX12_hindered_87 (by decide) (fun _ => ?_) (fun _ => ?_)
                  · refine z_iconst hC (1 : Int32) dX12_hindered_90 (by decide) ?_
                    refine z_goto hC 95 dX12_hindered_91 (by decide) ?_
                    refine z_iadd hC dX12_hindered_95 ?_
                    refine z_vli (fun x17 => ?_)
                    refine z_istore hC [(0, .ref p0), (1, .int p1), (2, .int p2), (3, .int s3.1), (4, .int s3.2.1), (5, .int s3.2.2), (6, .int x17), (7, .int s7.2)] [1, 2, 3, 4, 5, 6, 0, 7] dX12_hindered_96 (by decide) rfl ?_
                    refine z_iincv hC (1 : Int32) 7 (fun x18 => [(0, .ref p0), (1, .int p1), (2, .int p2), (3, .int s3.1), (4, .int s3.2.1), (5, .int s3.2.2), (6, .int x17), (7, .int x18)]) [1, 2, 3, 4, 5, 6, 7, 0] dX12_hindered_98 rfl (by decide) (by decide) (fun _ => rfl) (fun x18 => ?_)
                    refine z_goto hC 55 dX12_hindered_101 (by decide) ?_
                    exact z_leaf (fun h => h)
                  · refine z_iconst hC (0 : Int32) dX12_hindered_94 (by decide) ?_
                    refine z_iadd hC dX12_hindered_95 ?_
                    refine z_vli (fun x19 => ?_)
                    refine z_istore hC [(0, .ref p0), (1, .int p1), (2, .int p2), (3, .int s3.1), (4, .int s3.2.1), (5, .int s3.2.2), (6, .int x19), (7, .int s7.2)] [1, 2, 3, 4, 5, 6, 0, 7] dX12_hindered_96 (by decide) rfl ?_
                    refine z_iincv hC (1 : Int32) 7 (fun x20 => [(0, .ref p0), (1, .int p1), (2, .int p2), (3, .int s3.1), (4, .int s3.2.1), (5, .int s3.2.2), (6, .int x19), (7, .int x20)]) [1, 2, 3, 4, 5, 6, 7, 0] dX12_hindered_98 rfl (by decide) (by decide) (fun _ => rfl) (fun x20 => ?_)
                    refine z_goto hC 55 dX12_hindered_101 (by decide) ?_
                    exact z_leaf (fun h => h)

theorem dX12_canAllBe_0 : decode cX12_canAllBe 0 = .ok (.iconst 0, 1) := by decide +kernel
theorem dX12_canAllBe_1 : decode cX12_canAllBe 1 = .ok (.istore_n 2, 1) := by decide +kernel
theorem dX12_canAllBe_2 : decode cX12_canAllBe 2 = .ok (.iload_n 2, 1) := by decide +kernel
theorem dX12_canAllBe_3 : decode cX12_canAllBe 3 = .ok (.sipush 1024, 3) := by decide +kernel
theorem dX12_canAllBe_6 : decode cX12_canAllBe 6 = .ok (.if_icmp .ge 67, 3) := by decide +kernel
theorem dX12_canAllBe_9 : decode cX12_canAllBe 9 = .ok (.aload_n 0, 1) := by decide +kernel
theorem dX12_canAllBe_10 : decode cX12_canAllBe 10 = .ok (.getfield 20, 3) := by decide +kernel
theorem dX12_canAllBe_13 : decode cX12_canAllBe 13 = .ok (.iload_n 2, 1) := by decide +kernel
theorem dX12_canAllBe_14 : decode cX12_canAllBe 14 = .ok (.baload, 1) := by decide +kernel
theorem dX12_canAllBe_15 : decode cX12_canAllBe 15 = .ok (.istore_n 3, 1) := by decide +kernel
theorem dX12_canAllBe_16 : decode cX12_canAllBe 16 = .ok (.iconst 0, 1) := by decide +kernel
theorem dX12_canAllBe_17 : decode cX12_canAllBe 17 = .ok (.istore 4, 2) := by decide +kernel
theorem dX12_canAllBe_19 : decode cX12_canAllBe 19 = .ok (.iload 4, 2) := by decide +kernel
theorem dX12_canAllBe_21 : decode cX12_canAllBe 21 = .ok (.bipush 8, 2) := by decide +kernel
theorem dX12_canAllBe_23 : decode cX12_canAllBe 23 = .ok (.if_icmp .ge 38, 3) := by decide +kernel
theorem dX12_canAllBe_26 : decode cX12_canAllBe 26 = .ok (.iload_n 3, 1) := by decide +kernel
theorem dX12_canAllBe_27 : decode cX12_canAllBe 27 = .ok (.ifCond .eq 34, 3) := by decide +kernel
theorem dX12_canAllBe_30 : decode cX12_canAllBe 30 = .ok (.iload_n 1, 1) := by decide +kernel
theorem dX12_canAllBe_31 : decode cX12_canAllBe 31 = .ok (.iload 4, 2) := by decide +kernel
theorem dX12_canAllBe_33 : decode cX12_canAllBe 33 = .ok (.invokestatic 107, 3) := by decide +kernel
theorem dX12_canAllBe_36 : decode cX12_canAllBe 36 = .ok (.ifCond .eq 13, 3) := by decide +kernel
theorem dX12_canAllBe_39 : decode cX12_canAllBe 39 = .ok (.aload_n 0, 1) := by decide +kernel
theorem dX12_canAllBe_40 : decode cX12_canAllBe 40 = .ok (.iload 4, 2) := by decide +kernel
theorem dX12_canAllBe_42 : decode cX12_canAllBe 42 = .ok (.iload_n 2, 1) := by decide +kernel
theorem dX12_canAllBe_43 : decode cX12_canAllBe 43 = .ok (.invokevirtual 310, 3) := by decide +kernel
theorem dX12_canAllBe_46 : decode cX12_canAllBe 46 = .ok (.ifCond .eq 7, 3) := by decide +kernel
theorem dX12_canAllBe_49 : decode cX12_canAllBe 49 = .ok (.iconst 1, 1) := by decide +kernel
theorem dX12_canAllBe_50 : decode cX12_canAllBe 50 = .ok (.goto 4, 3) := by decide +kernel
theorem dX12_canAllBe_53 : decode cX12_canAllBe 53 = .ok (.iconst 0, 1) := by decide +kernel
theorem dX12_canAllBe_54 : decode cX12_canAllBe 54 = .ok (.istore_n 3, 1) := by decide +kernel
theorem dX12_canAllBe_55 : decode cX12_canAllBe 55 = .ok (.iinc 4 1, 3) := by decide +kernel
theorem dX12_canAllBe_58 : decode cX12_canAllBe 58 = .ok (.goto (-39), 3) := by decide +kernel
theorem dX12_canAllBe_61 : decode cX12_canAllBe 61 = .ok (.iload_n 3, 1) := by decide +kernel
theorem dX12_canAllBe_62 : decode cX12_canAllBe 62 = .ok (.ifCond .eq 5, 3) := by decide +kernel
theorem dX12_canAllBe_65 : decode cX12_canAllBe 65 = .ok (.iconst 1, 1) := by decide +kernel
theorem dX12_canAllBe_66 : decode cX12_canAllBe 66 = .ok (.ireturn, 1) := by decide +kernel
theorem dX12_canAllBe_67 : decode cX12_canAllBe 67 = .ok (.iinc 2 1, 3) := by decide +kernel
theorem dX12_canAllBe_70 : decode cX12_canAllBe 70 = .ok (.goto (-68), 3) := by decide +kernel
theorem dX12_canAllBe_73 : decode cX12_canAllBe 73 = .ok (.iconst 0, 1) := by decide +kernel
theorem dX12_canAllBe_74 : decode cX12_canAllBe 74 = .ok (.ireturn, 1) := by decide +kernel
def FX12_canAllBe (hp : HP) (p0 : Nat) (p1 : Int32) : Option (Int32) := (lp (fun (s1 : Int32) => if (1024 : Int32) ≤ s1 then some (Sum.inl (Sum.inr ())) else (gR [12] 3 hp p0).bind (fun v3 => (rdN 2 hp v3 s1).bind (fun v4 => (lp (fun (s5 : Int32 × Int32) => if (8 : Int32) ≤ s5.2 then some (Sum.inl s5.1) else if s5.1 = 0 then some (Sum.inl s5.1) else (FX12_has p1 s5.2).bind (fun v8 => if v8 = 0 then vl (s5.2 + (1 : Int32)) (fun x9 => some (Sum.inr ((1 : Int32), x9))) else (rc [12] hp p0 (FX12_holdsIn hp p0 s5.2 s1)).bind (fun v10 => if v10 = 0 then vl (s5.2 + (1 : Int32)) (fun x11 => some (Sum.inr ((0 : Int32), x11))) else vl (s5.2 + (1 : Int32)) (fun x12 => some (Sum.inr ((1 : Int32), x12)))))) FU (v4, (0 : Int32))).bind (fun (y6 : Int32) => if y6 = 0 then vl (s1 + (1 : Int32)) (fun x7 => some (Sum.inr x7)) else some (Sum.inl (Sum.inl (1 : Int32))))))) FU (0 : Int32)).bind (lk (P := Int32) (fun r => r) (fun (y2 : Unit) => some (0 : Int32)))
set_option maxHeartbeats 4000000 in
set_option maxRecDepth 100000 in
theorem ctX12_canAllBe (l : Launch) (D : va_G) (tg : Nat → ClassId) (bs : Nat) (sa : Nat → Nat) (hp : HP) (p0 : Nat) (p1 : Int32) : Ct l D tg bs sa yX12_canAllBe cX12_canAllBe 5 (some .boolean) 1 [.ref p0, .int p1] hp (FX12_canAllBe hp p0 p1) (fun r => some (.int r)) (fun _ => hp) := by
  refine Ct.of (by decide) (Nat.le_of_ble_eq_true rfl) ?_
  intro V Q hVl hVd hVt hVb hVs hC
  subst hVl; subst hVd; subst hVt; subst hVb; subst hVs
  unfold FX12_canAllBe
  show Zs V Q (0, 0) 5 _ _ hp [(0, .ref p0), (1, .int p1)] 0 []
  refine z_iconst hC (0 : Int32) dX12_canAllBe_0 (by decide) ?_
  refine z_istore_n hC [(0, .ref p0), (1, .int p1), (2, .int (0 : Int32))] [1, 2, 0] dX12_canAllBe_1 rfl (by decide) rfl ?_
  refine z_lpR (S := Int32) (Y := Unit) (fun s1 => hp) (fun s1 => [(0, .ref p0), (1, .int p1), (2, .int s1)]) (fun y2 => hp) (fun y2 => []) 73 [] (fun y2 => ?_) (fun s1 => ?_) rfl rfl
  · refine z_iconst hC (0 : Int32) dX12_canAllBe_73 (by decide) ?_
    exact z_zret hC (by decide) (fun h => h) dX12_canAllBe_74
  · refine z_iload_n hC 2 dX12_canAllBe_2 rfl rfl ?_
    refine z_sipush hC (1024 : Int32) dX12_canAllBe_3 (by decide) ?_
    refine z_icmp_ge hC 73 dX12_canAllBe_6 (by decide) (fun _ => ?_) (fun _ => ?_)
    · refine z_weak [] [] rfl ?_
      exact z_leaf (fun h => h)
    · refine z_aload_n hC 0 dX12_canAllBe_9 rfl rfl ?_
      refine z_getR hC lgRX12_20 dX12_canAllBe_10 (fun v3 => ?_)
      refine z_iload_n hC 2 dX12_canAllBe_13 rfl rfl ?_
      refine z_zald hC dX12_canAllBe_14 (fun v4 => ?_)
      refine z_istore_n hC [(0, .ref p0), (1, .int p1), (2, .int s1), (3, .int v4)] [1, 2, 3, 0] dX12_canAllBe_15 rfl (by decide) rfl ?_
      refine z_iconst hC (0 : Int32) dX12_canAllBe_16 (by decide) ?_
      refine z_istore hC [(0, .ref p0), (1, .int p1), (2, .int s1), (3, .int v4), (4, .int (0 : Int32))] [1, 2, 3, 4, 0] dX12_canAllBe_17 (by decide) rfl ?_
      refine z_lp (S := Int32 × Int32) (Y := Int32) (fun s5 => hp) (fun s5 => [(0, .ref p0), (1, .int p1), (2, .int s1), (3, .int s5.1), (4, .int s5.2)]) (fun y6 => hp) (fun y6 => [(0, .ref p0), (1, .int p1), (2, .int s1), (3, .int y6)]) 61 [] (fun y6 => ?_) (fun s5 => ?_) rfl rfl
      · refine z_iload_n hC 3 dX12_canAllBe_61 rfl rfl ?_
        refine z_if_eq hC 67 dX12_canAllBe_62 (by decide) (fun _ => ?_) (fun _ => ?_)
        · refine z_iincv hC (1 : Int32) 2 (fun x7 => [(0, .ref p0), (1, .int p1), (2, .int x7), (3, .int y6)]) [1, 2, 0, 3] dX12_canAllBe_67 rfl (by decide) (by decide) (fun _ => rfl) (fun x7 => ?_)
          refine z_goto hC 2 dX12_canAllBe_70 (by decide) ?_
          refine z_weak [(0, .ref p0), (1, .int p1), (2, .int x7)] [0, 1, 2] rfl ?_
          exact z_leaf (fun h => h)
        · refine z_iconst hC (1 : Int32) dX12_canAllBe_65 (by decide) ?_
          exact z_zret hC (by decide) (fun h => h) dX12_canAllBe_66
      · refine z_iload hC 4 dX12_canAllBe_19 rfl ?_
        refine z_bipush hC (8 : Int32) dX12_canAllBe_21 (by decide) ?_
        refine z_icmp_ge hC 61 dX12_canAllBe_23 (by decide) (fun _ => ?_) (fun _ => ?_)
        · refine z_weak [(0, .ref p0), (1, .int p1), (2, .int s1), (3, .int s5.1)] [0, 1, 2, 3] rfl ?_
          exact z_leaf (fun h => h)
        · refine z_iload_n hC 3 dX12_canAllBe_26 rfl rfl ?_
          refine z_if_eq hC 61 dX12_canAllBe_27 (by decide) (fun _ => ?_) (fun _ => ?_)
          · refine z_weak [(0, .ref p0), (1, .int p1), (2, .int s1), (3, .int s5.1)] [0, 1, 2, 3] rfl ?_
            exact z_leaf (fun h => h)
          · refine z_iload_n hC 1 dX12_canAllBe_30 rfl rfl ?_
            refine z_iload hC 4 dX12_canAllBe_31 rfl ?_
            refine z_callSi hC lmRX12_107 (ctX12_has (vLa V) (vDa V) (vTg V) (vBs V) (vSa V) hp p1 s5.2) (by decide) hn0 dX12_canAllBe_33 rfl rfl (Nat.le_of_ble_eq_true rfl) (fun v8 => ?_)
            refine z_if_eq hC 49 dX12_canAllBe_36 (by decide) (fun _ => ?_) (fun _ => ?_)
            · refine z_iconst hC (1 : Int32) dX12_canAllBe_49 (by decide) ?_
              refine z_goto hC 54 dX12_canAllBe_50 (by decide) ?_
              refine z_istore_n hC [(0, .ref p0), (1, .int p1), (2, .int s1), (3, .int (1 : Int32)), (4, .int s5.2)] [1, 2, 3, 0, 4] dX12_canAllBe_54 rfl (by decide) rfl ?_
              refine z_iincv hC (1 : Int32) 4 (fun x9 => [(0, .ref p0), (1, .int p1), (2, .int s1), (3, .int (1 : Int32)), (4, .int x9)]) [1, 2, 3, 4, 0] dX12_canAllBe_55 rfl (by decide) (by decide) (fun _ => rfl) (fun x9 => ?_)
              refine z_goto hC 19 dX12_canAllBe_58 (by decide) ?_
              exact z_leaf (fun h => h)
            · refine z_aload_n hC 0 dX12_canAllBe_39 rfl rfl ?_
              refine z_iload hC 4 dX12_canAllBe_40 rfl ?_
              refine z_iload_n hC 2 dX12_canAllBe_42 rfl rfl ?_
              refine z_callVi hC (ci := 12) rfl lmRX12_310 (ctX12_holdsIn (vLa V) (vDa V) (vTg V) (vBs V) (vSa V) hp p0 s5.2 s1) (by decide) hn0 dX12_canAllBe_43 rfl rfl (Nat.le_of_ble_eq_true rfl) (fun v10 => ?_)
              refine z_if_eq hC 53 dX12_canAllBe_46 (by decide) (fun _ => ?_) (fun _ => ?_)
              · refine z_iconst hC (0 : Int32) dX12_canAllBe_53 (by decide) ?_
                refine z_istore_n hC [(0, .ref p0), (1, .int p1), (2, .int s1), (3, .int (0 : Int32)), (4, .int s5.2)] [1, 2, 3, 0, 4] dX12_canAllBe_54 rfl (by decide) rfl ?_
                refine z_iincv hC (1 : Int32) 4 (fun x11 => [(0, .ref p0), (1, .int p1), (2, .int s1), (3, .int (0 : Int32)), (4, .int x11)]) [1, 2, 3, 4, 0] dX12_canAllBe_55 rfl (by decide) (by decide) (fun _ => rfl) (fun x11 => ?_)
                refine z_goto hC 19 dX12_canAllBe_58 (by decide) ?_
                exact z_leaf (fun h => h)
              · refine z_iconst hC (1 : Int32) dX12_canAllBe_49 (by decide) ?_
                refine z_goto hC 54 dX12_canAllBe_50 (by decide) ?_
                refine z_istore_n hC [(0, .ref p0), (1, .int p1), (2, .int s1), (3, .int (1 : Int32)), (4, .int s5.2)] [1, 2, 3, 0, 4] dX12_canAllBe_54 rfl (by decide) rfl ?_
                refine z_iincv hC (1 : Int32) 4 (fun x12 => [(0, .ref p0), (1, .int p1), (2, .int s1), (3, .int (1 : Int32)), (4, .int x12)]) [1, 2, 3, 4, 0] dX12_canAllBe_55 rfl (by decide) (by decide) (fun _ => rfl) (fun x12 => ?_)
                refine z_goto hC 19 dX12_canAllBe_58 (by decide) ?_
                exact z_leaf (fun h => h)

theorem dX12_friends_0 : decode cX12_friends 0 = .ok (.aload_n 0, 1) := by decide +kernel
theorem dX12_friends_1 : decode cX12_friends 1 = .ok (.iload_n 1, 1) := by decide +kernel
theorem dX12_friends_2 : decode cX12_friends 2 = .ok (.iconst 2, 1) := by decide +kernel
theorem dX12_friends_3 : decode cX12_friends 3 = .ok (.bipush 6, 2) := by decide +kernel
theorem dX12_friends_5 : decode cX12_friends 5 = .ok (.invokevirtual 382, 3) := by decide +kernel
theorem dX12_friends_8 : decode cX12_friends 8 = .ok (.ifCond .eq 12, 3) := by decide +kernel
theorem dX12_friends_11 : decode cX12_friends 11 = .ok (.iload_n 2, 1) := by decide +kernel
theorem dX12_friends_12 : decode cX12_friends 12 = .ok (.iconst 0, 1) := by decide +kernel
theorem dX12_friends_13 : decode cX12_friends 13 = .ok (.iconst 1, 1) := by decide +kernel
theorem dX12_friends_14 : decode cX12_friends 14 = .ok (.invokestatic 99, 3) := by decide +kernel
theorem dX12_friends_17 : decode cX12_friends 17 = .ok (.ifCond .ne 5, 3) := by decide +kernel
theorem dX12_friends_20 : decode cX12_friends 20 = .ok (.iconst (-1), 1) := by decide +kernel
theorem dX12_friends_21 : decode cX12_friends 21 = .ok (.ireturn, 1) := by decide +kernel
theorem dX12_friends_22 : decode cX12_friends 22 = .ok (.bipush (-2), 2) := by decide +kernel
theorem dX12_friends_24 : decode cX12_friends 24 = .ok (.istore_n 3, 1) := by decide +kernel
theorem dX12_friends_25 : decode cX12_friends 25 = .ok (.iconst 1, 1) := by decide +kernel
theorem dX12_friends_26 : decode cX12_friends 26 = .ok (.istore 4, 2) := by decide +kernel
theorem dX12_friends_28 : decode cX12_friends 28 = .ok (.iload 4, 2) := by decide +kernel
theorem dX12_friends_30 : decode cX12_friends 30 = .ok (.iload_n 1, 1) := by decide +kernel
theorem dX12_friends_31 : decode cX12_friends 31 = .ok (.if_icmp .gt 51, 3) := by decide +kernel
theorem dX12_friends_34 : decode cX12_friends 34 = .ok (.iload 4, 2) := by decide +kernel
theorem dX12_friends_36 : decode cX12_friends 36 = .ok (.iload_n 1, 1) := by decide +kernel
theorem dX12_friends_37 : decode cX12_friends 37 = .ok (.iconst (-1), 1) := by decide +kernel
theorem dX12_friends_38 : decode cX12_friends 38 = .ok (.ixor, 1) := by decide +kernel
theorem dX12_friends_39 : decode cX12_friends 39 = .ok (.iand, 1) := by decide +kernel
theorem dX12_friends_40 : decode cX12_friends 40 = .ok (.ifCond .ne 36, 3) := by decide +kernel
theorem dX12_friends_43 : decode cX12_friends 43 = .ok (.iload_n 3, 1) := by decide +kernel
theorem dX12_friends_44 : decode cX12_friends 44 = .ok (.bipush (-2), 2) := by decide +kernel
theorem dX12_friends_46 : decode cX12_friends 46 = .ok (.if_icmp .eq 15, 3) := by decide +kernel
theorem dX12_friends_49 : decode cX12_friends 49 = .ok (.iload 4, 2) := by decide +kernel
theorem dX12_friends_51 : decode cX12_friends 51 = .ok (.invokestatic 111, 3) := by decide +kernel
theorem dX12_friends_54 : decode cX12_friends 54 = .ok (.iload_n 3, 1) := by decide +kernel
theorem dX12_friends_55 : decode cX12_friends 55 = .ok (.invokestatic 111, 3) := by decide +kernel
theorem dX12_friends_58 : decode cX12_friends 58 = .ok (.if_icmp .ge 18, 3) := by decide +kernel
theorem dX12_friends_61 : decode cX12_friends 61 = .ok (.aload_n 0, 1) := by decide +kernel
theorem dX12_friends_62 : decode cX12_friends 62 = .ok (.iload 4, 2) := by decide +kernel
theorem dX12_friends_64 : decode cX12_friends 64 = .ok (.invokevirtual 456, 3) := by decide +kernel
theorem dX12_friends_67 : decode cX12_friends 67 = .ok (.ifCond .eq 6, 3) := by decide +kernel
theorem dX12_friends_70 : decode cX12_friends 70 = .ok (.goto 6, 3) := by decide +kernel
theorem dX12_friends_73 : decode cX12_friends 73 = .ok (.iload 4, 2) := by decide +kernel
theorem dX12_friends_75 : decode cX12_friends 75 = .ok (.istore_n 3, 1) := by decide +kernel
theorem dX12_friends_76 : decode cX12_friends 76 = .ok (.iinc 4 1, 3) := by decide +kernel
theorem dX12_friends_79 : decode cX12_friends 79 = .ok (.goto (-51), 3) := by decide +kernel
theorem dX12_friends_82 : decode cX12_friends 82 = .ok (.iload_n 2, 1) := by decide +kernel
theorem dX12_friends_83 : decode cX12_friends 83 = .ok (.iconst 1, 1) := by decide +kernel
theorem dX12_friends_84 : decode cX12_friends 84 = .ok (.if_icmp .eq 9, 3) := by decide +kernel
theorem dX12_friends_87 : decode cX12_friends 87 = .ok (.iload_n 3, 1) := by decide +kernel
theorem dX12_friends_88 : decode cX12_friends 88 = .ok (.bipush (-2), 2) := by decide +kernel
theorem dX12_friends_90 : decode cX12_friends 90 = .ok (.if_icmp .ne 7, 3) := by decide +kernel
theorem dX12_friends_93 : decode cX12_friends 93 = .ok (.iload_n 3, 1) := by decide +kernel
theorem dX12_friends_94 : decode cX12_friends 94 = .ok (.goto 7, 3) := by decide +kernel
theorem dX12_friends_97 : decode cX12_friends 97 = .ok (.iload_n 3, 1) := by decide +kernel
theorem dX12_friends_98 : decode cX12_friends 98 = .ok (.invokestatic 111, 3) := by decide +kernel
theorem dX12_friends_101 : decode cX12_friends 101 = .ok (.ireturn, 1) := by decide +kernel
def FX12_friends (hp : HP) (p0 : Nat) (p1 : Int32) (p2 : Int32) : Option (Int32) := (rc [12] hp p0 (FX12_areWishes hp p0 p1 (2 : Int32) (6 : Int32))).bind (fun v1 => if v1 = 0 then some (-1 : Int32) else (FX12_in p2 (0 : Int32) (1 : Int32)).bind (fun v2 => if v2 = 0 then some (-1 : Int32) else (lp (fun (s3 : Int32 × Int32) => if p1 < s3.2 then some (Sum.inl s3.1) else if (s3.2 &&& (p1 ^^^ (-1 : Int32))) = 0 then jn (A := Unit) (fun a6 => (rc [12] hp p0 (FX12_canAllBe hp p0 s3.2)).bind (fun v8 => if v8 = 0 then vl (s3.2 + (1 : Int32)) (fun x9 => some (Sum.inr (s3.2, x9))) else vl (s3.2 + (1 : Int32)) (fun x10 => some (Sum.inr (s3.1, x10))))) (fun J7 => if s3.1 = (-2 : Int32) then J7 () else (FX12_bits s3.2).bind (fun v11 => (FX12_bits s3.1).bind (fun v12 => if v12 ≤ v11 then vl (s3.2 + (1 : Int32)) (fun x13 => some (Sum.inr (s3.1, x13))) else J7 ()))) else vl (s3.2 + (1 : Int32)) (fun x14 => some (Sum.inr (s3.1, x14)))) FU ((-2 : Int32), (1 : Int32))).bind (fun (y4 : Int32) => if p2 = (1 : Int32) then some y4 else if y4 = (-2 : Int32) then some y4 else (FX12_bits y4).bind (fun v5 => some v5))))
set_option maxHeartbeats 4000000 in
set_option maxRecDepth 100000 in
theorem ctX12_friends (l : Launch) (D : va_G) (tg : Nat → ClassId) (bs : Nat) (sa : Nat → Nat) (hp : HP) (p0 : Nat) (p1 : Int32) (p2 : Int32) : Ct l D tg bs sa yX12_friends cX12_friends 5 (some .int) 2 [.ref p0, .int p1, .int p2] hp (FX12_friends hp p0 p1 p2) (fun r => some (.int r)) (fun _ => hp) := by
  refine Ct.of (by decide) (Nat.le_of_ble_eq_true rfl) ?_
  intro V Q hVl hVd hVt hVb hVs hC
  subst hVl; subst hVd; subst hVt; subst hVb; subst hVs
  unfold FX12_friends
  show Zs V Q (0, 0) 5 _ _ hp [(0, .ref p0), (1, .int p1), (2, .int p2)] 0 []
  refine z_aload_n hC 0 dX12_friends_0 rfl rfl ?_
  refine z_iload_n hC 1 dX12_friends_1 rfl rfl ?_
  refine z_iconst hC (2 : Int32) dX12_friends_2 (by decide) ?_
  refine z_bipush hC (6 : Int32) dX12_friends_3 (by decide) ?_
  refine z_callVi hC (ci := 12) rfl lmRX12_382 (ctX12_areWishes (vLa V) (vDa V) (vTg V) (vBs V) (vSa V) hp p0 p1 (2 : Int32) (6 : Int32)) (by decide) hn0 dX12_friends_5 rfl rfl (Nat.le_of_ble_eq_true rfl) (fun v1 => ?_)
  refine z_if_eq hC 20 dX12_friends_8 (by decide) (fun _ => ?_) (fun _ => ?_)
  · refine z_iconst hC (-1 : Int32) dX12_friends_20 (by decide) ?_
    exact z_iret hC (fun h => h) dX12_friends_21
  · refine z_iload_n hC 2 dX12_friends_11 rfl rfl ?_
    refine z_iconst hC (0 : Int32) dX12_friends_12 (by decide) ?_
    refine z_iconst hC (1 : Int32) dX12_friends_13 (by decide) ?_
    refine z_callSi hC lmRX12_99 (ctX12_in (vLa V) (vDa V) (vTg V) (vBs V) (vSa V) hp p2 (0 : Int32) (1 : Int32)) (by decide) hn0 dX12_friends_14 rfl rfl (Nat.le_of_ble_eq_true rfl) (fun v2 => ?_)
    refine z_if_ne hC 22 dX12_friends_17 (by decide) (fun _ => ?_) (fun _ => ?_)
    · refine z_iconst hC (-1 : Int32) dX12_friends_20 (by decide) ?_
      exact z_iret hC (fun h => h) dX12_friends_21
    · refine z_bipush hC (-2 : Int32) dX12_friends_22 (by decide) ?_
      refine z_istore_n hC [(0, .ref p0), (1, .int p1), (2, .int p2), (3, .int (-2 : Int32))] [1, 2, 3, 0] dX12_friends_24 rfl (by decide) rfl ?_
      refine z_iconst hC (1 : Int32) dX12_friends_25 (by decide) ?_
      refine z_istore hC [(0, .ref p0), (1, .int p1), (2, .int p2), (3, .int (-2 : Int32)), (4, .int (1 : Int32))] [1, 2, 3, 4, 0] dX12_friends_26 (by decide) rfl ?_
      refine z_lp (S := Int32 × Int32) (Y := Int32) (fun s3 => hp) (fun s3 => [(0, .ref p0), (1, .int p1), (2, .int p2), (3, .int s3.1), (4, .int s3.2)]) (fun y4 => hp) (fun y4 => [(2, .int p2), (3, .int y4)]) 82 [] (fun y4 => ?_) (fun s3 => ?_) rfl rfl
      · refine z_iload_n hC 0 dX12_friends_82 rfl rfl ?_
        refine z_iconst hC (1 : Int32) dX12_friends_83 (by decide) ?_
        refine z_icmp_eq hC 93 dX12_friends_84 (by decide) (fun _ => ?_) (fun _ => ?_)
        · refine z_iload_n hC 1 dX12_friends_93 rfl rfl ?_
          refine z_goto hC 101 dX12_friends_94 (by decide) ?_
          exact z_iret hC (fun h => h) dX12_friends_101
        · refine z_iload_n hC 1 dX12_friends_87 rfl rfl ?_
          refine z_bipush hC (-2 : Int32) dX12_friends_88 (by decide) ?_
          refine z_icmp_ne hC 97 dX12_friends_90 (by decide) (fun _ => ?_) (fun _ => ?_)
          · refine z_iload_n hC 1 dX12_friends_93 rfl rfl ?_
            refine z_goto hC 101 dX12_friends_94 (by decide) ?_
            exact z_iret hC (fun h => h) dX12_friends_101
          · refine z_iload_n hC 1 dX12_friends_97 rfl rfl ?_
            refine z_callSi hC lmRX12_111 (ctX12_bits (vLa V) (vDa V) (vTg V) (vBs V) (vSa V) hp y4) (by decide) hn0 dX12_friends_98 rfl rfl (Nat.le_of_ble_eq_true rfl) (fun v5 => ?_)
            exact z_iret hC (fun h => h) dX12_friends_101
      · refine z_iload hC 4 dX12_friends_28 rfl ?_
        refine z_iload_n hC 1 dX12_friends_30 rfl rfl ?_
        refine z_icmp_gt hC 82 dX12_friends_31 (by decide) (fun _ => ?_) (fun _ => ?_)
        · refine z_weak [(2, .int p2), (3, .int s3.1)] [2, 3] rfl ?_
          exact z_leaf (fun h => h)
        · refine z_iload hC 4 dX12_friends_34 rfl ?_
          refine z_iload_n hC 1 dX12_friends_36 rfl rfl ?_
          refine z_iconst hC (-1 : Int32) dX12_friends_37 (by decide) ?_
          refine z_ixor hC dX12_friends_38 ?_
          refine z_iand hC dX12_friends_39 ?_
          refine z_if_ne hC 76 dX12_friends_40 (by decide) (fun _ => ?_) (fun _ => ?_)
          · refine z_iload_n hC 3 dX12_friends_43 rfl rfl ?_
            refine z_bipush hC (-2 : Int32) dX12_friends_44 (by decide) ?_
            refine z_jn (A := Unit) (fun a6 => hp) (fun a6 => [(0, .ref p0), (1, .int p1), (2, .int p2), (3, .int s3.1), (4, .int s3.2)]) 61 (fun a6 => []) (fun a6 => ?_) (fun J7 hJ7 => ?_)
            · refine z_aload_n hC 0 dX12_friends_61 rfl rfl ?_
              refine z_iload hC 4 dX12_friends_62 rfl ?_
              refine z_callVi hC (ci := 12) rfl lmRX12_456 (ctX12_canAllBe (vLa V) (vDa V) (vTg V) (vBs V) (vSa V) hp p0 s3.2) (by decide) hn0 dX12_friends_64 rfl rfl (Nat.le_of_ble_eq_true rfl) (fun v8 => ?_)
              refine z_if_eq hC 73 dX12_friends_67 (by decide) (fun _ => ?_) (fun _ => ?_)
              · refine z_iload hC 4 dX12_friends_73 rfl ?_
                refine z_istore_n hC [(0, .ref p0), (1, .int p1), (2, .int p2), (3, .int s3.2), (4, .int s3.2)] [1, 2, 3, 0, 4] dX12_friends_75 rfl (by decide) rfl ?_
                refine z_iincv hC (1 : Int32) 4 (fun x9 => [(0, .ref p0), (1, .int p1), (2, .int p2), (3, .int s3.2), (4, .int x9)]) [1, 2, 3, 4, 0] dX12_friends_76 rfl (by decide) (by decide) (fun _ => rfl) (fun x9 => ?_)
                refine z_goto hC 28 dX12_friends_79 (by decide) ?_
                exact z_leaf (fun h => h)
              · refine z_goto hC 76 dX12_friends_70 (by decide) ?_
                refine z_iincv hC (1 : Int32) 4 (fun x10 => [(0, .ref p0), (1, .int p1), (2, .int p2), (3, .int s3.1), (4, .int x10)]) [1, 2, 3, 4, 0] dX12_friends_76 rfl (by decide) (by decide) (fun _ => rfl) (fun x10 => ?_)
                refine z_goto hC 28 dX12_friends_79 (by decide) ?_
                exact z_leaf (fun h => h)
            · refine z_icmp_eq hC 61 dX12_friends_46 (by decide) (fun _ => ?_) (fun _ => ?_)
              · exact hJ7 ()
              · refine z_iload hC 4 dX12_friends_49 rfl ?_
                refine z_callSi hC lmRX12_111 (ctX12_bits (vLa V) (vDa V) (vTg V) (vBs V) (vSa V) hp s3.2) (by decide) hn0 dX12_friends_51 rfl rfl (Nat.le_of_ble_eq_true rfl) (fun v11 => ?_)
                refine z_iload_n hC 3 dX12_friends_54 rfl rfl ?_
                refine z_callSi hC lmRX12_111 (ctX12_bits (vLa V) (vDa V) (vTg V) (vBs V) (vSa V) hp s3.1) (by decide) hn0 dX12_friends_55 rfl rfl (Nat.le_of_ble_eq_true rfl) (fun v12 => ?_)
                refine z_icmp_ge hC 76 dX12_friends_58 (by decide) (fun _ => ?_) (fun _ => ?_)
                · refine z_iincv hC (1 : Int32) 4 (fun x13 => [(0, .ref p0), (1, .int p1), (2, .int p2), (3, .int s3.1), (4, .int x13)]) [1, 2, 3, 4, 0] dX12_friends_76 rfl (by decide) (by decide) (fun _ => rfl) (fun x13 => ?_)
                  refine z_goto hC 28 dX12_friends_79 (by decide) ?_
                  exact z_leaf (fun h => h)
                · exact hJ7 ()
          · refine z_iincv hC (1 : Int32) 4 (fun x14 => [(0, .ref p0), (1, .int p1), (2, .int p2), (3, .int s3.1), (4, .int x14)]) [1, 2, 3, 4, 0] dX12_friends_76 rfl (by decide) (by decide) (fun _ => rfl) (fun x14 => ?_)
            refine z_goto hC 28 dX12_friends_79 (by decide) ?_
            exact z_leaf (fun h => h)

theorem dX12_keep_0 : decode cX12_keep 0 = .ok (.aload_n 0, 1) := by decide +kernel
theorem dX12_keep_1 : decode cX12_keep 1 = .ok (.iconst 1, 1) := by decide +kernel
theorem dX12_keep_2 : decode cX12_keep 2 = .ok (.putfield 459, 3) := by decide +kernel
theorem dX12_keep_5 : decode cX12_keep 5 = .ok (.aload_n 0, 1) := by decide +kernel
theorem dX12_keep_6 : decode cX12_keep 6 = .ok (.aload_n 0, 1) := by decide +kernel
theorem dX12_keep_7 : decode cX12_keep 7 = .ok (.getfield 121, 3) := by decide +kernel
theorem dX12_keep_10 : decode cX12_keep 10 = .ok (.putfield 462, 3) := by decide +kernel
theorem dX12_keep_13 : decode cX12_keep 13 = .ok (.aload_n 0, 1) := by decide +kernel
theorem dX12_keep_14 : decode cX12_keep 14 = .ok (.aload_n 0, 1) := by decide +kernel
theorem dX12_keep_15 : decode cX12_keep 15 = .ok (.getfield 238, 3) := by decide +kernel
theorem dX12_keep_18 : decode cX12_keep 18 = .ok (.putfield 465, 3) := by decide +kernel
theorem dX12_keep_21 : decode cX12_keep 21 = .ok (.aload_n 0, 1) := by decide +kernel
theorem dX12_keep_22 : decode cX12_keep 22 = .ok (.aload_n 0, 1) := by decide +kernel
theorem dX12_keep_23 : decode cX12_keep 23 = .ok (.getfield 241, 3) := by decide +kernel
theorem dX12_keep_26 : decode cX12_keep 26 = .ok (.putfield 468, 3) := by decide +kernel
theorem dX12_keep_29 : decode cX12_keep 29 = .ok (.aload_n 0, 1) := by decide +kernel
theorem dX12_keep_30 : decode cX12_keep 30 = .ok (.aload_n 0, 1) := by decide +kernel
theorem dX12_keep_31 : decode cX12_keep 31 = .ok (.getfield 235, 3) := by decide +kernel
theorem dX12_keep_34 : decode cX12_keep 34 = .ok (.putfield 471, 3) := by decide +kernel
theorem dX12_keep_37 : decode cX12_keep 37 = .ok (.aload_n 0, 1) := by decide +kernel
theorem dX12_keep_38 : decode cX12_keep 38 = .ok (.aload_n 0, 1) := by decide +kernel
theorem dX12_keep_39 : decode cX12_keep 39 = .ok (.getfield 302, 3) := by decide +kernel
theorem dX12_keep_42 : decode cX12_keep 42 = .ok (.putfield 474, 3) := by decide +kernel
theorem dX12_keep_45 : decode cX12_keep 45 = .ok (.aload_n 0, 1) := by decide +kernel
theorem dX12_keep_46 : decode cX12_keep 46 = .ok (.aload_n 0, 1) := by decide +kernel
theorem dX12_keep_47 : decode cX12_keep 47 = .ok (.getfield 319, 3) := by decide +kernel
theorem dX12_keep_50 : decode cX12_keep 50 = .ok (.putfield 477, 3) := by decide +kernel
theorem dX12_keep_53 : decode cX12_keep 53 = .ok (.aload_n 0, 1) := by decide +kernel
theorem dX12_keep_54 : decode cX12_keep 54 = .ok (.getfield 238, 3) := by decide +kernel
theorem dX12_keep_57 : decode cX12_keep 57 = .ok (.ireturn, 1) := by decide +kernel
def FX12_keep (hp : HP) (p0 : Nat) : Option (Int32 × HP) := (sZ [12] 65 hp p0 (1 : Int32)).bind (fun hp1 => (gI [12] 7 hp1 p0).bind (fun v2 => (sI [12] 59 hp1 p0 v2).bind (fun hp3 => (gI [12] 8 hp3 p0).bind (fun v4 => (sI [12] 60 hp3 p0 v4).bind (fun hp5 => (gI [12] 9 hp5 p0).bind (fun v6 => (sI [12] 61 hp5 p0 v6).bind (fun hp7 => (gI [12] 10 hp7 p0).bind (fun v8 => (sI [12] 62 hp7 p0 v8).bind (fun hp9 => (gI [12] 11 hp9 p0).bind (fun v10 => (sI [12] 63 hp9 p0 v10).bind (fun hp11 => (gI [12] 12 hp11 p0).bind (fun v12 => (sI [12] 64 hp11 p0 v12).bind (fun hp13 => (gI [12] 8 hp13 p0).bind (fun v14 => some (v14, hp13)))))))))))))))
set_option maxHeartbeats 4000000 in
set_option maxRecDepth 100000 in
theorem ctX12_keep (l : Launch) (D : va_G) (tg : Nat → ClassId) (bs : Nat) (sa : Nat → Nat) (hp : HP) (p0 : Nat) : Ct l D tg bs sa yX12_keep cX12_keep 1 (some .int) 0 [.ref p0] hp (FX12_keep hp p0) (fun r => some (.int r.1)) (fun r => r.2) := by
  refine Ct.of (by decide) (Nat.le_of_ble_eq_true rfl) ?_
  intro V Q hVl hVd hVt hVb hVs hC
  subst hVl; subst hVd; subst hVt; subst hVb; subst hVs
  unfold FX12_keep
  show Zs V Q (0, 0) 1 _ _ hp [(0, .ref p0)] 0 []
  refine z_aload_n hC 0 dX12_keep_0 rfl rfl ?_
  refine z_iconst hC (1 : Int32) dX12_keep_1 (by decide) ?_
  refine z_putZ hC lpRX12_459 dX12_keep_2 (fun hp1 => ?_)
  refine z_aload_n hC 0 dX12_keep_5 rfl rfl ?_
  refine z_aload_n hC 0 dX12_keep_6 rfl rfl ?_
  refine z_getI hC lgRX12_121 dX12_keep_7 (fun v2 => ?_)
  refine z_putI hC lpRX12_462 dX12_keep_10 (fun hp3 => ?_)
  refine z_aload_n hC 0 dX12_keep_13 rfl rfl ?_
  refine z_aload_n hC 0 dX12_keep_14 rfl rfl ?_
  refine z_getI hC lgRX12_238 dX12_keep_15 (fun v4 => ?_)
  refine z_putI hC lpRX12_465 dX12_keep_18 (fun hp5 => ?_)
  refine z_aload_n hC 0 dX12_keep_21 rfl rfl ?_
  refine z_aload_n hC 0 dX12_keep_22 rfl rfl ?_
  refine z_getI hC lgRX12_241 dX12_keep_23 (fun v6 => ?_)
  refine z_putI hC lpRX12_468 dX12_keep_26 (fun hp7 => ?_)
  refine z_aload_n hC 0 dX12_keep_29 rfl rfl ?_
  refine z_aload_n hC 0 dX12_keep_30 rfl rfl ?_
  refine z_getI hC lgRX12_235 dX12_keep_31 (fun v8 => ?_)
  refine z_putI hC lpRX12_471 dX12_keep_34 (fun hp9 => ?_)
  refine z_aload_n hC 0 dX12_keep_37 rfl rfl ?_
  refine z_aload_n hC 0 dX12_keep_38 rfl rfl ?_
  refine z_getI hC lgRX12_302 dX12_keep_39 (fun v10 => ?_)
  refine z_putI hC lpRX12_474 dX12_keep_42 (fun hp11 => ?_)
  refine z_aload_n hC 0 dX12_keep_45 rfl rfl ?_
  refine z_aload_n hC 0 dX12_keep_46 rfl rfl ?_
  refine z_getI hC lgRX12_319 dX12_keep_47 (fun v12 => ?_)
  refine z_putI hC lpRX12_477 dX12_keep_50 (fun hp13 => ?_)
  refine z_aload_n hC 0 dX12_keep_53 rfl rfl ?_
  refine z_getI hC lgRX12_238 dX12_keep_54 (fun v14 => ?_)
  exact z_iret hC (fun h => h) dX12_keep_57

theorem dX12_undo_0 : decode cX12_undo 0 = .ok (.aload_n 0, 1) := by decide +kernel
theorem dX12_undo_1 : decode cX12_undo 1 = .ok (.getfield 459, 3) := by decide +kernel
theorem dX12_undo_4 : decode cX12_undo 4 = .ok (.ifCond .ne 5, 3) := by decide +kernel
theorem dX12_undo_7 : decode cX12_undo 7 = .ok (.iconst 0, 1) := by decide +kernel
theorem dX12_undo_8 : decode cX12_undo 8 = .ok (.ireturn, 1) := by decide +kernel
theorem dX12_undo_9 : decode cX12_undo 9 = .ok (.aload_n 0, 1) := by decide +kernel
theorem dX12_undo_10 : decode cX12_undo 10 = .ok (.aload_n 0, 1) := by decide +kernel
theorem dX12_undo_11 : decode cX12_undo 11 = .ok (.getfield 462, 3) := by decide +kernel
theorem dX12_undo_14 : decode cX12_undo 14 = .ok (.putfield 121, 3) := by decide +kernel
theorem dX12_undo_17 : decode cX12_undo 17 = .ok (.aload_n 0, 1) := by decide +kernel
theorem dX12_undo_18 : decode cX12_undo 18 = .ok (.aload_n 0, 1) := by decide +kernel
theorem dX12_undo_19 : decode cX12_undo 19 = .ok (.getfield 465, 3) := by decide +kernel
theorem dX12_undo_22 : decode cX12_undo 22 = .ok (.putfield 238, 3) := by decide +kernel
theorem dX12_undo_25 : decode cX12_undo 25 = .ok (.aload_n 0, 1) := by decide +kernel
theorem dX12_undo_26 : decode cX12_undo 26 = .ok (.aload_n 0, 1) := by decide +kernel
theorem dX12_undo_27 : decode cX12_undo 27 = .ok (.getfield 468, 3) := by decide +kernel
theorem dX12_undo_30 : decode cX12_undo 30 = .ok (.putfield 241, 3) := by decide +kernel
theorem dX12_undo_33 : decode cX12_undo 33 = .ok (.aload_n 0, 1) := by decide +kernel
theorem dX12_undo_34 : decode cX12_undo 34 = .ok (.aload_n 0, 1) := by decide +kernel
theorem dX12_undo_35 : decode cX12_undo 35 = .ok (.getfield 471, 3) := by decide +kernel
theorem dX12_undo_38 : decode cX12_undo 38 = .ok (.putfield 235, 3) := by decide +kernel
theorem dX12_undo_41 : decode cX12_undo 41 = .ok (.aload_n 0, 1) := by decide +kernel
theorem dX12_undo_42 : decode cX12_undo 42 = .ok (.aload_n 0, 1) := by decide +kernel
theorem dX12_undo_43 : decode cX12_undo 43 = .ok (.getfield 474, 3) := by decide +kernel
theorem dX12_undo_46 : decode cX12_undo 46 = .ok (.putfield 302, 3) := by decide +kernel
theorem dX12_undo_49 : decode cX12_undo 49 = .ok (.aload_n 0, 1) := by decide +kernel
theorem dX12_undo_50 : decode cX12_undo 50 = .ok (.aload_n 0, 1) := by decide +kernel
theorem dX12_undo_51 : decode cX12_undo 51 = .ok (.getfield 477, 3) := by decide +kernel
theorem dX12_undo_54 : decode cX12_undo 54 = .ok (.putfield 319, 3) := by decide +kernel
theorem dX12_undo_57 : decode cX12_undo 57 = .ok (.iconst 1, 1) := by decide +kernel
theorem dX12_undo_58 : decode cX12_undo 58 = .ok (.ireturn, 1) := by decide +kernel
def FX12_undo (hp : HP) (p0 : Nat) : Option (Int32 × HP) := (gI [12] 65 hp p0).bind (fun v1 => if v1 = 0 then some ((0 : Int32), hp) else (gI [12] 59 hp p0).bind (fun v2 => (sI [12] 7 hp p0 v2).bind (fun hp3 => (gI [12] 60 hp3 p0).bind (fun v4 => (sI [12] 8 hp3 p0 v4).bind (fun hp5 => (gI [12] 61 hp5 p0).bind (fun v6 => (sI [12] 9 hp5 p0 v6).bind (fun hp7 => (gI [12] 62 hp7 p0).bind (fun v8 => (sI [12] 10 hp7 p0 v8).bind (fun hp9 => (gI [12] 63 hp9 p0).bind (fun v10 => (sI [12] 11 hp9 p0 v10).bind (fun hp11 => (gI [12] 64 hp11 p0).bind (fun v12 => (sI [12] 12 hp11 p0 v12).bind (fun hp13 => some ((1 : Int32), hp13))))))))))))))
set_option maxHeartbeats 4000000 in
set_option maxRecDepth 100000 in
theorem ctX12_undo (l : Launch) (D : va_G) (tg : Nat → ClassId) (bs : Nat) (sa : Nat → Nat) (hp : HP) (p0 : Nat) : Ct l D tg bs sa yX12_undo cX12_undo 1 (some .boolean) 0 [.ref p0] hp (FX12_undo hp p0) (fun r => some (.int r.1)) (fun r => r.2) := by
  refine Ct.of (by decide) (Nat.le_of_ble_eq_true rfl) ?_
  intro V Q hVl hVd hVt hVb hVs hC
  subst hVl; subst hVd; subst hVt; subst hVb; subst hVs
  unfold FX12_undo
  show Zs V Q (0, 0) 1 _ _ hp [(0, .ref p0)] 0 []
  refine z_aload_n hC 0 dX12_undo_0 rfl rfl ?_
  refine z_getI hC lgRX12_459 dX12_undo_1 (fun v1 => ?_)
  refine z_if_ne hC 9 dX12_undo_4 (by decide) (fun _ => ?_) (fun _ => ?_)
  · refine z_iconst hC (0 : Int32) dX12_undo_7 (by decide) ?_
    exact z_zret hC (by decide) (fun h => h) dX12_undo_8
  · refine z_aload_n hC 0 dX12_undo_9 rfl rfl ?_
    refine z_aload_n hC 0 dX12_undo_10 rfl rfl ?_
    refine z_getI hC lgRX12_462 dX12_undo_11 (fun v2 => ?_)
    refine z_putI hC lpRX12_121 dX12_undo_14 (fun hp3 => ?_)
    refine z_aload_n hC 0 dX12_undo_17 rfl rfl ?_
    refine z_aload_n hC 0 dX12_undo_18 rfl rfl ?_
    refine z_getI hC lgRX12_465 dX12_undo_19 (fun v4 => ?_)
    refine z_putI hC lpRX12_238 dX12_undo_22 (fun hp5 => ?_)
    refine z_aload_n hC 0 dX12_undo_25 rfl rfl ?_
    refine z_aload_n hC 0 dX12_undo_26 rfl rfl ?_
    refine z_getI hC lgRX12_468 dX12_undo_27 (fun v6 => ?_)
    refine z_putI hC lpRX12_241 dX12_undo_30 (fun hp7 => ?_)
    refine z_aload_n hC 0 dX12_undo_33 rfl rfl ?_
    refine z_aload_n hC 0 dX12_undo_34 rfl rfl ?_
    refine z_getI hC lgRX12_471 dX12_undo_35 (fun v8 => ?_)
    refine z_putI hC lpRX12_235 dX12_undo_38 (fun hp9 => ?_)
    refine z_aload_n hC 0 dX12_undo_41 rfl rfl ?_
    refine z_aload_n hC 0 dX12_undo_42 rfl rfl ?_
    refine z_getI hC lgRX12_474 dX12_undo_43 (fun v10 => ?_)
    refine z_putI hC lpRX12_302 dX12_undo_46 (fun hp11 => ?_)
    refine z_aload_n hC 0 dX12_undo_49 rfl rfl ?_
    refine z_aload_n hC 0 dX12_undo_50 rfl rfl ?_
    refine z_getI hC lgRX12_477 dX12_undo_51 (fun v12 => ?_)
    refine z_putI hC lpRX12_319 dX12_undo_54 (fun hp13 => ?_)
    refine z_iconst hC (1 : Int32) dX12_undo_57 (by decide) ?_
    exact z_zret hC (by decide) (fun h => h) dX12_undo_58

theorem dX12_check_0 : decode cX12_check 0 = .ok (.iload_n 1, 1) := by decide +kernel
theorem dX12_check_1 : decode cX12_check 1 = .ok (.iconst 0, 1) := by decide +kernel
theorem dX12_check_2 : decode cX12_check 2 = .ok (.bipush 10, 2) := by decide +kernel
theorem dX12_check_4 : decode cX12_check 4 = .ok (.invokestatic 99, 3) := by decide +kernel
theorem dX12_check_7 : decode cX12_check 7 = .ok (.ifCond .eq 11, 3) := by decide +kernel
theorem dX12_check_10 : decode cX12_check 10 = .ok (.iload_n 1, 1) := by decide +kernel
theorem dX12_check_11 : decode cX12_check 11 = .ok (.aload_n 0, 1) := by decide +kernel
theorem dX12_check_12 : decode cX12_check 12 = .ok (.getfield 124, 3) := by decide +kernel
theorem dX12_check_15 : decode cX12_check 15 = .ok (.if_icmp .le 6, 3) := by decide +kernel
theorem dX12_check_18 : decode cX12_check 18 = .ok (.bipush (-2), 2) := by decide +kernel
theorem dX12_check_20 : decode cX12_check 20 = .ok (.ireturn, 1) := by decide +kernel
theorem dX12_check_21 : decode cX12_check 21 = .ok (.aload_n 0, 1) := by decide +kernel
theorem dX12_check_22 : decode cX12_check 22 = .ok (.iconst 0, 1) := by decide +kernel
theorem dX12_check_23 : decode cX12_check 23 = .ok (.putfield 124, 3) := by decide +kernel
theorem dX12_check_26 : decode cX12_check 26 = .ok (.iconst 0, 1) := by decide +kernel
theorem dX12_check_27 : decode cX12_check 27 = .ok (.istore_n 2, 1) := by decide +kernel
theorem dX12_check_28 : decode cX12_check 28 = .ok (.iload_n 2, 1) := by decide +kernel
theorem dX12_check_29 : decode cX12_check 29 = .ok (.iload_n 1, 1) := by decide +kernel
theorem dX12_check_30 : decode cX12_check 30 = .ok (.if_icmp .ge 36, 3) := by decide +kernel
theorem dX12_check_33 : decode cX12_check 33 = .ok (.aload_n 0, 1) := by decide +kernel
theorem dX12_check_34 : decode cX12_check 34 = .ok (.getfield 26, 3) := by decide +kernel
theorem dX12_check_37 : decode cX12_check 37 = .ok (.iload_n 2, 1) := by decide +kernel
theorem dX12_check_38 : decode cX12_check 38 = .ok (.baload, 1) := by decide +kernel
theorem dX12_check_39 : decode cX12_check 39 = .ok (.aload_n 0, 1) := by decide +kernel
theorem dX12_check_40 : decode cX12_check 40 = .ok (.getfield 121, 3) := by decide +kernel
theorem dX12_check_43 : decode cX12_check 43 = .ok (.iload_n 2, 1) := by decide +kernel
theorem dX12_check_44 : decode cX12_check 44 = .ok (.invokestatic 107, 3) := by decide +kernel
theorem dX12_check_47 : decode cX12_check 47 = .ok (.ifCond .eq 7, 3) := by decide +kernel
theorem dX12_check_50 : decode cX12_check 50 = .ok (.iconst 1, 1) := by decide +kernel
theorem dX12_check_51 : decode cX12_check 51 = .ok (.goto 4, 3) := by decide +kernel
theorem dX12_check_54 : decode cX12_check 54 = .ok (.iconst 0, 1) := by decide +kernel
theorem dX12_check_55 : decode cX12_check 55 = .ok (.if_icmp .eq 5, 3) := by decide +kernel
theorem dX12_check_58 : decode cX12_check 58 = .ok (.iload_n 2, 1) := by decide +kernel
theorem dX12_check_59 : decode cX12_check 59 = .ok (.ireturn, 1) := by decide +kernel
theorem dX12_check_60 : decode cX12_check 60 = .ok (.iinc 2 1, 3) := by decide +kernel
theorem dX12_check_63 : decode cX12_check 63 = .ok (.goto (-35), 3) := by decide +kernel
theorem dX12_check_66 : decode cX12_check 66 = .ok (.iconst (-1), 1) := by decide +kernel
theorem dX12_check_67 : decode cX12_check 67 = .ok (.ireturn, 1) := by decide +kernel
def FX12_check (hp : HP) (p0 : Nat) (p1 : Int32) : Option (Int32 × HP) := (FX12_in p1 (0 : Int32) (10 : Int32)).bind (fun v1 => if v1 = 0 then some ((-2 : Int32), hp) else (gI [12] 14 hp p0).bind (fun v2 => if p1 ≤ v2 then (sI [12] 14 hp p0 (0 : Int32)).bind (fun hp3 => (lp (fun (s4 : Int32) => if p1 ≤ s4 then some (Sum.inl (Sum.inr ())) else (gR [12] 13 hp3 p0).bind (fun v6 => (rdN 1 hp3 v6 s4).bind (fun v7 => (gI [12] 7 hp3 p0).bind (fun v8 => (FX12_has v8 s4).bind (fun v9 => jn (A := Int32) (fun a10 => if v7 = a10 then vl (s4 + (1 : Int32)) (fun x12 => some (Sum.inr x12)) else some (Sum.inl (Sum.inl (s4, hp3)))) (fun J11 => if v9 = 0 then J11 (0 : Int32) else J11 (1 : Int32))))))) FU (0 : Int32)).bind (lk (P := Int32 × HP) (fun r => r) (fun (y5 : Unit) => some ((-1 : Int32), hp3)))) else some ((-2 : Int32), hp)))
set_option maxHeartbeats 4000000 in
set_option maxRecDepth 100000 in
theorem ctX12_check (l : Launch) (D : va_G) (tg : Nat → ClassId) (bs : Nat) (sa : Nat → Nat) (hp : HP) (p0 : Nat) (p1 : Int32) : Ct l D tg bs sa yX12_check cX12_check 3 (some .int) 1 [.ref p0, .int p1] hp (FX12_check hp p0 p1) (fun r => some (.int r.1)) (fun r => r.2) := by
  refine Ct.of (by decide) (Nat.le_of_ble_eq_true rfl) ?_
  intro V Q hVl hVd hVt hVb hVs hC
  subst hVl; subst hVd; subst hVt; subst hVb; subst hVs
  unfold FX12_check
  show Zs V Q (0, 0) 3 _ _ hp [(0, .ref p0), (1, .int p1)] 0 []
  refine z_iload_n hC 1 dX12_check_0 rfl rfl ?_
  refine z_iconst hC (0 : Int32) dX12_check_1 (by decide) ?_
  refine z_bipush hC (10 : Int32) dX12_check_2 (by decide) ?_
  refine z_callSi hC lmRX12_99 (ctX12_in (vLa V) (vDa V) (vTg V) (vBs V) (vSa V) hp p1 (0 : Int32) (10 : Int32)) (by decide) hn0 dX12_check_4 rfl rfl (Nat.le_of_ble_eq_true rfl) (fun v1 => ?_)
  refine z_if_eq hC 18 dX12_check_7 (by decide) (fun _ => ?_) (fun _ => ?_)
  · refine z_bipush hC (-2 : Int32) dX12_check_18 (by decide) ?_
    exact z_iret hC (fun h => h) dX12_check_20
  · refine z_iload_n hC 1 dX12_check_10 rfl rfl ?_
    refine z_aload_n hC 0 dX12_check_11 rfl rfl ?_
    refine z_getI hC lgRX12_124 dX12_check_12 (fun v2 => ?_)
    refine z_icmp_le hC 21 dX12_check_15 (by decide) (fun _ => ?_) (fun _ => ?_)
    · refine z_aload_n hC 0 dX12_check_21 rfl rfl ?_
      refine z_iconst hC (0 : Int32) dX12_check_22 (by decide) ?_
      refine z_putI hC lpRX12_124 dX12_check_23 (fun hp3 => ?_)
      refine z_iconst hC (0 : Int32) dX12_check_26 (by decide) ?_
      refine z_istore_n hC [(0, .ref p0), (1, .int p1), (2, .int (0 : Int32))] [1, 2, 0] dX12_check_27 rfl (by decide) rfl ?_
      refine z_lpR (S := Int32) (Y := Unit) (fun s4 => hp3) (fun s4 => [(0, .ref p0), (1, .int p1), (2, .int s4)]) (fun y5 => hp3) (fun y5 => []) 66 [] (fun y5 => ?_) (fun s4 => ?_) rfl rfl
      · refine z_iconst hC (-1 : Int32) dX12_check_66 (by decide) ?_
        exact z_iret hC (fun h => h) dX12_check_67
      · refine z_iload_n hC 2 dX12_check_28 rfl rfl ?_
        refine z_iload_n hC 1 dX12_check_29 rfl rfl ?_
        refine z_icmp_ge hC 66 dX12_check_30 (by decide) (fun _ => ?_) (fun _ => ?_)
        · refine z_weak [] [] rfl ?_
          exact z_leaf (fun h => h)
        · refine z_aload_n hC 0 dX12_check_33 rfl rfl ?_
          refine z_getR hC lgRX12_26 dX12_check_34 (fun v6 => ?_)
          refine z_iload_n hC 2 dX12_check_37 rfl rfl ?_
          refine z_bald hC dX12_check_38 (fun v7 => ?_)
          refine z_aload_n hC 0 dX12_check_39 rfl rfl ?_
          refine z_getI hC lgRX12_121 dX12_check_40 (fun v8 => ?_)
          refine z_iload_n hC 2 dX12_check_43 rfl rfl ?_
          refine z_callSi hC lmRX12_107 (ctX12_has (vLa V) (vDa V) (vTg V) (vBs V) (vSa V) hp3 v8 s4) (by decide) hn0 dX12_check_44 rfl rfl (Nat.le_of_ble_eq_true rfl) (fun v9 => ?_)
          refine z_jn (A := Int32) (fun a10 => hp3) (fun a10 => [(0, .ref p0), (1, .int p1), (2, .int s4)]) 55 (fun a10 => [.int a10, .int v7]) (fun a10 => ?_) (fun J11 hJ11 => ?_)
          · refine z_icmp_eq hC 60 dX12_check_55 (by decide) (fun _ => ?_) (fun _ => ?_)
            · refine z_iincv hC (1 : Int32) 2 (fun x12 => [(0, .ref p0), (1, .int p1), (2, .int x12)]) [1, 2, 0] dX12_check_60 rfl (by decide) (by decide) (fun _ => rfl) (fun x12 => ?_)
              refine z_goto hC 28 dX12_check_63 (by decide) ?_
              exact z_leaf (fun h => h)
            · refine z_iload_n hC 2 dX12_check_58 rfl rfl ?_
              exact z_iret hC (fun h => h) dX12_check_59
          · refine z_if_eq hC 54 dX12_check_47 (by decide) (fun _ => ?_) (fun _ => ?_)
            · refine z_iconst hC (0 : Int32) dX12_check_54 (by decide) ?_
              exact hJ11 (0 : Int32)
            · refine z_iconst hC (1 : Int32) dX12_check_50 (by decide) ?_
              refine z_goto hC 55 dX12_check_51 (by decide) ?_
              exact hJ11 (1 : Int32)
    · refine z_bipush hC (-2 : Int32) dX12_check_18 (by decide) ?_
      exact z_iret hC (fun h => h) dX12_check_20

theorem dX12_count_0 : decode cX12_count 0 = .ok (.iload_n 1, 1) := by decide +kernel
theorem dX12_count_1 : decode cX12_count 1 = .ok (.tableswitch 128 0 9 #[55, 60, 65, 70, 75, 80, 85, 90, 95, 100], 55) := by decide +kernel
theorem dX12_count_56 : decode cX12_count 56 = .ok (.aload_n 0, 1) := by decide +kernel
theorem dX12_count_57 : decode cX12_count 57 = .ok (.getfield 121, 3) := by decide +kernel
theorem dX12_count_60 : decode cX12_count 60 = .ok (.ireturn, 1) := by decide +kernel
theorem dX12_count_61 : decode cX12_count 61 = .ok (.aload_n 0, 1) := by decide +kernel
theorem dX12_count_62 : decode cX12_count 62 = .ok (.getfield 238, 3) := by decide +kernel
theorem dX12_count_65 : decode cX12_count 65 = .ok (.ireturn, 1) := by decide +kernel
theorem dX12_count_66 : decode cX12_count 66 = .ok (.aload_n 0, 1) := by decide +kernel
theorem dX12_count_67 : decode cX12_count 67 = .ok (.getfield 241, 3) := by decide +kernel
theorem dX12_count_70 : decode cX12_count 70 = .ok (.ireturn, 1) := by decide +kernel
theorem dX12_count_71 : decode cX12_count 71 = .ok (.aload_n 0, 1) := by decide +kernel
theorem dX12_count_72 : decode cX12_count 72 = .ok (.getfield 235, 3) := by decide +kernel
theorem dX12_count_75 : decode cX12_count 75 = .ok (.ireturn, 1) := by decide +kernel
theorem dX12_count_76 : decode cX12_count 76 = .ok (.aload_n 0, 1) := by decide +kernel
theorem dX12_count_77 : decode cX12_count 77 = .ok (.getfield 103, 3) := by decide +kernel
theorem dX12_count_80 : decode cX12_count 80 = .ok (.ireturn, 1) := by decide +kernel
theorem dX12_count_81 : decode cX12_count 81 = .ok (.aload_n 0, 1) := by decide +kernel
theorem dX12_count_82 : decode cX12_count 82 = .ok (.getfield 115, 3) := by decide +kernel
theorem dX12_count_85 : decode cX12_count 85 = .ok (.ireturn, 1) := by decide +kernel
theorem dX12_count_86 : decode cX12_count 86 = .ok (.aload_n 0, 1) := by decide +kernel
theorem dX12_count_87 : decode cX12_count 87 = .ok (.getfield 302, 3) := by decide +kernel
theorem dX12_count_90 : decode cX12_count 90 = .ok (.ireturn, 1) := by decide +kernel
theorem dX12_count_91 : decode cX12_count 91 = .ok (.aload_n 0, 1) := by decide +kernel
theorem dX12_count_92 : decode cX12_count 92 = .ok (.getfield 221, 3) := by decide +kernel
theorem dX12_count_95 : decode cX12_count 95 = .ok (.ireturn, 1) := by decide +kernel
theorem dX12_count_96 : decode cX12_count 96 = .ok (.aload_n 0, 1) := by decide +kernel
theorem dX12_count_97 : decode cX12_count 97 = .ok (.getfield 124, 3) := by decide +kernel
theorem dX12_count_100 : decode cX12_count 100 = .ok (.ireturn, 1) := by decide +kernel
theorem dX12_count_101 : decode cX12_count 101 = .ok (.aload_n 0, 1) := by decide +kernel
theorem dX12_count_102 : decode cX12_count 102 = .ok (.getfield 319, 3) := by decide +kernel
theorem dX12_count_105 : decode cX12_count 105 = .ok (.iconst 1, 1) := by decide +kernel
theorem dX12_count_106 : decode cX12_count 106 = .ok (.if_icmp .ne 7, 3) := by decide +kernel
theorem dX12_count_109 : decode cX12_count 109 = .ok (.iconst 1, 1) := by decide +kernel
theorem dX12_count_110 : decode cX12_count 110 = .ok (.goto 18, 3) := by decide +kernel
theorem dX12_count_113 : decode cX12_count 113 = .ok (.aload_n 0, 1) := by decide +kernel
theorem dX12_count_114 : decode cX12_count 114 = .ok (.getfield 238, 3) := by decide +kernel
theorem dX12_count_117 : decode cX12_count 117 = .ok (.sipush 8640, 3) := by decide +kernel
theorem dX12_count_120 : decode cX12_count 120 = .ok (.if_icmp .ne 7, 3) := by decide +kernel
theorem dX12_count_123 : decode cX12_count 123 = .ok (.iconst 2, 1) := by decide +kernel
theorem dX12_count_124 : decode cX12_count 124 = .ok (.goto 4, 3) := by decide +kernel
theorem dX12_count_127 : decode cX12_count 127 = .ok (.iconst 0, 1) := by decide +kernel
theorem dX12_count_128 : decode cX12_count 128 = .ok (.ireturn, 1) := by decide +kernel
theorem dX12_count_129 : decode cX12_count 129 = .ok (.iload_n 1, 1) := by decide +kernel
theorem dX12_count_130 : decode cX12_count 130 = .ok (.bipush 20, 2) := by decide +kernel
theorem dX12_count_132 : decode cX12_count 132 = .ok (.bipush 29, 2) := by decide +kernel
theorem dX12_count_134 : decode cX12_count 134 = .ok (.invokestatic 99, 3) := by decide +kernel
theorem dX12_count_137 : decode cX12_count 137 = .ok (.ifCond .eq 15, 3) := by decide +kernel
theorem dX12_count_140 : decode cX12_count 140 = .ok (.aload_n 0, 1) := by decide +kernel
theorem dX12_count_141 : decode cX12_count 141 = .ok (.getfield 7, 3) := by decide +kernel
theorem dX12_count_144 : decode cX12_count 144 = .ok (.iload_n 1, 1) := by decide +kernel
theorem dX12_count_145 : decode cX12_count 145 = .ok (.bipush 20, 2) := by decide +kernel
theorem dX12_count_147 : decode cX12_count 147 = .ok (.isub, 1) := by decide +kernel
theorem dX12_count_148 : decode cX12_count 148 = .ok (.iaload, 1) := by decide +kernel
theorem dX12_count_149 : decode cX12_count 149 = .ok (.goto 4, 3) := by decide +kernel
theorem dX12_count_152 : decode cX12_count 152 = .ok (.iconst (-1), 1) := by decide +kernel
theorem dX12_count_153 : decode cX12_count 153 = .ok (.ireturn, 1) := by decide +kernel
def FX12_count (hp : HP) (p0 : Nat) (p1 : Int32) : Option (Int32) := if p1 = (0 : Int32) then (gI [12] 7 hp p0).bind (fun v2 => some v2) else if p1 = (1 : Int32) then (gI [12] 8 hp p0).bind (fun v4 => some v4) else if p1 = (2 : Int32) then (gI [12] 9 hp p0).bind (fun v6 => some v6) else if p1 = (3 : Int32) then (gI [12] 10 hp p0).bind (fun v8 => some v8) else if p1 = (4 : Int32) then (gI [12] 5 hp p0).bind (fun v10 => some v10) else if p1 = (5 : Int32) then (gI [12] 6 hp p0).bind (fun v12 => some v12) else if p1 = (6 : Int32) then (gI [12] 11 hp p0).bind (fun v14 => some v14) else if p1 = (7 : Int32) then (gI [12] 23 hp p0).bind (fun v16 => some v16) else if p1 = (8 : Int32) then (gI [12] 14 hp p0).bind (fun v18 => some v18) else if p1 = (9 : Int32) then (gI [12] 12 hp p0).bind (fun v20 => if v20 = (1 : Int32) then some (1 : Int32) else (gI [12] 8 hp p0).bind (fun v21 => if v21 = (8640 : Int32) then some (2 : Int32) else some (0 : Int32))) else (FX12_in p1 (20 : Int32) (29 : Int32)).bind (fun v22 => if v22 = 0 then some (-1 : Int32) else (gR [12] 0 hp p0).bind (fun v23 => (rdN 0 hp v23 (p1 - (20 : Int32))).bind (fun v24 => some v24)))
set_option maxHeartbeats 4000000 in
set_option maxRecDepth 100000 in
theorem ctX12_count (l : Launch) (D : va_G) (tg : Nat → ClassId) (bs : Nat) (sa : Nat → Nat) (hp : HP) (p0 : Nat) (p1 : Int32) : Ct l D tg bs sa yX12_count cX12_count 2 (some .int) 1 [.ref p0, .int p1] hp (FX12_count hp p0 p1) (fun r => some (.int r)) (fun _ => hp) := by
  refine Ct.of (by decide) (Nat.le_of_ble_eq_true rfl) ?_
  intro V Q hVl hVd hVt hVb hVs hC
  subst hVl; subst hVd; subst hVt; subst hVb; subst hVs
  unfold FX12_count
  show Zs V Q (0, 0) 2 _ _ hp [(0, .ref p0), (1, .int p1)] 0 []
  refine z_iload_n hC 1 dX12_count_0 rfl rfl ?_
  refine z_tsw hC (0 : Int32) 56 (55) dX12_count_1 (by decide) (by decide) (by decide) (by decide) (fun _ => ?_) (fun q1 => ?_)
  · refine z_aload_n hC 0 dX12_count_56 rfl rfl ?_
    refine z_getI hC lgRX12_121 dX12_count_57 (fun v2 => ?_)
    exact z_iret hC (fun h => h) dX12_count_60
  refine z_tsw hC (1 : Int32) 61 (60) dX12_count_1 (by decide) (by decide) (by decide) (by decide) (fun _ => ?_) (fun q3 => ?_)
  · refine z_aload_n hC 0 dX12_count_61 rfl rfl ?_
    refine z_getI hC lgRX12_238 dX12_count_62 (fun v4 => ?_)
    exact z_iret hC (fun h => h) dX12_count_65
  refine z_tsw hC (2 : Int32) 66 (65) dX12_count_1 (by decide) (by decide) (by decide) (by decide) (fun _ => ?_) (fun q5 => ?_)
  · refine z_aload_n hC 0 dX12_count_66 rfl rfl ?_
    refine z_getI hC lgRX12_241 dX12_count_67 (fun v6 => ?_)
    exact z_iret hC (fun h => h) dX12_count_70
  refine z_tsw hC (3 : Int32) 71 (70) dX12_count_1 (by decide) (by decide) (by decide) (by decide) (fun _ => ?_) (fun q7 => ?_)
  · refine z_aload_n hC 0 dX12_count_71 rfl rfl ?_
    refine z_getI hC lgRX12_235 dX12_count_72 (fun v8 => ?_)
    exact z_iret hC (fun h => h) dX12_count_75
  refine z_tsw hC (4 : Int32) 76 (75) dX12_count_1 (by decide) (by decide) (by decide) (by decide) (fun _ => ?_) (fun q9 => ?_)
  · refine z_aload_n hC 0 dX12_count_76 rfl rfl ?_
    refine z_getI hC lgRX12_103 dX12_count_77 (fun v10 => ?_)
    exact z_iret hC (fun h => h) dX12_count_80
  refine z_tsw hC (5 : Int32) 81 (80) dX12_count_1 (by decide) (by decide) (by decide) (by decide) (fun _ => ?_) (fun q11 => ?_)
  · refine z_aload_n hC 0 dX12_count_81 rfl rfl ?_
    refine z_getI hC lgRX12_115 dX12_count_82 (fun v12 => ?_)
    exact z_iret hC (fun h => h) dX12_count_85
  refine z_tsw hC (6 : Int32) 86 (85) dX12_count_1 (by decide) (by decide) (by decide) (by decide) (fun _ => ?_) (fun q13 => ?_)
  · refine z_aload_n hC 0 dX12_count_86 rfl rfl ?_
    refine z_getI hC lgRX12_302 dX12_count_87 (fun v14 => ?_)
    exact z_iret hC (fun h => h) dX12_count_90
  refine z_tsw hC (7 : Int32) 91 (90) dX12_count_1 (by decide) (by decide) (by decide) (by decide) (fun _ => ?_) (fun q15 => ?_)
  · refine z_aload_n hC 0 dX12_count_91 rfl rfl ?_
    refine z_getI hC lgRX12_221 dX12_count_92 (fun v16 => ?_)
    exact z_iret hC (fun h => h) dX12_count_95
  refine z_tsw hC (8 : Int32) 96 (95) dX12_count_1 (by decide) (by decide) (by decide) (by decide) (fun _ => ?_) (fun q17 => ?_)
  · refine z_aload_n hC 0 dX12_count_96 rfl rfl ?_
    refine z_getI hC lgRX12_124 dX12_count_97 (fun v18 => ?_)
    exact z_iret hC (fun h => h) dX12_count_100
  refine z_tsw hC (9 : Int32) 101 (100) dX12_count_1 (by decide) (by decide) (by decide) (by decide) (fun _ => ?_) (fun q19 => ?_)
  · refine z_aload_n hC 0 dX12_count_101 rfl rfl ?_
    refine z_getI hC lgRX12_319 dX12_count_102 (fun v20 => ?_)
    refine z_iconst hC (1 : Int32) dX12_count_105 (by decide) ?_
    refine z_icmp_ne hC 113 dX12_count_106 (by decide) (fun _ => ?_) (fun _ => ?_)
    · refine z_iconst hC (1 : Int32) dX12_count_109 (by decide) ?_
      refine z_goto hC 128 dX12_count_110 (by decide) ?_
      exact z_iret hC (fun h => h) dX12_count_128
    · refine z_aload_n hC 0 dX12_count_113 rfl rfl ?_
      refine z_getI hC lgRX12_238 dX12_count_114 (fun v21 => ?_)
      refine z_sipush hC (8640 : Int32) dX12_count_117 (by decide) ?_
      refine z_icmp_ne hC 127 dX12_count_120 (by decide) (fun _ => ?_) (fun _ => ?_)
      · refine z_iconst hC (2 : Int32) dX12_count_123 (by decide) ?_
        refine z_goto hC 128 dX12_count_124 (by decide) ?_
        exact z_iret hC (fun h => h) dX12_count_128
      · refine z_iconst hC (0 : Int32) dX12_count_127 (by decide) ?_
        exact z_iret hC (fun h => h) dX12_count_128
  refine z_tswd hC 129 dX12_count_1 (by decide) (by have eq1 := sw_ne q1 (z := 0) (by decide); have eq3 := sw_ne q3 (z := 1) (by decide); have eq5 := sw_ne q5 (z := 2) (by decide); have eq7 := sw_ne q7 (z := 3) (by decide); have eq9 := sw_ne q9 (z := 4) (by decide); have eq11 := sw_ne q11 (z := 5) (by decide); have eq13 := sw_ne q13 (z := 6) (by decide); have eq15 := sw_ne q15 (z := 7) (by decide); have eq17 := sw_ne q17 (z := 8) (by decide); have eq19 := sw_ne q19 (z := 9) (by decide); omega) ?_
  refine z_iload_n hC 1 dX12_count_129 rfl rfl ?_
  refine z_bipush hC (20 : Int32) dX12_count_130 (by decide) ?_
  refine z_bipush hC (29 : Int32) dX12_count_132 (by decide) ?_
  refine z_callSi hC lmRX12_99 (ctX12_in (vLa V) (vDa V) (vTg V) (vBs V) (vSa V) hp p1 (20 : Int32) (29 : Int32)) (by decide) hn0 dX12_count_134 rfl rfl (Nat.le_of_ble_eq_true rfl) (fun v22 => ?_)
  refine z_if_eq hC 152 dX12_count_137 (by decide) (fun _ => ?_) (fun _ => ?_)
  · refine z_iconst hC (-1 : Int32) dX12_count_152 (by decide) ?_
    exact z_iret hC (fun h => h) dX12_count_153
  · refine z_aload_n hC 0 dX12_count_140 rfl rfl ?_
    refine z_getR hC lgRX12_7 dX12_count_141 (fun v23 => ?_)
    refine z_iload_n hC 1 dX12_count_144 rfl rfl ?_
    refine z_bipush hC (20 : Int32) dX12_count_145 (by decide) ?_
    refine z_isub hC dX12_count_147 ?_
    refine z_iald hC dX12_count_148 (fun v24 => ?_)
    refine z_goto hC 153 dX12_count_149 (by decide) ?_
    exact z_iret hC (fun h => h) dX12_count_153

