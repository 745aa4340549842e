theorem dX12_questions_0 : decode cX12_questions 0 = .ok (.iload_n 1, 1) := by decide +kernel
theorem dX12_questions_1 : decode cX12_questions 1 = .ok (.iconst 0, 1) := by decide +kernel
theorem dX12_questions_2 : decode cX12_questions 2 = .ok (.sipush 1023, 3) := by decide +kernel
theorem dX12_questions_5 : decode cX12_questions 5 = .ok (.invokestatic 99, 3) := by decide +kernel
theorem dX12_questions_8 : decode cX12_questions 8 = .ok (.ifCond .eq 24, 3) := by decide +kernel
theorem dX12_questions_11 : decode cX12_questions 11 = .ok (.iload_n 2, 1) := by decide +kernel
theorem dX12_questions_12 : decode cX12_questions 12 = .ok (.iconst 0, 1) := by decide +kernel
theorem dX12_questions_13 : decode cX12_questions 13 = .ok (.sipush 1023, 3) := by decide +kernel
theorem dX12_questions_16 : decode cX12_questions 16 = .ok (.invokestatic 99, 3) := by decide +kernel
theorem dX12_questions_19 : decode cX12_questions 19 = .ok (.ifCond .eq 13, 3) := by decide +kernel
theorem dX12_questions_22 : decode cX12_questions 22 = .ok (.iload_n 3, 1) := by decide +kernel
theorem dX12_questions_23 : decode cX12_questions 23 = .ok (.iconst 0, 1) := by decide +kernel
theorem dX12_questions_24 : decode cX12_questions 24 = .ok (.bipush 10, 2) := by decide +kernel
theorem dX12_questions_26 : decode cX12_questions 26 = .ok (.invokestatic 99, 3) := by decide +kernel
theorem dX12_questions_29 : decode cX12_questions 29 = .ok (.ifCond .ne 5, 3) := by decide +kernel
theorem dX12_questions_32 : decode cX12_questions 32 = .ok (.iconst (-1), 1) := by decide +kernel
theorem dX12_questions_33 : decode cX12_questions 33 = .ok (.ireturn, 1) := by decide +kernel
theorem dX12_questions_34 : decode cX12_questions 34 = .ok (.iload_n 1, 1) := by decide +kernel
theorem dX12_questions_35 : decode cX12_questions 35 = .ok (.istore 4, 2) := by decide +kernel
theorem dX12_questions_37 : decode cX12_questions 37 = .ok (.iload_n 2, 1) := by decide +kernel
theorem dX12_questions_38 : decode cX12_questions 38 = .ok (.iload_n 1, 1) := by decide +kernel
theorem dX12_questions_39 : decode cX12_questions 39 = .ok (.iand, 1) := by decide +kernel
theorem dX12_questions_40 : decode cX12_questions 40 = .ok (.istore 5, 2) := by decide +kernel
theorem dX12_questions_42 : decode cX12_questions 42 = .ok (.iconst 0, 1) := by decide +kernel
theorem dX12_questions_43 : decode cX12_questions 43 = .ok (.istore 6, 2) := by decide +kernel
theorem dX12_questions_45 : decode cX12_questions 45 = .ok (.iload 6, 2) := by decide +kernel
theorem dX12_questions_47 : decode cX12_questions 47 = .ok (.iload_n 3, 1) := by decide +kernel
theorem dX12_questions_48 : decode cX12_questions 48 = .ok (.if_icmp .ge 91, 3) := by decide +kernel
theorem dX12_questions_51 : decode cX12_questions 51 = .ok (.aload_n 0, 1) := by decide +kernel
theorem dX12_questions_52 : decode cX12_questions 52 = .ok (.iload 4, 2) := by decide +kernel
theorem dX12_questions_54 : decode cX12_questions 54 = .ok (.iload 5, 2) := by decide +kernel
theorem dX12_questions_56 : decode cX12_questions 56 = .ok (.invokevirtual 441, 3) := by decide +kernel
theorem dX12_questions_59 : decode cX12_questions 59 = .ok (.istore 7, 2) := by decide +kernel
theorem dX12_questions_61 : decode cX12_questions 61 = .ok (.iload 7, 2) := by decide +kernel
theorem dX12_questions_63 : decode cX12_questions 63 = .ok (.bipush (-2), 2) := by decide +kernel
theorem dX12_questions_65 : decode cX12_questions 65 = .ok (.if_icmp .ne 6, 3) := by decide +kernel
theorem dX12_questions_68 : decode cX12_questions 68 = .ok (.goto 71, 3) := by decide +kernel
theorem dX12_questions_71 : decode cX12_questions 71 = .ok (.aload_n 0, 1) := by decide +kernel
theorem dX12_questions_72 : decode cX12_questions 72 = .ok (.iload 4, 2) := by decide +kernel
theorem dX12_questions_74 : decode cX12_questions 74 = .ok (.iload 5, 2) := by decide +kernel
theorem dX12_questions_76 : decode cX12_questions 76 = .ok (.invokevirtual 435, 3) := by decide +kernel
theorem dX12_questions_79 : decode cX12_questions 79 = .ok (.istore 8, 2) := by decide +kernel
theorem dX12_questions_81 : decode cX12_questions 81 = .ok (.aload_n 0, 1) := by decide +kernel
theorem dX12_questions_82 : decode cX12_questions 82 = .ok (.iload 4, 2) := by decide +kernel
theorem dX12_questions_84 : decode cX12_questions 84 = .ok (.iconst 1, 1) := by decide +kernel
theorem dX12_questions_85 : decode cX12_questions 85 = .ok (.iload 7, 2) := by decide +kernel
theorem dX12_questions_87 : decode cX12_questions 87 = .ok (.ishl, 1) := by decide +kernel
theorem dX12_questions_88 : decode cX12_questions 88 = .ok (.ior, 1) := by decide +kernel
theorem dX12_questions_89 : decode cX12_questions 89 = .ok (.iload 5, 2) := by decide +kernel
theorem dX12_questions_91 : decode cX12_questions 91 = .ok (.iconst 1, 1) := by decide +kernel
theorem dX12_questions_92 : decode cX12_questions 92 = .ok (.iload 7, 2) := by decide +kernel
theorem dX12_questions_94 : decode cX12_questions 94 = .ok (.ishl, 1) := by decide +kernel
theorem dX12_questions_95 : decode cX12_questions 95 = .ok (.ior, 1) := by decide +kernel
theorem dX12_questions_96 : decode cX12_questions 96 = .ok (.invokevirtual 435, 3) := by decide +kernel
theorem dX12_questions_99 : decode cX12_questions 99 = .ok (.istore 9, 2) := by decide +kernel
theorem dX12_questions_101 : decode cX12_questions 101 = .ok (.iload 4, 2) := by decide +kernel
theorem dX12_questions_103 : decode cX12_questions 103 = .ok (.iconst 1, 1) := by decide +kernel
theorem dX12_questions_104 : decode cX12_questions 104 = .ok (.iload 7, 2) := by decide +kernel
theorem dX12_questions_106 : decode cX12_questions 106 = .ok (.ishl, 1) := by decide +kernel
theorem dX12_questions_107 : decode cX12_questions 107 = .ok (.ior, 1) := by decide +kernel
theorem dX12_questions_108 : decode cX12_questions 108 = .ok (.istore 4, 2) := by decide +kernel
theorem dX12_questions_110 : decode cX12_questions 110 = .ok (.iload 5, 2) := by decide +kernel
theorem dX12_questions_112 : decode cX12_questions 112 = .ok (.iload 9, 2) := by decide +kernel
theorem dX12_questions_114 : decode cX12_questions 114 = .ok (.iload 8, 2) := by decide +kernel
theorem dX12_questions_116 : decode cX12_questions 116 = .ok (.iload 9, 2) := by decide +kernel
theorem dX12_questions_118 : decode cX12_questions 118 = .ok (.isub, 1) := by decide +kernel
theorem dX12_questions_119 : decode cX12_questions 119 = .ok (.if_icmp .le 10, 3) := by decide +kernel
theorem dX12_questions_122 : decode cX12_questions 122 = .ok (.iconst 1, 1) := by decide +kernel
theorem dX12_questions_123 : decode cX12_questions 123 = .ok (.iload 7, 2) := by decide +kernel
theorem dX12_questions_125 : decode cX12_questions 125 = .ok (.ishl, 1) := by decide +kernel
theorem dX12_questions_126 : decode cX12_questions 126 = .ok (.goto 4, 3) := by decide +kernel
theorem dX12_questions_129 : decode cX12_questions 129 = .ok (.iconst 0, 1) := by decide +kernel
theorem dX12_questions_130 : decode cX12_questions 130 = .ok (.ior, 1) := by decide +kernel
theorem dX12_questions_131 : decode cX12_questions 131 = .ok (.istore 5, 2) := by decide +kernel
theorem dX12_questions_133 : decode cX12_questions 133 = .ok (.iinc 6 1, 3) := by decide +kernel
theorem dX12_questions_136 : decode cX12_questions 136 = .ok (.goto (-91), 3) := by decide +kernel
theorem dX12_questions_139 : decode cX12_questions 139 = .ok (.aload_n 0, 1) := by decide +kernel
theorem dX12_questions_140 : decode cX12_questions 140 = .ok (.iload 4, 2) := by decide +kernel
theorem dX12_questions_142 : decode cX12_questions 142 = .ok (.iload 5, 2) := by decide +kernel
theorem dX12_questions_144 : decode cX12_questions 144 = .ok (.invokevirtual 435, 3) := by decide +kernel
theorem dX12_questions_147 : decode cX12_questions 147 = .ok (.ireturn, 1) := by decide +kernel
def FX12_questions (hp : HP) (p0 : Nat) (p1 : Int32) (p2 : Int32) (p3 : Int32) : Option (Int32) := (FX12_in p1 (0 : Int32) (1023 : Int32)).bind (fun v1 => if v1 = 0 then some (-1 : Int32) else (FX12_in p2 (0 : Int32) (1023 : Int32)).bind (fun v2 => if v2 = 0 then some (-1 : Int32) else (FX12_in p3 (0 : Int32) (10 : Int32)).bind (fun v3 => if v3 = 0 then some (-1 : Int32) else vl (p2 &&& p1) (fun x4 => (lp (fun (s5 : Int32 × Int32 × Int32) => if p3 ≤ s5.2.2 then some (Sum.inl (s5.1, s5.2.1)) else (rc [12] hp p0 (FX12_nextFact hp p0 s5.1 s5.2.1)).bind (fun v8 => if v8 = (-2 : Int32) then some (Sum.inl (s5.1, s5.2.1)) else (rc [12] hp p0 (FX12_leftBy hp p0 s5.1 s5.2.1)).bind (fun v9 => (rc [12] hp p0 (FX12_leftBy hp p0 (s5.1 ||| ((1 : Int32) <<< (v8 &&& 31))) (s5.2.1 ||| ((1 : Int32) <<< (v8 &&& 31))))).bind (fun v10 => vl (s5.1 ||| ((1 : Int32) <<< (v8 &&& 31))) (fun x11 => if v10 ≤ (v9 - v10) then vl (s5.2.1 ||| (0 : Int32)) (fun x12 => vl (s5.2.2 + (1 : Int32)) (fun x13 => some (Sum.inr (x11, x12, x13)))) else vl (s5.2.1 ||| ((1 : Int32) <<< (v8 &&& 31))) (fun x14 => vl (s5.2.2 + (1 : Int32)) (fun x15 => some (Sum.inr (x11, x14, x15))))))))) FU (p1, x4, (0 : Int32))).bind (fun (y6 : Int32 × Int32) => (rc [12] hp p0 (FX12_leftBy hp p0 y6.1 y6.2)).bind (fun v7 => some v7))))))
set_option maxHeartbeats 4000000 in
set_option maxRecDepth 100000 in
theorem ctX12_questions (l : Launch) (D : va_G) (tg : Nat → ClassId) (bs : Nat) (sa : Nat → Nat) (hp : HP) (p0 : Nat) (p1 : Int32) (p2 : Int32) (p3 : Int32) : Ct l D tg bs sa yX12_questions cX12_questions 10 (some .int) 3 [.ref p0, .int p1, .int p2, .int p3] hp (FX12_questions hp p0 p1 p2 p3) (fun r => some (.int r)) (fun _ => hp) := by
  refine Ct.of (by decide) (Nat.le_of_ble_eq_true rfl) ?_
  intro V Q hVl hVd hVt hVb hVs hC
  subst hVl; subst hVd; subst hVt; subst hVb; subst hVs
  unfold FX12_questions
  show Zs V Q (0, 0) 10 _ _ hp [(0, .ref p0), (1, .int p1), (2, .int p2), (3, .int p3)] 0 []
  refine z_iload_n hC 1 dX12_questions_0 rfl rfl ?_
  refine z_iconst hC (0 : Int32) dX12_questions_1 (by decide) ?_
  refine z_sipush hC (1023 : Int32) dX12_questions_2 (by decide) ?_
  refine z_callSi hC lmRX12_99 (ctX12_in (vLa V) (vDa V) (vTg V) (vBs V) (vSa V) hp p1 (0 : Int32) (1023 : Int32)) (by decide) hn0 dX12_questions_5 rfl rfl (Nat.le_of_ble_eq_true rfl) (fun v1 => ?_)
  refine z_if_eq hC 32 dX12_questions_8 (by decide) (fun _ => ?_) (fun _ => ?_)
  · refine z_iconst hC (-1 : Int32) dX12_questions_32 (by decide) ?_
    exact z_iret hC (fun h => h) dX12_questions_33
  · refine z_iload_n hC 2 dX12_questions_11 rfl rfl ?_
    refine z_iconst hC (0 : Int32) dX12_questions_12 (by decide) ?_
    refine z_sipush hC (1023 : Int32) dX12_questions_13 (by decide) ?_
    refine z_callSi hC lmRX12_99 (ctX12_in (vLa V) (vDa V) (vTg V) (vBs V) (vSa V) hp p2 (0 : Int32) (1023 : Int32)) (by decide) hn0 dX12_questions_16 rfl rfl (Nat.le_of_ble_eq_true rfl) (fun v2 => ?_)
    refine z_if_eq hC 32 dX12_questions_19 (by decide) (fun _ => ?_) (fun _ => ?_)
    · refine z_iconst hC (-1 : Int32) dX12_questions_32 (by decide) ?_
      exact z_iret hC (fun h => h) dX12_questions_33
    · refine z_iload_n hC 3 dX12_questions_22 rfl rfl ?_
      refine z_iconst hC (0 : Int32) dX12_questions_23 (by decide) ?_
      refine z_bipush hC (10 : Int32) dX12_questions_24 (by decide) ?_
      refine z_callSi hC lmRX12_99 (ctX12_in (vLa V) (vDa V) (vTg V) (vBs V) (vSa V) hp p3 (0 : Int32) (10 : Int32)) (by decide) hn0 dX12_questions_26 rfl rfl (Nat.le_of_ble_eq_true rfl) (fun v3 => ?_)
      refine z_if_ne hC 34 dX12_questions_29 (by decide) (fun _ => ?_) (fun _ => ?_)
      · refine z_iconst hC (-1 : Int32) dX12_questions_32 (by decide) ?_
        exact z_iret hC (fun h => h) dX12_questions_33
      · refine z_iload_n hC 1 dX12_questions_34 rfl rfl ?_
        refine z_istore hC [(0, .ref p0), (1, .int p1), (2, .int p2), (3, .int p3), (4, .int p1)] [1, 2, 3, 4, 0] dX12_questions_35 (by decide) rfl ?_
        refine z_iload_n hC 2 dX12_questions_37 rfl rfl ?_
        refine z_iload_n hC 1 dX12_questions_38 rfl rfl ?_
        refine z_iand hC dX12_questions_39 ?_
        refine z_vli (fun x4 => ?_)
        refine z_istore hC [(0, .ref p0), (1, .int p1), (2, .int p2), (3, .int p3), (4, .int p1), (5, .int x4)] [1, 2, 3, 4, 5, 0] dX12_questions_40 (by decide) rfl ?_
        refine z_iconst hC (0 : Int32) dX12_questions_42 (by decide) ?_
        refine z_istore hC [(0, .ref p0), (1, .int p1), (2, .int p2), (3, .int p3), (4, .int p1), (5, .int x4), (6, .int (0 : Int32))] [1, 2, 3, 4, 5, 6, 0] dX12_questions_43 (by decide) rfl ?_
        refine z_weak [(0, .ref p0), (3, .int p3), (4, .int p1), (5, .int x4), (6, .int (0 : Int32))] [0, 3, 4, 5, 6] rfl ?_
        refine z_lp (S := Int32 × Int32 × Int32) (Y := Int32 × Int32) (fun s5 => hp) (fun s5 => [(0, .ref p0), (3, .int p3), (4, .int s5.1), (5, .int s5.2.1), (6, .int s5.2.2)]) (fun y6 => hp) (fun y6 => [(0, .ref p0), (4, .int y6.1), (5, .int y6.2)]) 139 [] (fun y6 => ?_) (fun s5 => ?_) rfl rfl
        · refine z_aload_n hC 0 dX12_questions_139 rfl rfl ?_
          refine z_iload hC 1 dX12_questions_140 rfl ?_
          refine z_iload hC 2 dX12_questions_142 rfl ?_
          refine z_callVi hC (ci := 12) rfl lmRX12_435 (ctX12_leftBy (vLa V) (vDa V) (vTg V) (vBs V) (vSa V) hp p0 y6.1 y6.2) (by decide) hn0 dX12_questions_144 rfl rfl (Nat.le_of_ble_eq_true rfl) (fun v7 => ?_)
          exact z_iret hC (fun h => h) dX12_questions_147
        · refine z_iload hC 4 dX12_questions_45 rfl ?_
          refine z_iload_n hC 1 dX12_questions_47 rfl rfl ?_
          refine z_icmp_ge hC 139 dX12_questions_48 (by decide) (fun _ => ?_) (fun _ => ?_)
          · refine z_weak [(0, .ref p0), (4, .int s5.1), (5, .int s5.2.1)] [0, 2, 3] rfl ?_
            exact z_leaf (fun h => h)
          · refine z_aload_n hC 0 dX12_questions_51 rfl rfl ?_
            refine z_iload hC 2 dX12_questions_52 rfl ?_
            refine z_iload hC 3 dX12_questions_54 rfl ?_
            refine z_callVi hC (ci := 12) rfl lmRX12_441 (ctX12_nextFact (vLa V) (vDa V) (vTg V) (vBs V) (vSa V) hp p0 s5.1 s5.2.1) (by decide) hn0 dX12_questions_56 rfl rfl (Nat.le_of_ble_eq_true rfl) (fun v8 => ?_)
            refine z_istore hC [(0, .ref p0), (3, .int p3), (4, .int s5.1), (5, .int s5.2.1), (6, .int s5.2.2), (7, .int v8)] [1, 2, 3, 4, 5, 0] dX12_questions_59 (by decide) rfl ?_
            refine z_iload hC 5 dX12_questions_61 rfl ?_
            refine z_bipush hC (-2 : Int32) dX12_questions_63 (by decide) ?_
            refine z_icmp_ne hC 71 dX12_questions_65 (by decide) (fun _ => ?_) (fun _ => ?_)
            · refine z_goto hC 139 dX12_questions_68 (by decide) ?_
              refine z_weak [(0, .ref p0), (4, .int s5.1), (5, .int s5.2.1)] [0, 2, 3] rfl ?_
              exact z_leaf (fun h => h)
            · refine z_aload_n hC 0 dX12_questions_71 rfl rfl ?_
              refine z_iload hC 2 dX12_questions_72 rfl ?_
              refine z_iload hC 3 dX12_questions_74 rfl ?_
              refine z_callVi hC (ci := 12) rfl lmRX12_435 (ctX12_leftBy (vLa V) (vDa V) (vTg V) (vBs V) (vSa V) hp p0 s5.1 s5.2.1) (by decide) hn0 dX12_questions_76 rfl rfl (Nat.le_of_ble_eq_true rfl) (fun v9 => ?_)
              refine z_istore hC [(0, .ref p0), (3, .int p3), (4, .int s5.1), (5, .int s5.2.1), (6, .int s5.2.2), (7, .int v8), (8, .int v9)] [1, 2, 3, 4, 5, 6, 0] dX12_questions_79 (by decide) rfl ?_
              refine z_aload_n hC 0 dX12_questions_81 rfl rfl ?_
              refine z_iload hC 2 dX12_questions_82 rfl ?_
              refine z_iconst hC (1 : Int32) dX12_questions_84 (by decide) ?_
              refine z_iload hC 5 dX12_questions_85 rfl ?_
              refine z_ishl hC dX12_questions_87 ?_
              refine z_ior hC dX12_questions_88 ?_
              refine z_iload hC 3 dX12_questions_89 rfl ?_
              refine z_iconst hC (1 : Int32) dX12_questions_91 (by decide) ?_
              refine z_iload hC 5 dX12_questions_92 rfl ?_
              refine z_ishl hC dX12_questions_94 ?_
              refine z_ior hC dX12_questions_95 ?_
              refine z_callVi hC (ci := 12) rfl lmRX12_435 (ctX12_leftBy (vLa V) (vDa V) (vTg V) (vBs V) (vSa V) hp p0 (s5.1 ||| ((1 : Int32) <<< (v8 &&& 31))) (s5.2.1 ||| ((1 : Int32) <<< (v8 &&& 31)))) (by decide) hn0 dX12_questions_96 rfl rfl (Nat.le_of_ble_eq_true rfl) (fun v10 => ?_)
              refine z_istore hC [(0, .ref p0), (3, .int p3), (4, .int s5.1), (5, .int s5.2.1), (6, .int s5.2.2), (7, .int v8), (8, .int v9), (9, .int v10)] [1, 2, 3, 4, 5, 6, 7, 0] dX12_questions_99 (by decide) rfl ?_
              refine z_iload hC 2 dX12_questions_101 rfl ?_
              refine z_iconst hC (1 : Int32) dX12_questions_103 (by decide) ?_
              refine z_iload hC 5 dX12_questions_104 rfl ?_
              refine z_ishl hC dX12_questions_106 ?_
              refine z_ior hC dX12_questions_107 ?_
              refine z_vli (fun x11 => ?_)
              refine z_istore hC [(0, .ref p0), (3, .int p3), (4, .int x11), (5, .int s5.2.1), (6, .int s5.2.2), (7, .int v8), (8, .int v9), (9, .int v10)] [1, 2, 0, 3, 4, 5, 6, 7] dX12_questions_108 (by decide) rfl ?_
              refine z_iload hC 3 dX12_questions_110 rfl ?_
              refine z_iload hC 7 dX12_questions_112 rfl ?_
              refine z_iload hC 6 dX12_questions_114 rfl ?_
              refine z_iload hC 7 dX12_questions_116 rfl ?_
              refine z_isub hC dX12_questions_118 ?_
              refine z_icmp_le hC 129 dX12_questions_119 (by decide) (fun _ => ?_) (fun _ => ?_)
              · refine z_iconst hC (0 : Int32) dX12_questions_129 (by decide) ?_
                refine z_ior hC dX12_questions_130 ?_
                refine z_vli (fun x12 => ?_)
                refine z_istore hC [(0, .ref p0), (3, .int p3), (4, .int x11), (5, .int x12), (6, .int s5.2.2), (7, .int v8), (8, .int v9), (9, .int v10)] [1, 2, 3, 0, 4, 5, 6, 7] dX12_questions_131 (by decide) rfl ?_
                refine z_iincv hC (1 : Int32) 4 (fun x13 => [(0, .ref p0), (3, .int p3), (4, .int x11), (5, .int x12), (6, .int x13), (7, .int v8), (8, .int v9), (9, .int v10)]) [1, 2, 3, 4, 0, 5, 6, 7] dX12_questions_133 rfl (by decide) (by decide) (fun _ => rfl) (fun x13 => ?_)
                refine z_goto hC 45 dX12_questions_136 (by decide) ?_
                refine z_weak [(0, .ref p0), (3, .int p3), (4, .int x11), (5, .int x12), (6, .int x13)] [0, 1, 2, 3, 4] rfl ?_
                exact z_leaf (fun h => h)
              · refine z_iconst hC (1 : Int32) dX12_questions_122 (by decide) ?_
                refine z_iload hC 5 dX12_questions_123 rfl ?_
                refine z_ishl hC dX12_questions_125 ?_
                refine z_goto hC 130 dX12_questions_126 (by decide) ?_
                refine z_ior hC dX12_questions_130 ?_
                refine z_vli (fun x14 => ?_)
                refine z_istore hC [(0, .ref p0), (3, .int p3), (4, .int x11), (5, .int x14), (6, .int s5.2.2), (7, .int v8), (8, .int v9), (9, .int v10)] [1, 2, 3, 0, 4, 5, 6, 7] dX12_questions_131 (by decide) rfl ?_
                refine z_iincv hC (1 : Int32) 4 (fun x15 => [(0, .ref p0), (3, .int p3), (4, .int x11), (5, .int x14), (6, .int x15), (7, .int v8), (8, .int v9), (9, .int v10)]) [1, 2, 3, 4, 0, 5, 6, 7] dX12_questions_133 rfl (by decide) (by decide) (fun _ => rfl) (fun x15 => ?_)
                refine z_goto hC 45 dX12_questions_136 (by decide) ?_
                refine z_weak [(0, .ref p0), (3, .int p3), (4, .int x11), (5, .int x14), (6, .int x15)] [0, 1, 2, 3, 4] rfl ?_
                exact z_leaf (fun h => h)

theorem dX12_copy_0 : decode cX12_copy 0 = .ok (.iconst 0, 1) := by decide +kernel
theorem dX12_copy_1 : decode cX12_copy 1 = .ok (.istore_n 1, 1) := by decide +kernel
theorem dX12_copy_2 : decode cX12_copy 2 = .ok (.iload_n 1, 1) := by decide +kernel
theorem dX12_copy_3 : decode cX12_copy 3 = .ok (.sipush 1024, 3) := by decide +kernel
theorem dX12_copy_6 : decode cX12_copy 6 = .ok (.if_icmp .ge 21, 3) := by decide +kernel
theorem dX12_copy_9 : decode cX12_copy 9 = .ok (.aload_n 0, 1) := by decide +kernel
theorem dX12_copy_10 : decode cX12_copy 10 = .ok (.getfield 23, 3) := by decide +kernel
theorem dX12_copy_13 : decode cX12_copy 13 = .ok (.iload_n 1, 1) := by decide +kernel
theorem dX12_copy_14 : decode cX12_copy 14 = .ok (.aload_n 0, 1) := by decide +kernel
theorem dX12_copy_15 : decode cX12_copy 15 = .ok (.getfield 20, 3) := by decide +kernel
theorem dX12_copy_18 : decode cX12_copy 18 = .ok (.iload_n 1, 1) := by decide +kernel
theorem dX12_copy_19 : decode cX12_copy 19 = .ok (.baload, 1) := by decide +kernel
theorem dX12_copy_20 : decode cX12_copy 20 = .ok (.bastore, 1) := by decide +kernel
theorem dX12_copy_21 : decode cX12_copy 21 = .ok (.iinc 1 1, 3) := by decide +kernel
theorem dX12_copy_24 : decode cX12_copy 24 = .ok (.goto (-22), 3) := by decide +kernel
theorem dX12_copy_27 : decode cX12_copy 27 = .ok (.aload_n 0, 1) := by decide +kernel
theorem dX12_copy_28 : decode cX12_copy 28 = .ok (.invokevirtual 349, 3) := by decide +kernel
theorem dX12_copy_31 : decode cX12_copy 31 = .ok (.ireturn, 1) := by decide +kernel
def FX12_copy (hp : HP) (p0 : Nat) : Option (Int32 × HP) := (lp (fun (s1 : Int32 × HP) => if (1024 : Int32) ≤ s1.1 then some (Sum.inl s1.2) else (gR [12] 4 s1.2 p0).bind (fun v4 => (gR [12] 3 s1.2 p0).bind (fun v5 => (rdN 2 s1.2 v5 s1.1).bind (fun v6 => (wrZ s1.2 v4 s1.1 v6).bind (fun hp7 => vl (s1.1 + (1 : Int32)) (fun x8 => some (Sum.inr (x8, hp7)))))))) FU ((0 : Int32), hp)).bind (fun (y2 : HP) => (rc [12] y2 p0 (FX12_fitMany y2 p0)).bind (fun v3 => some (v3, y2)))
set_option maxHeartbeats 4000000 in
set_option maxRecDepth 100000 in
theorem ctX12_copy (l : Launch) (D : va_G) (tg : Nat → ClassId) (bs : Nat) (sa : Nat → Nat) (hp : HP) (p0 : Nat) : Ct l D tg bs sa yX12_copy cX12_copy 2 (some .int) 1 [.ref p0] hp (FX12_copy hp p0) (fun r => some (.int r.1)) (fun r => r.2) := by
  refine Ct.of (by decide) (Nat.le_of_ble_eq_true rfl) ?_
  intro V Q hVl hVd hVt hVb hVs hC
  subst hVl; subst hVd; subst hVt; subst hVb; subst hVs
  unfold FX12_copy
  show Zs V Q (0, 0) 2 _ _ hp [(0, .ref p0)] 0 []
  refine z_iconst hC (0 : Int32) dX12_copy_0 (by decide) ?_
  refine z_istore_n hC [(0, .ref p0), (1, .int (0 : Int32))] [1, 0] dX12_copy_1 rfl (by decide) rfl ?_
  refine z_lp (S := Int32 × HP) (Y := HP) (fun s1 => s1.2) (fun s1 => [(0, .ref p0), (1, .int s1.1)]) (fun y2 => y2) (fun y2 => [(0, .ref p0)]) 27 [] (fun y2 => ?_) (fun s1 => ?_) rfl rfl
  · refine z_aload_n hC 0 dX12_copy_27 rfl rfl ?_
    refine z_callVi hC (ci := 12) rfl lmRX12_349 (ctX12_fitMany (vLa V) (vDa V) (vTg V) (vBs V) (vSa V) y2 p0) (by decide) hn0 dX12_copy_28 rfl rfl (Nat.le_of_ble_eq_true rfl) (fun v3 => ?_)
    exact z_iret hC (fun h => h) dX12_copy_31
  · refine z_iload_n hC 1 dX12_copy_2 rfl rfl ?_
    refine z_sipush hC (1024 : Int32) dX12_copy_3 (by decide) ?_
    refine z_icmp_ge hC 27 dX12_copy_6 (by decide) (fun _ => ?_) (fun _ => ?_)
    · refine z_weak [(0, .ref p0)] [0] rfl ?_
      exact z_leaf (fun h => h)
    · refine z_aload_n hC 0 dX12_copy_9 rfl rfl ?_
      refine z_getR hC lgRX12_23 dX12_copy_10 (fun v4 => ?_)
      refine z_iload_n hC 1 dX12_copy_13 rfl rfl ?_
      refine z_aload_n hC 0 dX12_copy_14 rfl rfl ?_
      refine z_getR hC lgRX12_20 dX12_copy_15 (fun v5 => ?_)
      refine z_iload_n hC 1 dX12_copy_18 rfl rfl ?_
      refine z_zald hC dX12_copy_19 (fun v6 => ?_)
      refine z_zast hC dX12_copy_20 (fun hp7 => ?_)
      refine z_iincv hC (1 : Int32) 1 (fun x8 => [(0, .ref p0), (1, .int x8)]) [1, 0] dX12_copy_21 rfl (by decide) (by decide) (fun _ => rfl) (fun x8 => ?_)
      refine z_goto hC 2 dX12_copy_24 (by decide) ?_
      exact z_leaf (fun h => h)

theorem dX12_compare_0 : decode cX12_compare 0 = .ok (.iload_n 1, 1) := by decide +kernel
theorem dX12_compare_1 : decode cX12_compare 1 = .ok (.iconst 0, 1) := by decide +kernel
theorem dX12_compare_2 : decode cX12_compare 2 = .ok (.iconst 2, 1) := by decide +kernel
theorem dX12_compare_3 : decode cX12_compare 3 = .ok (.invokestatic 99, 3) := by decide +kernel
theorem dX12_compare_6 : decode cX12_compare 6 = .ok (.ifCond .ne 5, 3) := by decide +kernel
theorem dX12_compare_9 : decode cX12_compare 9 = .ok (.iconst (-1), 1) := by decide +kernel
theorem dX12_compare_10 : decode cX12_compare 10 = .ok (.ireturn, 1) := by decide +kernel
theorem dX12_compare_11 : decode cX12_compare 11 = .ok (.iconst 0, 1) := by decide +kernel
theorem dX12_compare_12 : decode cX12_compare 12 = .ok (.istore_n 2, 1) := by decide +kernel
theorem dX12_compare_13 : decode cX12_compare 13 = .ok (.iconst 0, 1) := by decide +kernel
theorem dX12_compare_14 : decode cX12_compare 14 = .ok (.istore_n 3, 1) := by decide +kernel
theorem dX12_compare_15 : decode cX12_compare 15 = .ok (.iload_n 3, 1) := by decide +kernel
theorem dX12_compare_16 : decode cX12_compare 16 = .ok (.sipush 1024, 3) := by decide +kernel
theorem dX12_compare_19 : decode cX12_compare 19 = .ok (.if_icmp .ge 62, 3) := by decide +kernel
theorem dX12_compare_22 : decode cX12_compare 22 = .ok (.iload_n 1, 1) := by decide +kernel
theorem dX12_compare_23 : decode cX12_compare 23 = .ok (.iconst 1, 1) := by decide +kernel
theorem dX12_compare_24 : decode cX12_compare 24 = .ok (.if_icmp .eq 7, 3) := by decide +kernel
theorem dX12_compare_27 : decode cX12_compare 27 = .ok (.iconst 1, 1) := by decide +kernel
theorem dX12_compare_28 : decode cX12_compare 28 = .ok (.goto 4, 3) := by decide +kernel
theorem dX12_compare_31 : decode cX12_compare 31 = .ok (.iconst 0, 1) := by decide +kernel
theorem dX12_compare_32 : decode cX12_compare 32 = .ok (.istore 4, 2) := by decide +kernel
theorem dX12_compare_34 : decode cX12_compare 34 = .ok (.iload_n 1, 1) := by decide +kernel
theorem dX12_compare_35 : decode cX12_compare 35 = .ok (.ifCond .eq 7, 3) := by decide +kernel
theorem dX12_compare_38 : decode cX12_compare 38 = .ok (.iconst 1, 1) := by decide +kernel
theorem dX12_compare_39 : decode cX12_compare 39 = .ok (.goto 4, 3) := by decide +kernel
theorem dX12_compare_42 : decode cX12_compare 42 = .ok (.iconst 0, 1) := by decide +kernel
theorem dX12_compare_43 : decode cX12_compare 43 = .ok (.istore 5, 2) := by decide +kernel
theorem dX12_compare_45 : decode cX12_compare 45 = .ok (.iload_n 2, 1) := by decide +kernel
theorem dX12_compare_46 : decode cX12_compare 46 = .ok (.aload_n 0, 1) := by decide +kernel
theorem dX12_compare_47 : decode cX12_compare 47 = .ok (.getfield 20, 3) := by decide +kernel
theorem dX12_compare_50 : decode cX12_compare 50 = .ok (.iload_n 3, 1) := by decide +kernel
theorem dX12_compare_51 : decode cX12_compare 51 = .ok (.baload, 1) := by decide +kernel
theorem dX12_compare_52 : decode cX12_compare 52 = .ok (.iload 4, 2) := by decide +kernel
theorem dX12_compare_54 : decode cX12_compare 54 = .ok (.if_icmp .ne 18, 3) := by decide +kernel
theorem dX12_compare_57 : decode cX12_compare 57 = .ok (.aload_n 0, 1) := by decide +kernel
theorem dX12_compare_58 : decode cX12_compare 58 = .ok (.getfield 23, 3) := by decide +kernel
theorem dX12_compare_61 : decode cX12_compare 61 = .ok (.iload_n 3, 1) := by decide +kernel
theorem dX12_compare_62 : decode cX12_compare 62 = .ok (.baload, 1) := by decide +kernel
theorem dX12_compare_63 : decode cX12_compare 63 = .ok (.iload 5, 2) := by decide +kernel
theorem dX12_compare_65 : decode cX12_compare 65 = .ok (.if_icmp .ne 7, 3) := by decide +kernel
theorem dX12_compare_68 : decode cX12_compare 68 = .ok (.iconst 1, 1) := by decide +kernel
theorem dX12_compare_69 : decode cX12_compare 69 = .ok (.goto 4, 3) := by decide +kernel
theorem dX12_compare_72 : decode cX12_compare 72 = .ok (.iconst 0, 1) := by decide +kernel
theorem dX12_compare_73 : decode cX12_compare 73 = .ok (.iadd, 1) := by decide +kernel
theorem dX12_compare_74 : decode cX12_compare 74 = .ok (.istore_n 2, 1) := by decide +kernel
theorem dX12_compare_75 : decode cX12_compare 75 = .ok (.iinc 3 1, 3) := by decide +kernel
theorem dX12_compare_78 : decode cX12_compare 78 = .ok (.goto (-63), 3) := by decide +kernel
theorem dX12_compare_81 : decode cX12_compare 81 = .ok (.iload_n 2, 1) := by decide +kernel
theorem dX12_compare_82 : decode cX12_compare 82 = .ok (.ireturn, 1) := by decide +kernel
def FX12_compare (hp : HP) (p0 : Nat) (p1 : Int32) : Option (Int32) := (FX12_in p1 (0 : Int32) (2 : Int32)).bind (fun v1 => if v1 = 0 then some (-1 : Int32) else (lp (fun (s2 : Int32 × Int32) => if (1024 : Int32) ≤ s2.2 then some (Sum.inl s2.1) else jn (A := Int32) (fun a4 => jn (A := Int32) (fun a6 => (gR [12] 3 hp p0).bind (fun v8 => (rdN 2 hp v8 s2.2).bind (fun v9 => if v9 = a4 then (gR [12] 4 hp p0).bind (fun v10 => (rdN 2 hp v10 s2.2).bind (fun v11 => if v11 = a6 then vl (s2.1 + (1 : Int32)) (fun x12 => vl (s2.2 + (1 : Int32)) (fun x13 => some (Sum.inr (x12, x13)))) else vl (s2.1 + (0 : Int32)) (fun x14 => vl (s2.2 + (1 : Int32)) (fun x15 => some (Sum.inr (x14, x15)))))) else vl (s2.1 + (0 : Int32)) (fun x16 => vl (s2.2 + (1 : Int32)) (fun x17 => some (Sum.inr (x16, x17))))))) (fun J7 => if p1 = 0 then J7 (0 : Int32) else J7 (1 : Int32))) (fun J5 => if p1 = (1 : Int32) then J5 (0 : Int32) else J5 (1 : Int32))) FU ((0 : Int32), (0 : Int32))).bind (fun (y3 : Int32) => some y3))
set_option maxHeartbeats 4000000 in
set_option maxRecDepth 100000 in
theorem ctX12_compare (l : Launch) (D : va_G) (tg : Nat → ClassId) (bs : Nat) (sa : Nat → Nat) (hp : HP) (p0 : Nat) (p1 : Int32) : Ct l D tg bs sa yX12_compare cX12_compare 6 (some .int) 1 [.ref p0, .int p1] hp (FX12_compare hp p0 p1) (fun r => some (.int r)) (fun _ => hp) := by
  refine Ct.of (by decide) (Nat.le_of_ble_eq_true rfl) ?_
  intro V Q hVl hVd hVt hVb hVs hC
  subst hVl; subst hVd; subst hVt; subst hVb; subst hVs
  unfold FX12_compare
  show Zs V Q (0, 0) 6 _ _ hp [(0, .ref p0), (1, .int p1)] 0 []
  refine z_iload_n hC 1 dX12_compare_0 rfl rfl ?_
  refine z_iconst hC (0 : Int32) dX12_compare_1 (by decide) ?_
  refine z_iconst hC (2 : Int32) dX12_compare_2 (by decide) ?_
  refine z_callSi hC lmRX12_99 (ctX12_in (vLa V) (vDa V) (vTg V) (vBs V) (vSa V) hp p1 (0 : Int32) (2 : Int32)) (by decide) hn0 dX12_compare_3 rfl rfl (Nat.le_of_ble_eq_true rfl) (fun v1 => ?_)
  refine z_if_ne hC 11 dX12_compare_6 (by decide) (fun _ => ?_) (fun _ => ?_)
  · refine z_iconst hC (-1 : Int32) dX12_compare_9 (by decide) ?_
    exact z_iret hC (fun h => h) dX12_compare_10
  · refine z_iconst hC (0 : Int32) dX12_compare_11 (by decide) ?_
    refine z_istore_n hC [(0, .ref p0), (1, .int p1), (2, .int (0 : Int32))] [1, 2, 0] dX12_compare_12 rfl (by decide) rfl ?_
    refine z_iconst hC (0 : Int32) dX12_compare_13 (by decide) ?_
    refine z_istore_n hC [(0, .ref p0), (1, .int p1), (2, .int (0 : Int32)), (3, .int (0 : Int32))] [1, 2, 3, 0] dX12_compare_14 rfl (by decide) rfl ?_
    refine z_lp (S := Int32 × Int32) (Y := Int32) (fun s2 => hp) (fun s2 => [(0, .ref p0), (1, .int p1), (2, .int s2.1), (3, .int s2.2)]) (fun y3 => hp) (fun y3 => [(2, .int y3)]) 81 [] (fun y3 => ?_) (fun s2 => ?_) rfl rfl
    · refine z_iload_n hC 0 dX12_compare_81 rfl rfl ?_
      exact z_iret hC (fun h => h) dX12_compare_82
    · refine z_iload_n hC 3 dX12_compare_15 rfl rfl ?_
      refine z_sipush hC (1024 : Int32) dX12_compare_16 (by decide) ?_
      refine z_icmp_ge hC 81 dX12_compare_19 (by decide) (fun _ => ?_) (fun _ => ?_)
      · refine z_weak [(2, .int s2.1)] [2] rfl ?_
        exact z_leaf (fun h => h)
      · refine z_iload_n hC 1 dX12_compare_22 rfl rfl ?_
        refine z_iconst hC (1 : Int32) dX12_compare_23 (by decide) ?_
        refine z_jn (A := Int32) (fun a4 => hp) (fun a4 => [(0, .ref p0), (1, .int p1), (2, .int s2.1), (3, .int s2.2)]) 32 (fun a4 => [.int a4]) (fun a4 => ?_) (fun J5 hJ5 => ?_)
        · refine z_istore hC [(0, .ref p0), (1, .int p1), (2, .int s2.1), (3, .int s2.2), (4, .int a4)] [1, 2, 3, 4, 0] dX12_compare_32 (by decide) rfl ?_
          refine z_iload_n hC 1 dX12_compare_34 rfl rfl ?_
          refine z_jn (A := Int32) (fun a6 => hp) (fun a6 => [(0, .ref p0), (1, .int p1), (2, .int s2.1), (3, .int s2.2), (4, .int a4)]) 43 (fun a6 => [.int a6]) (fun a6 => ?_) (fun J7 hJ7 => ?_)
          · refine z_istore hC [(0, .ref p0), (1, .int p1), (2, .int s2.1), (3, .int s2.2), (4, .int a4), (5, .int a6)] [1, 2, 3, 4, 5, 0] dX12_compare_43 (by decide) rfl ?_
            refine z_iload_n hC 2 dX12_compare_45 rfl rfl ?_
            refine z_aload_n hC 0 dX12_compare_46 rfl rfl ?_
            refine z_getR hC lgRX12_20 dX12_compare_47 (fun v8 => ?_)
            refine z_iload_n hC 3 dX12_compare_50 rfl rfl ?_
            refine z_zald hC dX12_compare_51 (fun v9 => ?_)
            refine z_iload hC 4 dX12_compare_52 rfl ?_
            refine z_icmp_ne hC 72 dX12_compare_54 (by decide) (fun _ => ?_) (fun _ => ?_)
            · refine z_aload_n hC 0 dX12_compare_57 rfl rfl ?_
              refine z_getR hC lgRX12_23 dX12_compare_58 (fun v10 => ?_)
              refine z_iload_n hC 3 dX12_compare_61 rfl rfl ?_
              refine z_zald hC dX12_compare_62 (fun v11 => ?_)
              refine z_iload hC 5 dX12_compare_63 rfl ?_
              refine z_icmp_ne hC 72 dX12_compare_65 (by decide) (fun _ => ?_) (fun _ => ?_)
              · refine z_iconst hC (1 : Int32) dX12_compare_68 (by decide) ?_
                refine z_goto hC 73 dX12_compare_69 (by decide) ?_
                refine z_iadd hC dX12_compare_73 ?_
                refine z_vli (fun x12 => ?_)
                refine z_istore_n hC [(0, .ref p0), (1, .int p1), (2, .int x12), (3, .int s2.2), (4, .int a4), (5, .int a6)] [1, 2, 0, 3, 4, 5] dX12_compare_74 rfl (by decide) rfl ?_
                refine z_iincv hC (1 : Int32) 3 (fun x13 => [(0, .ref p0), (1, .int p1), (2, .int x12), (3, .int x13), (4, .int a4), (5, .int a6)]) [1, 2, 3, 0, 4, 5] dX12_compare_75 rfl (by decide) (by decide) (fun _ => rfl) (fun x13 => ?_)
                refine z_goto hC 15 dX12_compare_78 (by decide) ?_
                refine z_weak [(0, .ref p0), (1, .int p1), (2, .int x12), (3, .int x13)] [0, 1, 2, 3] rfl ?_
                exact z_leaf (fun h => h)
              · refine z_iconst hC (0 : Int32) dX12_compare_72 (by decide) ?_
                refine z_iadd hC dX12_compare_73 ?_
                refine z_vli (fun x14 => ?_)
                refine z_istore_n hC [(0, .ref p0), (1, .int p1), (2, .int x14), (3, .int s2.2), (4, .int a4), (5, .int a6)] [1, 2, 0, 3, 4, 5] dX12_compare_74 rfl (by decide) rfl ?_
                refine z_iincv hC (1 : Int32) 3 (fun x15 => [(0, .ref p0), (1, .int p1), (2, .int x14), (3, .int x15), (4, .int a4), (5, .int a6)]) [1, 2, 3, 0, 4, 5] dX12_compare_75 rfl (by decide) (by decide) (fun _ => rfl) (fun x15 => ?_)
                refine z_goto hC 15 dX12_compare_78 (by decide) ?_
                refine z_weak [(0, .ref p0), (1, .int p1), (2, .int x14), (3, .int x15)] [0, 1, 2, 3] rfl ?_
                exact z_leaf (fun h => h)
            · refine z_iconst hC (0 : Int32) dX12_compare_72 (by decide) ?_
              refine z_iadd hC dX12_compare_73 ?_
              refine z_vli (fun x16 => ?_)
              refine z_istore_n hC [(0, .ref p0), (1, .int p1), (2, .int x16), (3, .int s2.2), (4, .int a4), (5, .int a6)] [1, 2, 0, 3, 4, 5] dX12_compare_74 rfl (by decide) rfl ?_
              refine z_iincv hC (1 : Int32) 3 (fun x17 => [(0, .ref p0), (1, .int p1), (2, .int x16), (3, .int x17), (4, .int a4), (5, .int a6)]) [1, 2, 3, 0, 4, 5] dX12_compare_75 rfl (by decide) (by decide) (fun _ => rfl) (fun x17 => ?_)
              refine z_goto hC 15 dX12_compare_78 (by decide) ?_
              refine z_weak [(0, .ref p0), (1, .int p1), (2, .int x16), (3, .int x17)] [0, 1, 2, 3] rfl ?_
              exact z_leaf (fun h => h)
          · refine z_if_eq hC 42 dX12_compare_35 (by decide) (fun _ => ?_) (fun _ => ?_)
            · refine z_iconst hC (0 : Int32) dX12_compare_42 (by decide) ?_
              exact hJ7 (0 : Int32)
            · refine z_iconst hC (1 : Int32) dX12_compare_38 (by decide) ?_
              refine z_goto hC 43 dX12_compare_39 (by decide) ?_
              exact hJ7 (1 : Int32)
        · refine z_icmp_eq hC 31 dX12_compare_24 (by decide) (fun _ => ?_) (fun _ => ?_)
          · refine z_iconst hC (0 : Int32) dX12_compare_31 (by decide) ?_
            exact hJ5 (0 : Int32)
          · refine z_iconst hC (1 : Int32) dX12_compare_27 (by decide) ?_
            refine z_goto hC 32 dX12_compare_28 (by decide) ?_
            exact hJ5 (1 : Int32)

theorem dX12_changes_0 : decode cX12_changes 0 = .ok (.aload_n 0, 1) := by decide +kernel
theorem dX12_changes_1 : decode cX12_changes 1 = .ok (.getfield 81, 3) := by decide +kernel
theorem dX12_changes_4 : decode cX12_changes 4 = .ok (.iload_n 1, 1) := by decide +kernel
theorem dX12_changes_5 : decode cX12_changes 5 = .ok (.iaload, 1) := by decide +kernel
theorem dX12_changes_6 : decode cX12_changes 6 = .ok (.istore_n 3, 1) := by decide +kernel
theorem dX12_changes_7 : decode cX12_changes 7 = .ok (.aload_n 0, 1) := by decide +kernel
theorem dX12_changes_8 : decode cX12_changes 8 = .ok (.getfield 81, 3) := by decide +kernel
theorem dX12_changes_11 : decode cX12_changes 11 = .ok (.iload_n 1, 1) := by decide +kernel
theorem dX12_changes_12 : decode cX12_changes 12 = .ok (.aload_n 0, 1) := by decide +kernel
theorem dX12_changes_13 : decode cX12_changes 13 = .ok (.getfield 81, 3) := by decide +kernel
theorem dX12_changes_16 : decode cX12_changes 16 = .ok (.iload_n 2, 1) := by decide +kernel
theorem dX12_changes_17 : decode cX12_changes 17 = .ok (.iaload, 1) := by decide +kernel
theorem dX12_changes_18 : decode cX12_changes 18 = .ok (.iastore, 1) := by decide +kernel
theorem dX12_changes_19 : decode cX12_changes 19 = .ok (.aload_n 0, 1) := by decide +kernel
theorem dX12_changes_20 : decode cX12_changes 20 = .ok (.getfield 81, 3) := by decide +kernel
theorem dX12_changes_23 : decode cX12_changes 23 = .ok (.iload_n 2, 1) := by decide +kernel
theorem dX12_changes_24 : decode cX12_changes 24 = .ok (.iload_n 3, 1) := by decide +kernel
theorem dX12_changes_25 : decode cX12_changes 25 = .ok (.iastore, 1) := by decide +kernel
theorem dX12_changes_26 : decode cX12_changes 26 = .ok (.return_, 1) := by decide +kernel
def FX12_changes (hp : HP) (p0 : Nat) (p1 : Int32) (p2 : Int32) : Option (HP) := (gR [12] 54 hp p0).bind (fun v1 => (rdN 0 hp v1 p1).bind (fun v2 => (gR [12] 54 hp p0).bind (fun v3 => (gR [12] 54 hp p0).bind (fun v4 => (rdN 0 hp v4 p2).bind (fun v5 => (wrI hp v3 p1 v5).bind (fun hp6 => (gR [12] 54 hp6 p0).bind (fun v7 => (wrI hp6 v7 p2 v2).bind (fun hp8 => some hp8))))))))
set_option maxHeartbeats 4000000 in
set_option maxRecDepth 100000 in
theorem ctX12_changes (l : Launch) (D : va_G) (tg : Nat → ClassId) (bs : Nat) (sa : Nat → Nat) (hp : HP) (p0 : Nat) (p1 : Int32) (p2 : Int32) : Ct l D tg bs sa yX12_changes cX12_changes 4 none 0 [.ref p0, .int p1, .int p2] hp (FX12_changes hp p0 p1 p2) (fun _ => none) (fun r => r) := by
  refine Ct.of (by decide) (Nat.le_of_ble_eq_true rfl) ?_
  intro V Q hVl hVd hVt hVb hVs hC
  subst hVl; subst hVd; subst hVt; subst hVb; subst hVs
  unfold FX12_changes
  show Zs V Q (0, 0) 4 _ _ hp [(0, .ref p0), (1, .int p1), (2, .int p2)] 0 []
  refine z_aload_n hC 0 dX12_changes_0 rfl rfl ?_
  refine z_getR hC lgRX12_81 dX12_changes_1 (fun v1 => ?_)
  refine z_iload_n hC 1 dX12_changes_4 rfl rfl ?_
  refine z_iald hC dX12_changes_5 (fun v2 => ?_)
  refine z_istore_n hC [(0, .ref p0), (1, .int p1), (2, .int p2), (3, .int v2)] [1, 2, 3, 0] dX12_changes_6 rfl (by decide) rfl ?_
  refine z_aload_n hC 0 dX12_changes_7 rfl rfl ?_
  refine z_getR hC lgRX12_81 dX12_changes_8 (fun v3 => ?_)
  refine z_iload_n hC 1 dX12_changes_11 rfl rfl ?_
  refine z_aload_n hC 0 dX12_changes_12 rfl rfl ?_
  refine z_getR hC lgRX12_81 dX12_changes_13 (fun v4 => ?_)
  refine z_iload_n hC 2 dX12_changes_16 rfl rfl ?_
  refine z_iald hC dX12_changes_17 (fun v5 => ?_)
  refine z_iast hC dX12_changes_18 (fun hp6 => ?_)
  refine z_aload_n hC 0 dX12_changes_19 rfl rfl ?_
  refine z_getR hC lgRX12_81 dX12_changes_20 (fun v7 => ?_)
  refine z_iload_n hC 2 dX12_changes_23 rfl rfl ?_
  refine z_iload_n hC 3 dX12_changes_24 rfl rfl ?_
  refine z_iast hC dX12_changes_25 (fun hp8 => ?_)
  exact z_vret hC (fun h => h) dX12_changes_26

theorem dX12_goesNext_0 : decode cX12_goesNext 0 = .ok (.iload_n 1, 1) := by decide +kernel
theorem dX12_goesNext_1 : decode cX12_goesNext 1 = .ok (.iconst 2, 1) := by decide +kernel
theorem dX12_goesNext_2 : decode cX12_goesNext 2 = .ok (.isub, 1) := by decide +kernel
theorem dX12_goesNext_3 : decode cX12_goesNext 3 = .ok (.istore_n 2, 1) := by decide +kernel
theorem dX12_goesNext_4 : decode cX12_goesNext 4 = .ok (.iload_n 2, 1) := by decide +kernel
theorem dX12_goesNext_5 : decode cX12_goesNext 5 = .ok (.ifCond .lt 27, 3) := by decide +kernel
theorem dX12_goesNext_8 : decode cX12_goesNext 8 = .ok (.aload_n 0, 1) := by decide +kernel
theorem dX12_goesNext_9 : decode cX12_goesNext 9 = .ok (.getfield 81, 3) := by decide +kernel
theorem dX12_goesNext_12 : decode cX12_goesNext 12 = .ok (.iload_n 2, 1) := by decide +kernel
theorem dX12_goesNext_13 : decode cX12_goesNext 13 = .ok (.iaload, 1) := by decide +kernel
theorem dX12_goesNext_14 : decode cX12_goesNext 14 = .ok (.aload_n 0, 1) := by decide +kernel
theorem dX12_goesNext_15 : decode cX12_goesNext 15 = .ok (.getfield 81, 3) := by decide +kernel
theorem dX12_goesNext_18 : decode cX12_goesNext 18 = .ok (.iload_n 2, 1) := by decide +kernel
theorem dX12_goesNext_19 : decode cX12_goesNext 19 = .ok (.iconst 1, 1) := by decide +kernel
theorem dX12_goesNext_20 : decode cX12_goesNext 20 = .ok (.iadd, 1) := by decide +kernel
theorem dX12_goesNext_21 : decode cX12_goesNext 21 = .ok (.iaload, 1) := by decide +kernel
theorem dX12_goesNext_22 : decode cX12_goesNext 22 = .ok (.if_icmp .le 10, 3) := by decide +kernel
theorem dX12_goesNext_25 : decode cX12_goesNext 25 = .ok (.iload_n 2, 1) := by decide +kernel
theorem dX12_goesNext_26 : decode cX12_goesNext 26 = .ok (.iconst 1, 1) := by decide +kernel
theorem dX12_goesNext_27 : decode cX12_goesNext 27 = .ok (.isub, 1) := by decide +kernel
theorem dX12_goesNext_28 : decode cX12_goesNext 28 = .ok (.istore_n 2, 1) := by decide +kernel
theorem dX12_goesNext_29 : decode cX12_goesNext 29 = .ok (.goto (-25), 3) := by decide +kernel
theorem dX12_goesNext_32 : decode cX12_goesNext 32 = .ok (.iload_n 2, 1) := by decide +kernel
theorem dX12_goesNext_33 : decode cX12_goesNext 33 = .ok (.ifCond .ge 5, 3) := by decide +kernel
theorem dX12_goesNext_36 : decode cX12_goesNext 36 = .ok (.iconst 0, 1) := by decide +kernel
theorem dX12_goesNext_37 : decode cX12_goesNext 37 = .ok (.ireturn, 1) := by decide +kernel
theorem dX12_goesNext_38 : decode cX12_goesNext 38 = .ok (.iload_n 1, 1) := by decide +kernel
theorem dX12_goesNext_39 : decode cX12_goesNext 39 = .ok (.iconst 1, 1) := by decide +kernel
theorem dX12_goesNext_40 : decode cX12_goesNext 40 = .ok (.isub, 1) := by decide +kernel
theorem dX12_goesNext_41 : decode cX12_goesNext 41 = .ok (.istore_n 3, 1) := by decide +kernel
theorem dX12_goesNext_42 : decode cX12_goesNext 42 = .ok (.aload_n 0, 1) := by decide +kernel
theorem dX12_goesNext_43 : decode cX12_goesNext 43 = .ok (.getfield 81, 3) := by decide +kernel
theorem dX12_goesNext_46 : decode cX12_goesNext 46 = .ok (.iload_n 3, 1) := by decide +kernel
theorem dX12_goesNext_47 : decode cX12_goesNext 47 = .ok (.iaload, 1) := by decide +kernel
theorem dX12_goesNext_48 : decode cX12_goesNext 48 = .ok (.aload_n 0, 1) := by decide +kernel
theorem dX12_goesNext_49 : decode cX12_goesNext 49 = .ok (.getfield 81, 3) := by decide +kernel
theorem dX12_goesNext_52 : decode cX12_goesNext 52 = .ok (.iload_n 2, 1) := by decide +kernel
theorem dX12_goesNext_53 : decode cX12_goesNext 53 = .ok (.iaload, 1) := by decide +kernel
theorem dX12_goesNext_54 : decode cX12_goesNext 54 = .ok (.if_icmp .ge 10, 3) := by decide +kernel
theorem dX12_goesNext_57 : decode cX12_goesNext 57 = .ok (.iload_n 3, 1) := by decide +kernel
theorem dX12_goesNext_58 : decode cX12_goesNext 58 = .ok (.iconst 1, 1) := by decide +kernel
theorem dX12_goesNext_59 : decode cX12_goesNext 59 = .ok (.isub, 1) := by decide +kernel
theorem dX12_goesNext_60 : decode cX12_goesNext 60 = .ok (.istore_n 3, 1) := by decide +kernel
theorem dX12_goesNext_61 : decode cX12_goesNext 61 = .ok (.goto (-19), 3) := by decide +kernel
theorem dX12_goesNext_64 : decode cX12_goesNext 64 = .ok (.aload_n 0, 1) := by decide +kernel
theorem dX12_goesNext_65 : decode cX12_goesNext 65 = .ok (.iload_n 2, 1) := by decide +kernel
theorem dX12_goesNext_66 : decode cX12_goesNext 66 = .ok (.iload_n 3, 1) := by decide +kernel
theorem dX12_goesNext_67 : decode cX12_goesNext 67 = .ok (.invokevirtual 444, 3) := by decide +kernel
theorem dX12_goesNext_70 : decode cX12_goesNext 70 = .ok (.iload_n 2, 1) := by decide +kernel
theorem dX12_goesNext_71 : decode cX12_goesNext 71 = .ok (.iconst 1, 1) := by decide +kernel
theorem dX12_goesNext_72 : decode cX12_goesNext 72 = .ok (.iadd, 1) := by decide +kernel
theorem dX12_goesNext_73 : decode cX12_goesNext 73 = .ok (.istore 4, 2) := by decide +kernel
theorem dX12_goesNext_75 : decode cX12_goesNext 75 = .ok (.iload_n 1, 1) := by decide +kernel
theorem dX12_goesNext_76 : decode cX12_goesNext 76 = .ok (.iconst 1, 1) := by decide +kernel
theorem dX12_goesNext_77 : decode cX12_goesNext 77 = .ok (.isub, 1) := by decide +kernel
theorem dX12_goesNext_78 : decode cX12_goesNext 78 = .ok (.istore 5, 2) := by decide +kernel
theorem dX12_goesNext_80 : decode cX12_goesNext 80 = .ok (.iload 4, 2) := by decide +kernel
theorem dX12_goesNext_82 : decode cX12_goesNext 82 = .ok (.iload 5, 2) := by decide +kernel
theorem dX12_goesNext_84 : decode cX12_goesNext 84 = .ok (.if_icmp .ge 20, 3) := by decide +kernel
theorem dX12_goesNext_87 : decode cX12_goesNext 87 = .ok (.aload_n 0, 1) := by decide +kernel
theorem dX12_goesNext_88 : decode cX12_goesNext 88 = .ok (.iload 4, 2) := by decide +kernel
theorem dX12_goesNext_90 : decode cX12_goesNext 90 = .ok (.iload 5, 2) := by decide +kernel
theorem dX12_goesNext_92 : decode cX12_goesNext 92 = .ok (.invokevirtual 444, 3) := by decide +kernel
theorem dX12_goesNext_95 : decode cX12_goesNext 95 = .ok (.iinc 4 1, 3) := by decide +kernel
theorem dX12_goesNext_98 : decode cX12_goesNext 98 = .ok (.iinc 5 (-1), 3) := by decide +kernel
theorem dX12_goesNext_101 : decode cX12_goesNext 101 = .ok (.goto (-21), 3) := by decide +kernel
theorem dX12_goesNext_104 : decode cX12_goesNext 104 = .ok (.iconst 1, 1) := by decide +kernel
theorem dX12_goesNext_105 : decode cX12_goesNext 105 = .ok (.ireturn, 1) := by decide +kernel
def FX12_goesNext (hp : HP) (p0 : Nat) (p1 : Int32) : Option (Int32 × HP) := vl (p1 - (2 : Int32)) (fun x1 => (lp (fun (s2 : Int32) => if s2 < 0 then some (Sum.inl s2) else (gR [12] 54 hp p0).bind (fun v20 => (rdN 0 hp v20 s2).bind (fun v21 => (gR [12] 54 hp p0).bind (fun v22 => (rdN 0 hp v22 (s2 + (1 : Int32))).bind (fun v23 => if v21 ≤ v23 then some (Sum.inl s2) else vl (s2 - (1 : Int32)) (fun x24 => some (Sum.inr x24))))))) FU x1).bind (fun (y3 : Int32) => if 0 ≤ y3 then vl (p1 - (1 : Int32)) (fun x4 => (lp (fun (s5 : Int32) => (gR [12] 54 hp p0).bind (fun v15 => (rdN 0 hp v15 s5).bind (fun v16 => (gR [12] 54 hp p0).bind (fun v17 => (rdN 0 hp v17 y3).bind (fun v18 => if v18 ≤ v16 then some (Sum.inl s5) else vl (s5 - (1 : Int32)) (fun x19 => some (Sum.inr x19))))))) FU x4).bind (fun (y6 : Int32) => (rc [12] hp p0 (FX12_changes hp p0 y3 y6)).bind (fun w7 => vl (y3 + (1 : Int32)) (fun x8 => vl (p1 - (1 : Int32)) (fun x9 => (lp (fun (s10 : Int32 × Int32 × HP) => if s10.2.1 ≤ s10.1 then some (Sum.inl s10.2.2) else (rc [12] s10.2.2 p0 (FX12_changes s10.2.2 p0 s10.1 s10.2.1)).bind (fun w12 => vl (s10.1 + (1 : Int32)) (fun x13 => vl (s10.2.1 + (-1 : Int32)) (fun x14 => some (Sum.inr (x13, x14, w12)))))) FU (x8, x9, w7)).bind (fun (y11 : HP) => some ((1 : Int32), y11))))))) else some ((0 : Int32), hp)))
set_option maxHeartbeats 4000000 in
set_option maxRecDepth 100000 in
theorem ctX12_goesNext (l : Launch) (D : va_G) (tg : Nat → ClassId) (bs : Nat) (sa : Nat → Nat) (hp : HP) (p0 : Nat) (p1 : Int32) : Ct l D tg bs sa yX12_goesNext cX12_goesNext 6 (some .boolean) 1 [.ref p0, .int p1] hp (FX12_goesNext hp p0 p1) (fun r => some (.int r.1)) (fun r => r.2) := by
  refine Ct.of (by decide) (Nat.le_of_ble_eq_true rfl) ?_
  intro V Q hVl hVd hVt hVb hVs hC
  subst hVl; subst hVd; subst hVt; subst hVb; subst hVs
  unfold FX12_goesNext
  show Zs V Q (0, 0) 6 _ _ hp [(0, .ref p0), (1, .int p1)] 0 []
  refine z_iload_n hC 1 dX12_goesNext_0 rfl rfl ?_
  refine z_iconst hC (2 : Int32) dX12_goesNext_1 (by decide) ?_
  refine z_isub hC dX12_goesNext_2 ?_
  refine z_vli (fun x1 => ?_)
  refine z_istore_n hC [(0, .ref p0), (1, .int p1), (2, .int x1)] [1, 2, 0] dX12_goesNext_3 rfl (by decide) rfl ?_
  refine z_lp (S := Int32) (Y := Int32) (fun s2 => hp) (fun s2 => [(0, .ref p0), (1, .int p1), (2, .int s2)]) (fun y3 => hp) (fun y3 => [(0, .ref p0), (1, .int p1), (2, .int y3)]) 32 [] (fun y3 => ?_) (fun s2 => ?_) rfl rfl
  · refine z_iload_n hC 2 dX12_goesNext_32 rfl rfl ?_
    refine z_if_ge hC 38 dX12_goesNext_33 (by decide) (fun _ => ?_) (fun _ => ?_)
    · refine z_iload_n hC 1 dX12_goesNext_38 rfl rfl ?_
      refine z_iconst hC (1 : Int32) dX12_goesNext_39 (by decide) ?_
      refine z_isub hC dX12_goesNext_40 ?_
      refine z_vli (fun x4 => ?_)
      refine z_istore_n hC [(0, .ref p0), (1, .int p1), (2, .int y3), (3, .int x4)] [1, 2, 3, 0] dX12_goesNext_41 rfl (by decide) rfl ?_
      refine z_lp (S := Int32) (Y := Int32) (fun s5 => hp) (fun s5 => [(0, .ref p0), (1, .int p1), (2, .int y3), (3, .int s5)]) (fun y6 => hp) (fun y6 => [(0, .ref p0), (1, .int p1), (2, .int y3), (3, .int y6)]) 64 [] (fun y6 => ?_) (fun s5 => ?_) rfl rfl
      · refine z_aload_n hC 0 dX12_goesNext_64 rfl rfl ?_
        refine z_iload_n hC 2 dX12_goesNext_65 rfl rfl ?_
        refine z_iload_n hC 3 dX12_goesNext_66 rfl rfl ?_
        refine z_callVv hC (ci := 12) rfl lmRX12_444 (ctX12_changes (vLa V) (vDa V) (vTg V) (vBs V) (vSa V) hp p0 y3 y6) (by decide) hn0 dX12_goesNext_67 rfl rfl (Nat.le_of_ble_eq_true rfl) (fun w7 => ?_)
        refine z_iload_n hC 2 dX12_goesNext_70 rfl rfl ?_
        refine z_iconst hC (1 : Int32) dX12_goesNext_71 (by decide) ?_
        refine z_iadd hC dX12_goesNext_72 ?_
        refine z_vli (fun x8 => ?_)
        refine z_istore hC [(0, .ref p0), (1, .int p1), (2, .int y3), (3, .int y6), (4, .int x8)] [1, 2, 3, 4, 0] dX12_goesNext_73 (by decide) rfl ?_
        refine z_iload_n hC 1 dX12_goesNext_75 rfl rfl ?_
        refine z_iconst hC (1 : Int32) dX12_goesNext_76 (by decide) ?_
        refine z_isub hC dX12_goesNext_77 ?_
        refine z_vli (fun x9 => ?_)
        refine z_istore hC [(0, .ref p0), (1, .int p1), (2, .int y3), (3, .int y6), (4, .int x8), (5, .int x9)] [1, 2, 3, 4, 5, 0] dX12_goesNext_78 (by decide) rfl ?_
        refine z_weak [(0, .ref p0), (4, .int x8), (5, .int x9)] [0, 4, 5] rfl ?_
        refine z_lp (S := Int32 × Int32 × HP) (Y := HP) (fun s10 => s10.2.2) (fun s10 => [(0, .ref p0), (4, .int s10.1), (5, .int s10.2.1)]) (fun y11 => y11) (fun y11 => []) 104 [] (fun y11 => ?_) (fun s10 => ?_) rfl rfl
        · refine z_iconst hC (1 : Int32) dX12_goesNext_104 (by decide) ?_
          exact z_zret hC (by decide) (fun h => h) dX12_goesNext_105
        · refine z_iload hC 1 dX12_goesNext_80 rfl ?_
          refine z_iload hC 2 dX12_goesNext_82 rfl ?_
          refine z_icmp_ge hC 104 dX12_goesNext_84 (by decide) (fun _ => ?_) (fun _ => ?_)
          · refine z_weak [] [] rfl ?_
            exact z_leaf (fun h => h)
          · refine z_aload_n hC 0 dX12_goesNext_87 rfl rfl ?_
            refine z_iload hC 1 dX12_goesNext_88 rfl ?_
            refine z_iload hC 2 dX12_goesNext_90 rfl ?_
            refine z_callVv hC (ci := 12) rfl lmRX12_444 (ctX12_changes (vLa V) (vDa V) (vTg V) (vBs V) (vSa V) s10.2.2 p0 s10.1 s10.2.1) (by decide) hn0 dX12_goesNext_92 rfl rfl (Nat.le_of_ble_eq_true rfl) (fun w12 => ?_)
            refine z_iincv hC (1 : Int32) 1 (fun x13 => [(0, .ref p0), (4, .int x13), (5, .int s10.2.1)]) [1, 0, 2] dX12_goesNext_95 rfl (by decide) (by decide) (fun _ => rfl) (fun x13 => ?_)
            refine z_iincv hC (-1 : Int32) 2 (fun x14 => [(0, .ref p0), (4, .int x13), (5, .int x14)]) [1, 2, 0] dX12_goesNext_98 rfl (by decide) (by decide) (fun _ => rfl) (fun x14 => ?_)
            refine z_goto hC 80 dX12_goesNext_101 (by decide) ?_
            exact z_leaf (fun h => h)
      · refine z_aload_n hC 0 dX12_goesNext_42 rfl rfl ?_
        refine z_getR hC lgRX12_81 dX12_goesNext_43 (fun v15 => ?_)
        refine z_iload_n hC 3 dX12_goesNext_46 rfl rfl ?_
        refine z_iald hC dX12_goesNext_47 (fun v16 => ?_)
        refine z_aload_n hC 0 dX12_goesNext_48 rfl rfl ?_
        refine z_getR hC lgRX12_81 dX12_goesNext_49 (fun v17 => ?_)
        refine z_iload_n hC 2 dX12_goesNext_52 rfl rfl ?_
        refine z_iald hC dX12_goesNext_53 (fun v18 => ?_)
        refine z_icmp_ge hC 64 dX12_goesNext_54 (by decide) (fun _ => ?_) (fun _ => ?_)
        · exact z_leaf (fun h => h)
        · refine z_iload_n hC 3 dX12_goesNext_57 rfl rfl ?_
          refine z_iconst hC (1 : Int32) dX12_goesNext_58 (by decide) ?_
          refine z_isub hC dX12_goesNext_59 ?_
          refine z_vli (fun x19 => ?_)
          refine z_istore_n hC [(0, .ref p0), (1, .int p1), (2, .int y3), (3, .int x19)] [1, 2, 3, 0] dX12_goesNext_60 rfl (by decide) rfl ?_
          refine z_goto hC 42 dX12_goesNext_61 (by decide) ?_
          exact z_leaf (fun h => h)
    · refine z_iconst hC (0 : Int32) dX12_goesNext_36 (by decide) ?_
      exact z_zret hC (by decide) (fun h => h) dX12_goesNext_37
  · refine z_iload_n hC 2 dX12_goesNext_4 rfl rfl ?_
    refine z_if_lt hC 32 dX12_goesNext_5 (by decide) (fun _ => ?_) (fun _ => ?_)
    · exact z_leaf (fun h => h)
    · refine z_aload_n hC 0 dX12_goesNext_8 rfl rfl ?_
      refine z_getR hC lgRX12_81 dX12_goesNext_9 (fun v20 => ?_)
      refine z_iload_n hC 2 dX12_goesNext_12 rfl rfl ?_
      refine z_iald hC dX12_goesNext_13 (fun v21 => ?_)
      refine z_aload_n hC 0 dX12_goesNext_14 rfl rfl ?_
      refine z_getR hC lgRX12_81 dX12_goesNext_15 (fun v22 => ?_)
      refine z_iload_n hC 2 dX12_goesNext_18 rfl rfl ?_
      refine z_iconst hC (1 : Int32) dX12_goesNext_19 (by decide) ?_
      refine z_iadd hC dX12_goesNext_20 ?_
      refine z_iald hC dX12_goesNext_21 (fun v23 => ?_)
      refine z_icmp_le hC 32 dX12_goesNext_22 (by decide) (fun _ => ?_) (fun _ => ?_)
      · exact z_leaf (fun h => h)
      · refine z_iload_n hC 2 dX12_goesNext_25 rfl rfl ?_
        refine z_iconst hC (1 : Int32) dX12_goesNext_26 (by decide) ?_
        refine z_isub hC dX12_goesNext_27 ?_
        refine z_vli (fun x24 => ?_)
        refine z_istore_n hC [(0, .ref p0), (1, .int p1), (2, .int x24)] [1, 2, 0] dX12_goesNext_28 rfl (by decide) rfl ?_
        refine z_goto hC 4 dX12_goesNext_29 (by decide) ?_
        exact z_leaf (fun h => h)

theorem dX12_stateAt_0 : decode cX12_stateAt 0 = .ok (.aload_n 0, 1) := by decide +kernel
theorem dX12_stateAt_1 : decode cX12_stateAt 1 = .ok (.getfield 26, 3) := by decide +kernel
theorem dX12_stateAt_4 : decode cX12_stateAt 4 = .ok (.iconst 2, 1) := by decide +kernel
theorem dX12_stateAt_5 : decode cX12_stateAt 5 = .ok (.iload_n 1, 1) := by decide +kernel
theorem dX12_stateAt_6 : decode cX12_stateAt 6 = .ok (.imul, 1) := by decide +kernel
theorem dX12_stateAt_7 : decode cX12_stateAt 7 = .ok (.baload, 1) := by decide +kernel
theorem dX12_stateAt_8 : decode cX12_stateAt 8 = .ok (.sipush 255, 3) := by decide +kernel
theorem dX12_stateAt_11 : decode cX12_stateAt 11 = .ok (.iand, 1) := by decide +kernel
theorem dX12_stateAt_12 : decode cX12_stateAt 12 = .ok (.sipush 256, 3) := by decide +kernel
theorem dX12_stateAt_15 : decode cX12_stateAt 15 = .ok (.imul, 1) := by decide +kernel
theorem dX12_stateAt_16 : decode cX12_stateAt 16 = .ok (.aload_n 0, 1) := by decide +kernel
theorem dX12_stateAt_17 : decode cX12_stateAt 17 = .ok (.getfield 26, 3) := by decide +kernel
theorem dX12_stateAt_20 : decode cX12_stateAt 20 = .ok (.iconst 2, 1) := by decide +kernel
theorem dX12_stateAt_21 : decode cX12_stateAt 21 = .ok (.iload_n 1, 1) := by decide +kernel
theorem dX12_stateAt_22 : decode cX12_stateAt 22 = .ok (.imul, 1) := by decide +kernel
theorem dX12_stateAt_23 : decode cX12_stateAt 23 = .ok (.iconst 1, 1) := by decide +kernel
theorem dX12_stateAt_24 : decode cX12_stateAt 24 = .ok (.iadd, 1) := by decide +kernel
theorem dX12_stateAt_25 : decode cX12_stateAt 25 = .ok (.baload, 1) := by decide +kernel
theorem dX12_stateAt_26 : decode cX12_stateAt 26 = .ok (.sipush 255, 3) := by decide +kernel
theorem dX12_stateAt_29 : decode cX12_stateAt 29 = .ok (.iand, 1) := by decide +kernel
theorem dX12_stateAt_30 : decode cX12_stateAt 30 = .ok (.iadd, 1) := by decide +kernel
theorem dX12_stateAt_31 : decode cX12_stateAt 31 = .ok (.ireturn, 1) := by decide +kernel
def FX12_stateAt (hp : HP) (p0 : Nat) (p1 : Int32) : Option (Int32) := (gR [12] 13 hp p0).bind (fun v1 => (rdN 1 hp v1 ((2 : Int32) * p1)).bind (fun v2 => (gR [12] 13 hp p0).bind (fun v3 => (rdN 1 hp v3 (((2 : Int32) * p1) + (1 : Int32))).bind (fun v4 => some (((v2 &&& (255 : Int32)) * (256 : Int32)) + (v4 &&& (255 : Int32)))))))
set_option maxHeartbeats 4000000 in
set_option maxRecDepth 100000 in
theorem ctX12_stateAt (l : Launch) (D : va_G) (tg : Nat → ClassId) (bs : Nat) (sa : Nat → Nat) (hp : HP) (p0 : Nat) (p1 : Int32) : Ct l D tg bs sa yX12_stateAt cX12_stateAt 2 (some .int) 0 [.ref p0, .int p1] hp (FX12_stateAt hp p0 p1) (fun r => some (.int r)) (fun _ => hp) := by
  refine Ct.of (by decide) (Nat.le_of_ble_eq_true rfl) ?_
  intro V Q hVl hVd hVt hVb hVs hC
  subst hVl; subst hVd; subst hVt; subst hVb; subst hVs
  unfold FX12_stateAt
  show Zs V Q (0, 0) 2 _ _ hp [(0, .ref p0), (1, .int p1)] 0 []
  refine z_aload_n hC 0 dX12_stateAt_0 rfl rfl ?_
  refine z_getR hC lgRX12_26 dX12_stateAt_1 (fun v1 => ?_)
  refine z_iconst hC (2 : Int32) dX12_stateAt_4 (by decide) ?_
  refine z_iload_n hC 1 dX12_stateAt_5 rfl rfl ?_
  refine z_imul hC dX12_stateAt_6 ?_
  refine z_bald hC dX12_stateAt_7 (fun v2 => ?_)
  refine z_sipush hC (255 : Int32) dX12_stateAt_8 (by decide) ?_
  refine z_iand hC dX12_stateAt_11 ?_
  refine z_sipush hC (256 : Int32) dX12_stateAt_12 (by decide) ?_
  refine z_imul hC dX12_stateAt_15 ?_
  refine z_aload_n hC 0 dX12_stateAt_16 rfl rfl ?_
  refine z_getR hC lgRX12_26 dX12_stateAt_17 (fun v3 => ?_)
  refine z_iconst hC (2 : Int32) dX12_stateAt_20 (by decide) ?_
  refine z_iload_n hC 1 dX12_stateAt_21 rfl rfl ?_
  refine z_imul hC dX12_stateAt_22 ?_
  refine z_iconst hC (1 : Int32) dX12_stateAt_23 (by decide) ?_
  refine z_iadd hC dX12_stateAt_24 ?_
  refine z_bald hC dX12_stateAt_25 (fun v4 => ?_)
  refine z_sipush hC (255 : Int32) dX12_stateAt_26 (by decide) ?_
  refine z_iand hC dX12_stateAt_29 ?_
  refine z_iadd hC dX12_stateAt_30 ?_
  exact z_iret hC (fun h => h) dX12_stateAt_31

theorem dX12_priceOfRow_0 : decode cX12_priceOfRow 0 = .ok (.aload_n 0, 1) := by decide +kernel
theorem dX12_priceOfRow_1 : decode cX12_priceOfRow 1 = .ok (.getfield 121, 3) := by decide +kernel
theorem dX12_priceOfRow_4 : decode cX12_priceOfRow 4 = .ok (.istore_n 2, 1) := by decide +kernel
theorem dX12_priceOfRow_5 : decode cX12_priceOfRow 5 = .ok (.iconst 0, 1) := by decide +kernel
theorem dX12_priceOfRow_6 : decode cX12_priceOfRow 6 = .ok (.istore_n 3, 1) := by decide +kernel
theorem dX12_priceOfRow_7 : decode cX12_priceOfRow 7 = .ok (.iconst 0, 1) := by decide +kernel
theorem dX12_priceOfRow_8 : decode cX12_priceOfRow 8 = .ok (.istore 4, 2) := by decide +kernel
theorem dX12_priceOfRow_10 : decode cX12_priceOfRow 10 = .ok (.iload 4, 2) := by decide +kernel
theorem dX12_priceOfRow_12 : decode cX12_priceOfRow 12 = .ok (.iload_n 1, 1) := by decide +kernel
theorem dX12_priceOfRow_13 : decode cX12_priceOfRow 13 = .ok (.if_icmp .ge 41, 3) := by decide +kernel
theorem dX12_priceOfRow_16 : decode cX12_priceOfRow 16 = .ok (.iload_n 3, 1) := by decide +kernel
theorem dX12_priceOfRow_17 : decode cX12_priceOfRow 17 = .ok (.aload_n 0, 1) := by decide +kernel
theorem dX12_priceOfRow_18 : decode cX12_priceOfRow 18 = .ok (.iload_n 2, 1) := by decide +kernel
theorem dX12_priceOfRow_19 : decode cX12_priceOfRow 19 = .ok (.aload_n 0, 1) := by decide +kernel
theorem dX12_priceOfRow_20 : decode cX12_priceOfRow 20 = .ok (.aload_n 0, 1) := by decide +kernel
theorem dX12_priceOfRow_21 : decode cX12_priceOfRow 21 = .ok (.getfield 81, 3) := by decide +kernel
theorem dX12_priceOfRow_24 : decode cX12_priceOfRow 24 = .ok (.iload 4, 2) := by decide +kernel
theorem dX12_priceOfRow_26 : decode cX12_priceOfRow 26 = .ok (.iaload, 1) := by decide +kernel
theorem dX12_priceOfRow_27 : decode cX12_priceOfRow 27 = .ok (.invokevirtual 447, 3) := by decide +kernel
theorem dX12_priceOfRow_30 : decode cX12_priceOfRow 30 = .ok (.ixor, 1) := by decide +kernel
theorem dX12_priceOfRow_31 : decode cX12_priceOfRow 31 = .ok (.invokevirtual 232, 3) := by decide +kernel
theorem dX12_priceOfRow_34 : decode cX12_priceOfRow 34 = .ok (.iadd, 1) := by decide +kernel
theorem dX12_priceOfRow_35 : decode cX12_priceOfRow 35 = .ok (.istore_n 3, 1) := by decide +kernel
theorem dX12_priceOfRow_36 : decode cX12_priceOfRow 36 = .ok (.aload_n 0, 1) := by decide +kernel
theorem dX12_priceOfRow_37 : decode cX12_priceOfRow 37 = .ok (.aload_n 0, 1) := by decide +kernel
theorem dX12_priceOfRow_38 : decode cX12_priceOfRow 38 = .ok (.getfield 81, 3) := by decide +kernel
theorem dX12_priceOfRow_41 : decode cX12_priceOfRow 41 = .ok (.iload 4, 2) := by decide +kernel
theorem dX12_priceOfRow_43 : decode cX12_priceOfRow 43 = .ok (.iaload, 1) := by decide +kernel
theorem dX12_priceOfRow_44 : decode cX12_priceOfRow 44 = .ok (.invokevirtual 447, 3) := by decide +kernel
theorem dX12_priceOfRow_47 : decode cX12_priceOfRow 47 = .ok (.istore_n 2, 1) := by decide +kernel
theorem dX12_priceOfRow_48 : decode cX12_priceOfRow 48 = .ok (.iinc 4 1, 3) := by decide +kernel
theorem dX12_priceOfRow_51 : decode cX12_priceOfRow 51 = .ok (.goto (-41), 3) := by decide +kernel
theorem dX12_priceOfRow_54 : decode cX12_priceOfRow 54 = .ok (.iload_n 3, 1) := by decide +kernel
theorem dX12_priceOfRow_55 : decode cX12_priceOfRow 55 = .ok (.ireturn, 1) := by decide +kernel
def FX12_priceOfRow (hp : HP) (p0 : Nat) (p1 : Int32) : Option (Int32) := (gI [12] 7 hp p0).bind (fun v1 => (lp (fun (s2 : Int32 × Int32 × Int32) => if p1 ≤ s2.2.2 then some (Sum.inl s2.2.1) else (gR [12] 54 hp p0).bind (fun v4 => (rdN 0 hp v4 s2.2.2).bind (fun v5 => (rc [12] hp p0 (FX12_stateAt hp p0 v5)).bind (fun v6 => (rc [12] hp p0 (FX12_pricesOf hp p0 (s2.1 ^^^ v6))).bind (fun v7 => vl (s2.2.1 + v7) (fun x8 => (gR [12] 54 hp p0).bind (fun v9 => (rdN 0 hp v9 s2.2.2).bind (fun v10 => (rc [12] hp p0 (FX12_stateAt hp p0 v10)).bind (fun v11 => vl (s2.2.2 + (1 : Int32)) (fun x12 => some (Sum.inr (v11, x8, x12)))))))))))) FU (v1, (0 : Int32), (0 : Int32))).bind (fun (y3 : Int32) => some y3))
set_option maxHeartbeats 4000000 in
set_option maxRecDepth 100000 in
theorem ctX12_priceOfRow (l : Launch) (D : va_G) (tg : Nat → ClassId) (bs : Nat) (sa : Nat → Nat) (hp : HP) (p0 : Nat) (p1 : Int32) : Ct l D tg bs sa yX12_priceOfRow cX12_priceOfRow 5 (some .int) 2 [.ref p0, .int p1] hp (FX12_priceOfRow hp p0 p1) (fun r => some (.int r)) (fun _ => hp) := by
  refine Ct.of (by decide) (Nat.le_of_ble_eq_true rfl) ?_
  intro V Q hVl hVd hVt hVb hVs hC
  subst hVl; subst hVd; subst hVt; subst hVb; subst hVs
  unfold FX12_priceOfRow
  show Zs V Q (0, 0) 5 _ _ hp [(0, .ref p0), (1, .int p1)] 0 []
  refine z_aload_n hC 0 dX12_priceOfRow_0 rfl rfl ?_
  refine z_getI hC lgRX12_121 dX12_priceOfRow_1 (fun v1 => ?_)
  refine z_istore_n hC [(0, .ref p0), (1, .int p1), (2, .int v1)] [1, 2, 0] dX12_priceOfRow_4 rfl (by decide) rfl ?_
  refine z_iconst hC (0 : Int32) dX12_priceOfRow_5 (by decide) ?_
  refine z_istore_n hC [(0, .ref p0), (1, .int p1), (2, .int v1), (3, .int (0 : Int32))] [1, 2, 3, 0] dX12_priceOfRow_6 rfl (by decide) rfl ?_
  refine z_iconst hC (0 : Int32) dX12_priceOfRow_7 (by decide) ?_
  refine z_istore hC [(0, .ref p0), (1, .int p1), (2, .int v1), (3, .int (0 : Int32)), (4, .int (0 : Int32))] [1, 2, 3, 4, 0] dX12_priceOfRow_8 (by decide) rfl ?_
  refine z_lp (S := Int32 × Int32 × Int32) (Y := Int32) (fun s2 => hp) (fun s2 => [(0, .ref p0), (1, .int p1), (2, .int s2.1), (3, .int s2.2.1), (4, .int s2.2.2)]) (fun y3 => hp) (fun y3 => [(3, .int y3)]) 54 [] (fun y3 => ?_) (fun s2 => ?_) rfl rfl
  · refine z_iload_n hC 0 dX12_priceOfRow_54 rfl rfl ?_
    exact z_iret hC (fun h => h) dX12_priceOfRow_55
  · refine z_iload hC 4 dX12_priceOfRow_10 rfl ?_
    refine z_iload_n hC 1 dX12_priceOfRow_12 rfl rfl ?_
    refine z_icmp_ge hC 54 dX12_priceOfRow_13 (by decide) (fun _ => ?_) (fun _ => ?_)
    · refine z_weak [(3, .int s2.2.1)] [3] rfl ?_
      exact z_leaf (fun h => h)
    · refine z_iload_n hC 3 dX12_priceOfRow_16 rfl rfl ?_
      refine z_aload_n hC 0 dX12_priceOfRow_17 rfl rfl ?_
      refine z_iload_n hC 2 dX12_priceOfRow_18 rfl rfl ?_
      refine z_aload_n hC 0 dX12_priceOfRow_19 rfl rfl ?_
      refine z_aload_n hC 0 dX12_priceOfRow_20 rfl rfl ?_
      refine z_getR hC lgRX12_81 dX12_priceOfRow_21 (fun v4 => ?_)
      refine z_iload hC 4 dX12_priceOfRow_24 rfl ?_
      refine z_iald hC dX12_priceOfRow_26 (fun v5 => ?_)
      refine z_callVi hC (ci := 12) rfl lmRX12_447 (ctX12_stateAt (vLa V) (vDa V) (vTg V) (vBs V) (vSa V) hp p0 v5) (by decide) hn0 dX12_priceOfRow_27 rfl rfl (Nat.le_of_ble_eq_true rfl) (fun v6 => ?_)
      refine z_ixor hC dX12_priceOfRow_30 ?_
      refine z_callVi hC (ci := 12) rfl lmRX12_232 (ctX12_pricesOf (vLa V) (vDa V) (vTg V) (vBs V) (vSa V) hp p0 (s2.1 ^^^ v6)) (by decide) hn0 dX12_priceOfRow_31 rfl rfl (Nat.le_of_ble_eq_true rfl) (fun v7 => ?_)
      refine z_iadd hC dX12_priceOfRow_34 ?_
      refine z_vli (fun x8 => ?_)
      refine z_istore_n hC [(0, .ref p0), (1, .int p1), (2, .int s2.1), (3, .int x8), (4, .int s2.2.2)] [1, 2, 3, 0, 4] dX12_priceOfRow_35 rfl (by decide) rfl ?_
      refine z_aload_n hC 0 dX12_priceOfRow_36 rfl rfl ?_
      refine z_aload_n hC 0 dX12_priceOfRow_37 rfl rfl ?_
      refine z_getR hC lgRX12_81 dX12_priceOfRow_38 (fun v9 => ?_)
      refine z_iload hC 4 dX12_priceOfRow_41 rfl ?_
      refine z_iald hC dX12_priceOfRow_43 (fun v10 => ?_)
      refine z_callVi hC (ci := 12) rfl lmRX12_447 (ctX12_stateAt (vLa V) (vDa V) (vTg V) (vBs V) (vSa V) hp p0 v10) (by decide) hn0 dX12_priceOfRow_44 rfl rfl (Nat.le_of_ble_eq_true rfl) (fun v11 => ?_)
      refine z_istore_n hC [(0, .ref p0), (1, .int p1), (2, .int v11), (3, .int x8), (4, .int s2.2.2)] [1, 2, 0, 3, 4] dX12_priceOfRow_47 rfl (by decide) rfl ?_
      refine z_iincv hC (1 : Int32) 4 (fun x12 => [(0, .ref p0), (1, .int p1), (2, .int v11), (3, .int x8), (4, .int x12)]) [1, 2, 3, 4, 0] dX12_priceOfRow_48 rfl (by decide) (by decide) (fun _ => rfl) (fun x12 => ?_)
      refine z_goto hC 10 dX12_priceOfRow_51 (by decide) ?_
      exact z_leaf (fun h => h)

theorem dX12_dead_0 : decode cX12_dead 0 = .ok (.iload_n 1, 1) := by decide +kernel
theorem dX12_dead_1 : decode cX12_dead 1 = .ok (.iconst 1, 1) := by decide +kernel
theorem dX12_dead_2 : decode cX12_dead 2 = .ok (.bipush 8, 2) := by decide +kernel
theorem dX12_dead_4 : decode cX12_dead 4 = .ok (.invokestatic 99, 3) := by decide +kernel
theorem dX12_dead_7 : decode cX12_dead 7 = .ok (.ifCond .eq 13, 3) := by decide +kernel
theorem dX12_dead_10 : decode cX12_dead 10 = .ok (.iconst 2, 1) := by decide +kernel
theorem dX12_dead_11 : decode cX12_dead 11 = .ok (.iload_n 1, 1) := by decide +kernel
theorem dX12_dead_12 : decode cX12_dead 12 = .ok (.imul, 1) := by decide +kernel
theorem dX12_dead_13 : decode cX12_dead 13 = .ok (.aload_n 0, 1) := by decide +kernel
theorem dX12_dead_14 : decode cX12_dead 14 = .ok (.getfield 124, 3) := by decide +kernel
theorem dX12_dead_17 : decode cX12_dead 17 = .ok (.if_icmp .le 5, 3) := by decide +kernel
theorem dX12_dead_20 : decode cX12_dead 20 = .ok (.iconst (-1), 1) := by decide +kernel
theorem dX12_dead_21 : decode cX12_dead 21 = .ok (.ireturn, 1) := by decide +kernel
theorem dX12_dead_22 : decode cX12_dead 22 = .ok (.aload_n 0, 1) := by decide +kernel
theorem dX12_dead_23 : decode cX12_dead 23 = .ok (.iconst 0, 1) := by decide +kernel
theorem dX12_dead_24 : decode cX12_dead 24 = .ok (.putfield 124, 3) := by decide +kernel
theorem dX12_dead_27 : decode cX12_dead 27 = .ok (.iconst 0, 1) := by decide +kernel
theorem dX12_dead_28 : decode cX12_dead 28 = .ok (.istore_n 3, 1) := by decide +kernel
theorem dX12_dead_29 : decode cX12_dead 29 = .ok (.iload_n 3, 1) := by decide +kernel
theorem dX12_dead_30 : decode cX12_dead 30 = .ok (.iload_n 1, 1) := by decide +kernel
theorem dX12_dead_31 : decode cX12_dead 31 = .ok (.if_icmp .ge 23, 3) := by decide +kernel
theorem dX12_dead_34 : decode cX12_dead 34 = .ok (.aload_n 0, 1) := by decide +kernel
theorem dX12_dead_35 : decode cX12_dead 35 = .ok (.iload_n 3, 1) := by decide +kernel
theorem dX12_dead_36 : decode cX12_dead 36 = .ok (.invokevirtual 447, 3) := by decide +kernel
theorem dX12_dead_39 : decode cX12_dead 39 = .ok (.sipush 1024, 3) := by decide +kernel
theorem dX12_dead_42 : decode cX12_dead 42 = .ok (.if_icmp .lt 6, 3) := by decide +kernel
theorem dX12_dead_45 : decode cX12_dead 45 = .ok (.bipush (-2), 2) := by decide +kernel
theorem dX12_dead_47 : decode cX12_dead 47 = .ok (.ireturn, 1) := by decide +kernel
theorem dX12_dead_48 : decode cX12_dead 48 = .ok (.iinc 3 1, 3) := by decide +kernel
theorem dX12_dead_51 : decode cX12_dead 51 = .ok (.goto (-22), 3) := by decide +kernel
theorem dX12_dead_54 : decode cX12_dead 54 = .ok (.iload_n 2, 1) := by decide +kernel
theorem dX12_dead_55 : decode cX12_dead 55 = .ok (.bipush 10, 2) := by decide +kernel
theorem dX12_dead_57 : decode cX12_dead 57 = .ok (.if_icmp .eq 17, 3) := by decide +kernel
theorem dX12_dead_60 : decode cX12_dead 60 = .ok (.iload_n 2, 1) := by decide +kernel
theorem dX12_dead_61 : decode cX12_dead 61 = .ok (.iconst 0, 1) := by decide +kernel
theorem dX12_dead_62 : decode cX12_dead 62 = .ok (.iload_n 1, 1) := by decide +kernel
theorem dX12_dead_63 : decode cX12_dead 63 = .ok (.iconst 1, 1) := by decide +kernel
theorem dX12_dead_64 : decode cX12_dead 64 = .ok (.isub, 1) := by decide +kernel
theorem dX12_dead_65 : decode cX12_dead 65 = .ok (.invokestatic 99, 3) := by decide +kernel
theorem dX12_dead_68 : decode cX12_dead 68 = .ok (.ifCond .ne 6, 3) := by decide +kernel
theorem dX12_dead_71 : decode cX12_dead 71 = .ok (.bipush (-4), 2) := by decide +kernel
theorem dX12_dead_73 : decode cX12_dead 73 = .ok (.ireturn, 1) := by decide +kernel
theorem dX12_dead_74 : decode cX12_dead 74 = .ok (.iconst 0, 1) := by decide +kernel
theorem dX12_dead_75 : decode cX12_dead 75 = .ok (.istore_n 3, 1) := by decide +kernel
theorem dX12_dead_76 : decode cX12_dead 76 = .ok (.iload_n 3, 1) := by decide +kernel
theorem dX12_dead_77 : decode cX12_dead 77 = .ok (.iload_n 1, 1) := by decide +kernel
theorem dX12_dead_78 : decode cX12_dead 78 = .ok (.if_icmp .ge 16, 3) := by decide +kernel
theorem dX12_dead_81 : decode cX12_dead 81 = .ok (.aload_n 0, 1) := by decide +kernel
theorem dX12_dead_82 : decode cX12_dead 82 = .ok (.getfield 81, 3) := by decide +kernel
theorem dX12_dead_85 : decode cX12_dead 85 = .ok (.iload_n 3, 1) := by decide +kernel
theorem dX12_dead_86 : decode cX12_dead 86 = .ok (.iload_n 3, 1) := by decide +kernel
theorem dX12_dead_87 : decode cX12_dead 87 = .ok (.iastore, 1) := by decide +kernel
theorem dX12_dead_88 : decode cX12_dead 88 = .ok (.iinc 3 1, 3) := by decide +kernel
theorem dX12_dead_91 : decode cX12_dead 91 = .ok (.goto (-15), 3) := by decide +kernel
theorem dX12_dead_94 : decode cX12_dead 94 = .ok (.ldc_w 309, 3) := by decide +kernel
theorem dX12_dead_97 : decode cX12_dead 97 = .ok (.istore_n 3, 1) := by decide +kernel
theorem dX12_dead_98 : decode cX12_dead 98 = .ok (.iconst 1, 1) := by decide +kernel
theorem dX12_dead_99 : decode cX12_dead 99 = .ok (.istore 4, 2) := by decide +kernel
theorem dX12_dead_101 : decode cX12_dead 101 = .ok (.iload 4, 2) := by decide +kernel
theorem dX12_dead_103 : decode cX12_dead 103 = .ok (.ifCond .eq 57, 3) := by decide +kernel
theorem dX12_dead_106 : decode cX12_dead 106 = .ok (.aload_n 0, 1) := by decide +kernel
theorem dX12_dead_107 : decode cX12_dead 107 = .ok (.iload_n 1, 1) := by decide +kernel
theorem dX12_dead_108 : decode cX12_dead 108 = .ok (.invokevirtual 450, 3) := by decide +kernel
theorem dX12_dead_111 : decode cX12_dead 111 = .ok (.iload_n 3, 1) := by decide +kernel
theorem dX12_dead_112 : decode cX12_dead 112 = .ok (.if_icmp .ge 38, 3) := by decide +kernel
theorem dX12_dead_115 : decode cX12_dead 115 = .ok (.aload_n 0, 1) := by decide +kernel
theorem dX12_dead_116 : decode cX12_dead 116 = .ok (.iload_n 1, 1) := by decide +kernel
theorem dX12_dead_117 : decode cX12_dead 117 = .ok (.invokevirtual 450, 3) := by decide +kernel
theorem dX12_dead_120 : decode cX12_dead 120 = .ok (.istore_n 3, 1) := by decide +kernel
theorem dX12_dead_121 : decode cX12_dead 121 = .ok (.iconst 0, 1) := by decide +kernel
theorem dX12_dead_122 : decode cX12_dead 122 = .ok (.istore 5, 2) := by decide +kernel
theorem dX12_dead_124 : decode cX12_dead 124 = .ok (.iload 5, 2) := by decide +kernel
theorem dX12_dead_126 : decode cX12_dead 126 = .ok (.iload_n 1, 1) := by decide +kernel
theorem dX12_dead_127 : decode cX12_dead 127 = .ok (.if_icmp .ge 23, 3) := by decide +kernel
theorem dX12_dead_130 : decode cX12_dead 130 = .ok (.aload_n 0, 1) := by decide +kernel
theorem dX12_dead_131 : decode cX12_dead 131 = .ok (.getfield 84, 3) := by decide +kernel
theorem dX12_dead_134 : decode cX12_dead 134 = .ok (.iload 5, 2) := by decide +kernel
theorem dX12_dead_136 : decode cX12_dead 136 = .ok (.aload_n 0, 1) := by decide +kernel
theorem dX12_dead_137 : decode cX12_dead 137 = .ok (.getfield 81, 3) := by decide +kernel
theorem dX12_dead_140 : decode cX12_dead 140 = .ok (.iload 5, 2) := by decide +kernel
theorem dX12_dead_142 : decode cX12_dead 142 = .ok (.iaload, 1) := by decide +kernel
theorem dX12_dead_143 : decode cX12_dead 143 = .ok (.iastore, 1) := by decide +kernel
theorem dX12_dead_144 : decode cX12_dead 144 = .ok (.iinc 5 1, 3) := by decide +kernel
theorem dX12_dead_147 : decode cX12_dead 147 = .ok (.goto (-23), 3) := by decide +kernel
theorem dX12_dead_150 : decode cX12_dead 150 = .ok (.aload_n 0, 1) := by decide +kernel
theorem dX12_dead_151 : decode cX12_dead 151 = .ok (.iload_n 1, 1) := by decide +kernel
theorem dX12_dead_152 : decode cX12_dead 152 = .ok (.invokevirtual 453, 3) := by decide +kernel
theorem dX12_dead_155 : decode cX12_dead 155 = .ok (.istore 4, 2) := by decide +kernel
theorem dX12_dead_157 : decode cX12_dead 157 = .ok (.goto (-56), 3) := by decide +kernel
theorem dX12_dead_160 : decode cX12_dead 160 = .ok (.iload_n 2, 1) := by decide +kernel
theorem dX12_dead_161 : decode cX12_dead 161 = .ok (.bipush 10, 2) := by decide +kernel
theorem dX12_dead_163 : decode cX12_dead 163 = .ok (.if_icmp .ne 7, 3) := by decide +kernel
theorem dX12_dead_166 : decode cX12_dead 166 = .ok (.iload_n 3, 1) := by decide +kernel
theorem dX12_dead_167 : decode cX12_dead 167 = .ok (.goto 9, 3) := by decide +kernel
theorem dX12_dead_170 : decode cX12_dead 170 = .ok (.aload_n 0, 1) := by decide +kernel
theorem dX12_dead_171 : decode cX12_dead 171 = .ok (.getfield 84, 3) := by decide +kernel
theorem dX12_dead_174 : decode cX12_dead 174 = .ok (.iload_n 2, 1) := by decide +kernel
theorem dX12_dead_175 : decode cX12_dead 175 = .ok (.iaload, 1) := by decide +kernel
theorem dX12_dead_176 : decode cX12_dead 176 = .ok (.ireturn, 1) := by decide +kernel
def FX12_dead (hp : HP) (p0 : Nat) (p1 : Int32) (p2 : Int32) : Option (Int32 × HP) := (FX12_in p1 (1 : Int32) (8 : Int32)).bind (fun v1 => if v1 = 0 then some ((-1 : Int32), hp) else (gI [12] 14 hp p0).bind (fun v2 => if ((2 : Int32) * p1) ≤ v2 then (sI [12] 14 hp p0 (0 : Int32)).bind (fun hp3 => (lp (fun (s4 : Int32) => if p1 ≤ s4 then some (Sum.inl (Sum.inr ())) else (rc [12] hp3 p0 (FX12_stateAt hp3 p0 s4)).bind (fun v49 => if v49 < (1024 : Int32) then vl (s4 + (1 : Int32)) (fun x50 => some (Sum.inr x50)) else some (Sum.inl (Sum.inl ((-2 : Int32), hp3))))) FU (0 : Int32)).bind (lk (P := Int32 × HP) (fun r => r) (fun (y5 : Unit) => if p2 = (10 : Int32) then (lp (fun (s6 : Int32 × HP) => if p1 ≤ s6.1 then some (Sum.inl s6.2) else (gR [12] 54 s6.2 p0).bind (fun v24 => (wrI s6.2 v24 s6.1 s6.1).bind (fun hp25 => vl (s6.1 + (1 : Int32)) (fun x26 => some (Sum.inr (x26, hp25)))))) FU ((0 : Int32), hp3)).bind (fun (y7 : HP) => (lp (fun (s8 : Int32 × Int32 × HP) => if s8.2.1 = 0 then some (Sum.inl (s8.1, s8.2.2)) else (rc [12] s8.2.2 p0 (FX12_priceOfRow s8.2.2 p0 p1)).bind (fun v12 => jn (A := Int32 × HP) (fun a13 => (rc [12] a13.2 p0 (FX12_goesNext a13.2 p0 p1)).bind (fun w15 => some (Sum.inr (a13.1, w15.1, w15.2)))) (fun J14 => if s8.1 ≤ v12 then J14 (s8.1, s8.2.2) else (rc [12] s8.2.2 p0 (FX12_priceOfRow s8.2.2 p0 p1)).bind (fun v16 => (lp (fun (s17 : Int32 × HP) => if p1 ≤ s17.1 then some (Sum.inl s17.2) else (gR [12] 55 s17.2 p0).bind (fun v19 => (gR [12] 54 s17.2 p0).bind (fun v20 => (rdN 0 s17.2 v20 s17.1).bind (fun v21 => (wrI s17.2 v19 s17.1 v21).bind (fun hp22 => vl (s17.1 + (1 : Int32)) (fun x23 => some (Sum.inr (x23, hp22)))))))) FU ((0 : Int32), s8.2.2)).bind (fun (y18 : HP) => J14 (v16, y18)))))) FU ((1000000 : Int32), (1 : Int32), y7)).bind (fun (y9 : Int32 × HP) => if p2 = (10 : Int32) then some (y9.1, y9.2) else (gR [12] 55 y9.2 p0).bind (fun v10 => (rdN 0 y9.2 v10 p2).bind (fun v11 => some (v11, y9.2))))) else (FX12_in p2 (0 : Int32) (p1 - (1 : Int32))).bind (fun v27 => if v27 = 0 then some ((-4 : Int32), hp3) else (lp (fun (s28 : Int32 × HP) => if p1 ≤ s28.1 then some (Sum.inl s28.2) else (gR [12] 54 s28.2 p0).bind (fun v46 => (wrI s28.2 v46 s28.1 s28.1).bind (fun hp47 => vl (s28.1 + (1 : Int32)) (fun x48 => some (Sum.inr (x48, hp47)))))) FU ((0 : Int32), hp3)).bind (fun (y29 : HP) => (lp (fun (s30 : Int32 × Int32 × HP) => if s30.2.1 = 0 then some (Sum.inl (s30.1, s30.2.2)) else (rc [12] s30.2.2 p0 (FX12_priceOfRow s30.2.2 p0 p1)).bind (fun v34 => jn (A := Int32 × HP) (fun a35 => (rc [12] a35.2 p0 (FX12_goesNext a35.2 p0 p1)).bind (fun w37 => some (Sum.inr (a35.1, w37.1, w37.2)))) (fun J36 => if s30.1 ≤ v34 then J36 (s30.1, s30.2.2) else (rc [12] s30.2.2 p0 (FX12_priceOfRow s30.2.2 p0 p1)).bind (fun v38 => (lp (fun (s39 : Int32 × HP) => if p1 ≤ s39.1 then some (Sum.inl s39.2) else (gR [12] 55 s39.2 p0).bind (fun v41 => (gR [12] 54 s39.2 p0).bind (fun v42 => (rdN 0 s39.2 v42 s39.1).bind (fun v43 => (wrI s39.2 v41 s39.1 v43).bind (fun hp44 => vl (s39.1 + (1 : Int32)) (fun x45 => some (Sum.inr (x45, hp44)))))))) FU ((0 : Int32), s30.2.2)).bind (fun (y40 : HP) => J36 (v38, y40)))))) FU ((1000000 : Int32), (1 : Int32), y29)).bind (fun (y31 : Int32 × HP) => if p2 = (10 : Int32) then some (y31.1, y31.2) else (gR [12] 55 y31.2 p0).bind (fun v32 => (rdN 0 y31.2 v32 p2).bind (fun v33 => some (v33, y31.2))))))))) else some ((-1 : Int32), hp)))
set_option maxHeartbeats 4000000 in
set_option maxRecDepth 100000 in
theorem ctX12_dead (l : Launch) (D : va_G) (tg : Nat → ClassId) (bs : Nat) (sa : Nat → Nat) (hp : HP) (p0 : Nat) (p1 : Int32) (p2 : Int32) : Ct l D tg bs sa yX12_dead cX12_dead 6 (some .int) 3 [.ref p0, .int p1, .int p2] hp (FX12_dead hp p0 p1 p2) (fun r => some (.int r.1)) (fun r => r.2) := by
  refine Ct.of (by decide) (Nat.le_of_ble_eq_true rfl) ?_
  intro V Q hVl hVd hVt hVb hVs hC
  subst hVl; subst hVd; subst hVt; subst hVb; subst hVs
  unfold FX12_dead
  show Zs V Q (0, 0) 6 _ _ hp [(0, .ref p0), (1, .int p1), (2, .int p2)] 0 []
  refine z_iload_n hC 1 dX12_dead_0 rfl rfl ?_
  refine z_iconst hC (1 : Int32) dX12_dead_1 (by decide) ?_
  refine z_bipush hC (8 : Int32) dX12_dead_2 (by decide) ?_
  refine z_callSi hC lmRX12_99 (ctX12_in (vLa V) (vDa V) (vTg V) (vBs V) (vSa V) hp p1 (1 : Int32) (8 : Int32)) (by decide) hn0 dX12_dead_4 rfl rfl (Nat.le_of_ble_eq_true rfl) (fun v1 => ?_)
  refine z_if_eq hC 20 dX12_dead_7 (by decide) (fun _ => ?_) (fun _ => ?_)
  · refine z_iconst hC (-1 : Int32) dX12_dead_20 (by decide) ?_
    exact z_iret hC (fun h => h) dX12_dead_21
  · refine z_iconst hC (2 : Int32) dX12_dead_10 (by decide) ?_
    refine z_iload_n hC 1 dX12_dead_11 rfl rfl ?_
    refine z_imul hC dX12_dead_12 ?_
    refine z_aload_n hC 0 dX12_dead_13 rfl rfl ?_
    refine z_getI hC lgRX12_124 dX12_dead_14 (fun v2 => ?_)
    refine z_icmp_le hC 22 dX12_dead_17 (by decide) (fun _ => ?_) (fun _ => ?_)
    · refine z_aload_n hC 0 dX12_dead_22 rfl rfl ?_
      refine z_iconst hC (0 : Int32) dX12_dead_23 (by decide) ?_
      refine z_putI hC lpRX12_124 dX12_dead_24 (fun hp3 => ?_)
      refine z_iconst hC (0 : Int32) dX12_dead_27 (by decide) ?_
      refine z_istore_n hC [(0, .ref p0), (1, .int p1), (2, .int p2), (3, .int (0 : Int32))] [1, 2, 3, 0] dX12_dead_28 rfl (by decide) rfl ?_
      refine z_lpR (S := Int32) (Y := Unit) (fun s4 => hp3) (fun s4 => [(0, .ref p0), (1, .int p1), (2, .int p2), (3, .int s4)]) (fun y5 => hp3) (fun y5 => [(0, .ref p0), (1, .int p1), (2, .int p2)]) 54 [] (fun y5 => ?_) (fun s4 => ?_) rfl rfl
      · refine z_iload_n hC 2 dX12_dead_54 rfl rfl ?_
        refine z_bipush hC (10 : Int32) dX12_dead_55 (by decide) ?_
        refine z_icmp_eq hC 74 dX12_dead_57 (by decide) (fun _ => ?_) (fun _ => ?_)
        · refine z_iconst hC (0 : Int32) dX12_dead_74 (by decide) ?_
          refine z_istore_n hC [(0, .ref p0), (1, .int p1), (2, .int p2), (3, .int (0 : Int32))] [1, 2, 3, 0] dX12_dead_75 rfl (by decide) rfl ?_
          refine z_lp (S := Int32 × HP) (Y := HP) (fun s6 => s6.2) (fun s6 => [(0, .ref p0), (1, .int p1), (2, .int p2), (3, .int s6.1)]) (fun y7 => y7) (fun y7 => [(0, .ref p0), (1, .int p1), (2, .int p2)]) 94 [] (fun y7 => ?_) (fun s6 => ?_) rfl rfl
          · refine z_ldcw hC (1000000 : Int32) lcRX12_309 dX12_dead_94 ?_
            refine z_istore_n hC [(0, .ref p0), (1, .int p1), (2, .int p2), (3, .int (1000000 : Int32))] [1, 2, 3, 0] dX12_dead_97 rfl (by decide) rfl ?_
            refine z_iconst hC (1 : Int32) dX12_dead_98 (by decide) ?_
            refine z_istore hC [(0, .ref p0), (1, .int p1), (2, .int p2), (3, .int (1000000 : Int32)), (4, .int (1 : Int32))] [1, 2, 3, 4, 0] dX12_dead_99 (by decide) rfl ?_
            refine z_lp (S := Int32 × Int32 × HP) (Y := Int32 × HP) (fun s8 => s8.2.2) (fun s8 => [(0, .ref p0), (1, .int p1), (2, .int p2), (3, .int s8.1), (4, .int s8.2.1)]) (fun y9 => y9.2) (fun y9 => [(0, .ref p0), (2, .int p2), (3, .int y9.1)]) 160 [] (fun y9 => ?_) (fun s8 => ?_) rfl rfl
            · refine z_iload_n hC 1 dX12_dead_160 rfl rfl ?_
              refine z_bipush hC (10 : Int32) dX12_dead_161 (by decide) ?_
              refine z_icmp_ne hC 170 dX12_dead_163 (by decide) (fun _ => ?_) (fun _ => ?_)
              · refine z_iload_n hC 2 dX12_dead_166 rfl rfl ?_
                refine z_goto hC 176 dX12_dead_167 (by decide) ?_
                exact z_iret hC (fun h => h) dX12_dead_176
              · refine z_aload_n hC 0 dX12_dead_170 rfl rfl ?_
                refine z_getR hC lgRX12_84 dX12_dead_171 (fun v10 => ?_)
                refine z_iload_n hC 1 dX12_dead_174 rfl rfl ?_
                refine z_iald hC dX12_dead_175 (fun v11 => ?_)
                exact z_iret hC (fun h => h) dX12_dead_176
            · refine z_iload hC 4 dX12_dead_101 rfl ?_
              refine z_if_eq hC 160 dX12_dead_103 (by decide) (fun _ => ?_) (fun _ => ?_)
              · refine z_weak [(0, .ref p0), (2, .int p2), (3, .int s8.1)] [0, 2, 3] rfl ?_
                exact z_leaf (fun h => h)
              · refine z_aload_n hC 0 dX12_dead_106 rfl rfl ?_
                refine z_iload_n hC 1 dX12_dead_107 rfl rfl ?_
                refine z_callVi hC (ci := 12) rfl lmRX12_450 (ctX12_priceOfRow (vLa V) (vDa V) (vTg V) (vBs V) (vSa V) s8.2.2 p0 p1) (by decide) hn0 dX12_dead_108 rfl rfl (Nat.le_of_ble_eq_true rfl) (fun v12 => ?_)
                refine z_iload_n hC 3 dX12_dead_111 rfl rfl ?_
                refine z_jn (A := Int32 × HP) (fun a13 => a13.2) (fun a13 => [(0, .ref p0), (1, .int p1), (2, .int p2), (3, .int a13.1)]) 150 (fun a13 => []) (fun a13 => ?_) (fun J14 hJ14 => ?_)
                · refine z_aload_n hC 0 dX12_dead_150 rfl rfl ?_
                  refine z_iload_n hC 1 dX12_dead_151 rfl rfl ?_
                  refine z_callVi hC (ci := 12) rfl lmRX12_453 (ctX12_goesNext (vLa V) (vDa V) (vTg V) (vBs V) (vSa V) a13.2 p0 p1) (by decide) hn0 dX12_dead_152 rfl rfl (Nat.le_of_ble_eq_true rfl) (fun w15 => ?_)
                  refine z_istore hC [(0, .ref p0), (1, .int p1), (2, .int p2), (3, .int a13.1), (4, .int w15.1)] [1, 2, 3, 4, 0] dX12_dead_155 (by decide) rfl ?_
                  refine z_goto hC 101 dX12_dead_157 (by decide) ?_
                  exact z_leaf (fun h => h)
                · refine z_icmp_ge hC 150 dX12_dead_112 (by decide) (fun _ => ?_) (fun _ => ?_)
                  · refine z_weak [(0, .ref p0), (1, .int p1), (2, .int p2), (3, .int s8.1)] [0, 1, 2, 3] rfl ?_
                    exact hJ14 (s8.1, s8.2.2)
                  · refine z_aload_n hC 0 dX12_dead_115 rfl rfl ?_
                    refine z_iload_n hC 1 dX12_dead_116 rfl rfl ?_
                    refine z_callVi hC (ci := 12) rfl lmRX12_450 (ctX12_priceOfRow (vLa V) (vDa V) (vTg V) (vBs V) (vSa V) s8.2.2 p0 p1) (by decide) hn0 dX12_dead_117 rfl rfl (Nat.le_of_ble_eq_true rfl) (fun v16 => ?_)
                    refine z_istore_n hC [(0, .ref p0), (1, .int p1), (2, .int p2), (3, .int v16), (4, .int s8.2.1)] [1, 2, 3, 0, 4] dX12_dead_120 rfl (by decide) rfl ?_
                    refine z_iconst hC (0 : Int32) dX12_dead_121 (by decide) ?_
                    refine z_istore hC [(0, .ref p0), (1, .int p1), (2, .int p2), (3, .int v16), (4, .int s8.2.1), (5, .int (0 : Int32))] [1, 2, 3, 4, 5, 0] dX12_dead_122 (by decide) rfl ?_
                    refine z_weak [(0, .ref p0), (1, .int p1), (2, .int p2), (3, .int v16), (5, .int (0 : Int32))] [0, 1, 2, 3, 5] rfl ?_
                    refine z_lp (S := Int32 × HP) (Y := HP) (fun s17 => s17.2) (fun s17 => [(0, .ref p0), (1, .int p1), (2, .int p2), (3, .int v16), (5, .int s17.1)]) (fun y18 => y18) (fun y18 => [(0, .ref p0), (1, .int p1), (2, .int p2), (3, .int v16)]) 150 [] (fun y18 => ?_) (fun s17 => ?_) rfl rfl
                    · exact hJ14 (v16, y18)
                    · refine z_iload hC 4 dX12_dead_124 rfl ?_
                      refine z_iload_n hC 1 dX12_dead_126 rfl rfl ?_
                      refine z_icmp_ge hC 150 dX12_dead_127 (by decide) (fun _ => ?_) (fun _ => ?_)
                      · refine z_weak [(0, .ref p0), (1, .int p1), (2, .int p2), (3, .int v16)] [0, 1, 2, 3] rfl ?_
                        exact z_leaf (fun h => h)
                      · refine z_aload_n hC 0 dX12_dead_130 rfl rfl ?_
                        refine z_getR hC lgRX12_84 dX12_dead_131 (fun v19 => ?_)
                        refine z_iload hC 4 dX12_dead_134 rfl ?_
                        refine z_aload_n hC 0 dX12_dead_136 rfl rfl ?_
                        refine z_getR hC lgRX12_81 dX12_dead_137 (fun v20 => ?_)
                        refine z_iload hC 4 dX12_dead_140 rfl ?_
                        refine z_iald hC dX12_dead_142 (fun v21 => ?_)
                        refine z_iast hC dX12_dead_143 (fun hp22 => ?_)
                        refine z_iincv hC (1 : Int32) 4 (fun x23 => [(0, .ref p0), (1, .int p1), (2, .int p2), (3, .int v16), (5, .int x23)]) [1, 2, 3, 4, 0] dX12_dead_144 rfl (by decide) (by decide) (fun _ => rfl) (fun x23 => ?_)
                        refine z_goto hC 124 dX12_dead_147 (by decide) ?_
                        exact z_leaf (fun h => h)
          · refine z_iload_n hC 3 dX12_dead_76 rfl rfl ?_
            refine z_iload_n hC 1 dX12_dead_77 rfl rfl ?_
            refine z_icmp_ge hC 94 dX12_dead_78 (by decide) (fun _ => ?_) (fun _ => ?_)
            · refine z_weak [(0, .ref p0), (1, .int p1), (2, .int p2)] [0, 1, 2] rfl ?_
              exact z_leaf (fun h => h)
            · refine z_aload_n hC 0 dX12_dead_81 rfl rfl ?_
              refine z_getR hC lgRX12_81 dX12_dead_82 (fun v24 => ?_)
              refine z_iload_n hC 3 dX12_dead_85 rfl rfl ?_
              refine z_iload_n hC 3 dX12_dead_86 rfl rfl ?_
              refine z_iast hC dX12_dead_87 (fun hp25 => ?_)
              refine z_iincv hC (1 : Int32) 3 (fun x26 => [(0, .ref p0), (1, .int p1), (2, .int p2), (3, .int x26)]) [1, 2, 3, 0] dX12_dead_88 rfl (by decide) (by decide) (fun _ => rfl) (fun x26 => ?_)
              refine z_goto hC 76 dX12_dead_91 (by decide) ?_
              exact z_leaf (fun h => h)
        · refine z_iload_n hC 2 dX12_dead_60 rfl rfl ?_
          refine z_iconst hC (0 : Int32) dX12_dead_61 (by decide) ?_
          refine z_iload_n hC 1 dX12_dead_62 rfl rfl ?_
          refine z_iconst hC (1 : Int32) dX12_dead_63 (by decide) ?_
          refine z_isub hC dX12_dead_64 ?_
          refine z_callSi hC lmRX12_99 (ctX12_in (vLa V) (vDa V) (vTg V) (vBs V) (vSa V) hp3 p2 (0 : Int32) (p1 - (1 : Int32))) (by decide) hn0 dX12_dead_65 rfl rfl (Nat.le_of_ble_eq_true rfl) (fun v27 => ?_)
          refine z_if_ne hC 74 dX12_dead_68 (by decide) (fun _ => ?_) (fun _ => ?_)
          · refine z_bipush hC (-4 : Int32) dX12_dead_71 (by decide) ?_
            exact z_iret hC (fun h => h) dX12_dead_73
          · refine z_iconst hC (0 : Int32) dX12_dead_74 (by decide) ?_
            refine z_istore_n hC [(0, .ref p0), (1, .int p1), (2, .int p2), (3, .int (0 : Int32))] [1, 2, 3, 0] dX12_dead_75 rfl (by decide) rfl ?_
            refine z_lp (S := Int32 × HP) (Y := HP) (fun s28 => s28.2) (fun s28 => [(0, .ref p0), (1, .int p1), (2, .int p2), (3, .int s28.1)]) (fun y29 => y29) (fun y29 => [(0, .ref p0), (1, .int p1), (2, .int p2)]) 94 [] (fun y29 => ?_) (fun s28 => ?_) rfl rfl
            · refine z_ldcw hC (1000000 : Int32) lcRX12_309 dX12_dead_94 ?_
              refine z_istore_n hC [(0, .ref p0), (1, .int p1), (2, .int p2), (3, .int (1000000 : Int32))] [1, 2, 3, 0] dX12_dead_97 rfl (by decide) rfl ?_
              refine z_iconst hC (1 : Int32) dX12_dead_98 (by decide) ?_
              refine z_istore hC [(0, .ref p0), (1, .int p1), (2, .int p2), (3, .int (1000000 : Int32)), (4, .int (1 : Int32))] [1, 2, 3, 4, 0] dX12_dead_99 (by decide) rfl ?_
              refine z_lp (S := Int32 × Int32 × HP) (Y := Int32 × HP) (fun s30 => s30.2.2) (fun s30 => [(0, .ref p0), (1, .int p1), (2, .int p2), (3, .int s30.1), (4, .int s30.2.1)]) (fun y31 => y31.2) (fun y31 => [(0, .ref p0), (2, .int p2), (3, .int y31.1)]) 160 [] (fun y31 => ?_) (fun s30 => ?_) rfl rfl
              · refine z_iload_n hC 1 dX12_dead_160 rfl rfl ?_
                refine z_bipush hC (10 : Int32) dX12_dead_161 (by decide) ?_
                refine z_icmp_ne hC 170 dX12_dead_163 (by decide) (fun _ => ?_) (fun _ => ?_)
                · refine z_iload_n hC 2 dX12_dead_166 rfl rfl ?_
                  refine z_goto hC 176 dX12_dead_167 (by decide) ?_
                  exact z_iret hC (fun h => h) dX12_dead_176
                · refine z_aload_n hC 0 dX12_dead_170 rfl rfl ?_
                  refine z_getR hC lgRX12_84 dX12_dead_171 (fun v32 => ?_)
                  refine z_iload_n hC 1 dX12_dead_174 rfl rfl ?_
                  refine z_iald hC dX12_dead_175 (fun v33 => ?_)
                  exact z_iret hC (fun h => h) dX12_dead_176
              · refine z_iload hC 4 dX12_dead_101 rfl ?_
                refine z_if_eq hC 160 dX12_dead_103 (by decide) (fun _ => ?_) (fun _ => ?_)
                · refine z_weak [(0, .ref p0), (2, .int p2), (3, .int s30.1)] [0, 2, 3] rfl ?_
                  exact z_leaf (fun h => h)
                · refine z_aload_n hC 0 dX12_dead_106 rfl rfl ?_
                  refine z_iload_n hC 1 dX12_dead_107 rfl rfl ?_
                  refine z_callVi hC (ci := 12) rfl lmRX12_450 (ctX12_priceOfRow (vLa V) (vDa V) (vTg V) (vBs V) (vSa V) s30.2.2 p0 p1) (by decide) hn0 dX12_dead_108 rfl rfl (Nat.le_of_ble_eq_true rfl) (fun v34 => ?_)
                  refine z_iload_n hC 3 dX12_dead_111 rfl rfl ?_
                  refine z_jn (A := Int32 × HP) (fun a35 => a35.2) (fun a35 => [(0, .ref p0), (1, .int p1), (2, .int p2), (3, .int a35.1)]) 150 (fun a35 => []) (fun a35 => ?_) (fun J36 hJ36 => ?_)
                  · refine z_aload_n hC 0 dX12_dead_150 rfl rfl ?_
                    refine z_iload_n hC 1 dX12_dead_151 rfl rfl ?_
                    refine z_callVi hC (ci := 12) rfl lmRX12_453 (ctX12_goesNext (vLa V) (vDa V) (vTg V) (vBs V) (vSa V) a35.2 p0 p1) (by decide) hn0 dX12_dead_152 rfl rfl (Nat.le_of_ble_eq_true rfl) (fun w37 => ?_)
                    refine z_istore hC [(0, .ref p0), (1, .int p1), (2, .int p2), (3, .int a35.1), (4, .int w37.1)] [1, 2, 3, 4, 0] dX12_dead_155 (by decide) rfl ?_
                    refine z_goto hC 101 dX12_dead_157 (by decide) ?_
                    exact z_leaf (fun h => h)
                  · refine z_icmp_ge hC 150 dX12_dead_112 (by decide) (fun _ => ?_) (fun _ => ?_)
                    · refine z_weak [(0, .ref p0), (1, .int p1), (2, .int p2), (3, .int s30.1)] [0, 1, 2, 3] rfl ?_
                      exact hJ36 (s30.1, s30.2.2)
                    · refine z_aload_n hC 0 dX12_dead_115 rfl rfl ?_
                      refine z_iload_n hC 1 dX12_dead_116 rfl rfl ?_
                      refine z_callVi hC (ci := 12) rfl lmRX12_450 (ctX12_priceOfRow (vLa V) (vDa V) (vTg V) (vBs V) (vSa V) s30.2.2 p0 p1) (by decide) hn0 dX12_dead_117 rfl rfl (Nat.le_of_ble_eq_true rfl) (fun v38 => ?_)
                      refine z_istore_n hC [(0, .ref p0), (1, .int p1), (2, .int p2), (3, .int v38), (4, .int s30.2.1)] [1, 2, 3, 0, 4] dX12_dead_120 rfl (by decide) rfl ?_
                      refine z_iconst hC (0 : Int32) dX12_dead_121 (by decide) ?_
                      refine z_istore hC [(0, .ref p0), (1, .int p1), (2, .int p2), (3, .int v38), (4, .int s30.2.1), (5, .int (0 : Int32))] [1, 2, 3, 4, 5, 0] dX12_dead_122 (by decide) rfl ?_
                      refine z_weak [(0, .ref p0), (1, .int p1), (2, .int p2), (3, .int v38), (5, .int (0 : Int32))] [0, 1, 2, 3, 5] rfl ?_
                      refine z_lp (S := Int32 × HP) (Y := HP) (fun s39 => s39.2) (fun s39 => [(0, .ref p0), (1, .int p1), (2, .int p2), (3, .int v38), (5, .int s39.1)]) (fun y40 => y40) (fun y40 => [(0, .ref p0), (1, .int p1), (2, .int p2), (3, .int v38)]) 150 [] (fun y40 => ?_) (fun s39 => ?_) rfl rfl
                      · exact hJ36 (v38, y40)
                      · refine z_iload hC 4 dX12_dead_124 rfl ?_
                        refine z_iload_n hC 1 dX12_dead_126 rfl rfl ?_
                        refine z_icmp_ge hC 150 dX12_dead_127 (by decide) (fun _ => ?_) (fun _ => ?_)
                        · refine z_weak [(0, .ref p0), (1, .int p1), (2, .int p2), (3, .int v38)] [0, 1, 2, 3] rfl ?_
                          exact z_leaf (fun h => h)
                        · refine z_aload_n hC 0 dX12_dead_130 rfl rfl ?_
                          refine z_getR hC lgRX12_84 dX12_dead_131 (fun v41 => ?_)
                          refine z_iload hC 4 dX12_dead_134 rfl ?_
                          refine z_aload_n hC 0 dX12_dead_136 rfl rfl ?_
                          refine z_getR hC lgRX12_81 dX12_dead_137 (fun v42 => ?_)
                          refine z_iload hC 4 dX12_dead_140 rfl ?_
                          refine z_iald hC dX12_dead_142 (fun v43 => ?_)
                          refine z_iast hC dX12_dead_143 (fun hp44 => ?_)
                          refine z_iincv hC (1 : Int32) 4 (fun x45 => [(0, .ref p0), (1, .int p1), (2, .int p2), (3, .int v38), (5, .int x45)]) [1, 2, 3, 4, 0] dX12_dead_144 rfl (by decide) (by decide) (fun _ => rfl) (fun x45 => ?_)
                          refine z_goto hC 124 dX12_dead_147 (by decide) ?_
                          exact z_leaf (fun h => h)
            · refine z_iload_n hC 3 dX12_dead_76 rfl rfl ?_
              refine z_iload_n hC 1 dX12_dead_77 rfl rfl ?_
              refine z_icmp_ge hC 94 dX12_dead_78 (by decide) (fun _ => ?_) (fun _ => ?_)
              · refine z_weak [(0, .ref p0), (1, .int p1), (2, .int p2)] [0, 1, 2] rfl ?_
                exact z_leaf (fun h => h)
              · refine z_aload_n hC 0 dX12_dead_81 rfl rfl ?_
                refine z_getR hC lgRX12_81 dX12_dead_82 (fun v46 => ?_)
                refine z_iload_n hC 3 dX12_dead_85 rfl rfl ?_
                refine z_iload_n hC 3 dX12_dead_86 rfl rfl ?_
                refine z_iast hC dX12_dead_87 (fun hp47 => ?_)
                refine z_iincv hC (1 : Int32) 3 (fun x48 => [(0, .ref p0), (1, .int p1), (2, .int p2), (3, .int x48)]) [1, 2, 3, 0] dX12_dead_88 rfl (by decide) (by decide) (fun _ => rfl) (fun x48 => ?_)
                refine z_goto hC 76 dX12_dead_91 (by decide) ?_
                exact z_leaf (fun h => h)
      · refine z_iload_n hC 3 dX12_dead_29 rfl rfl ?_
        refine z_iload_n hC 1 dX12_dead_30 rfl rfl ?_
        refine z_icmp_ge hC 54 dX12_dead_31 (by decide) (fun _ => ?_) (fun _ => ?_)
        · refine z_weak [(0, .ref p0), (1, .int p1), (2, .int p2)] [0, 1, 2] rfl ?_
          exact z_leaf (fun h => h)
        · refine z_aload_n hC 0 dX12_dead_34 rfl rfl ?_
          refine z_iload_n hC 3 dX12_dead_35 rfl rfl ?_
          refine z_callVi hC (ci := 12) rfl lmRX12_447 (ctX12_stateAt (vLa V) (vDa V) (vTg V) (vBs V) (vSa V) hp3 p0 s4) (by decide) hn0 dX12_dead_36 rfl rfl (Nat.le_of_ble_eq_true rfl) (fun v49 => ?_)
          refine z_sipush hC (1024 : Int32) dX12_dead_39 (by decide) ?_
          refine z_icmp_lt hC 48 dX12_dead_42 (by decide) (fun _ => ?_) (fun _ => ?_)
          · refine z_iincv hC (1 : Int32) 3 (fun x50 => [(0, .ref p0), (1, .int p1), (2, .int p2), (3, .int x50)]) [1, 2, 3, 0] dX12_dead_48 rfl (by decide) (by decide) (fun _ => rfl) (fun x50 => ?_)
            refine z_goto hC 29 dX12_dead_51 (by decide) ?_
            exact z_leaf (fun h => h)
          · refine z_bipush hC (-2 : Int32) dX12_dead_45 (by decide) ?_
            exact z_iret hC (fun h => h) dX12_dead_47
    · refine z_iconst hC (-1 : Int32) dX12_dead_20 (by decide) ?_
      exact z_iret hC (fun h => h) dX12_dead_21

theorem dX12_summer_0 : decode cX12_summer 0 = .ok (.iload_n 1, 1) := by decide +kernel
theorem dX12_summer_1 : decode cX12_summer 1 = .ok (.iconst 1, 1) := by decide +kernel
theorem dX12_summer_2 : decode cX12_summer 2 = .ok (.sipush 360, 3) := by decide +kernel
theorem dX12_summer_5 : decode cX12_summer 5 = .ok (.invokestatic 99, 3) := by decide +kernel
theorem dX12_summer_8 : decode cX12_summer 8 = .ok (.ifCond .eq 21, 3) := by decide +kernel
theorem dX12_summer_11 : decode cX12_summer 11 = .ok (.aload_n 0, 1) := by decide +kernel
theorem dX12_summer_12 : decode cX12_summer 12 = .ok (.getfield 319, 3) := by decide +kernel
theorem dX12_summer_15 : decode cX12_summer 15 = .ok (.iconst 1, 1) := by decide +kernel
theorem dX12_summer_16 : decode cX12_summer 16 = .ok (.if_icmp .eq 13, 3) := by decide +kernel
theorem dX12_summer_19 : decode cX12_summer 19 = .ok (.aload_n 0, 1) := by decide +kernel
theorem dX12_summer_20 : decode cX12_summer 20 = .ok (.getfield 238, 3) := by decide +kernel
theorem dX12_summer_23 : decode cX12_summer 23 = .ok (.sipush 8640, 3) := by decide +kernel
theorem dX12_summer_26 : decode cX12_summer 26 = .ok (.if_icmp .ne 5, 3) := by decide +kernel
theorem dX12_summer_29 : decode cX12_summer 29 = .ok (.iconst (-1), 1) := by decide +kernel
theorem dX12_summer_30 : decode cX12_summer 30 = .ok (.ireturn, 1) := by decide +kernel
theorem dX12_summer_31 : decode cX12_summer 31 = .ok (.aload_n 0, 1) := by decide +kernel
theorem dX12_summer_32 : decode cX12_summer 32 = .ok (.getfield 238, 3) := by decide +kernel
theorem dX12_summer_35 : decode cX12_summer 35 = .ok (.sipush 360, 3) := by decide +kernel
theorem dX12_summer_38 : decode cX12_summer 38 = .ok (.irem, 1) := by decide +kernel
theorem dX12_summer_39 : decode cX12_summer 39 = .ok (.bipush 30, 2) := by decide +kernel
theorem dX12_summer_41 : decode cX12_summer 41 = .ok (.idiv, 1) := by decide +kernel
theorem dX12_summer_42 : decode cX12_summer 42 = .ok (.istore_n 2, 1) := by decide +kernel
theorem dX12_summer_43 : decode cX12_summer 43 = .ok (.iload_n 1, 1) := by decide +kernel
theorem dX12_summer_44 : decode cX12_summer 44 = .ok (.bipush 29, 2) := by decide +kernel
theorem dX12_summer_46 : decode cX12_summer 46 = .ok (.iadd, 1) := by decide +kernel
theorem dX12_summer_47 : decode cX12_summer 47 = .ok (.bipush 30, 2) := by decide +kernel
theorem dX12_summer_49 : decode cX12_summer 49 = .ok (.idiv, 1) := by decide +kernel
theorem dX12_summer_50 : decode cX12_summer 50 = .ok (.iload_n 2, 1) := by decide +kernel
theorem dX12_summer_51 : decode cX12_summer 51 = .ok (.iconst 5, 1) := by decide +kernel
theorem dX12_summer_52 : decode cX12_summer 52 = .ok (.bipush 7, 2) := by decide +kernel
theorem dX12_summer_54 : decode cX12_summer 54 = .ok (.invokestatic 99, 3) := by decide +kernel
theorem dX12_summer_57 : decode cX12_summer 57 = .ok (.ifCond .eq 8, 3) := by decide +kernel
theorem dX12_summer_60 : decode cX12_summer 60 = .ok (.bipush 20, 2) := by decide +kernel
theorem dX12_summer_62 : decode cX12_summer 62 = .ok (.goto 5, 3) := by decide +kernel
theorem dX12_summer_65 : decode cX12_summer 65 = .ok (.bipush 10, 2) := by decide +kernel
theorem dX12_summer_67 : decode cX12_summer 67 = .ok (.imul, 1) := by decide +kernel
theorem dX12_summer_68 : decode cX12_summer 68 = .ok (.istore_n 3, 1) := by decide +kernel
theorem dX12_summer_69 : decode cX12_summer 69 = .ok (.aload_n 0, 1) := by decide +kernel
theorem dX12_summer_70 : decode cX12_summer 70 = .ok (.sipush 9999, 3) := by decide +kernel
theorem dX12_summer_73 : decode cX12_summer 73 = .ok (.aload_n 0, 1) := by decide +kernel
theorem dX12_summer_74 : decode cX12_summer 74 = .ok (.getfield 241, 3) := by decide +kernel
theorem dX12_summer_77 : decode cX12_summer 77 = .ok (.iload_n 3, 1) := by decide +kernel
theorem dX12_summer_78 : decode cX12_summer 78 = .ok (.iadd, 1) := by decide +kernel
theorem dX12_summer_79 : decode cX12_summer 79 = .ok (.invokestatic 340, 3) := by decide +kernel
theorem dX12_summer_82 : decode cX12_summer 82 = .ok (.putfield 241, 3) := by decide +kernel
theorem dX12_summer_85 : decode cX12_summer 85 = .ok (.aload_n 0, 1) := by decide +kernel
theorem dX12_summer_86 : decode cX12_summer 86 = .ok (.iconst 0, 1) := by decide +kernel
theorem dX12_summer_87 : decode cX12_summer 87 = .ok (.aload_n 0, 1) := by decide +kernel
theorem dX12_summer_88 : decode cX12_summer 88 = .ok (.getfield 238, 3) := by decide +kernel
theorem dX12_summer_91 : decode cX12_summer 91 = .ok (.iload_n 1, 1) := by decide +kernel
theorem dX12_summer_92 : decode cX12_summer 92 = .ok (.isub, 1) := by decide +kernel
theorem dX12_summer_93 : decode cX12_summer 93 = .ok (.invokestatic 438, 3) := by decide +kernel
theorem dX12_summer_96 : decode cX12_summer 96 = .ok (.putfield 238, 3) := by decide +kernel
theorem dX12_summer_99 : decode cX12_summer 99 = .ok (.iload_n 3, 1) := by decide +kernel
theorem dX12_summer_100 : decode cX12_summer 100 = .ok (.ireturn, 1) := by decide +kernel
def FX12_summer (hp : HP) (p0 : Nat) (p1 : Int32) : Option (Int32 × HP) := (FX12_in p1 (1 : Int32) (360 : Int32)).bind (fun v1 => if v1 = 0 then some ((-1 : Int32), hp) else (gI [12] 12 hp p0).bind (fun v2 => if v2 = (1 : Int32) then some ((-1 : Int32), hp) else (gI [12] 8 hp p0).bind (fun v3 => if v3 = (8640 : Int32) then some ((-1 : Int32), hp) else (gI [12] 8 hp p0).bind (fun v4 => (rmI v4 (360 : Int32)).bind (fun v5 => (dvI v5 (30 : Int32)).bind (fun v6 => (dvI (p1 + (29 : Int32)) (30 : Int32)).bind (fun v7 => (FX12_in v6 (5 : Int32) (7 : Int32)).bind (fun v8 => jn (A := Int32) (fun a9 => vl (v7 * a9) (fun x11 => (gI [12] 9 hp p0).bind (fun v12 => (FX12_min (9999 : Int32) (v12 + x11)).bind (fun v13 => (sI [12] 9 hp p0 v13).bind (fun hp14 => (gI [12] 8 hp14 p0).bind (fun v15 => (FX12_max (0 : Int32) (v15 - p1)).bind (fun v16 => (sI [12] 8 hp14 p0 v16).bind (fun hp17 => some (x11, hp17))))))))) (fun J10 => if v8 = 0 then J10 (10 : Int32) else J10 (20 : Int32))))))))))
set_option maxHeartbeats 4000000 in
set_option maxRecDepth 100000 in
theorem ctX12_summer (l : Launch) (D : va_G) (tg : Nat → ClassId) (bs : Nat) (sa : Nat → Nat) (hp : HP) (p0 : Nat) (p1 : Int32) : Ct l D tg bs sa yX12_summer cX12_summer 4 (some .int) 1 [.ref p0, .int p1] hp (FX12_summer hp p0 p1) (fun r => some (.int r.1)) (fun r => r.2) := by
  refine Ct.of (by decide) (Nat.le_of_ble_eq_true rfl) ?_
  intro V Q hVl hVd hVt hVb hVs hC
  subst hVl; subst hVd; subst hVt; subst hVb; subst hVs
  unfold FX12_summer
  show Zs V Q (0, 0) 4 _ _ hp [(0, .ref p0), (1, .int p1)] 0 []
  refine z_iload_n hC 1 dX12_summer_0 rfl rfl ?_
  refine z_iconst hC (1 : Int32) dX12_summer_1 (by decide) ?_
  refine z_sipush hC (360 : Int32) dX12_summer_2 (by decide) ?_
  refine z_callSi hC lmRX12_99 (ctX12_in (vLa V) (vDa V) (vTg V) (vBs V) (vSa V) hp p1 (1 : Int32) (360 : Int32)) (by decide) hn0 dX12_summer_5 rfl rfl (Nat.le_of_ble_eq_true rfl) (fun v1 => ?_)
  refine z_if_eq hC 29 dX12_summer_8 (by decide) (fun _ => ?_) (fun _ => ?_)
  · refine z_iconst hC (-1 : Int32) dX12_summer_29 (by decide) ?_
    exact z_iret hC (fun h => h) dX12_summer_30
  · refine z_aload_n hC 0 dX12_summer_11 rfl rfl ?_
    refine z_getI hC lgRX12_319 dX12_summer_12 (fun v2 => ?_)
    refine z_iconst hC (1 : Int32) dX12_summer_15 (by decide) ?_
    refine z_icmp_eq hC 29 dX12_summer_16 (by decide) (fun _ => ?_) (fun _ => ?_)
    · refine z_iconst hC (-1 : Int32) dX12_summer_29 (by decide) ?_
      exact z_iret hC (fun h => h) dX12_summer_30
    · refine z_aload_n hC 0 dX12_summer_19 rfl rfl ?_
      refine z_getI hC lgRX12_238 dX12_summer_20 (fun v3 => ?_)
      refine z_sipush hC (8640 : Int32) dX12_summer_23 (by decide) ?_
      refine z_icmp_ne hC 31 dX12_summer_26 (by decide) (fun _ => ?_) (fun _ => ?_)
      · refine z_iconst hC (-1 : Int32) dX12_summer_29 (by decide) ?_
        exact z_iret hC (fun h => h) dX12_summer_30
      · refine z_aload_n hC 0 dX12_summer_31 rfl rfl ?_
        refine z_getI hC lgRX12_238 dX12_summer_32 (fun v4 => ?_)
        refine z_sipush hC (360 : Int32) dX12_summer_35 (by decide) ?_
        refine z_irem hC dX12_summer_38 (fun v5 => ?_)
        refine z_bipush hC (30 : Int32) dX12_summer_39 (by decide) ?_
        refine z_idiv hC dX12_summer_41 (fun v6 => ?_)
        refine z_istore_n hC [(0, .ref p0), (1, .int p1), (2, .int v6)] [1, 2, 0] dX12_summer_42 rfl (by decide) rfl ?_
        refine z_iload_n hC 1 dX12_summer_43 rfl rfl ?_
        refine z_bipush hC (29 : Int32) dX12_summer_44 (by decide) ?_
        refine z_iadd hC dX12_summer_46 ?_
        refine z_bipush hC (30 : Int32) dX12_summer_47 (by decide) ?_
        refine z_idiv hC dX12_summer_49 (fun v7 => ?_)
        refine z_iload_n hC 2 dX12_summer_50 rfl rfl ?_
        refine z_iconst hC (5 : Int32) dX12_summer_51 (by decide) ?_
        refine z_bipush hC (7 : Int32) dX12_summer_52 (by decide) ?_
        refine z_callSi hC lmRX12_99 (ctX12_in (vLa V) (vDa V) (vTg V) (vBs V) (vSa V) hp v6 (5 : Int32) (7 : Int32)) (by decide) hn0 dX12_summer_54 rfl rfl (Nat.le_of_ble_eq_true rfl) (fun v8 => ?_)
        refine z_jn (A := Int32) (fun a9 => hp) (fun a9 => [(0, .ref p0), (1, .int p1)]) 67 (fun a9 => [.int a9, .int v7]) (fun a9 => ?_) (fun J10 hJ10 => ?_)
        · refine z_imul hC dX12_summer_67 ?_
          refine z_vli (fun x11 => ?_)
          refine z_istore_n hC [(0, .ref p0), (1, .int p1), (3, .int x11)] [1, 2, 0] dX12_summer_68 rfl (by decide) rfl ?_
          refine z_aload_n hC 0 dX12_summer_69 rfl rfl ?_
          refine z_sipush hC (9999 : Int32) dX12_summer_70 (by decide) ?_
          refine z_aload_n hC 0 dX12_summer_73 rfl rfl ?_
          refine z_getI hC lgRX12_241 dX12_summer_74 (fun v12 => ?_)
          refine z_iload_n hC 2 dX12_summer_77 rfl rfl ?_
          refine z_iadd hC dX12_summer_78 ?_
          refine z_callSi hC lmRX12_340 (ctX12_min (vLa V) (vDa V) (vTg V) (vBs V) (vSa V) hp (9999 : Int32) (v12 + x11)) (by decide) hn0 dX12_summer_79 rfl rfl (Nat.le_of_ble_eq_true rfl) (fun v13 => ?_)
          refine z_putI hC lpRX12_241 dX12_summer_82 (fun hp14 => ?_)
          refine z_aload_n hC 0 dX12_summer_85 rfl rfl ?_
          refine z_iconst hC (0 : Int32) dX12_summer_86 (by decide) ?_
          refine z_aload_n hC 0 dX12_summer_87 rfl rfl ?_
          refine z_getI hC lgRX12_238 dX12_summer_88 (fun v15 => ?_)
          refine z_iload_n hC 1 dX12_summer_91 rfl rfl ?_
          refine z_isub hC dX12_summer_92 ?_
          refine z_callSi hC lmRX12_438 (ctX12_max (vLa V) (vDa V) (vTg V) (vBs V) (vSa V) hp14 (0 : Int32) (v15 - p1)) (by decide) hn0 dX12_summer_93 rfl rfl (Nat.le_of_ble_eq_true rfl) (fun v16 => ?_)
          refine z_putI hC lpRX12_238 dX12_summer_96 (fun hp17 => ?_)
          refine z_iload_n hC 2 dX12_summer_99 rfl rfl ?_
          exact z_iret hC (fun h => h) dX12_summer_100
        · refine z_if_eq hC 65 dX12_summer_57 (by decide) (fun _ => ?_) (fun _ => ?_)
          · refine z_bipush hC (10 : Int32) dX12_summer_65 (by decide) ?_
            refine z_weak [(0, .ref p0), (1, .int p1)] [0, 1] rfl ?_
            exact hJ10 (10 : Int32)
          · refine z_bipush hC (20 : Int32) dX12_summer_60 (by decide) ?_
            refine z_goto hC 67 dX12_summer_62 (by decide) ?_
            refine z_weak [(0, .ref p0), (1, .int p1)] [0, 1] rfl ?_
            exact hJ10 (20 : Int32)

