theorem dX2_look_0 : decode cX2_look 0 = .ok (.aload_n 0, 1) := by decide +kernel
theorem dX2_look_1 : decode cX2_look 1 = .ok (.getfield 24, 3) := by decide +kernel
theorem dX2_look_4 : decode cX2_look 4 = .ok (.iconst 0, 1) := by decide +kernel
theorem dX2_look_5 : decode cX2_look 5 = .ok (.iload_n 1, 1) := by decide +kernel
theorem dX2_look_6 : decode cX2_look 6 = .ok (.iastore, 1) := by decide +kernel
theorem dX2_look_7 : decode cX2_look 7 = .ok (.aload_n 0, 1) := by decide +kernel
theorem dX2_look_8 : decode cX2_look 8 = .ok (.getfield 24, 3) := by decide +kernel
theorem dX2_look_11 : decode cX2_look 11 = .ok (.iconst 1, 1) := by decide +kernel
theorem dX2_look_12 : decode cX2_look 12 = .ok (.iload_n 2, 1) := by decide +kernel
theorem dX2_look_13 : decode cX2_look 13 = .ok (.iastore, 1) := by decide +kernel
theorem dX2_look_14 : decode cX2_look 14 = .ok (.aload_n 0, 1) := by decide +kernel
theorem dX2_look_15 : decode cX2_look 15 = .ok (.getfield 24, 3) := by decide +kernel
theorem dX2_look_18 : decode cX2_look 18 = .ok (.iconst 2, 1) := by decide +kernel
theorem dX2_look_19 : decode cX2_look 19 = .ok (.iload_n 3, 1) := by decide +kernel
theorem dX2_look_20 : decode cX2_look 20 = .ok (.iastore, 1) := by decide +kernel
theorem dX2_look_21 : decode cX2_look 21 = .ok (.aload_n 0, 1) := by decide +kernel
theorem dX2_look_22 : decode cX2_look 22 = .ok (.getfield 24, 3) := by decide +kernel
theorem dX2_look_25 : decode cX2_look 25 = .ok (.iconst 3, 1) := by decide +kernel
theorem dX2_look_26 : decode cX2_look 26 = .ok (.aload 4, 2) := by decide +kernel
theorem dX2_look_28 : decode cX2_look 28 = .ok (.getfield 97, 3) := by decide +kernel
theorem dX2_look_31 : decode cX2_look 31 = .ok (.invokestatic 102, 3) := by decide +kernel
theorem dX2_look_34 : decode cX2_look 34 = .ok (.iastore, 1) := by decide +kernel
theorem dX2_look_35 : decode cX2_look 35 = .ok (.aload_n 0, 1) := by decide +kernel
theorem dX2_look_36 : decode cX2_look 36 = .ok (.getfield 24, 3) := by decide +kernel
theorem dX2_look_39 : decode cX2_look 39 = .ok (.iconst 4, 1) := by decide +kernel
theorem dX2_look_40 : decode cX2_look 40 = .ok (.aload 4, 2) := by decide +kernel
theorem dX2_look_42 : decode cX2_look 42 = .ok (.getfield 107, 3) := by decide +kernel
theorem dX2_look_45 : decode cX2_look 45 = .ok (.iastore, 1) := by decide +kernel
theorem dX2_look_46 : decode cX2_look 46 = .ok (.aload_n 0, 1) := by decide +kernel
theorem dX2_look_47 : decode cX2_look 47 = .ok (.getfield 24, 3) := by decide +kernel
theorem dX2_look_50 : decode cX2_look 50 = .ok (.iconst 5, 1) := by decide +kernel
theorem dX2_look_51 : decode cX2_look 51 = .ok (.aload 4, 2) := by decide +kernel
theorem dX2_look_53 : decode cX2_look 53 = .ok (.getfield 110, 3) := by decide +kernel
theorem dX2_look_56 : decode cX2_look 56 = .ok (.sipush 360, 3) := by decide +kernel
theorem dX2_look_59 : decode cX2_look 59 = .ok (.idiv, 1) := by decide +kernel
theorem dX2_look_60 : decode cX2_look 60 = .ok (.iastore, 1) := by decide +kernel
theorem dX2_look_61 : decode cX2_look 61 = .ok (.aload_n 0, 1) := by decide +kernel
theorem dX2_look_62 : decode cX2_look 62 = .ok (.getfield 24, 3) := by decide +kernel
theorem dX2_look_65 : decode cX2_look 65 = .ok (.bipush 6, 2) := by decide +kernel
theorem dX2_look_67 : decode cX2_look 67 = .ok (.aload 4, 2) := by decide +kernel
theorem dX2_look_69 : decode cX2_look 69 = .ok (.invokevirtual 113, 3) := by decide +kernel
theorem dX2_look_72 : decode cX2_look 72 = .ok (.iastore, 1) := by decide +kernel
theorem dX2_look_73 : decode cX2_look 73 = .ok (.aload_n 0, 1) := by decide +kernel
theorem dX2_look_74 : decode cX2_look 74 = .ok (.getfield 24, 3) := by decide +kernel
theorem dX2_look_77 : decode cX2_look 77 = .ok (.bipush 7, 2) := by decide +kernel
theorem dX2_look_79 : decode cX2_look 79 = .ok (.aload 4, 2) := by decide +kernel
theorem dX2_look_81 : decode cX2_look 81 = .ok (.getfield 116, 3) := by decide +kernel
theorem dX2_look_84 : decode cX2_look 84 = .ok (.iastore, 1) := by decide +kernel
theorem dX2_look_85 : decode cX2_look 85 = .ok (.return_, 1) := by decide +kernel
def FX2_look (hp : HP) (p0 : Nat) (p1 : Int32) (p2 : Int32) (p3 : Int32) (p4 : Nat) : Option (HP) := (gR [2] 10 hp p0).bind (fun v1 => (wrI hp v1 (0 : Int32) p1).bind (fun hp2 => (gR [2] 10 hp2 p0).bind (fun v3 => (wrI hp2 v3 (1 : Int32) p2).bind (fun hp4 => (gR [2] 10 hp4 p0).bind (fun v5 => (wrI hp4 v5 (2 : Int32) p3).bind (fun hp6 => (gR [2] 10 hp6 p0).bind (fun v7 => (gI [6] 0 hp6 p4).bind (fun v8 => (FJ6_bitCount_0f7a4 v8).bind (fun v9 => (wrI hp6 v7 (3 : Int32) v9).bind (fun hp10 => (gR [2] 10 hp10 p0).bind (fun v11 => (gI [6] 3 hp10 p4).bind (fun v12 => (wrI hp10 v11 (4 : Int32) v12).bind (fun hp13 => (gR [2] 10 hp13 p0).bind (fun v14 => (gI [6] 1 hp13 p4).bind (fun v15 => (dvI v15 (360 : Int32)).bind (fun v16 => (wrI hp13 v14 (5 : Int32) v16).bind (fun hp17 => (gR [2] 10 hp17 p0).bind (fun v18 => (rc [6] hp17 p4 (FX6_month hp17 p4)).bind (fun v19 => (wrI hp17 v18 (6 : Int32) v19).bind (fun hp20 => (gR [2] 10 hp20 p0).bind (fun v21 => (gI [6] 2 hp20 p4).bind (fun v22 => (wrI hp20 v21 (7 : Int32) v22).bind (fun hp23 => some hp23)))))))))))))))))))))))
set_option maxHeartbeats 4000000 in
set_option maxRecDepth 100000 in
theorem ctX2_look (l : Launch) (D : va_G) (tg : Nat → ClassId) (bs : Nat) (sa : Nat → Nat) (hp : HP) (p0 : Nat) (p1 : Int32) (p2 : Int32) (p3 : Int32) (p4 : Nat) : Ct l D tg bs sa yX2_look cX2_look 5 none 1 [.ref p0, .int p1, .int p2, .int p3, .ref p4] hp (FX2_look hp p0 p1 p2 p3 p4) (fun _ => none) (fun r => r) := by
  refine Ct.of (by decide) (Nat.le_of_ble_eq_true rfl) ?_
  intro V Q hVl hVd hVt hVb hVs hC
  subst hVl; subst hVd; subst hVt; subst hVb; subst hVs
  unfold FX2_look
  show Zs V Q (0, 0) 5 _ _ hp [(0, .ref p0), (1, .int p1), (2, .int p2), (3, .int p3), (4, .ref p4)] 0 []
  refine z_aload_n hC 0 dX2_look_0 rfl rfl ?_
  refine z_getR hC lgRX2_24 dX2_look_1 (fun v1 => ?_)
  refine z_iconst hC (0 : Int32) dX2_look_4 (by decide) ?_
  refine z_iload_n hC 1 dX2_look_5 rfl rfl ?_
  refine z_iast hC dX2_look_6 (fun hp2 => ?_)
  refine z_aload_n hC 0 dX2_look_7 rfl rfl ?_
  refine z_getR hC lgRX2_24 dX2_look_8 (fun v3 => ?_)
  refine z_iconst hC (1 : Int32) dX2_look_11 (by decide) ?_
  refine z_iload_n hC 2 dX2_look_12 rfl rfl ?_
  refine z_iast hC dX2_look_13 (fun hp4 => ?_)
  refine z_aload_n hC 0 dX2_look_14 rfl rfl ?_
  refine z_getR hC lgRX2_24 dX2_look_15 (fun v5 => ?_)
  refine z_iconst hC (2 : Int32) dX2_look_18 (by decide) ?_
  refine z_iload_n hC 3 dX2_look_19 rfl rfl ?_
  refine z_iast hC dX2_look_20 (fun hp6 => ?_)
  refine z_aload_n hC 0 dX2_look_21 rfl rfl ?_
  refine z_getR hC lgRX2_24 dX2_look_22 (fun v7 => ?_)
  refine z_iconst hC (3 : Int32) dX2_look_25 (by decide) ?_
  refine z_aload hC 4 dX2_look_26 rfl ?_
  refine z_getI hC lgRX2_97 dX2_look_28 (fun v8 => ?_)
  refine z_callSi hC lmRX2_102 (ctJ6_bitCount_0f7a4 (vLa V) (vDa V) (vTg V) (vBs V) (vSa V) hp6 v8) (by decide) hn0 dX2_look_31 rfl rfl (Nat.le_of_ble_eq_true rfl) (fun v9 => ?_)
  refine z_iast hC dX2_look_34 (fun hp10 => ?_)
  refine z_aload_n hC 0 dX2_look_35 rfl rfl ?_
  refine z_getR hC lgRX2_24 dX2_look_36 (fun v11 => ?_)
  refine z_iconst hC (4 : Int32) dX2_look_39 (by decide) ?_
  refine z_aload hC 4 dX2_look_40 rfl ?_
  refine z_getI hC lgRX2_107 dX2_look_42 (fun v12 => ?_)
  refine z_iast hC dX2_look_45 (fun hp13 => ?_)
  refine z_aload_n hC 0 dX2_look_46 rfl rfl ?_
  refine z_getR hC lgRX2_24 dX2_look_47 (fun v14 => ?_)
  refine z_iconst hC (5 : Int32) dX2_look_50 (by decide) ?_
  refine z_aload hC 4 dX2_look_51 rfl ?_
  refine z_getI hC lgRX2_110 dX2_look_53 (fun v15 => ?_)
  refine z_sipush hC (360 : Int32) dX2_look_56 (by decide) ?_
  refine z_idiv hC dX2_look_59 (fun v16 => ?_)
  refine z_iast hC dX2_look_60 (fun hp17 => ?_)
  refine z_aload_n hC 0 dX2_look_61 rfl rfl ?_
  refine z_getR hC lgRX2_24 dX2_look_62 (fun v18 => ?_)
  refine z_bipush hC (6 : Int32) dX2_look_65 (by decide) ?_
  refine z_aload hC 4 dX2_look_67 rfl ?_
  refine z_callVi hC (ci := 6) rfl lmRX2_113 (ctX6_month (vLa V) (vDa V) (vTg V) (vBs V) (vSa V) hp17 p4) (by decide) hn0 dX2_look_69 rfl rfl (Nat.le_of_ble_eq_true rfl) (fun v19 => ?_)
  refine z_iast hC dX2_look_72 (fun hp20 => ?_)
  refine z_aload_n hC 0 dX2_look_73 rfl rfl ?_
  refine z_getR hC lgRX2_24 dX2_look_74 (fun v21 => ?_)
  refine z_bipush hC (7 : Int32) dX2_look_77 (by decide) ?_
  refine z_aload hC 4 dX2_look_79 rfl ?_
  refine z_getI hC lgRX2_116 dX2_look_81 (fun v22 => ?_)
  refine z_iast hC dX2_look_84 (fun hp23 => ?_)
  exact z_vret hC (fun h => h) dX2_look_85

theorem dX2_reckon_0 : decode cX2_reckon 0 = .ok (.iload_n 2, 1) := by decide +kernel
theorem dX2_reckon_1 : decode cX2_reckon 1 = .ok (.lookupswitch 104 #[(42, 67), (43, 59), (45, 63), (60, 71), (61, 93), (62, 82)], 59) := by decide +kernel
theorem dX2_reckon_60 : decode cX2_reckon 60 = .ok (.iload_n 1, 1) := by decide +kernel
theorem dX2_reckon_61 : decode cX2_reckon 61 = .ok (.iload_n 3, 1) := by decide +kernel
theorem dX2_reckon_62 : decode cX2_reckon 62 = .ok (.iadd, 1) := by decide +kernel
theorem dX2_reckon_63 : decode cX2_reckon 63 = .ok (.ireturn, 1) := by decide +kernel
theorem dX2_reckon_64 : decode cX2_reckon 64 = .ok (.iload_n 1, 1) := by decide +kernel
theorem dX2_reckon_65 : decode cX2_reckon 65 = .ok (.iload_n 3, 1) := by decide +kernel
theorem dX2_reckon_66 : decode cX2_reckon 66 = .ok (.isub, 1) := by decide +kernel
theorem dX2_reckon_67 : decode cX2_reckon 67 = .ok (.ireturn, 1) := by decide +kernel
theorem dX2_reckon_68 : decode cX2_reckon 68 = .ok (.iload_n 1, 1) := by decide +kernel
theorem dX2_reckon_69 : decode cX2_reckon 69 = .ok (.iload_n 3, 1) := by decide +kernel
theorem dX2_reckon_70 : decode cX2_reckon 70 = .ok (.imul, 1) := by decide +kernel
theorem dX2_reckon_71 : decode cX2_reckon 71 = .ok (.ireturn, 1) := by decide +kernel
theorem dX2_reckon_72 : decode cX2_reckon 72 = .ok (.iload_n 1, 1) := by decide +kernel
theorem dX2_reckon_73 : decode cX2_reckon 73 = .ok (.iload_n 3, 1) := by decide +kernel
theorem dX2_reckon_74 : decode cX2_reckon 74 = .ok (.if_icmp .ge 7, 3) := by decide +kernel
theorem dX2_reckon_77 : decode cX2_reckon 77 = .ok (.iconst 1, 1) := by decide +kernel
theorem dX2_reckon_78 : decode cX2_reckon 78 = .ok (.goto 4, 3) := by decide +kernel
theorem dX2_reckon_81 : decode cX2_reckon 81 = .ok (.iconst 0, 1) := by decide +kernel
theorem dX2_reckon_82 : decode cX2_reckon 82 = .ok (.ireturn, 1) := by decide +kernel
theorem dX2_reckon_83 : decode cX2_reckon 83 = .ok (.iload_n 1, 1) := by decide +kernel
theorem dX2_reckon_84 : decode cX2_reckon 84 = .ok (.iload_n 3, 1) := by decide +kernel
theorem dX2_reckon_85 : decode cX2_reckon 85 = .ok (.if_icmp .le 7, 3) := by decide +kernel
theorem dX2_reckon_88 : decode cX2_reckon 88 = .ok (.iconst 1, 1) := by decide +kernel
theorem dX2_reckon_89 : decode cX2_reckon 89 = .ok (.goto 4, 3) := by decide +kernel
theorem dX2_reckon_92 : decode cX2_reckon 92 = .ok (.iconst 0, 1) := by decide +kernel
theorem dX2_reckon_93 : decode cX2_reckon 93 = .ok (.ireturn, 1) := by decide +kernel
theorem dX2_reckon_94 : decode cX2_reckon 94 = .ok (.iload_n 1, 1) := by decide +kernel
theorem dX2_reckon_95 : decode cX2_reckon 95 = .ok (.iload_n 3, 1) := by decide +kernel
theorem dX2_reckon_96 : decode cX2_reckon 96 = .ok (.if_icmp .ne 7, 3) := by decide +kernel
theorem dX2_reckon_99 : decode cX2_reckon 99 = .ok (.iconst 1, 1) := by decide +kernel
theorem dX2_reckon_100 : decode cX2_reckon 100 = .ok (.goto 4, 3) := by decide +kernel
theorem dX2_reckon_103 : decode cX2_reckon 103 = .ok (.iconst 0, 1) := by decide +kernel
theorem dX2_reckon_104 : decode cX2_reckon 104 = .ok (.ireturn, 1) := by decide +kernel
theorem dX2_reckon_105 : decode cX2_reckon 105 = .ok (.iload_n 3, 1) := by decide +kernel
theorem dX2_reckon_106 : decode cX2_reckon 106 = .ok (.ifCond .ne 10, 3) := by decide +kernel
theorem dX2_reckon_109 : decode cX2_reckon 109 = .ok (.aload_n 0, 1) := by decide +kernel
theorem dX2_reckon_110 : decode cX2_reckon 110 = .ok (.iconst 1, 1) := by decide +kernel
theorem dX2_reckon_111 : decode cX2_reckon 111 = .ok (.putfield 131, 3) := by decide +kernel
theorem dX2_reckon_114 : decode cX2_reckon 114 = .ok (.iconst 0, 1) := by decide +kernel
theorem dX2_reckon_115 : decode cX2_reckon 115 = .ok (.ireturn, 1) := by decide +kernel
theorem dX2_reckon_116 : decode cX2_reckon 116 = .ok (.iload_n 2, 1) := by decide +kernel
theorem dX2_reckon_117 : decode cX2_reckon 117 = .ok (.bipush 47, 2) := by decide +kernel
theorem dX2_reckon_119 : decode cX2_reckon 119 = .ok (.if_icmp .ne 9, 3) := by decide +kernel
theorem dX2_reckon_122 : decode cX2_reckon 122 = .ok (.iload_n 1, 1) := by decide +kernel
theorem dX2_reckon_123 : decode cX2_reckon 123 = .ok (.iload_n 3, 1) := by decide +kernel
theorem dX2_reckon_124 : decode cX2_reckon 124 = .ok (.idiv, 1) := by decide +kernel
theorem dX2_reckon_125 : decode cX2_reckon 125 = .ok (.goto 6, 3) := by decide +kernel
theorem dX2_reckon_128 : decode cX2_reckon 128 = .ok (.iload_n 1, 1) := by decide +kernel
theorem dX2_reckon_129 : decode cX2_reckon 129 = .ok (.iload_n 3, 1) := by decide +kernel
theorem dX2_reckon_130 : decode cX2_reckon 130 = .ok (.irem, 1) := by decide +kernel
theorem dX2_reckon_131 : decode cX2_reckon 131 = .ok (.ireturn, 1) := by decide +kernel
def FX2_reckon (hp : HP) (p0 : Nat) (p1 : Int32) (p2 : Int32) (p3 : Int32) : Option (Int32 × HP) := if p2 = (42 : Int32) then some ((p1 * p3), hp) else if p2 = (43 : Int32) then some ((p1 + p3), hp) else if p2 = (45 : Int32) then some ((p1 - p3), hp) else if p2 = (60 : Int32) then if p3 ≤ p1 then some ((0 : Int32), hp) else some ((1 : Int32), hp) else if p2 = (61 : Int32) then if p1 = p3 then some ((1 : Int32), hp) else some ((0 : Int32), hp) else if p2 = (62 : Int32) then if p1 ≤ p3 then some ((0 : Int32), hp) else some ((1 : Int32), hp) else if p3 = 0 then (sZ [2] 12 hp p0 (1 : Int32)).bind (fun hp7 => some ((0 : Int32), hp7)) else if p2 = (47 : Int32) then (dvI p1 p3).bind (fun v8 => some (v8, hp)) else (rmI p1 p3).bind (fun v9 => some (v9, hp))
set_option maxHeartbeats 4000000 in
set_option maxRecDepth 100000 in
theorem ctX2_reckon (l : Launch) (D : va_G) (tg : Nat → ClassId) (bs : Nat) (sa : Nat → Nat) (hp : HP) (p0 : Nat) (p1 : Int32) (p2 : Int32) (p3 : Int32) : Ct l D tg bs sa yX2_reckon cX2_reckon 4 (some .int) 0 [.ref p0, .int p1, .int p2, .int p3] hp (FX2_reckon hp p0 p1 p2 p3) (fun r => some (.int r.1)) (fun r => r.2) := by
  refine Ct.of (by decide) (Nat.le_of_ble_eq_true rfl) ?_
  intro V Q hVl hVd hVt hVb hVs hC
  subst hVl; subst hVd; subst hVt; subst hVb; subst hVs
  unfold FX2_reckon
  show Zs V Q (0, 0) 4 _ _ hp [(0, .ref p0), (1, .int p1), (2, .int p2), (3, .int p3)] 0 []
  refine z_iload_n hC 2 dX2_reckon_0 rfl rfl ?_
  refine z_lsw hC (42 : Int32) 68 (67) dX2_reckon_1 (by decide) (by decide) (by decide) (fun _ => ?_) (fun q1 => ?_)
  · refine z_iload_n hC 1 dX2_reckon_68 rfl rfl ?_
    refine z_iload_n hC 3 dX2_reckon_69 rfl rfl ?_
    refine z_imul hC dX2_reckon_70 ?_
    exact z_iret hC (fun h => h) dX2_reckon_71
  refine z_lsw hC (43 : Int32) 60 (59) dX2_reckon_1 (by decide) (by decide) (by decide) (fun _ => ?_) (fun q2 => ?_)
  · refine z_iload_n hC 1 dX2_reckon_60 rfl rfl ?_
    refine z_iload_n hC 3 dX2_reckon_61 rfl rfl ?_
    refine z_iadd hC dX2_reckon_62 ?_
    exact z_iret hC (fun h => h) dX2_reckon_63
  refine z_lsw hC (45 : Int32) 64 (63) dX2_reckon_1 (by decide) (by decide) (by decide) (fun _ => ?_) (fun q3 => ?_)
  · refine z_iload_n hC 1 dX2_reckon_64 rfl rfl ?_
    refine z_iload_n hC 3 dX2_reckon_65 rfl rfl ?_
    refine z_isub hC dX2_reckon_66 ?_
    exact z_iret hC (fun h => h) dX2_reckon_67
  refine z_lsw hC (60 : Int32) 72 (71) dX2_reckon_1 (by decide) (by decide) (by decide) (fun _ => ?_) (fun q4 => ?_)
  · refine z_iload_n hC 1 dX2_reckon_72 rfl rfl ?_
    refine z_iload_n hC 3 dX2_reckon_73 rfl rfl ?_
    refine z_icmp_ge hC 81 dX2_reckon_74 (by decide) (fun _ => ?_) (fun _ => ?_)
    · refine z_iconst hC (0 : Int32) dX2_reckon_81 (by decide) ?_
      exact z_iret hC (fun h => h) dX2_reckon_82
    · refine z_iconst hC (1 : Int32) dX2_reckon_77 (by decide) ?_
      refine z_goto hC 82 dX2_reckon_78 (by decide) ?_
      exact z_iret hC (fun h => h) dX2_reckon_82
  refine z_lsw hC (61 : Int32) 94 (93) dX2_reckon_1 (by decide) (by decide) (by decide) (fun _ => ?_) (fun q5 => ?_)
  · refine z_iload_n hC 1 dX2_reckon_94 rfl rfl ?_
    refine z_iload_n hC 3 dX2_reckon_95 rfl rfl ?_
    refine z_icmp_ne hC 103 dX2_reckon_96 (by decide) (fun _ => ?_) (fun _ => ?_)
    · refine z_iconst hC (1 : Int32) dX2_reckon_99 (by decide) ?_
      refine z_goto hC 104 dX2_reckon_100 (by decide) ?_
      exact z_iret hC (fun h => h) dX2_reckon_104
    · refine z_iconst hC (0 : Int32) dX2_reckon_103 (by decide) ?_
      exact z_iret hC (fun h => h) dX2_reckon_104
  refine z_lsw hC (62 : Int32) 83 (82) dX2_reckon_1 (by decide) (by decide) (by decide) (fun _ => ?_) (fun q6 => ?_)
  · refine z_iload_n hC 1 dX2_reckon_83 rfl rfl ?_
    refine z_iload_n hC 3 dX2_reckon_84 rfl rfl ?_
    refine z_icmp_le hC 92 dX2_reckon_85 (by decide) (fun _ => ?_) (fun _ => ?_)
    · refine z_iconst hC (0 : Int32) dX2_reckon_92 (by decide) ?_
      exact z_iret hC (fun h => h) dX2_reckon_93
    · refine z_iconst hC (1 : Int32) dX2_reckon_88 (by decide) ?_
      refine z_goto hC 93 dX2_reckon_89 (by decide) ?_
      exact z_iret hC (fun h => h) dX2_reckon_93
  refine z_lswd hC 105 (104) dX2_reckon_1 (by decide) (by show Op.lookupswitch.offset [(42, 67), (43, 59), (45, 63), (60, 71), (61, 93), (62, 82)] (104) _ = _; rw [lv_osw q1 (by decide), lv_osw q2 (by decide), lv_osw q3 (by decide), lv_osw q4 (by decide), lv_osw q5 (by decide), lv_osw q6 (by decide)]; rfl) (by decide) ?_
  refine z_iload_n hC 3 dX2_reckon_105 rfl rfl ?_
  refine z_if_ne hC 116 dX2_reckon_106 (by decide) (fun _ => ?_) (fun _ => ?_)
  · refine z_aload_n hC 0 dX2_reckon_109 rfl rfl ?_
    refine z_iconst hC (1 : Int32) dX2_reckon_110 (by decide) ?_
    refine z_putZ hC lpRX2_131 dX2_reckon_111 (fun hp7 => ?_)
    refine z_iconst hC (0 : Int32) dX2_reckon_114 (by decide) ?_
    exact z_iret hC (fun h => h) dX2_reckon_115
  · refine z_iload_n hC 2 dX2_reckon_116 rfl rfl ?_
    refine z_bipush hC (47 : Int32) dX2_reckon_117 (by decide) ?_
    refine z_icmp_ne hC 128 dX2_reckon_119 (by decide) (fun _ => ?_) (fun _ => ?_)
    · refine z_iload_n hC 1 dX2_reckon_122 rfl rfl ?_
      refine z_iload_n hC 3 dX2_reckon_123 rfl rfl ?_
      refine z_idiv hC dX2_reckon_124 (fun v8 => ?_)
      refine z_goto hC 131 dX2_reckon_125 (by decide) ?_
      exact z_iret hC (fun h => h) dX2_reckon_131
    · refine z_iload_n hC 1 dX2_reckon_128 rfl rfl ?_
      refine z_iload_n hC 3 dX2_reckon_129 rfl rfl ?_
      refine z_irem hC dX2_reckon_130 (fun v9 => ?_)
      exact z_iret hC (fun h => h) dX2_reckon_131

theorem dX2_run_0 : decode cX2_run 0 = .ok (.iconst 0, 1) := by decide +kernel
theorem dX2_run_1 : decode cX2_run 1 = .ok (.istore_n 2, 1) := by decide +kernel
theorem dX2_run_2 : decode cX2_run 2 = .ok (.iconst 0, 1) := by decide +kernel
theorem dX2_run_3 : decode cX2_run 3 = .ok (.istore_n 3, 1) := by decide +kernel
theorem dX2_run_4 : decode cX2_run 4 = .ok (.aload_n 0, 1) := by decide +kernel
theorem dX2_run_5 : decode cX2_run 5 = .ok (.iconst 0, 1) := by decide +kernel
theorem dX2_run_6 : decode cX2_run 6 = .ok (.putfield 131, 3) := by decide +kernel
theorem dX2_run_9 : decode cX2_run 9 = .ok (.iconst 0, 1) := by decide +kernel
theorem dX2_run_10 : decode cX2_run 10 = .ok (.iload_n 1, 1) := by decide +kernel
theorem dX2_run_11 : decode cX2_run 11 = .ok (.invokestatic 128, 3) := by decide +kernel
theorem dX2_run_14 : decode cX2_run 14 = .ok (.istore 4, 2) := by decide +kernel
theorem dX2_run_16 : decode cX2_run 16 = .ok (.iload 4, 2) := by decide +kernel
theorem dX2_run_18 : decode cX2_run 18 = .ok (.aload_n 0, 1) := by decide +kernel
theorem dX2_run_19 : decode cX2_run 19 = .ok (.getfield 38, 3) := by decide +kernel
theorem dX2_run_22 : decode cX2_run 22 = .ok (.if_icmp .ge 201, 3) := by decide +kernel
theorem dX2_run_25 : decode cX2_run 25 = .ok (.aload_n 0, 1) := by decide +kernel
theorem dX2_run_26 : decode cX2_run 26 = .ok (.getfield 21, 3) := by decide +kernel
theorem dX2_run_29 : decode cX2_run 29 = .ok (.iload 4, 2) := by decide +kernel
theorem dX2_run_31 : decode cX2_run 31 = .ok (.iaload, 1) := by decide +kernel
theorem dX2_run_32 : decode cX2_run 32 = .ok (.bipush (-41), 2) := by decide +kernel
theorem dX2_run_34 : decode cX2_run 34 = .ok (.if_icmp .eq 189, 3) := by decide +kernel
theorem dX2_run_37 : decode cX2_run 37 = .ok (.aload_n 0, 1) := by decide +kernel
theorem dX2_run_38 : decode cX2_run 38 = .ok (.getfield 131, 3) := by decide +kernel
theorem dX2_run_41 : decode cX2_run 41 = .ok (.ifCond .ne 182, 3) := by decide +kernel
theorem dX2_run_44 : decode cX2_run 44 = .ok (.aload_n 0, 1) := by decide +kernel
theorem dX2_run_45 : decode cX2_run 45 = .ok (.getfield 21, 3) := by decide +kernel
theorem dX2_run_48 : decode cX2_run 48 = .ok (.iload 4, 2) := by decide +kernel
theorem dX2_run_50 : decode cX2_run 50 = .ok (.iaload, 1) := by decide +kernel
theorem dX2_run_51 : decode cX2_run 51 = .ok (.istore 5, 2) := by decide +kernel
theorem dX2_run_53 : decode cX2_run 53 = .ok (.iload 5, 2) := by decide +kernel
theorem dX2_run_55 : decode cX2_run 55 = .ok (.ifCond .lt 45, 3) := by decide +kernel
theorem dX2_run_58 : decode cX2_run 58 = .ok (.aload_n 0, 1) := by decide +kernel
theorem dX2_run_59 : decode cX2_run 59 = .ok (.getfield 27, 3) := by decide +kernel
theorem dX2_run_62 : decode cX2_run 62 = .ok (.iload_n 3, 1) := by decide +kernel
theorem dX2_run_63 : decode cX2_run 63 = .ok (.bipush 31, 2) := by decide +kernel
theorem dX2_run_65 : decode cX2_run 65 = .ok (.iand, 1) := by decide +kernel
theorem dX2_run_66 : decode cX2_run 66 = .ok (.iload_n 2, 1) := by decide +kernel
theorem dX2_run_67 : decode cX2_run 67 = .ok (.iastore, 1) := by decide +kernel
theorem dX2_run_68 : decode cX2_run 68 = .ok (.iinc 3 1, 3) := by decide +kernel
theorem dX2_run_71 : decode cX2_run 71 = .ok (.iload 5, 2) := by decide +kernel
theorem dX2_run_73 : decode cX2_run 73 = .ok (.ldc 96, 2) := by decide +kernel
theorem dX2_run_75 : decode cX2_run 75 = .ok (.if_icmp .ge 8, 3) := by decide +kernel
theorem dX2_run_78 : decode cX2_run 78 = .ok (.iload 5, 2) := by decide +kernel
theorem dX2_run_80 : decode cX2_run 80 = .ok (.goto 16, 3) := by decide +kernel
theorem dX2_run_83 : decode cX2_run 83 = .ok (.aload_n 0, 1) := by decide +kernel
theorem dX2_run_84 : decode cX2_run 84 = .ok (.getfield 24, 3) := by decide +kernel
theorem dX2_run_87 : decode cX2_run 87 = .ok (.iload 5, 2) := by decide +kernel
theorem dX2_run_89 : decode cX2_run 89 = .ok (.ldc 96, 2) := by decide +kernel
theorem dX2_run_91 : decode cX2_run 91 = .ok (.isub, 1) := by decide +kernel
theorem dX2_run_92 : decode cX2_run 92 = .ok (.bipush 7, 2) := by decide +kernel
theorem dX2_run_94 : decode cX2_run 94 = .ok (.iand, 1) := by decide +kernel
theorem dX2_run_95 : decode cX2_run 95 = .ok (.iaload, 1) := by decide +kernel
theorem dX2_run_96 : decode cX2_run 96 = .ok (.istore_n 2, 1) := by decide +kernel
theorem dX2_run_97 : decode cX2_run 97 = .ok (.goto 120, 3) := by decide +kernel
theorem dX2_run_100 : decode cX2_run 100 = .ok (.iload 5, 2) := by decide +kernel
theorem dX2_run_102 : decode cX2_run 102 = .ok (.sipush (-1000), 3) := by decide +kernel
theorem dX2_run_105 : decode cX2_run 105 = .ok (.if_icmp .gt 77, 3) := by decide +kernel
theorem dX2_run_108 : decode cX2_run 108 = .ok (.iload 5, 2) := by decide +kernel
theorem dX2_run_110 : decode cX2_run 110 = .ok (.sipush (-2000), 3) := by decide +kernel
theorem dX2_run_113 : decode cX2_run 113 = .ok (.if_icmp .gt 7, 3) := by decide +kernel
theorem dX2_run_116 : decode cX2_run 116 = .ok (.iconst 1, 1) := by decide +kernel
theorem dX2_run_117 : decode cX2_run 117 = .ok (.goto 4, 3) := by decide +kernel
theorem dX2_run_120 : decode cX2_run 120 = .ok (.iconst 0, 1) := by decide +kernel
theorem dX2_run_121 : decode cX2_run 121 = .ok (.istore 6, 2) := by decide +kernel
theorem dX2_run_123 : decode cX2_run 123 = .ok (.iload_n 2, 1) := by decide +kernel
theorem dX2_run_124 : decode cX2_run 124 = .ok (.ifCond .eq 7, 3) := by decide +kernel
theorem dX2_run_127 : decode cX2_run 127 = .ok (.iconst 1, 1) := by decide +kernel
theorem dX2_run_128 : decode cX2_run 128 = .ok (.goto 4, 3) := by decide +kernel
theorem dX2_run_131 : decode cX2_run 131 = .ok (.iconst 0, 1) := by decide +kernel
theorem dX2_run_132 : decode cX2_run 132 = .ok (.iload 6, 2) := by decide +kernel
theorem dX2_run_134 : decode cX2_run 134 = .ok (.if_icmp .ne 32, 3) := by decide +kernel
theorem dX2_run_137 : decode cX2_run 137 = .ok (.iload 4, 2) := by decide +kernel
theorem dX2_run_139 : decode cX2_run 139 = .ok (.iload 6, 2) := by decide +kernel
theorem dX2_run_141 : decode cX2_run 141 = .ok (.ifCond .eq 9, 3) := by decide +kernel
theorem dX2_run_144 : decode cX2_run 144 = .ok (.sipush (-2000), 3) := by decide +kernel
theorem dX2_run_147 : decode cX2_run 147 = .ok (.goto 6, 3) := by decide +kernel
theorem dX2_run_150 : decode cX2_run 150 = .ok (.sipush (-1000), 3) := by decide +kernel
theorem dX2_run_153 : decode cX2_run 153 = .ok (.iload 5, 2) := by decide +kernel
theorem dX2_run_155 : decode cX2_run 155 = .ok (.isub, 1) := by decide +kernel
theorem dX2_run_156 : decode cX2_run 156 = .ok (.iconst 1, 1) := by decide +kernel
theorem dX2_run_157 : decode cX2_run 157 = .ok (.isub, 1) := by decide +kernel
theorem dX2_run_158 : decode cX2_run 158 = .ok (.invokestatic 128, 3) := by decide +kernel
theorem dX2_run_161 : decode cX2_run 161 = .ok (.istore 4, 2) := by decide +kernel
theorem dX2_run_163 : decode cX2_run 163 = .ok (.goto 16, 3) := by decide +kernel
theorem dX2_run_166 : decode cX2_run 166 = .ok (.iinc 3 (-1), 3) := by decide +kernel
theorem dX2_run_169 : decode cX2_run 169 = .ok (.aload_n 0, 1) := by decide +kernel
theorem dX2_run_170 : decode cX2_run 170 = .ok (.getfield 27, 3) := by decide +kernel
theorem dX2_run_173 : decode cX2_run 173 = .ok (.iload_n 3, 1) := by decide +kernel
theorem dX2_run_174 : decode cX2_run 174 = .ok (.bipush 31, 2) := by decide +kernel
theorem dX2_run_176 : decode cX2_run 176 = .ok (.iand, 1) := by decide +kernel
theorem dX2_run_177 : decode cX2_run 177 = .ok (.iaload, 1) := by decide +kernel
theorem dX2_run_178 : decode cX2_run 178 = .ok (.istore_n 2, 1) := by decide +kernel
theorem dX2_run_179 : decode cX2_run 179 = .ok (.goto 38, 3) := by decide +kernel
theorem dX2_run_182 : decode cX2_run 182 = .ok (.iload 5, 2) := by decide +kernel
theorem dX2_run_184 : decode cX2_run 184 = .ok (.bipush (-33), 2) := by decide +kernel
theorem dX2_run_186 : decode cX2_run 186 = .ok (.if_icmp .ne 10, 3) := by decide +kernel
theorem dX2_run_189 : decode cX2_run 189 = .ok (.iconst 1, 1) := by decide +kernel
theorem dX2_run_190 : decode cX2_run 190 = .ok (.iload_n 2, 1) := by decide +kernel
theorem dX2_run_191 : decode cX2_run 191 = .ok (.isub, 1) := by decide +kernel
theorem dX2_run_192 : decode cX2_run 192 = .ok (.istore_n 2, 1) := by decide +kernel
theorem dX2_run_193 : decode cX2_run 193 = .ok (.goto 24, 3) := by decide +kernel
theorem dX2_run_196 : decode cX2_run 196 = .ok (.iinc 3 (-1), 3) := by decide +kernel
theorem dX2_run_199 : decode cX2_run 199 = .ok (.aload_n 0, 1) := by decide +kernel
theorem dX2_run_200 : decode cX2_run 200 = .ok (.aload_n 0, 1) := by decide +kernel
theorem dX2_run_201 : decode cX2_run 201 = .ok (.getfield 27, 3) := by decide +kernel
theorem dX2_run_204 : decode cX2_run 204 = .ok (.iload_n 3, 1) := by decide +kernel
theorem dX2_run_205 : decode cX2_run 205 = .ok (.bipush 31, 2) := by decide +kernel
theorem dX2_run_207 : decode cX2_run 207 = .ok (.iand, 1) := by decide +kernel
theorem dX2_run_208 : decode cX2_run 208 = .ok (.iaload, 1) := by decide +kernel
theorem dX2_run_209 : decode cX2_run 209 = .ok (.iload 5, 2) := by decide +kernel
theorem dX2_run_211 : decode cX2_run 211 = .ok (.ineg, 1) := by decide +kernel
theorem dX2_run_212 : decode cX2_run 212 = .ok (.iload_n 2, 1) := by decide +kernel
theorem dX2_run_213 : decode cX2_run 213 = .ok (.invokevirtual 135, 3) := by decide +kernel
theorem dX2_run_216 : decode cX2_run 216 = .ok (.istore_n 2, 1) := by decide +kernel
theorem dX2_run_217 : decode cX2_run 217 = .ok (.iinc 4 1, 3) := by decide +kernel
theorem dX2_run_220 : decode cX2_run 220 = .ok (.goto (-204), 3) := by decide +kernel
theorem dX2_run_223 : decode cX2_run 223 = .ok (.aload_n 0, 1) := by decide +kernel
theorem dX2_run_224 : decode cX2_run 224 = .ok (.getfield 131, 3) := by decide +kernel
theorem dX2_run_227 : decode cX2_run 227 = .ok (.ifCond .eq 7, 3) := by decide +kernel
theorem dX2_run_230 : decode cX2_run 230 = .ok (.iconst 0, 1) := by decide +kernel
theorem dX2_run_231 : decode cX2_run 231 = .ok (.goto 4, 3) := by decide +kernel
theorem dX2_run_234 : decode cX2_run 234 = .ok (.iload_n 2, 1) := by decide +kernel
theorem dX2_run_235 : decode cX2_run 235 = .ok (.ireturn, 1) := by decide +kernel
def FX2_run (hp : HP) (p0 : Nat) (p1 : Int32) : Option (Int32 × HP) := (sZ [2] 12 hp p0 (0 : Int32)).bind (fun hp1 => vl (mxI (0 : Int32) p1) (fun x2 => (lp (fun (s3 : Int32 × Int32 × Int32 × HP) => (gI [2] 9 s3.2.2.2 p0).bind (fun v6 => if v6 ≤ s3.2.2.1 then some (Sum.inl (s3.1, s3.2.2.2)) else (gR [2] 8 s3.2.2.2 p0).bind (fun v7 => (rdN 0 s3.2.2.2 v7 s3.2.2.1).bind (fun v8 => if v8 = (-41 : Int32) then some (Sum.inl (s3.1, s3.2.2.2)) else (gI [2] 12 s3.2.2.2 p0).bind (fun v9 => if v9 = 0 then (gR [2] 8 s3.2.2.2 p0).bind (fun v10 => (rdN 0 s3.2.2.2 v10 s3.2.2.1).bind (fun v11 => if v11 < 0 then if (-1000 : Int32) < v11 then if v11 = (-33 : Int32) then vl ((1 : Int32) - s3.1) (fun x12 => vl (s3.2.2.1 + (1 : Int32)) (fun x13 => some (Sum.inr (x12, s3.2.1, x13, s3.2.2.2)))) else vl (s3.2.1 + (-1 : Int32)) (fun x14 => (gR [2] 11 s3.2.2.2 p0).bind (fun v15 => (rdN 0 s3.2.2.2 v15 (x14 &&& (31 : Int32))).bind (fun v16 => (rc [2] s3.2.2.2 p0 (FX2_reckon s3.2.2.2 p0 v16 (-v11) s3.1)).bind (fun w17 => vl (s3.2.2.1 + (1 : Int32)) (fun x18 => some (Sum.inr (w17.1, x14, x18, w17.2))))))) else jn (A := Int32) (fun a19 => jn (A := Int32) (fun a21 => if a21 = a19 then jn (A := Int32) (fun a23 => vl (mxI s3.2.2.1 ((a23 - v11) - (1 : Int32))) (fun x25 => vl (x25 + (1 : Int32)) (fun x26 => some (Sum.inr (s3.1, s3.2.1, x26, s3.2.2.2))))) (fun J24 => if a19 = 0 then J24 (-1000 : Int32) else J24 (-2000 : Int32)) else vl (s3.2.1 + (-1 : Int32)) (fun x27 => (gR [2] 11 s3.2.2.2 p0).bind (fun v28 => (rdN 0 s3.2.2.2 v28 (x27 &&& (31 : Int32))).bind (fun v29 => vl (s3.2.2.1 + (1 : Int32)) (fun x30 => some (Sum.inr (v29, x27, x30, s3.2.2.2))))))) (fun J22 => if s3.1 = 0 then J22 (0 : Int32) else J22 (1 : Int32))) (fun J20 => if (-2000 : Int32) < v11 then J20 (0 : Int32) else J20 (1 : Int32)) else (gR [2] 11 s3.2.2.2 p0).bind (fun v31 => (wrI s3.2.2.2 v31 (s3.2.1 &&& (31 : Int32)) s3.1).bind (fun hp32 => vl (s3.2.1 + (1 : Int32)) (fun x33 => if (100000 : Int32) ≤ v11 then (gR [2] 10 hp32 p0).bind (fun v34 => (rdN 0 hp32 v34 ((v11 - (100000 : Int32)) &&& (7 : Int32))).bind (fun v35 => vl (s3.2.2.1 + (1 : Int32)) (fun x36 => some (Sum.inr (v35, x33, x36, hp32))))) else vl (s3.2.2.1 + (1 : Int32)) (fun x37 => some (Sum.inr (v11, x33, x37, hp32)))))))) else some (Sum.inl (s3.1, s3.2.2.2))))))) FU ((0 : Int32), (0 : Int32), x2, hp1)).bind (fun (y4 : Int32 × HP) => (gI [2] 12 y4.2 p0).bind (fun v5 => if v5 = 0 then some (y4.1, y4.2) else some ((0 : Int32), y4.2)))))
set_option maxHeartbeats 4000000 in
set_option maxRecDepth 100000 in
theorem ctX2_run (l : Launch) (D : va_G) (tg : Nat → ClassId) (bs : Nat) (sa : Nat → Nat) (hp : HP) (p0 : Nat) (p1 : Int32) : Ct l D tg bs sa yX2_run cX2_run 7 (some .int) 1 [.ref p0, .int p1] hp (FX2_run hp p0 p1) (fun r => some (.int r.1)) (fun r => r.2) := by
  refine Ct.of (by decide) (Nat.le_of_ble_eq_true rfl) ?_
  intro V Q hVl hVd hVt hVb hVs hC
  subst hVl; subst hVd; subst hVt; subst hVb; subst hVs
  unfold FX2_run
  show Zs V Q (0, 0) 7 _ _ hp [(0, .ref p0), (1, .int p1)] 0 []
  refine z_iconst hC (0 : Int32) dX2_run_0 (by decide) ?_
  refine z_istore_n hC [(0, .ref p0), (1, .int p1), (2, .int (0 : Int32))] [1, 2, 0] dX2_run_1 rfl (by decide) rfl ?_
  refine z_iconst hC (0 : Int32) dX2_run_2 (by decide) ?_
  refine z_istore_n hC [(0, .ref p0), (1, .int p1), (2, .int (0 : Int32)), (3, .int (0 : Int32))] [1, 2, 3, 0] dX2_run_3 rfl (by decide) rfl ?_
  refine z_aload_n hC 0 dX2_run_4 rfl rfl ?_
  refine z_iconst hC (0 : Int32) dX2_run_5 (by decide) ?_
  refine z_putZ hC lpRX2_131 dX2_run_6 (fun hp1 => ?_)
  refine z_iconst hC (0 : Int32) dX2_run_9 (by decide) ?_
  refine z_iload_n hC 1 dX2_run_10 rfl rfl ?_
  refine z_mmax hC laRX2_128 hn0 (Nat.le_of_ble_eq_true rfl) dX2_run_11 ?_
  refine z_vli (fun x2 => ?_)
  refine z_istore hC [(0, .ref p0), (1, .int p1), (2, .int (0 : Int32)), (3, .int (0 : Int32)), (4, .int x2)] [1, 2, 3, 4, 0] dX2_run_14 (by decide) rfl ?_
  refine z_weak [(0, .ref p0), (2, .int (0 : Int32)), (3, .int (0 : Int32)), (4, .int x2)] [0, 2, 3, 4] rfl ?_
  refine z_lp (S := Int32 × Int32 × Int32 × HP) (Y := Int32 × HP) (fun s3 => s3.2.2.2) (fun s3 => [(0, .ref p0), (2, .int s3.1), (3, .int s3.2.1), (4, .int s3.2.2.1)]) (fun y4 => y4.2) (fun y4 => [(0, .ref p0), (2, .int y4.1)]) 223 [] (fun y4 => ?_) (fun s3 => ?_) rfl rfl
  · refine z_aload_n hC 0 dX2_run_223 rfl rfl ?_
    refine z_getI hC lgRX2_131 dX2_run_224 (fun v5 => ?_)
    refine z_if_eq hC 234 dX2_run_227 (by decide) (fun _ => ?_) (fun _ => ?_)
    · refine z_iload_n hC 1 dX2_run_234 rfl rfl ?_
      exact z_iret hC (fun h => h) dX2_run_235
    · refine z_iconst hC (0 : Int32) dX2_run_230 (by decide) ?_
      refine z_goto hC 235 dX2_run_231 (by decide) ?_
      exact z_iret hC (fun h => h) dX2_run_235
  · refine z_iload hC 3 dX2_run_16 rfl ?_
    refine z_aload_n hC 0 dX2_run_18 rfl rfl ?_
    refine z_getI hC lgRX2_38 dX2_run_19 (fun v6 => ?_)
    refine z_icmp_ge hC 223 dX2_run_22 (by decide) (fun _ => ?_) (fun _ => ?_)
    · refine z_weak [(0, .ref p0), (2, .int s3.1)] [0, 1] rfl ?_
      exact z_leaf (fun h => h)
    · refine z_aload_n hC 0 dX2_run_25 rfl rfl ?_
      refine z_getR hC lgRX2_21 dX2_run_26 (fun v7 => ?_)
      refine z_iload hC 3 dX2_run_29 rfl ?_
      refine z_iald hC dX2_run_31 (fun v8 => ?_)
      refine z_bipush hC (-41 : Int32) dX2_run_32 (by decide) ?_
      refine z_icmp_eq hC 223 dX2_run_34 (by decide) (fun _ => ?_) (fun _ => ?_)
      · refine z_weak [(0, .ref p0), (2, .int s3.1)] [0, 1] rfl ?_
        exact z_leaf (fun h => h)
      · refine z_aload_n hC 0 dX2_run_37 rfl rfl ?_
        refine z_getI hC lgRX2_131 dX2_run_38 (fun v9 => ?_)
        refine z_if_ne hC 223 dX2_run_41 (by decide) (fun _ => ?_) (fun _ => ?_)
        · refine z_aload_n hC 0 dX2_run_44 rfl rfl ?_
          refine z_getR hC lgRX2_21 dX2_run_45 (fun v10 => ?_)
          refine z_iload hC 3 dX2_run_48 rfl ?_
          refine z_iald hC dX2_run_50 (fun v11 => ?_)
          refine z_istore hC [(0, .ref p0), (2, .int s3.1), (3, .int s3.2.1), (4, .int s3.2.2.1), (5, .int v11)] [1, 2, 3, 4, 0] dX2_run_51 (by decide) rfl ?_
          refine z_iload hC 4 dX2_run_53 rfl ?_
          refine z_if_lt hC 100 dX2_run_55 (by decide) (fun _ => ?_) (fun _ => ?_)
          · refine z_iload hC 4 dX2_run_100 rfl ?_
            refine z_sipush hC (-1000 : Int32) dX2_run_102 (by decide) ?_
            refine z_icmp_gt hC 182 dX2_run_105 (by decide) (fun _ => ?_) (fun _ => ?_)
            · refine z_iload hC 4 dX2_run_182 rfl ?_
              refine z_bipush hC (-33 : Int32) dX2_run_184 (by decide) ?_
              refine z_icmp_ne hC 196 dX2_run_186 (by decide) (fun _ => ?_) (fun _ => ?_)
              · refine z_iconst hC (1 : Int32) dX2_run_189 (by decide) ?_
                refine z_iload_n hC 1 dX2_run_190 rfl rfl ?_
                refine z_isub hC dX2_run_191 ?_
                refine z_vli (fun x12 => ?_)
                refine z_istore_n hC [(0, .ref p0), (2, .int x12), (3, .int s3.2.1), (4, .int s3.2.2.1), (5, .int v11)] [1, 0, 2, 3, 4] dX2_run_192 rfl (by decide) rfl ?_
                refine z_goto hC 217 dX2_run_193 (by decide) ?_
                refine z_iincv hC (1 : Int32) 3 (fun x13 => [(0, .ref p0), (2, .int x12), (3, .int s3.2.1), (4, .int x13), (5, .int v11)]) [1, 2, 3, 0, 4] dX2_run_217 rfl (by decide) (by decide) (fun _ => rfl) (fun x13 => ?_)
                refine z_goto hC 16 dX2_run_220 (by decide) ?_
                refine z_weak [(0, .ref p0), (2, .int x12), (3, .int s3.2.1), (4, .int x13)] [0, 1, 2, 3] rfl ?_
                exact z_leaf (fun h => h)
              · refine z_iincv hC (-1 : Int32) 2 (fun x14 => [(0, .ref p0), (2, .int s3.1), (3, .int x14), (4, .int s3.2.2.1), (5, .int v11)]) [1, 2, 0, 3, 4] dX2_run_196 rfl (by decide) (by decide) (fun _ => rfl) (fun x14 => ?_)
                refine z_aload_n hC 0 dX2_run_199 rfl rfl ?_
                refine z_aload_n hC 0 dX2_run_200 rfl rfl ?_
                refine z_getR hC lgRX2_27 dX2_run_201 (fun v15 => ?_)
                refine z_iload_n hC 2 dX2_run_204 rfl rfl ?_
                refine z_bipush hC (31 : Int32) dX2_run_205 (by decide) ?_
                refine z_iand hC dX2_run_207 ?_
                refine z_iald hC dX2_run_208 (fun v16 => ?_)
                refine z_iload hC 4 dX2_run_209 rfl ?_
                refine z_ineg hC dX2_run_211 ?_
                refine z_iload_n hC 1 dX2_run_212 rfl rfl ?_
                refine z_callVi hC (ci := 2) rfl lmRX2_135 (ctX2_reckon (vLa V) (vDa V) (vTg V) (vBs V) (vSa V) s3.2.2.2 p0 v16 (-v11) s3.1) (by decide) hn0 dX2_run_213 rfl rfl (Nat.le_of_ble_eq_true rfl) (fun w17 => ?_)
                refine z_istore_n hC [(0, .ref p0), (2, .int w17.1), (3, .int x14), (4, .int s3.2.2.1), (5, .int v11)] [1, 0, 2, 3, 4] dX2_run_216 rfl (by decide) rfl ?_
                refine z_iincv hC (1 : Int32) 3 (fun x18 => [(0, .ref p0), (2, .int w17.1), (3, .int x14), (4, .int x18), (5, .int v11)]) [1, 2, 3, 0, 4] dX2_run_217 rfl (by decide) (by decide) (fun _ => rfl) (fun x18 => ?_)
                refine z_goto hC 16 dX2_run_220 (by decide) ?_
                refine z_weak [(0, .ref p0), (2, .int w17.1), (3, .int x14), (4, .int x18)] [0, 1, 2, 3] rfl ?_
                exact z_leaf (fun h => h)
            · refine z_iload hC 4 dX2_run_108 rfl ?_
              refine z_sipush hC (-2000 : Int32) dX2_run_110 (by decide) ?_
              refine z_jn (A := Int32) (fun a19 => s3.2.2.2) (fun a19 => [(0, .ref p0), (2, .int s3.1), (3, .int s3.2.1), (4, .int s3.2.2.1), (5, .int v11)]) 121 (fun a19 => [.int a19]) (fun a19 => ?_) (fun J20 hJ20 => ?_)
              · refine z_istore hC [(0, .ref p0), (2, .int s3.1), (3, .int s3.2.1), (4, .int s3.2.2.1), (5, .int v11), (6, .int a19)] [1, 2, 3, 4, 5, 0] dX2_run_121 (by decide) rfl ?_
                refine z_iload_n hC 1 dX2_run_123 rfl rfl ?_
                refine z_jn (A := Int32) (fun a21 => s3.2.2.2) (fun a21 => [(0, .ref p0), (2, .int s3.1), (3, .int s3.2.1), (4, .int s3.2.2.1), (5, .int v11), (6, .int a19)]) 132 (fun a21 => [.int a21]) (fun a21 => ?_) (fun J22 hJ22 => ?_)
                · refine z_iload hC 5 dX2_run_132 rfl ?_
                  refine z_icmp_ne hC 166 dX2_run_134 (by decide) (fun _ => ?_) (fun _ => ?_)
                  · refine z_iload hC 3 dX2_run_137 rfl ?_
                    refine z_iload hC 5 dX2_run_139 rfl ?_
                    refine z_jn (A := Int32) (fun a23 => s3.2.2.2) (fun a23 => [(0, .ref p0), (2, .int s3.1), (3, .int s3.2.1), (5, .int v11)]) 153 (fun a23 => [.int a23, .int s3.2.2.1]) (fun a23 => ?_) (fun J24 hJ24 => ?_)
                    · refine z_iload hC 3 dX2_run_153 rfl ?_
                      refine z_isub hC dX2_run_155 ?_
                      refine z_iconst hC (1 : Int32) dX2_run_156 (by decide) ?_
                      refine z_isub hC dX2_run_157 ?_
                      refine z_mmax hC laRX2_128 hn0 (Nat.le_of_ble_eq_true rfl) dX2_run_158 ?_
                      refine z_vli (fun x25 => ?_)
                      refine z_istore hC [(0, .ref p0), (2, .int s3.1), (3, .int s3.2.1), (4, .int x25), (5, .int v11)] [1, 2, 3, 0, 4] dX2_run_161 (by decide) rfl ?_
                      refine z_goto hC 179 dX2_run_163 (by decide) ?_
                      refine z_goto hC 217 dX2_run_179 (by decide) ?_
                      refine z_iincv hC (1 : Int32) 3 (fun x26 => [(0, .ref p0), (2, .int s3.1), (3, .int s3.2.1), (4, .int x26), (5, .int v11)]) [1, 2, 3, 0, 4] dX2_run_217 rfl (by decide) (by decide) (fun _ => rfl) (fun x26 => ?_)
                      refine z_goto hC 16 dX2_run_220 (by decide) ?_
                      refine z_weak [(0, .ref p0), (2, .int s3.1), (3, .int s3.2.1), (4, .int x26)] [0, 1, 2, 3] rfl ?_
                      exact z_leaf (fun h => h)
                    · refine z_if_eq hC 150 dX2_run_141 (by decide) (fun _ => ?_) (fun _ => ?_)
                      · refine z_sipush hC (-1000 : Int32) dX2_run_150 (by decide) ?_
                        refine z_weak [(0, .ref p0), (2, .int s3.1), (3, .int s3.2.1), (5, .int v11)] [0, 1, 2, 4] rfl ?_
                        exact hJ24 (-1000 : Int32)
                      · refine z_sipush hC (-2000 : Int32) dX2_run_144 (by decide) ?_
                        refine z_goto hC 153 dX2_run_147 (by decide) ?_
                        refine z_weak [(0, .ref p0), (2, .int s3.1), (3, .int s3.2.1), (5, .int v11)] [0, 1, 2, 4] rfl ?_
                        exact hJ24 (-2000 : Int32)
                  · refine z_iincv hC (-1 : Int32) 2 (fun x27 => [(0, .ref p0), (2, .int s3.1), (3, .int x27), (4, .int s3.2.2.1), (5, .int v11), (6, .int a19)]) [1, 2, 0, 3, 4, 5] dX2_run_166 rfl (by decide) (by decide) (fun _ => rfl) (fun x27 => ?_)
                    refine z_aload_n hC 0 dX2_run_169 rfl rfl ?_
                    refine z_getR hC lgRX2_27 dX2_run_170 (fun v28 => ?_)
                    refine z_iload_n hC 2 dX2_run_173 rfl rfl ?_
                    refine z_bipush hC (31 : Int32) dX2_run_174 (by decide) ?_
                    refine z_iand hC dX2_run_176 ?_
                    refine z_iald hC dX2_run_177 (fun v29 => ?_)
                    refine z_istore_n hC [(0, .ref p0), (2, .int v29), (3, .int x27), (4, .int s3.2.2.1), (5, .int v11), (6, .int a19)] [1, 0, 2, 3, 4, 5] dX2_run_178 rfl (by decide) rfl ?_
                    refine z_goto hC 217 dX2_run_179 (by decide) ?_
                    refine z_iincv hC (1 : Int32) 3 (fun x30 => [(0, .ref p0), (2, .int v29), (3, .int x27), (4, .int x30), (5, .int v11), (6, .int a19)]) [1, 2, 3, 0, 4, 5] dX2_run_217 rfl (by decide) (by decide) (fun _ => rfl) (fun x30 => ?_)
                    refine z_goto hC 16 dX2_run_220 (by decide) ?_
                    refine z_weak [(0, .ref p0), (2, .int v29), (3, .int x27), (4, .int x30)] [0, 1, 2, 3] rfl ?_
                    exact z_leaf (fun h => h)
                · refine z_if_eq hC 131 dX2_run_124 (by decide) (fun _ => ?_) (fun _ => ?_)
                  · refine z_iconst hC (0 : Int32) dX2_run_131 (by decide) ?_
                    exact hJ22 (0 : Int32)
                  · refine z_iconst hC (1 : Int32) dX2_run_127 (by decide) ?_
                    refine z_goto hC 132 dX2_run_128 (by decide) ?_
                    exact hJ22 (1 : Int32)
              · refine z_icmp_gt hC 120 dX2_run_113 (by decide) (fun _ => ?_) (fun _ => ?_)
                · refine z_iconst hC (0 : Int32) dX2_run_120 (by decide) ?_
                  exact hJ20 (0 : Int32)
                · refine z_iconst hC (1 : Int32) dX2_run_116 (by decide) ?_
                  refine z_goto hC 121 dX2_run_117 (by decide) ?_
                  exact hJ20 (1 : Int32)
          · refine z_aload_n hC 0 dX2_run_58 rfl rfl ?_
            refine z_getR hC lgRX2_27 dX2_run_59 (fun v31 => ?_)
            refine z_iload_n hC 2 dX2_run_62 rfl rfl ?_
            refine z_bipush hC (31 : Int32) dX2_run_63 (by decide) ?_
            refine z_iand hC dX2_run_65 ?_
            refine z_iload_n hC 1 dX2_run_66 rfl rfl ?_
            refine z_iast hC dX2_run_67 (fun hp32 => ?_)
            refine z_iincv hC (1 : Int32) 2 (fun x33 => [(0, .ref p0), (2, .int s3.1), (3, .int x33), (4, .int s3.2.2.1), (5, .int v11)]) [1, 2, 0, 3, 4] dX2_run_68 rfl (by decide) (by decide) (fun _ => rfl) (fun x33 => ?_)
            refine z_iload hC 4 dX2_run_71 rfl ?_
            refine z_ldc hC (100000 : Int32) lcRX2_96 dX2_run_73 ?_
            refine z_icmp_ge hC 83 dX2_run_75 (by decide) (fun _ => ?_) (fun _ => ?_)
            · refine z_aload_n hC 0 dX2_run_83 rfl rfl ?_
              refine z_getR hC lgRX2_24 dX2_run_84 (fun v34 => ?_)
              refine z_iload hC 4 dX2_run_87 rfl ?_
              refine z_ldc hC (100000 : Int32) lcRX2_96 dX2_run_89 ?_
              refine z_isub hC dX2_run_91 ?_
              refine z_bipush hC (7 : Int32) dX2_run_92 (by decide) ?_
              refine z_iand hC dX2_run_94 ?_
              refine z_iald hC dX2_run_95 (fun v35 => ?_)
              refine z_istore_n hC [(0, .ref p0), (2, .int v35), (3, .int x33), (4, .int s3.2.2.1), (5, .int v11)] [1, 0, 2, 3, 4] dX2_run_96 rfl (by decide) rfl ?_
              refine z_goto hC 217 dX2_run_97 (by decide) ?_
              refine z_iincv hC (1 : Int32) 3 (fun x36 => [(0, .ref p0), (2, .int v35), (3, .int x33), (4, .int x36), (5, .int v11)]) [1, 2, 3, 0, 4] dX2_run_217 rfl (by decide) (by decide) (fun _ => rfl) (fun x36 => ?_)
              refine z_goto hC 16 dX2_run_220 (by decide) ?_
              refine z_weak [(0, .ref p0), (2, .int v35), (3, .int x33), (4, .int x36)] [0, 1, 2, 3] rfl ?_
              exact z_leaf (fun h => h)
            · refine z_iload hC 4 dX2_run_78 rfl ?_
              refine z_goto hC 96 dX2_run_80 (by decide) ?_
              refine z_istore_n hC [(0, .ref p0), (2, .int v11), (3, .int x33), (4, .int s3.2.2.1), (5, .int v11)] [1, 0, 2, 3, 4] dX2_run_96 rfl (by decide) rfl ?_
              refine z_goto hC 217 dX2_run_97 (by decide) ?_
              refine z_iincv hC (1 : Int32) 3 (fun x37 => [(0, .ref p0), (2, .int v11), (3, .int x33), (4, .int x37), (5, .int v11)]) [1, 2, 3, 0, 4] dX2_run_217 rfl (by decide) (by decide) (fun _ => rfl) (fun x37 => ?_)
              refine z_goto hC 16 dX2_run_220 (by decide) ?_
              refine z_weak [(0, .ref p0), (2, .int v11), (3, .int x33), (4, .int x37)] [0, 1, 2, 3] rfl ?_
              exact z_leaf (fun h => h)
        · refine z_weak [(0, .ref p0), (2, .int s3.1)] [0, 1] rfl ?_
          exact z_leaf (fun h => h)

theorem dX2_worth_0 : decode cX2_worth 0 = .ok (.iconst 0, 1) := by decide +kernel
theorem dX2_worth_1 : decode cX2_worth 1 = .ok (.istore_n 3, 1) := by decide +kernel
theorem dX2_worth_2 : decode cX2_worth 2 = .ok (.iload_n 3, 1) := by decide +kernel
theorem dX2_worth_3 : decode cX2_worth 3 = .ok (.aload_n 0, 1) := by decide +kernel
theorem dX2_worth_4 : decode cX2_worth 4 = .ok (.getfield 34, 3) := by decide +kernel
theorem dX2_worth_7 : decode cX2_worth 7 = .ok (.if_icmp .ge 57, 3) := by decide +kernel
theorem dX2_worth_10 : decode cX2_worth 10 = .ok (.iload_n 3, 1) := by decide +kernel
theorem dX2_worth_11 : decode cX2_worth 11 = .ok (.bipush 16, 2) := by decide +kernel
theorem dX2_worth_13 : decode cX2_worth 13 = .ok (.if_icmp .ge 51, 3) := by decide +kernel
theorem dX2_worth_16 : decode cX2_worth 16 = .ok (.aload_n 0, 1) := by decide +kernel
theorem dX2_worth_17 : decode cX2_worth 17 = .ok (.getfield 9, 3) := by decide +kernel
theorem dX2_worth_20 : decode cX2_worth 20 = .ok (.iload_n 3, 1) := by decide +kernel
theorem dX2_worth_21 : decode cX2_worth 21 = .ok (.iaload, 1) := by decide +kernel
theorem dX2_worth_22 : decode cX2_worth 22 = .ok (.iload_n 1, 1) := by decide +kernel
theorem dX2_worth_23 : decode cX2_worth 23 = .ok (.if_icmp .ne 35, 3) := by decide +kernel
theorem dX2_worth_26 : decode cX2_worth 26 = .ok (.aload_n 0, 1) := by decide +kernel
theorem dX2_worth_27 : decode cX2_worth 27 = .ok (.aload_n 0, 1) := by decide +kernel
theorem dX2_worth_28 : decode cX2_worth 28 = .ok (.getfield 18, 3) := by decide +kernel
theorem dX2_worth_31 : decode cX2_worth 31 = .ok (.iload_n 3, 1) := by decide +kernel
theorem dX2_worth_32 : decode cX2_worth 32 = .ok (.iaload, 1) := by decide +kernel
theorem dX2_worth_33 : decode cX2_worth 33 = .ok (.invokevirtual 119, 3) := by decide +kernel
theorem dX2_worth_36 : decode cX2_worth 36 = .ok (.ifCond .eq 22, 3) := by decide +kernel
theorem dX2_worth_39 : decode cX2_worth 39 = .ok (.iconst 0, 1) := by decide +kernel
theorem dX2_worth_40 : decode cX2_worth 40 = .ok (.iload_n 2, 1) := by decide +kernel
theorem dX2_worth_41 : decode cX2_worth 41 = .ok (.aload_n 0, 1) := by decide +kernel
theorem dX2_worth_42 : decode cX2_worth 42 = .ok (.aload_n 0, 1) := by decide +kernel
theorem dX2_worth_43 : decode cX2_worth 43 = .ok (.getfield 15, 3) := by decide +kernel
theorem dX2_worth_46 : decode cX2_worth 46 = .ok (.iload_n 3, 1) := by decide +kernel
theorem dX2_worth_47 : decode cX2_worth 47 = .ok (.iaload, 1) := by decide +kernel
theorem dX2_worth_48 : decode cX2_worth 48 = .ok (.invokevirtual 119, 3) := by decide +kernel
theorem dX2_worth_51 : decode cX2_worth 51 = .ok (.invokestatic 122, 3) := by decide +kernel
theorem dX2_worth_54 : decode cX2_worth 54 = .ok (.invokestatic 128, 3) := by decide +kernel
theorem dX2_worth_57 : decode cX2_worth 57 = .ok (.ireturn, 1) := by decide +kernel
theorem dX2_worth_58 : decode cX2_worth 58 = .ok (.iinc 3 1, 3) := by decide +kernel
theorem dX2_worth_61 : decode cX2_worth 61 = .ok (.goto (-59), 3) := by decide +kernel
theorem dX2_worth_64 : decode cX2_worth 64 = .ok (.iconst 0, 1) := by decide +kernel
theorem dX2_worth_65 : decode cX2_worth 65 = .ok (.ireturn, 1) := by decide +kernel
def FX2_worth (hp : HP) (p0 : Nat) (p1 : Int32) (p2 : Int32) : Option (Int32 × HP) := (lp (fun (s1 : Int32 × HP) => (gI [2] 4 s1.2 p0).bind (fun v3 => if v3 ≤ s1.1 then some (Sum.inl (Sum.inr s1.2)) else if (16 : Int32) ≤ s1.1 then some (Sum.inl (Sum.inr s1.2)) else (gR [2] 5 s1.2 p0).bind (fun v4 => (rdN 0 s1.2 v4 s1.1).bind (fun v5 => if v5 = p1 then (gR [2] 7 s1.2 p0).bind (fun v6 => (rdN 0 s1.2 v6 s1.1).bind (fun v7 => (rc [2] s1.2 p0 (FX2_run s1.2 p0 v7)).bind (fun w8 => if w8.1 = 0 then vl (s1.1 + (1 : Int32)) (fun x9 => some (Sum.inr (x9, w8.2))) else (gR [2] 6 w8.2 p0).bind (fun v10 => (rdN 0 w8.2 v10 s1.1).bind (fun v11 => (rc [2] w8.2 p0 (FX2_run w8.2 p0 v11)).bind (fun w12 => some (Sum.inl (Sum.inl ((mxI (0 : Int32) (mnI p2 w12.1)), w12.2))))))))) else vl (s1.1 + (1 : Int32)) (fun x13 => some (Sum.inr (x13, s1.2))))))) FU ((0 : Int32), hp)).bind (lk (P := Int32 × HP) (fun r => r) (fun (y2 : HP) => some ((0 : Int32), y2)))
set_option maxHeartbeats 4000000 in
set_option maxRecDepth 100000 in
theorem ctX2_worth (l : Launch) (D : va_G) (tg : Nat → ClassId) (bs : Nat) (sa : Nat → Nat) (hp : HP) (p0 : Nat) (p1 : Int32) (p2 : Int32) : Ct l D tg bs sa yX2_worth cX2_worth 4 (some .int) 2 [.ref p0, .int p1, .int p2] hp (FX2_worth hp p0 p1 p2) (fun r => some (.int r.1)) (fun r => r.2) := by
  refine Ct.of (by decide) (Nat.le_of_ble_eq_true rfl) ?_
  intro V Q hVl hVd hVt hVb hVs hC
  subst hVl; subst hVd; subst hVt; subst hVb; subst hVs
  unfold FX2_worth
  show Zs V Q (0, 0) 4 _ _ hp [(0, .ref p0), (1, .int p1), (2, .int p2)] 0 []
  refine z_iconst hC (0 : Int32) dX2_worth_0 (by decide) ?_
  refine z_istore_n hC [(0, .ref p0), (1, .int p1), (2, .int p2), (3, .int (0 : Int32))] [1, 2, 3, 0] dX2_worth_1 rfl (by decide) rfl ?_
  refine z_lpR (S := Int32 × HP) (Y := HP) (fun s1 => s1.2) (fun s1 => [(0, .ref p0), (1, .int p1), (2, .int p2), (3, .int s1.1)]) (fun y2 => y2) (fun y2 => []) 64 [] (fun y2 => ?_) (fun s1 => ?_) rfl rfl
  · refine z_iconst hC (0 : Int32) dX2_worth_64 (by decide) ?_
    exact z_iret hC (fun h => h) dX2_worth_65
  · refine z_iload_n hC 3 dX2_worth_2 rfl rfl ?_
    refine z_aload_n hC 0 dX2_worth_3 rfl rfl ?_
    refine z_getI hC lgRX2_34 dX2_worth_4 (fun v3 => ?_)
    refine z_icmp_ge hC 64 dX2_worth_7 (by decide) (fun _ => ?_) (fun _ => ?_)
    · refine z_weak [] [] rfl ?_
      exact z_leaf (fun h => h)
    · refine z_iload_n hC 3 dX2_worth_10 rfl rfl ?_
      refine z_bipush hC (16 : Int32) dX2_worth_11 (by decide) ?_
      refine z_icmp_ge hC 64 dX2_worth_13 (by decide) (fun _ => ?_) (fun _ => ?_)
      · refine z_weak [] [] rfl ?_
        exact z_leaf (fun h => h)
      · refine z_aload_n hC 0 dX2_worth_16 rfl rfl ?_
        refine z_getR hC lgRX2_9 dX2_worth_17 (fun v4 => ?_)
        refine z_iload_n hC 3 dX2_worth_20 rfl rfl ?_
        refine z_iald hC dX2_worth_21 (fun v5 => ?_)
        refine z_iload_n hC 1 dX2_worth_22 rfl rfl ?_
        refine z_icmp_ne hC 58 dX2_worth_23 (by decide) (fun _ => ?_) (fun _ => ?_)
        · refine z_aload_n hC 0 dX2_worth_26 rfl rfl ?_
          refine z_aload_n hC 0 dX2_worth_27 rfl rfl ?_
          refine z_getR hC lgRX2_18 dX2_worth_28 (fun v6 => ?_)
          refine z_iload_n hC 3 dX2_worth_31 rfl rfl ?_
          refine z_iald hC dX2_worth_32 (fun v7 => ?_)
          refine z_callVi hC (ci := 2) rfl lmRX2_119 (ctX2_run (vLa V) (vDa V) (vTg V) (vBs V) (vSa V) s1.2 p0 v7) (by decide) hn0 dX2_worth_33 rfl rfl (Nat.le_of_ble_eq_true rfl) (fun w8 => ?_)
          refine z_if_eq hC 58 dX2_worth_36 (by decide) (fun _ => ?_) (fun _ => ?_)
          · refine z_iincv hC (1 : Int32) 3 (fun x9 => [(0, .ref p0), (1, .int p1), (2, .int p2), (3, .int x9)]) [1, 2, 3, 0] dX2_worth_58 rfl (by decide) (by decide) (fun _ => rfl) (fun x9 => ?_)
            refine z_goto hC 2 dX2_worth_61 (by decide) ?_
            exact z_leaf (fun h => h)
          · refine z_iconst hC (0 : Int32) dX2_worth_39 (by decide) ?_
            refine z_iload_n hC 2 dX2_worth_40 rfl rfl ?_
            refine z_aload_n hC 0 dX2_worth_41 rfl rfl ?_
            refine z_aload_n hC 0 dX2_worth_42 rfl rfl ?_
            refine z_getR hC lgRX2_15 dX2_worth_43 (fun v10 => ?_)
            refine z_iload_n hC 3 dX2_worth_46 rfl rfl ?_
            refine z_iald hC dX2_worth_47 (fun v11 => ?_)
            refine z_callVi hC (ci := 2) rfl lmRX2_119 (ctX2_run (vLa V) (vDa V) (vTg V) (vBs V) (vSa V) w8.2 p0 v11) (by decide) hn0 dX2_worth_48 rfl rfl (Nat.le_of_ble_eq_true rfl) (fun w12 => ?_)
            refine z_mmin hC laRX2_122 hn0 (Nat.le_of_ble_eq_true rfl) dX2_worth_51 ?_
            refine z_mmax hC laRX2_128 hn0 (Nat.le_of_ble_eq_true rfl) dX2_worth_54 ?_
            exact z_iret hC (fun h => h) dX2_worth_57
        · refine z_iincv hC (1 : Int32) 3 (fun x13 => [(0, .ref p0), (1, .int p1), (2, .int p2), (3, .int x13)]) [1, 2, 3, 0] dX2_worth_58 rfl (by decide) (by decide) (fun _ => rfl) (fun x13 => ?_)
          refine z_goto hC 2 dX2_worth_61 (by decide) ?_
          exact z_leaf (fun h => h)

theorem dX7_lowestBit_0 : decode cX7_lowestBit 0 = .ok (.lload_n 0, 1) := by decide +kernel
theorem dX7_lowestBit_1 : decode cX7_lowestBit 1 = .ok (.lload_n 0, 1) := by decide +kernel
theorem dX7_lowestBit_2 : decode cX7_lowestBit 2 = .ok (.lneg, 1) := by decide +kernel
theorem dX7_lowestBit_3 : decode cX7_lowestBit 3 = .ok (.land, 1) := by decide +kernel
theorem dX7_lowestBit_4 : decode cX7_lowestBit 4 = .ok (.lconst 1, 1) := by decide +kernel
theorem dX7_lowestBit_5 : decode cX7_lowestBit 5 = .ok (.lsub, 1) := by decide +kernel
theorem dX7_lowestBit_6 : decode cX7_lowestBit 6 = .ok (.invokestatic 17, 3) := by decide +kernel
theorem dX7_lowestBit_9 : decode cX7_lowestBit 9 = .ok (.ireturn, 1) := by decide +kernel
def FX7_lowestBit (p0 : Int64) : Option (Int32) := (FJ13_bitCount_95d88 ((p0 &&& (-p0)) - (1 : Int64))).bind (fun v1 => some v1)
set_option maxHeartbeats 4000000 in
set_option maxRecDepth 100000 in
theorem ctX7_lowestBit (l : Launch) (D : va_G) (tg : Nat → ClassId) (bs : Nat) (sa : Nat → Nat) (hp : HP) (p0 : Int64) : Ct l D tg bs sa yX7_lowestBit cX7_lowestBit 2 (some .int) 1 [.long p0] hp (FX7_lowestBit p0) (fun r => some (.int r)) (fun _ => hp) := by
  refine Ct.of (by decide) (Nat.le_of_ble_eq_true rfl) ?_
  intro V Q hVl hVd hVt hVb hVs hC
  subst hVl; subst hVd; subst hVt; subst hVb; subst hVs
  unfold FX7_lowestBit
  show Zs V Q (0, 0) 2 _ _ hp [(0, .long p0)] 0 []
  refine z_lload_n hC 0 dX7_lowestBit_0 rfl rfl ?_
  refine z_lload_n hC 0 dX7_lowestBit_1 rfl rfl ?_
  refine z_lneg hC dX7_lowestBit_2 ?_
  refine z_land hC dX7_lowestBit_3 ?_
  refine z_lconst hC (1 : Int64) dX7_lowestBit_4 (by decide) ?_
  refine z_lsub hC dX7_lowestBit_5 ?_
  refine z_callSi hC lmRX7_17 (ctJ13_bitCount_95d88 (vLa V) (vDa V) (vTg V) (vBs V) (vSa V) hp ((p0 &&& (-p0)) - (1 : Int64))) (by decide) hn0 dX7_lowestBit_6 rfl rfl (Nat.le_of_ble_eq_true rfl) (fun v1 => ?_)
  exact z_iret hC (fun h => h) dX7_lowestBit_9

theorem dX3_step_0 : decode cX3_step 0 = .ok (.iload_n 1, 1) := by decide +kernel
theorem dX3_step_1 : decode cX3_step 1 = .ok (.ifCond .lt 23, 3) := by decide +kernel
theorem dX3_step_4 : decode cX3_step 4 = .ok (.iload_n 1, 1) := by decide +kernel
theorem dX3_step_5 : decode cX3_step 5 = .ok (.bipush 10, 2) := by decide +kernel
theorem dX3_step_7 : decode cX3_step 7 = .ok (.if_icmp .ge 17, 3) := by decide +kernel
theorem dX3_step_10 : decode cX3_step 10 = .ok (.aload_n 0, 1) := by decide +kernel
theorem dX3_step_11 : decode cX3_step 11 = .ok (.getfield 9, 3) := by decide +kernel
theorem dX3_step_14 : decode cX3_step 14 = .ok (.iload_n 1, 1) := by decide +kernel
theorem dX3_step_15 : decode cX3_step 15 = .ok (.iaload, 1) := by decide +kernel
theorem dX3_step_16 : decode cX3_step 16 = .ok (.bipush 16, 2) := by decide +kernel
theorem dX3_step_18 : decode cX3_step 18 = .ok (.imul, 1) := by decide +kernel
theorem dX3_step_19 : decode cX3_step 19 = .ok (.iconst 1, 1) := by decide +kernel
theorem dX3_step_20 : decode cX3_step 20 = .ok (.iadd, 1) := by decide +kernel
theorem dX3_step_21 : decode cX3_step 21 = .ok (.goto 4, 3) := by decide +kernel
theorem dX3_step_24 : decode cX3_step 24 = .ok (.iconst 0, 1) := by decide +kernel
theorem dX3_step_25 : decode cX3_step 25 = .ok (.ireturn, 1) := by decide +kernel
def FX3_step (hp : HP) (p0 : Nat) (p1 : Int32) : Option (Int32) := if p1 < 0 then some (0 : Int32) else if (10 : Int32) ≤ p1 then some (0 : Int32) else (gR [3] 0 hp p0).bind (fun v1 => (rdN 0 hp v1 p1).bind (fun v2 => some ((v2 * (16 : Int32)) + (1 : Int32))))
set_option maxHeartbeats 4000000 in
set_option maxRecDepth 100000 in
theorem ctX3_step (l : Launch) (D : va_G) (tg : Nat → ClassId) (bs : Nat) (sa : Nat → Nat) (hp : HP) (p0 : Nat) (p1 : Int32) : Ct l D tg bs sa yX3_step cX3_step 2 (some .int) 0 [.ref p0, .int p1] hp (FX3_step hp p0 p1) (fun r => some (.int r)) (fun _ => hp) := by
  refine Ct.of (by decide) (Nat.le_of_ble_eq_true rfl) ?_
  intro V Q hVl hVd hVt hVb hVs hC
  subst hVl; subst hVd; subst hVt; subst hVb; subst hVs
  unfold FX3_step
  show Zs V Q (0, 0) 2 _ _ hp [(0, .ref p0), (1, .int p1)] 0 []
  refine z_iload_n hC 1 dX3_step_0 rfl rfl ?_
  refine z_if_lt hC 24 dX3_step_1 (by decide) (fun _ => ?_) (fun _ => ?_)
  · refine z_iconst hC (0 : Int32) dX3_step_24 (by decide) ?_
    exact z_iret hC (fun h => h) dX3_step_25
  · refine z_iload_n hC 1 dX3_step_4 rfl rfl ?_
    refine z_bipush hC (10 : Int32) dX3_step_5 (by decide) ?_
    refine z_icmp_ge hC 24 dX3_step_7 (by decide) (fun _ => ?_) (fun _ => ?_)
    · refine z_iconst hC (0 : Int32) dX3_step_24 (by decide) ?_
      exact z_iret hC (fun h => h) dX3_step_25
    · refine z_aload_n hC 0 dX3_step_10 rfl rfl ?_
      refine z_getR hC lgRX3_9 dX3_step_11 (fun v1 => ?_)
      refine z_iload_n hC 1 dX3_step_14 rfl rfl ?_
      refine z_iald hC dX3_step_15 (fun v2 => ?_)
      refine z_bipush hC (16 : Int32) dX3_step_16 (by decide) ?_
      refine z_imul hC dX3_step_18 ?_
      refine z_iconst hC (1 : Int32) dX3_step_19 (by decide) ?_
      refine z_iadd hC dX3_step_20 ?_
      refine z_goto hC 25 dX3_step_21 (by decide) ?_
      exact z_iret hC (fun h => h) dX3_step_25

theorem dX3_sortIn_0 : decode cX3_sortIn 0 = .ok (.iload_n 1, 1) := by decide +kernel
theorem dX3_sortIn_1 : decode cX3_sortIn 1 = .ok (.bipush 63, 2) := by decide +kernel
theorem dX3_sortIn_3 : decode cX3_sortIn 3 = .ok (.iand, 1) := by decide +kernel
theorem dX3_sortIn_4 : decode cX3_sortIn 4 = .ok (.istore_n 2, 1) := by decide +kernel
theorem dX3_sortIn_5 : decode cX3_sortIn 5 = .ok (.aload_n 0, 1) := by decide +kernel
theorem dX3_sortIn_6 : decode cX3_sortIn 6 = .ok (.getfield 21, 3) := by decide +kernel
theorem dX3_sortIn_9 : decode cX3_sortIn 9 = .ok (.iload_n 2, 1) := by decide +kernel
theorem dX3_sortIn_10 : decode cX3_sortIn 10 = .ok (.iaload, 1) := by decide +kernel
theorem dX3_sortIn_11 : decode cX3_sortIn 11 = .ok (.bipush 63, 2) := by decide +kernel
theorem dX3_sortIn_13 : decode cX3_sortIn 13 = .ok (.iand, 1) := by decide +kernel
theorem dX3_sortIn_14 : decode cX3_sortIn 14 = .ok (.istore_n 3, 1) := by decide +kernel
theorem dX3_sortIn_15 : decode cX3_sortIn 15 = .ok (.iload_n 2, 1) := by decide +kernel
theorem dX3_sortIn_16 : decode cX3_sortIn 16 = .ok (.ifCond .le 48, 3) := by decide +kernel
theorem dX3_sortIn_19 : decode cX3_sortIn 19 = .ok (.aload_n 0, 1) := by decide +kernel
theorem dX3_sortIn_20 : decode cX3_sortIn 20 = .ok (.getfield 15, 3) := by decide +kernel
theorem dX3_sortIn_23 : decode cX3_sortIn 23 = .ok (.aload_n 0, 1) := by decide +kernel
theorem dX3_sortIn_24 : decode cX3_sortIn 24 = .ok (.getfield 21, 3) := by decide +kernel
theorem dX3_sortIn_27 : decode cX3_sortIn 27 = .ok (.iload_n 2, 1) := by decide +kernel
theorem dX3_sortIn_28 : decode cX3_sortIn 28 = .ok (.iconst 1, 1) := by decide +kernel
theorem dX3_sortIn_29 : decode cX3_sortIn 29 = .ok (.isub, 1) := by decide +kernel
theorem dX3_sortIn_30 : decode cX3_sortIn 30 = .ok (.iaload, 1) := by decide +kernel
theorem dX3_sortIn_31 : decode cX3_sortIn 31 = .ok (.bipush 63, 2) := by decide +kernel
theorem dX3_sortIn_33 : decode cX3_sortIn 33 = .ok (.iand, 1) := by decide +kernel
theorem dX3_sortIn_34 : decode cX3_sortIn 34 = .ok (.iaload, 1) := by decide +kernel
theorem dX3_sortIn_35 : decode cX3_sortIn 35 = .ok (.aload_n 0, 1) := by decide +kernel
theorem dX3_sortIn_36 : decode cX3_sortIn 36 = .ok (.getfield 15, 3) := by decide +kernel
theorem dX3_sortIn_39 : decode cX3_sortIn 39 = .ok (.iload_n 3, 1) := by decide +kernel
theorem dX3_sortIn_40 : decode cX3_sortIn 40 = .ok (.iaload, 1) := by decide +kernel
theorem dX3_sortIn_41 : decode cX3_sortIn 41 = .ok (.if_icmp .le 23, 3) := by decide +kernel
theorem dX3_sortIn_44 : decode cX3_sortIn 44 = .ok (.aload_n 0, 1) := by decide +kernel
theorem dX3_sortIn_45 : decode cX3_sortIn 45 = .ok (.getfield 21, 3) := by decide +kernel
theorem dX3_sortIn_48 : decode cX3_sortIn 48 = .ok (.iload_n 2, 1) := by decide +kernel
theorem dX3_sortIn_49 : decode cX3_sortIn 49 = .ok (.aload_n 0, 1) := by decide +kernel
theorem dX3_sortIn_50 : decode cX3_sortIn 50 = .ok (.getfield 21, 3) := by decide +kernel
theorem dX3_sortIn_53 : decode cX3_sortIn 53 = .ok (.iload_n 2, 1) := by decide +kernel
theorem dX3_sortIn_54 : decode cX3_sortIn 54 = .ok (.iconst 1, 1) := by decide +kernel
theorem dX3_sortIn_55 : decode cX3_sortIn 55 = .ok (.isub, 1) := by decide +kernel
theorem dX3_sortIn_56 : decode cX3_sortIn 56 = .ok (.iaload, 1) := by decide +kernel
theorem dX3_sortIn_57 : decode cX3_sortIn 57 = .ok (.iastore, 1) := by decide +kernel
theorem dX3_sortIn_58 : decode cX3_sortIn 58 = .ok (.iinc 2 (-1), 3) := by decide +kernel
theorem dX3_sortIn_61 : decode cX3_sortIn 61 = .ok (.goto (-46), 3) := by decide +kernel
theorem dX3_sortIn_64 : decode cX3_sortIn 64 = .ok (.aload_n 0, 1) := by decide +kernel
theorem dX3_sortIn_65 : decode cX3_sortIn 65 = .ok (.getfield 21, 3) := by decide +kernel
theorem dX3_sortIn_68 : decode cX3_sortIn 68 = .ok (.iload_n 2, 1) := by decide +kernel
theorem dX3_sortIn_69 : decode cX3_sortIn 69 = .ok (.iload_n 3, 1) := by decide +kernel
theorem dX3_sortIn_70 : decode cX3_sortIn 70 = .ok (.iastore, 1) := by decide +kernel
theorem dX3_sortIn_71 : decode cX3_sortIn 71 = .ok (.return_, 1) := by decide +kernel
def FX3_sortIn (hp : HP) (p0 : Nat) (p1 : Int32) : Option (HP) := vl (p1 &&& (63 : Int32)) (fun x1 => (gR [3] 3 hp p0).bind (fun v2 => (rdN 0 hp v2 x1).bind (fun v3 => vl (v3 &&& (63 : Int32)) (fun x4 => (lp (fun (s5 : Int32 × HP) => if s5.1 ≤ 0 then some (Sum.inl (s5.1, s5.2)) else (gR [3] 1 s5.2 p0).bind (fun v9 => (gR [3] 3 s5.2 p0).bind (fun v10 => (rdN 0 s5.2 v10 (s5.1 - (1 : Int32))).bind (fun v11 => (rdN 0 s5.2 v9 (v11 &&& (63 : Int32))).bind (fun v12 => (gR [3] 1 s5.2 p0).bind (fun v13 => (rdN 0 s5.2 v13 x4).bind (fun v14 => if v12 ≤ v14 then some (Sum.inl (s5.1, s5.2)) else (gR [3] 3 s5.2 p0).bind (fun v15 => (gR [3] 3 s5.2 p0).bind (fun v16 => (rdN 0 s5.2 v16 (s5.1 - (1 : Int32))).bind (fun v17 => (wrI s5.2 v15 s5.1 v17).bind (fun hp18 => vl (s5.1 + (-1 : Int32)) (fun x19 => some (Sum.inr (x19, hp18)))))))))))))) FU (x1, hp)).bind (fun (y6 : Int32 × HP) => (gR [3] 3 y6.2 p0).bind (fun v7 => (wrI y6.2 v7 y6.1 x4).bind (fun hp8 => some hp8)))))))
set_option maxHeartbeats 4000000 in
set_option maxRecDepth 100000 in
theorem ctX3_sortIn (l : Launch) (D : va_G) (tg : Nat → ClassId) (bs : Nat) (sa : Nat → Nat) (hp : HP) (p0 : Nat) (p1 : Int32) : Ct l D tg bs sa yX3_sortIn cX3_sortIn 4 none 0 [.ref p0, .int p1] hp (FX3_sortIn hp p0 p1) (fun _ => none) (fun r => r) := by
  refine Ct.of (by decide) (Nat.le_of_ble_eq_true rfl) ?_
  intro V Q hVl hVd hVt hVb hVs hC
  subst hVl; subst hVd; subst hVt; subst hVb; subst hVs
  unfold FX3_sortIn
  show Zs V Q (0, 0) 4 _ _ hp [(0, .ref p0), (1, .int p1)] 0 []
  refine z_iload_n hC 1 dX3_sortIn_0 rfl rfl ?_
  refine z_bipush hC (63 : Int32) dX3_sortIn_1 (by decide) ?_
  refine z_iand hC dX3_sortIn_3 ?_
  refine z_vli (fun x1 => ?_)
  refine z_istore_n hC [(0, .ref p0), (1, .int p1), (2, .int x1)] [1, 2, 0] dX3_sortIn_4 rfl (by decide) rfl ?_
  refine z_aload_n hC 0 dX3_sortIn_5 rfl rfl ?_
  refine z_getR hC lgRX3_21 dX3_sortIn_6 (fun v2 => ?_)
  refine z_iload_n hC 2 dX3_sortIn_9 rfl rfl ?_
  refine z_iald hC dX3_sortIn_10 (fun v3 => ?_)
  refine z_bipush hC (63 : Int32) dX3_sortIn_11 (by decide) ?_
  refine z_iand hC dX3_sortIn_13 ?_
  refine z_vli (fun x4 => ?_)
  refine z_istore_n hC [(0, .ref p0), (1, .int p1), (2, .int x1), (3, .int x4)] [1, 2, 3, 0] dX3_sortIn_14 rfl (by decide) rfl ?_
  refine z_weak [(0, .ref p0), (2, .int x1), (3, .int x4)] [0, 2, 3] rfl ?_
  refine z_lp (S := Int32 × HP) (Y := Int32 × HP) (fun s5 => s5.2) (fun s5 => [(0, .ref p0), (2, .int s5.1), (3, .int x4)]) (fun y6 => y6.2) (fun y6 => [(0, .ref p0), (2, .int y6.1), (3, .int x4)]) 64 [] (fun y6 => ?_) (fun s5 => ?_) rfl rfl
  · refine z_aload_n hC 0 dX3_sortIn_64 rfl rfl ?_
    refine z_getR hC lgRX3_21 dX3_sortIn_65 (fun v7 => ?_)
    refine z_iload_n hC 1 dX3_sortIn_68 rfl rfl ?_
    refine z_iload_n hC 2 dX3_sortIn_69 rfl rfl ?_
    refine z_iast hC dX3_sortIn_70 (fun hp8 => ?_)
    exact z_vret hC (fun h => h) dX3_sortIn_71
  · refine z_iload_n hC 1 dX3_sortIn_15 rfl rfl ?_
    refine z_if_le hC 64 dX3_sortIn_16 (by decide) (fun _ => ?_) (fun _ => ?_)
    · exact z_leaf (fun h => h)
    · refine z_aload_n hC 0 dX3_sortIn_19 rfl rfl ?_
      refine z_getR hC lgRX3_15 dX3_sortIn_20 (fun v9 => ?_)
      refine z_aload_n hC 0 dX3_sortIn_23 rfl rfl ?_
      refine z_getR hC lgRX3_21 dX3_sortIn_24 (fun v10 => ?_)
      refine z_iload_n hC 1 dX3_sortIn_27 rfl rfl ?_
      refine z_iconst hC (1 : Int32) dX3_sortIn_28 (by decide) ?_
      refine z_isub hC dX3_sortIn_29 ?_
      refine z_iald hC dX3_sortIn_30 (fun v11 => ?_)
      refine z_bipush hC (63 : Int32) dX3_sortIn_31 (by decide) ?_
      refine z_iand hC dX3_sortIn_33 ?_
      refine z_iald hC dX3_sortIn_34 (fun v12 => ?_)
      refine z_aload_n hC 0 dX3_sortIn_35 rfl rfl ?_
      refine z_getR hC lgRX3_15 dX3_sortIn_36 (fun v13 => ?_)
      refine z_iload_n hC 2 dX3_sortIn_39 rfl rfl ?_
      refine z_iald hC dX3_sortIn_40 (fun v14 => ?_)
      refine z_icmp_le hC 64 dX3_sortIn_41 (by decide) (fun _ => ?_) (fun _ => ?_)
      · exact z_leaf (fun h => h)
      · refine z_aload_n hC 0 dX3_sortIn_44 rfl rfl ?_
        refine z_getR hC lgRX3_21 dX3_sortIn_45 (fun v15 => ?_)
        refine z_iload_n hC 1 dX3_sortIn_48 rfl rfl ?_
        refine z_aload_n hC 0 dX3_sortIn_49 rfl rfl ?_
        refine z_getR hC lgRX3_21 dX3_sortIn_50 (fun v16 => ?_)
        refine z_iload_n hC 1 dX3_sortIn_53 rfl rfl ?_
        refine z_iconst hC (1 : Int32) dX3_sortIn_54 (by decide) ?_
        refine z_isub hC dX3_sortIn_55 ?_
        refine z_iald hC dX3_sortIn_56 (fun v17 => ?_)
        refine z_iast hC dX3_sortIn_57 (fun hp18 => ?_)
        refine z_iincv hC (-1 : Int32) 1 (fun x19 => [(0, .ref p0), (2, .int x19), (3, .int x4)]) [1, 0, 2] dX3_sortIn_58 rfl (by decide) (by decide) (fun _ => rfl) (fun x19 => ?_)
        refine z_goto hC 15 dX3_sortIn_61 (by decide) ?_
        exact z_leaf (fun h => h)

theorem dX3_reckon_0 : decode cX3_reckon 0 = .ok (.iconst 1, 1) := by decide +kernel
theorem dX3_reckon_1 : decode cX3_reckon 1 = .ok (.istore_n 1, 1) := by decide +kernel
theorem dX3_reckon_2 : decode cX3_reckon 2 = .ok (.iload_n 1, 1) := by decide +kernel
theorem dX3_reckon_3 : decode cX3_reckon 3 = .ok (.bipush 64, 2) := by decide +kernel
theorem dX3_reckon_5 : decode cX3_reckon 5 = .ok (.if_icmp .ge 35, 3) := by decide +kernel
theorem dX3_reckon_8 : decode cX3_reckon 8 = .ok (.aload_n 0, 1) := by decide +kernel
theorem dX3_reckon_9 : decode cX3_reckon 9 = .ok (.getfield 15, 3) := by decide +kernel
theorem dX3_reckon_12 : decode cX3_reckon 12 = .ok (.iload_n 1, 1) := by decide +kernel
theorem dX3_reckon_13 : decode cX3_reckon 13 = .ok (.aload_n 0, 1) := by decide +kernel
theorem dX3_reckon_14 : decode cX3_reckon 14 = .ok (.getfield 15, 3) := by decide +kernel
theorem dX3_reckon_17 : decode cX3_reckon 17 = .ok (.iload_n 1, 1) := by decide +kernel
theorem dX3_reckon_18 : decode cX3_reckon 18 = .ok (.iload_n 1, 1) := by decide +kernel
theorem dX3_reckon_19 : decode cX3_reckon 19 = .ok (.iconst 1, 1) := by decide +kernel
theorem dX3_reckon_20 : decode cX3_reckon 20 = .ok (.isub, 1) := by decide +kernel
theorem dX3_reckon_21 : decode cX3_reckon 21 = .ok (.iand, 1) := by decide +kernel
theorem dX3_reckon_22 : decode cX3_reckon 22 = .ok (.iaload, 1) := by decide +kernel
theorem dX3_reckon_23 : decode cX3_reckon 23 = .ok (.aload_n 0, 1) := by decide +kernel
theorem dX3_reckon_24 : decode cX3_reckon 24 = .ok (.iload_n 1, 1) := by decide +kernel
theorem dX3_reckon_25 : decode cX3_reckon 25 = .ok (.i2l, 1) := by decide +kernel
theorem dX3_reckon_26 : decode cX3_reckon 26 = .ok (.invokestatic 27, 3) := by decide +kernel
theorem dX3_reckon_29 : decode cX3_reckon 29 = .ok (.invokevirtual 33, 3) := by decide +kernel
theorem dX3_reckon_32 : decode cX3_reckon 32 = .ok (.iadd, 1) := by decide +kernel
theorem dX3_reckon_33 : decode cX3_reckon 33 = .ok (.iastore, 1) := by decide +kernel
theorem dX3_reckon_34 : decode cX3_reckon 34 = .ok (.iinc 1 1, 3) := by decide +kernel
theorem dX3_reckon_37 : decode cX3_reckon 37 = .ok (.goto (-35), 3) := by decide +kernel
theorem dX3_reckon_40 : decode cX3_reckon 40 = .ok (.iconst 1, 1) := by decide +kernel
theorem dX3_reckon_41 : decode cX3_reckon 41 = .ok (.istore_n 1, 1) := by decide +kernel
theorem dX3_reckon_42 : decode cX3_reckon 42 = .ok (.iload_n 1, 1) := by decide +kernel
theorem dX3_reckon_43 : decode cX3_reckon 43 = .ok (.bipush 16, 2) := by decide +kernel
theorem dX3_reckon_45 : decode cX3_reckon 45 = .ok (.if_icmp .ge 38, 3) := by decide +kernel
theorem dX3_reckon_48 : decode cX3_reckon 48 = .ok (.aload_n 0, 1) := by decide +kernel
theorem dX3_reckon_49 : decode cX3_reckon 49 = .ok (.getfield 18, 3) := by decide +kernel
theorem dX3_reckon_52 : decode cX3_reckon 52 = .ok (.iload_n 1, 1) := by decide +kernel
theorem dX3_reckon_53 : decode cX3_reckon 53 = .ok (.aload_n 0, 1) := by decide +kernel
theorem dX3_reckon_54 : decode cX3_reckon 54 = .ok (.getfield 18, 3) := by decide +kernel
theorem dX3_reckon_57 : decode cX3_reckon 57 = .ok (.iload_n 1, 1) := by decide +kernel
theorem dX3_reckon_58 : decode cX3_reckon 58 = .ok (.iload_n 1, 1) := by decide +kernel
theorem dX3_reckon_59 : decode cX3_reckon 59 = .ok (.iconst 1, 1) := by decide +kernel
theorem dX3_reckon_60 : decode cX3_reckon 60 = .ok (.isub, 1) := by decide +kernel
theorem dX3_reckon_61 : decode cX3_reckon 61 = .ok (.iand, 1) := by decide +kernel
theorem dX3_reckon_62 : decode cX3_reckon 62 = .ok (.iaload, 1) := by decide +kernel
theorem dX3_reckon_63 : decode cX3_reckon 63 = .ok (.aload_n 0, 1) := by decide +kernel
theorem dX3_reckon_64 : decode cX3_reckon 64 = .ok (.bipush 6, 2) := by decide +kernel
theorem dX3_reckon_66 : decode cX3_reckon 66 = .ok (.iload_n 1, 1) := by decide +kernel
theorem dX3_reckon_67 : decode cX3_reckon 67 = .ok (.i2l, 1) := by decide +kernel
theorem dX3_reckon_68 : decode cX3_reckon 68 = .ok (.invokestatic 27, 3) := by decide +kernel
theorem dX3_reckon_71 : decode cX3_reckon 71 = .ok (.iadd, 1) := by decide +kernel
theorem dX3_reckon_72 : decode cX3_reckon 72 = .ok (.invokevirtual 33, 3) := by decide +kernel
theorem dX3_reckon_75 : decode cX3_reckon 75 = .ok (.iadd, 1) := by decide +kernel
theorem dX3_reckon_76 : decode cX3_reckon 76 = .ok (.iastore, 1) := by decide +kernel
theorem dX3_reckon_77 : decode cX3_reckon 77 = .ok (.iinc 1 1, 3) := by decide +kernel
theorem dX3_reckon_80 : decode cX3_reckon 80 = .ok (.goto (-38), 3) := by decide +kernel
theorem dX3_reckon_83 : decode cX3_reckon 83 = .ok (.iconst 1, 1) := by decide +kernel
theorem dX3_reckon_84 : decode cX3_reckon 84 = .ok (.istore_n 1, 1) := by decide +kernel
theorem dX3_reckon_85 : decode cX3_reckon 85 = .ok (.iload_n 1, 1) := by decide +kernel
theorem dX3_reckon_86 : decode cX3_reckon 86 = .ok (.bipush 64, 2) := by decide +kernel
theorem dX3_reckon_88 : decode cX3_reckon 88 = .ok (.if_icmp .ge 14, 3) := by decide +kernel
theorem dX3_reckon_91 : decode cX3_reckon 91 = .ok (.aload_n 0, 1) := by decide +kernel
theorem dX3_reckon_92 : decode cX3_reckon 92 = .ok (.iload_n 1, 1) := by decide +kernel
theorem dX3_reckon_93 : decode cX3_reckon 93 = .ok (.invokevirtual 37, 3) := by decide +kernel
theorem dX3_reckon_96 : decode cX3_reckon 96 = .ok (.iinc 1 1, 3) := by decide +kernel
theorem dX3_reckon_99 : decode cX3_reckon 99 = .ok (.goto (-14), 3) := by decide +kernel
theorem dX3_reckon_102 : decode cX3_reckon 102 = .ok (.return_, 1) := by decide +kernel
def FX3_reckon (hp : HP) (p0 : Nat) : Option (HP) := (lp (fun (s1 : Int32 × HP) => if (64 : Int32) ≤ s1.1 then some (Sum.inl s1.2) else (gR [3] 1 s1.2 p0).bind (fun v16 => (gR [3] 1 s1.2 p0).bind (fun v17 => (rdN 0 s1.2 v17 (s1.1 &&& (s1.1 - (1 : Int32)))).bind (fun v18 => (FX7_lowestBit ((s1.1).toInt64)).bind (fun v19 => (rc [3] s1.2 p0 (FX3_step s1.2 p0 v19)).bind (fun v20 => (wrI s1.2 v16 s1.1 (v18 + v20)).bind (fun hp21 => vl (s1.1 + (1 : Int32)) (fun x22 => some (Sum.inr (x22, hp21)))))))))) FU ((1 : Int32), hp)).bind (fun (y2 : HP) => (lp (fun (s3 : Int32 × HP) => if (16 : Int32) ≤ s3.1 then some (Sum.inl s3.2) else (gR [3] 2 s3.2 p0).bind (fun v9 => (gR [3] 2 s3.2 p0).bind (fun v10 => (rdN 0 s3.2 v10 (s3.1 &&& (s3.1 - (1 : Int32)))).bind (fun v11 => (FX7_lowestBit ((s3.1).toInt64)).bind (fun v12 => (rc [3] s3.2 p0 (FX3_step s3.2 p0 ((6 : Int32) + v12))).bind (fun v13 => (wrI s3.2 v9 s3.1 (v11 + v13)).bind (fun hp14 => vl (s3.1 + (1 : Int32)) (fun x15 => some (Sum.inr (x15, hp14)))))))))) FU ((1 : Int32), y2)).bind (fun (y4 : HP) => (lp (fun (s5 : Int32 × HP) => if (64 : Int32) ≤ s5.1 then some (Sum.inl s5.2) else (rc [3] s5.2 p0 (FX3_sortIn s5.2 p0 s5.1)).bind (fun w7 => vl (s5.1 + (1 : Int32)) (fun x8 => some (Sum.inr (x8, w7))))) FU ((1 : Int32), y4)).bind (fun (y6 : HP) => some y6)))
set_option maxHeartbeats 4000000 in
set_option maxRecDepth 100000 in
theorem ctX3_reckon (l : Launch) (D : va_G) (tg : Nat → ClassId) (bs : Nat) (sa : Nat → Nat) (hp : HP) (p0 : Nat) : Ct l D tg bs sa yX3_reckon cX3_reckon 2 none 2 [.ref p0] hp (FX3_reckon hp p0) (fun _ => none) (fun r => r) := by
  refine Ct.of (by decide) (Nat.le_of_ble_eq_true rfl) ?_
  intro V Q hVl hVd hVt hVb hVs hC
  subst hVl; subst hVd; subst hVt; subst hVb; subst hVs
  unfold FX3_reckon
  show Zs V Q (0, 0) 2 _ _ hp [(0, .ref p0)] 0 []
  refine z_iconst hC (1 : Int32) dX3_reckon_0 (by decide) ?_
  refine z_istore_n hC [(0, .ref p0), (1, .int (1 : Int32))] [1, 0] dX3_reckon_1 rfl (by decide) rfl ?_
  refine z_lp (S := Int32 × HP) (Y := HP) (fun s1 => s1.2) (fun s1 => [(0, .ref p0), (1, .int s1.1)]) (fun y2 => y2) (fun y2 => [(0, .ref p0)]) 40 [] (fun y2 => ?_) (fun s1 => ?_) rfl rfl
  · refine z_iconst hC (1 : Int32) dX3_reckon_40 (by decide) ?_
    refine z_istore_n hC [(0, .ref p0), (1, .int (1 : Int32))] [1, 0] dX3_reckon_41 rfl (by decide) rfl ?_
    refine z_lp (S := Int32 × HP) (Y := HP) (fun s3 => s3.2) (fun s3 => [(0, .ref p0), (1, .int s3.1)]) (fun y4 => y4) (fun y4 => [(0, .ref p0)]) 83 [] (fun y4 => ?_) (fun s3 => ?_) rfl rfl
    · refine z_iconst hC (1 : Int32) dX3_reckon_83 (by decide) ?_
      refine z_istore_n hC [(0, .ref p0), (1, .int (1 : Int32))] [1, 0] dX3_reckon_84 rfl (by decide) rfl ?_
      refine z_lp (S := Int32 × HP) (Y := HP) (fun s5 => s5.2) (fun s5 => [(0, .ref p0), (1, .int s5.1)]) (fun y6 => y6) (fun y6 => []) 102 [] (fun y6 => ?_) (fun s5 => ?_) rfl rfl
      · exact z_vret hC (fun h => h) dX3_reckon_102
      · refine z_iload_n hC 1 dX3_reckon_85 rfl rfl ?_
        refine z_bipush hC (64 : Int32) dX3_reckon_86 (by decide) ?_
        refine z_icmp_ge hC 102 dX3_reckon_88 (by decide) (fun _ => ?_) (fun _ => ?_)
        · refine z_weak [] [] rfl ?_
          exact z_leaf (fun h => h)
        · refine z_aload_n hC 0 dX3_reckon_91 rfl rfl ?_
          refine z_iload_n hC 1 dX3_reckon_92 rfl rfl ?_
          refine z_callVv hC (ci := 3) rfl lmRX3_37 (ctX3_sortIn (vLa V) (vDa V) (vTg V) (vBs V) (vSa V) s5.2 p0 s5.1) (by decide) hn0 dX3_reckon_93 rfl rfl (Nat.le_of_ble_eq_true rfl) (fun w7 => ?_)
          refine z_iincv hC (1 : Int32) 1 (fun x8 => [(0, .ref p0), (1, .int x8)]) [1, 0] dX3_reckon_96 rfl (by decide) (by decide) (fun _ => rfl) (fun x8 => ?_)
          refine z_goto hC 85 dX3_reckon_99 (by decide) ?_
          exact z_leaf (fun h => h)
    · refine z_iload_n hC 1 dX3_reckon_42 rfl rfl ?_
      refine z_bipush hC (16 : Int32) dX3_reckon_43 (by decide) ?_
      refine z_icmp_ge hC 83 dX3_reckon_45 (by decide) (fun _ => ?_) (fun _ => ?_)
      · refine z_weak [(0, .ref p0)] [0] rfl ?_
        exact z_leaf (fun h => h)
      · refine z_aload_n hC 0 dX3_reckon_48 rfl rfl ?_
        refine z_getR hC lgRX3_18 dX3_reckon_49 (fun v9 => ?_)
        refine z_iload_n hC 1 dX3_reckon_52 rfl rfl ?_
        refine z_aload_n hC 0 dX3_reckon_53 rfl rfl ?_
        refine z_getR hC lgRX3_18 dX3_reckon_54 (fun v10 => ?_)
        refine z_iload_n hC 1 dX3_reckon_57 rfl rfl ?_
        refine z_iload_n hC 1 dX3_reckon_58 rfl rfl ?_
        refine z_iconst hC (1 : Int32) dX3_reckon_59 (by decide) ?_
        refine z_isub hC dX3_reckon_60 ?_
        refine z_iand hC dX3_reckon_61 ?_
        refine z_iald hC dX3_reckon_62 (fun v11 => ?_)
        refine z_aload_n hC 0 dX3_reckon_63 rfl rfl ?_
        refine z_bipush hC (6 : Int32) dX3_reckon_64 (by decide) ?_
        refine z_iload_n hC 1 dX3_reckon_66 rfl rfl ?_
        refine z_i2l hC dX3_reckon_67 ?_
        refine z_callSi hC lmRX3_27 (ctX7_lowestBit (vLa V) (vDa V) (vTg V) (vBs V) (vSa V) s3.2 ((s3.1).toInt64)) (by decide) hn0 dX3_reckon_68 rfl rfl (Nat.le_of_ble_eq_true rfl) (fun v12 => ?_)
        refine z_iadd hC dX3_reckon_71 ?_
        refine z_callVi hC (ci := 3) rfl lmRX3_33 (ctX3_step (vLa V) (vDa V) (vTg V) (vBs V) (vSa V) s3.2 p0 ((6 : Int32) + v12)) (by decide) hn0 dX3_reckon_72 rfl rfl (Nat.le_of_ble_eq_true rfl) (fun v13 => ?_)
        refine z_iadd hC dX3_reckon_75 ?_
        refine z_iast hC dX3_reckon_76 (fun hp14 => ?_)
        refine z_iincv hC (1 : Int32) 1 (fun x15 => [(0, .ref p0), (1, .int x15)]) [1, 0] dX3_reckon_77 rfl (by decide) (by decide) (fun _ => rfl) (fun x15 => ?_)
        refine z_goto hC 42 dX3_reckon_80 (by decide) ?_
        exact z_leaf (fun h => h)
  · refine z_iload_n hC 1 dX3_reckon_2 rfl rfl ?_
    refine z_bipush hC (64 : Int32) dX3_reckon_3 (by decide) ?_
    refine z_icmp_ge hC 40 dX3_reckon_5 (by decide) (fun _ => ?_) (fun _ => ?_)
    · refine z_weak [(0, .ref p0)] [0] rfl ?_
      exact z_leaf (fun h => h)
    · refine z_aload_n hC 0 dX3_reckon_8 rfl rfl ?_
      refine z_getR hC lgRX3_15 dX3_reckon_9 (fun v16 => ?_)
      refine z_iload_n hC 1 dX3_reckon_12 rfl rfl ?_
      refine z_aload_n hC 0 dX3_reckon_13 rfl rfl ?_
      refine z_getR hC lgRX3_15 dX3_reckon_14 (fun v17 => ?_)
      refine z_iload_n hC 1 dX3_reckon_17 rfl rfl ?_
      refine z_iload_n hC 1 dX3_reckon_18 rfl rfl ?_
      refine z_iconst hC (1 : Int32) dX3_reckon_19 (by decide) ?_
      refine z_isub hC dX3_reckon_20 ?_
      refine z_iand hC dX3_reckon_21 ?_
      refine z_iald hC dX3_reckon_22 (fun v18 => ?_)
      refine z_aload_n hC 0 dX3_reckon_23 rfl rfl ?_
      refine z_iload_n hC 1 dX3_reckon_24 rfl rfl ?_
      refine z_i2l hC dX3_reckon_25 ?_
      refine z_callSi hC lmRX3_27 (ctX7_lowestBit (vLa V) (vDa V) (vTg V) (vBs V) (vSa V) s1.2 ((s1.1).toInt64)) (by decide) hn0 dX3_reckon_26 rfl rfl (Nat.le_of_ble_eq_true rfl) (fun v19 => ?_)
      refine z_callVi hC (ci := 3) rfl lmRX3_33 (ctX3_step (vLa V) (vDa V) (vTg V) (vBs V) (vSa V) s1.2 p0 v19) (by decide) hn0 dX3_reckon_29 rfl rfl (Nat.le_of_ble_eq_true rfl) (fun v20 => ?_)
      refine z_iadd hC dX3_reckon_32 ?_
      refine z_iast hC dX3_reckon_33 (fun hp21 => ?_)
      refine z_iincv hC (1 : Int32) 1 (fun x22 => [(0, .ref p0), (1, .int x22)]) [1, 0] dX3_reckon_34 rfl (by decide) (by decide) (fun _ => rfl) (fun x22 => ?_)
      refine z_goto hC 2 dX3_reckon_37 (by decide) ?_
      exact z_leaf (fun h => h)

theorem dX3_set_0 : decode cX3_set 0 = .ok (.iload_n 1, 1) := by decide +kernel
theorem dX3_set_1 : decode cX3_set 1 = .ok (.ifCond .lt 16, 3) := by decide +kernel
theorem dX3_set_4 : decode cX3_set 4 = .ok (.iload_n 1, 1) := by decide +kernel
theorem dX3_set_5 : decode cX3_set 5 = .ok (.bipush 10, 2) := by decide +kernel
theorem dX3_set_7 : decode cX3_set 7 = .ok (.if_icmp .ge 10, 3) := by decide +kernel
theorem dX3_set_10 : decode cX3_set 10 = .ok (.aload_n 0, 1) := by decide +kernel
theorem dX3_set_11 : decode cX3_set 11 = .ok (.getfield 9, 3) := by decide +kernel
theorem dX3_set_14 : decode cX3_set 14 = .ok (.iload_n 1, 1) := by decide +kernel
theorem dX3_set_15 : decode cX3_set 15 = .ok (.iload_n 2, 1) := by decide +kernel
theorem dX3_set_16 : decode cX3_set 16 = .ok (.iastore, 1) := by decide +kernel
theorem dX3_set_17 : decode cX3_set 17 = .ok (.aload_n 0, 1) := by decide +kernel
theorem dX3_set_18 : decode cX3_set 18 = .ok (.invokevirtual 24, 3) := by decide +kernel
theorem dX3_set_21 : decode cX3_set 21 = .ok (.return_, 1) := by decide +kernel
def FX3_set (hp : HP) (p0 : Nat) (p1 : Int32) (p2 : Int32) : Option (HP) := jn (A := HP) (fun a1 => (rc [3] a1 p0 (FX3_reckon a1 p0)).bind (fun w3 => some w3)) (fun J2 => if p1 < 0 then J2 hp else if (10 : Int32) ≤ p1 then J2 hp else (gR [3] 0 hp p0).bind (fun v4 => (wrI hp v4 p1 p2).bind (fun hp5 => J2 hp5)))
set_option maxHeartbeats 4000000 in
set_option maxRecDepth 100000 in
theorem ctX3_set (l : Launch) (D : va_G) (tg : Nat → ClassId) (bs : Nat) (sa : Nat → Nat) (hp : HP) (p0 : Nat) (p1 : Int32) (p2 : Int32) : Ct l D tg bs sa yX3_set cX3_set 3 none 3 [.ref p0, .int p1, .int p2] hp (FX3_set hp p0 p1 p2) (fun _ => none) (fun r => r) := by
  refine Ct.of (by decide) (Nat.le_of_ble_eq_true rfl) ?_
  intro V Q hVl hVd hVt hVb hVs hC
  subst hVl; subst hVd; subst hVt; subst hVb; subst hVs
  unfold FX3_set
  show Zs V Q (0, 0) 3 _ _ hp [(0, .ref p0), (1, .int p1), (2, .int p2)] 0 []
  refine z_iload_n hC 1 dX3_set_0 rfl rfl ?_
  refine z_jn (A := HP) (fun a1 => a1) (fun a1 => [(0, .ref p0)]) 17 (fun a1 => []) (fun a1 => ?_) (fun J2 hJ2 => ?_)
  · refine z_aload_n hC 0 dX3_set_17 rfl rfl ?_
    refine z_callVv hC (ci := 3) rfl lmRX3_24 (ctX3_reckon (vLa V) (vDa V) (vTg V) (vBs V) (vSa V) a1 p0) (by decide) hn0 dX3_set_18 rfl rfl (Nat.le_of_ble_eq_true rfl) (fun w3 => ?_)
    exact z_vret hC (fun h => h) dX3_set_21
  · refine z_if_lt hC 17 dX3_set_1 (by decide) (fun _ => ?_) (fun _ => ?_)
    · refine z_weak [(0, .ref p0)] [0] rfl ?_
      exact hJ2 hp
    · refine z_iload_n hC 1 dX3_set_4 rfl rfl ?_
      refine z_bipush hC (10 : Int32) dX3_set_5 (by decide) ?_
      refine z_icmp_ge hC 17 dX3_set_7 (by decide) (fun _ => ?_) (fun _ => ?_)
      · refine z_weak [(0, .ref p0)] [0] rfl ?_
        exact hJ2 hp
      · refine z_aload_n hC 0 dX3_set_10 rfl rfl ?_
        refine z_getR hC lgRX3_9 dX3_set_11 (fun v4 => ?_)
        refine z_iload_n hC 1 dX3_set_14 rfl rfl ?_
        refine z_iload_n hC 2 dX3_set_15 rfl rfl ?_
        refine z_iast hC dX3_set_16 (fun hp5 => ?_)
        refine z_weak [(0, .ref p0)] [0] rfl ?_
        exact hJ2 hp5

theorem dX3_of_0 : decode cX3_of 0 = .ok (.aload_n 0, 1) := by decide +kernel
theorem dX3_of_1 : decode cX3_of 1 = .ok (.getfield 15, 3) := by decide +kernel
theorem dX3_of_4 : decode cX3_of 4 = .ok (.iload_n 1, 1) := by decide +kernel
theorem dX3_of_5 : decode cX3_of 5 = .ok (.bipush 63, 2) := by decide +kernel
theorem dX3_of_7 : decode cX3_of 7 = .ok (.iand, 1) := by decide +kernel
theorem dX3_of_8 : decode cX3_of 8 = .ok (.iaload, 1) := by decide +kernel
theorem dX3_of_9 : decode cX3_of 9 = .ok (.aload_n 0, 1) := by decide +kernel
theorem dX3_of_10 : decode cX3_of 10 = .ok (.getfield 18, 3) := by decide +kernel
theorem dX3_of_13 : decode cX3_of 13 = .ok (.iload_n 1, 1) := by decide +kernel
theorem dX3_of_14 : decode cX3_of 14 = .ok (.bipush 6, 2) := by decide +kernel
theorem dX3_of_16 : decode cX3_of 16 = .ok (.ishr, 1) := by decide +kernel
theorem dX3_of_17 : decode cX3_of 17 = .ok (.bipush 15, 2) := by decide +kernel
theorem dX3_of_19 : decode cX3_of 19 = .ok (.iand, 1) := by decide +kernel
theorem dX3_of_20 : decode cX3_of 20 = .ok (.iaload, 1) := by decide +kernel
theorem dX3_of_21 : decode cX3_of 21 = .ok (.iadd, 1) := by decide +kernel
theorem dX3_of_22 : decode cX3_of 22 = .ok (.bipush 16, 2) := by decide +kernel
theorem dX3_of_24 : decode cX3_of 24 = .ok (.idiv, 1) := by decide +kernel
theorem dX3_of_25 : decode cX3_of 25 = .ok (.ireturn, 1) := by decide +kernel
def FX3_of (hp : HP) (p0 : Nat) (p1 : Int32) : Option (Int32) := (gR [3] 1 hp p0).bind (fun v1 => (rdN 0 hp v1 (p1 &&& (63 : Int32))).bind (fun v2 => (gR [3] 2 hp p0).bind (fun v3 => (rdN 0 hp v3 ((p1 >>> ((6 : Int32) &&& 31)) &&& (15 : Int32))).bind (fun v4 => (dvI (v2 + v4) (16 : Int32)).bind (fun v5 => some v5)))))
set_option maxHeartbeats 4000000 in
set_option maxRecDepth 100000 in
theorem ctX3_of (l : Launch) (D : va_G) (tg : Nat → ClassId) (bs : Nat) (sa : Nat → Nat) (hp : HP) (p0 : Nat) (p1 : Int32) : Ct l D tg bs sa yX3_of cX3_of 2 (some .int) 0 [.ref p0, .int p1] hp (FX3_of hp p0 p1) (fun r => some (.int r)) (fun _ => hp) := by
  refine Ct.of (by decide) (Nat.le_of_ble_eq_true rfl) ?_
  intro V Q hVl hVd hVt hVb hVs hC
  subst hVl; subst hVd; subst hVt; subst hVb; subst hVs
  unfold FX3_of
  show Zs V Q (0, 0) 2 _ _ hp [(0, .ref p0), (1, .int p1)] 0 []
  refine z_aload_n hC 0 dX3_of_0 rfl rfl ?_
  refine z_getR hC lgRX3_15 dX3_of_1 (fun v1 => ?_)
  refine z_iload_n hC 1 dX3_of_4 rfl rfl ?_
  refine z_bipush hC (63 : Int32) dX3_of_5 (by decide) ?_
  refine z_iand hC dX3_of_7 ?_
  refine z_iald hC dX3_of_8 (fun v2 => ?_)
  refine z_aload_n hC 0 dX3_of_9 rfl rfl ?_
  refine z_getR hC lgRX3_18 dX3_of_10 (fun v3 => ?_)
  refine z_iload_n hC 1 dX3_of_13 rfl rfl ?_
  refine z_bipush hC (6 : Int32) dX3_of_14 (by decide) ?_
  refine z_ishr hC dX3_of_16 ?_
  refine z_bipush hC (15 : Int32) dX3_of_17 (by decide) ?_
  refine z_iand hC dX3_of_19 ?_
  refine z_iald hC dX3_of_20 (fun v4 => ?_)
  refine z_iadd hC dX3_of_21 ?_
  refine z_bipush hC (16 : Int32) dX3_of_22 (by decide) ?_
  refine z_idiv hC dX3_of_24 (fun v5 => ?_)
  exact z_iret hC (fun h => h) dX3_of_25

