theorem dX11_growByOneStep_0 : decode cX11_growByOneStep 0 = .ok (.iconst 0, 1) := by decide +kernel
theorem dX11_growByOneStep_1 : decode cX11_growByOneStep 1 = .ok (.istore_n 1, 1) := by decide +kernel
theorem dX11_growByOneStep_2 : decode cX11_growByOneStep 2 = .ok (.iconst 0, 1) := by decide +kernel
theorem dX11_growByOneStep_3 : decode cX11_growByOneStep 3 = .ok (.istore_n 2, 1) := by decide +kernel
theorem dX11_growByOneStep_4 : decode cX11_growByOneStep 4 = .ok (.iload_n 2, 1) := by decide +kernel
theorem dX11_growByOneStep_5 : decode cX11_growByOneStep 5 = .ok (.bipush 16, 2) := by decide +kernel
theorem dX11_growByOneStep_7 : decode cX11_growByOneStep 7 = .ok (.if_icmp .ge 87, 3) := by decide +kernel
theorem dX11_growByOneStep_10 : decode cX11_growByOneStep 10 = .ok (.lconst 0, 1) := by decide +kernel
theorem dX11_growByOneStep_11 : decode cX11_growByOneStep 11 = .ok (.lstore_n 3, 1) := by decide +kernel
theorem dX11_growByOneStep_12 : decode cX11_growByOneStep 12 = .ok (.iconst 0, 1) := by decide +kernel
theorem dX11_growByOneStep_13 : decode cX11_growByOneStep 13 = .ok (.istore 5, 2) := by decide +kernel
theorem dX11_growByOneStep_15 : decode cX11_growByOneStep 15 = .ok (.iload 5, 2) := by decide +kernel
theorem dX11_growByOneStep_17 : decode cX11_growByOneStep 17 = .ok (.bipush 10, 2) := by decide +kernel
theorem dX11_growByOneStep_19 : decode cX11_growByOneStep 19 = .ok (.if_icmp .ge 24, 3) := by decide +kernel
theorem dX11_growByOneStep_22 : decode cX11_growByOneStep 22 = .ok (.lload_n 3, 1) := by decide +kernel
theorem dX11_growByOneStep_23 : decode cX11_growByOneStep 23 = .ok (.aload_n 0, 1) := by decide +kernel
theorem dX11_growByOneStep_24 : decode cX11_growByOneStep 24 = .ok (.getfield 49, 3) := by decide +kernel
theorem dX11_growByOneStep_27 : decode cX11_growByOneStep 27 = .ok (.iload_n 2, 1) := by decide +kernel
theorem dX11_growByOneStep_28 : decode cX11_growByOneStep 28 = .ok (.iconst 1, 1) := by decide +kernel
theorem dX11_growByOneStep_29 : decode cX11_growByOneStep 29 = .ok (.iload 5, 2) := by decide +kernel
theorem dX11_growByOneStep_31 : decode cX11_growByOneStep 31 = .ok (.ishl, 1) := by decide +kernel
theorem dX11_growByOneStep_32 : decode cX11_growByOneStep 32 = .ok (.invokestatic 369, 3) := by decide +kernel
theorem dX11_growByOneStep_35 : decode cX11_growByOneStep 35 = .ok (.lor, 1) := by decide +kernel
theorem dX11_growByOneStep_36 : decode cX11_growByOneStep 36 = .ok (.lstore_n 3, 1) := by decide +kernel
theorem dX11_growByOneStep_37 : decode cX11_growByOneStep 37 = .ok (.iinc 5 1, 3) := by decide +kernel
theorem dX11_growByOneStep_40 : decode cX11_growByOneStep 40 = .ok (.goto (-25), 3) := by decide +kernel
theorem dX11_growByOneStep_43 : decode cX11_growByOneStep 43 = .ok (.aload_n 0, 1) := by decide +kernel
theorem dX11_growByOneStep_44 : decode cX11_growByOneStep 44 = .ok (.getfield 52, 3) := by decide +kernel
theorem dX11_growByOneStep_47 : decode cX11_growByOneStep 47 = .ok (.iload_n 2, 1) := by decide +kernel
theorem dX11_growByOneStep_48 : decode cX11_growByOneStep 48 = .ok (.aload_n 0, 1) := by decide +kernel
theorem dX11_growByOneStep_49 : decode cX11_growByOneStep 49 = .ok (.getfield 49, 3) := by decide +kernel
theorem dX11_growByOneStep_52 : decode cX11_growByOneStep 52 = .ok (.iload_n 2, 1) := by decide +kernel
theorem dX11_growByOneStep_53 : decode cX11_growByOneStep 53 = .ok (.laload, 1) := by decide +kernel
theorem dX11_growByOneStep_54 : decode cX11_growByOneStep 54 = .ok (.lload_n 3, 1) := by decide +kernel
theorem dX11_growByOneStep_55 : decode cX11_growByOneStep 55 = .ok (.aload_n 0, 1) := by decide +kernel
theorem dX11_growByOneStep_56 : decode cX11_growByOneStep 56 = .ok (.getfield 42, 3) := by decide +kernel
theorem dX11_growByOneStep_59 : decode cX11_growByOneStep 59 = .ok (.iload_n 2, 1) := by decide +kernel
theorem dX11_growByOneStep_60 : decode cX11_growByOneStep 60 = .ok (.laload, 1) := by decide +kernel
theorem dX11_growByOneStep_61 : decode cX11_growByOneStep 61 = .ok (.land, 1) := by decide +kernel
theorem dX11_growByOneStep_62 : decode cX11_growByOneStep 62 = .ok (.lor, 1) := by decide +kernel
theorem dX11_growByOneStep_63 : decode cX11_growByOneStep 63 = .ok (.lastore, 1) := by decide +kernel
theorem dX11_growByOneStep_64 : decode cX11_growByOneStep 64 = .ok (.iload_n 1, 1) := by decide +kernel
theorem dX11_growByOneStep_65 : decode cX11_growByOneStep 65 = .ok (.aload_n 0, 1) := by decide +kernel
theorem dX11_growByOneStep_66 : decode cX11_growByOneStep 66 = .ok (.getfield 52, 3) := by decide +kernel
theorem dX11_growByOneStep_69 : decode cX11_growByOneStep 69 = .ok (.iload_n 2, 1) := by decide +kernel
theorem dX11_growByOneStep_70 : decode cX11_growByOneStep 70 = .ok (.laload, 1) := by decide +kernel
theorem dX11_growByOneStep_71 : decode cX11_growByOneStep 71 = .ok (.aload_n 0, 1) := by decide +kernel
theorem dX11_growByOneStep_72 : decode cX11_growByOneStep 72 = .ok (.getfield 49, 3) := by decide +kernel
theorem dX11_growByOneStep_75 : decode cX11_growByOneStep 75 = .ok (.iload_n 2, 1) := by decide +kernel
theorem dX11_growByOneStep_76 : decode cX11_growByOneStep 76 = .ok (.laload, 1) := by decide +kernel
theorem dX11_growByOneStep_77 : decode cX11_growByOneStep 77 = .ok (.lcmp, 1) := by decide +kernel
theorem dX11_growByOneStep_78 : decode cX11_growByOneStep 78 = .ok (.ifCond .eq 7, 3) := by decide +kernel
theorem dX11_growByOneStep_81 : decode cX11_growByOneStep 81 = .ok (.iconst 1, 1) := by decide +kernel
theorem dX11_growByOneStep_82 : decode cX11_growByOneStep 82 = .ok (.goto 4, 3) := by decide +kernel
theorem dX11_growByOneStep_85 : decode cX11_growByOneStep 85 = .ok (.iconst 0, 1) := by decide +kernel
theorem dX11_growByOneStep_86 : decode cX11_growByOneStep 86 = .ok (.ior, 1) := by decide +kernel
theorem dX11_growByOneStep_87 : decode cX11_growByOneStep 87 = .ok (.istore_n 1, 1) := by decide +kernel
theorem dX11_growByOneStep_88 : decode cX11_growByOneStep 88 = .ok (.iinc 2 1, 3) := by decide +kernel
theorem dX11_growByOneStep_91 : decode cX11_growByOneStep 91 = .ok (.goto (-87), 3) := by decide +kernel
theorem dX11_growByOneStep_94 : decode cX11_growByOneStep 94 = .ok (.aload_n 0, 1) := by decide +kernel
theorem dX11_growByOneStep_95 : decode cX11_growByOneStep 95 = .ok (.getfield 52, 3) := by decide +kernel
theorem dX11_growByOneStep_98 : decode cX11_growByOneStep 98 = .ok (.iconst 0, 1) := by decide +kernel
theorem dX11_growByOneStep_99 : decode cX11_growByOneStep 99 = .ok (.aload_n 0, 1) := by decide +kernel
theorem dX11_growByOneStep_100 : decode cX11_growByOneStep 100 = .ok (.getfield 49, 3) := by decide +kernel
theorem dX11_growByOneStep_103 : decode cX11_growByOneStep 103 = .ok (.iconst 0, 1) := by decide +kernel
theorem dX11_growByOneStep_104 : decode cX11_growByOneStep 104 = .ok (.bipush 16, 2) := by decide +kernel
theorem dX11_growByOneStep_106 : decode cX11_growByOneStep 106 = .ok (.invokestatic 310, 3) := by decide +kernel
theorem dX11_growByOneStep_109 : decode cX11_growByOneStep 109 = .ok (.iload_n 1, 1) := by decide +kernel
theorem dX11_growByOneStep_110 : decode cX11_growByOneStep 110 = .ok (.ireturn, 1) := by decide +kernel
def FX11_growByOneStep (hp : HP) (p0 : Nat) : Option (Int32 × HP) := (lp (fun (s1 : Int32 × Int32 × HP) => if (16 : Int32) ≤ s1.2.1 then some (Sum.inl (s1.1, s1.2.2)) else (lp (fun (s6 : Int64 × Int32) => if (10 : Int32) ≤ s6.2 then some (Sum.inl s6.1) else (gR [11] 7 s1.2.2 p0).bind (fun v22 => (FX7_changed s1.2.2 v22 s1.2.1 ((1 : Int32) <<< (s6.2 &&& 31))).bind (fun v23 => vl (s6.1 ||| v23) (fun x24 => vl (s6.2 + (1 : Int32)) (fun x25 => some (Sum.inr (x24, x25))))))) FU ((0 : Int64), (0 : Int32))).bind (fun (y7 : Int64) => (gR [11] 8 s1.2.2 p0).bind (fun v8 => (gR [11] 7 s1.2.2 p0).bind (fun v9 => (rdL s1.2.2 v9 s1.2.1).bind (fun v10 => (gR [11] 5 s1.2.2 p0).bind (fun v11 => (rdL s1.2.2 v11 s1.2.1).bind (fun v12 => (wrL s1.2.2 v8 s1.2.1 (v10 ||| (y7 &&& v12))).bind (fun hp13 => (gR [11] 8 hp13 p0).bind (fun v14 => (rdL hp13 v14 s1.2.1).bind (fun v15 => (gR [11] 7 hp13 p0).bind (fun v16 => (rdL hp13 v16 s1.2.1).bind (fun v17 => if (lg_cmp v15 v17) = 0 then vl (s1.1 ||| (0 : Int32)) (fun x18 => vl (s1.2.1 + (1 : Int32)) (fun x19 => some (Sum.inr (x18, x19, hp13)))) else vl (s1.1 ||| (1 : Int32)) (fun x20 => vl (s1.2.1 + (1 : Int32)) (fun x21 => some (Sum.inr (x20, x21, hp13)))))))))))))))) FU ((0 : Int32), (0 : Int32), hp)).bind (fun (y2 : Int32 × HP) => (gR [11] 8 y2.2 p0).bind (fun v3 => (gR [11] 7 y2.2 p0).bind (fun v4 => (cpL y2.2 v3 (0 : Int32) v4 (0 : Int32) (16 : Int32)).bind (fun hp5 => bz y2.1 (some (y2.1, hp5))))))
set_option maxHeartbeats 4000000 in
set_option maxRecDepth 100000 in
theorem ctX11_growByOneStep (l : Launch) (D : va_G) (tg : Nat → ClassId) (bs : Nat) (sa : Nat → Nat) (hp : HP) (p0 : Nat) : Ct l D tg bs sa yX11_growByOneStep cX11_growByOneStep 6 (some .boolean) 1 [.ref p0] hp (FX11_growByOneStep hp p0) (fun r => some (.int r.1)) (fun r => r.2) := by
  refine Ct.of (by decide) (Nat.le_of_ble_eq_true rfl) ?_
  intro V Q hVl hVd hVt hVb hVs hC
  subst hVl; subst hVd; subst hVt; subst hVb; subst hVs
  unfold FX11_growByOneStep
  show Zs V Q (0, 0) 6 _ _ hp [(0, .ref p0)] 0 []
  refine z_iconst hC (0 : Int32) dX11_growByOneStep_0 (by decide) ?_
  refine z_istore_n hC [(0, .ref p0), (1, .int (0 : Int32))] [1, 0] dX11_growByOneStep_1 rfl (by decide) rfl ?_
  refine z_iconst hC (0 : Int32) dX11_growByOneStep_2 (by decide) ?_
  refine z_istore_n hC [(0, .ref p0), (1, .int (0 : Int32)), (2, .int (0 : Int32))] [1, 2, 0] dX11_growByOneStep_3 rfl (by decide) rfl ?_
  refine z_lp (S := Int32 × Int32 × HP) (Y := Int32 × HP) (fun s1 => s1.2.2) (fun s1 => [(0, .ref p0), (1, .int s1.1), (2, .int s1.2.1)]) (fun y2 => y2.2) (fun y2 => [(0, .ref p0), (1, .int y2.1)]) 94 [] (fun y2 => ?_) (fun s1 => ?_) rfl rfl
  · refine z_aload_n hC 0 dX11_growByOneStep_94 rfl rfl ?_
    refine z_getR hC lgRX11_52 dX11_growByOneStep_95 (fun v3 => ?_)
    refine z_iconst hC (0 : Int32) dX11_growByOneStep_98 (by decide) ?_
    refine z_aload_n hC 0 dX11_growByOneStep_99 rfl rfl ?_
    refine z_getR hC lgRX11_49 dX11_growByOneStep_100 (fun v4 => ?_)
    refine z_iconst hC (0 : Int32) dX11_growByOneStep_103 (by decide) ?_
    refine z_bipush hC (16 : Int32) dX11_growByOneStep_104 (by decide) ?_
    refine z_cpL hC laRX11_310 dX11_growByOneStep_106 (fun hp5 => ?_)
    refine z_iload_n hC 1 dX11_growByOneStep_109 rfl rfl ?_
    exact z_bz (fun hv => z_zret hC hv (fun h => h) dX11_growByOneStep_110)
  · refine z_iload_n hC 2 dX11_growByOneStep_4 rfl rfl ?_
    refine z_bipush hC (16 : Int32) dX11_growByOneStep_5 (by decide) ?_
    refine z_icmp_ge hC 94 dX11_growByOneStep_7 (by decide) (fun _ => ?_) (fun _ => ?_)
    · refine z_weak [(0, .ref p0), (1, .int s1.1)] [0, 1] rfl ?_
      exact z_leaf (fun h => h)
    · refine z_lconst hC (0 : Int64) dX11_growByOneStep_10 (by decide) ?_
      refine z_lstore_n hC [(0, .ref p0), (1, .int s1.1), (2, .int s1.2.1), (3, .long (0 : Int64))] [1, 2, 3, 0] dX11_growByOneStep_11 rfl (by decide) rfl ?_
      refine z_iconst hC (0 : Int32) dX11_growByOneStep_12 (by decide) ?_
      refine z_istore hC [(0, .ref p0), (1, .int s1.1), (2, .int s1.2.1), (3, .long (0 : Int64)), (5, .int (0 : Int32))] [1, 2, 3, 4, 0] dX11_growByOneStep_13 (by decide) rfl ?_
      refine z_lp (S := Int64 × Int32) (Y := Int64) (fun s6 => s1.2.2) (fun s6 => [(0, .ref p0), (1, .int s1.1), (2, .int s1.2.1), (3, .long s6.1), (5, .int s6.2)]) (fun y7 => s1.2.2) (fun y7 => [(0, .ref p0), (1, .int s1.1), (2, .int s1.2.1), (3, .long y7)]) 43 [] (fun y7 => ?_) (fun s6 => ?_) rfl rfl
      · refine z_aload_n hC 0 dX11_growByOneStep_43 rfl rfl ?_
        refine z_getR hC lgRX11_52 dX11_growByOneStep_44 (fun v8 => ?_)
        refine z_iload_n hC 2 dX11_growByOneStep_47 rfl rfl ?_
        refine z_aload_n hC 0 dX11_growByOneStep_48 rfl rfl ?_
        refine z_getR hC lgRX11_49 dX11_growByOneStep_49 (fun v9 => ?_)
        refine z_iload_n hC 2 dX11_growByOneStep_52 rfl rfl ?_
        refine z_lald hC dX11_growByOneStep_53 (fun v10 => ?_)
        refine z_lload_n hC 3 dX11_growByOneStep_54 rfl rfl ?_
        refine z_aload_n hC 0 dX11_growByOneStep_55 rfl rfl ?_
        refine z_getR hC lgRX11_42 dX11_growByOneStep_56 (fun v11 => ?_)
        refine z_iload_n hC 2 dX11_growByOneStep_59 rfl rfl ?_
        refine z_lald hC dX11_growByOneStep_60 (fun v12 => ?_)
        refine z_land hC dX11_growByOneStep_61 ?_
        refine z_lor hC dX11_growByOneStep_62 ?_
        refine z_last hC dX11_growByOneStep_63 (fun hp13 => ?_)
        refine z_iload_n hC 1 dX11_growByOneStep_64 rfl rfl ?_
        refine z_aload_n hC 0 dX11_growByOneStep_65 rfl rfl ?_
        refine z_getR hC lgRX11_52 dX11_growByOneStep_66 (fun v14 => ?_)
        refine z_iload_n hC 2 dX11_growByOneStep_69 rfl rfl ?_
        refine z_lald hC dX11_growByOneStep_70 (fun v15 => ?_)
        refine z_aload_n hC 0 dX11_growByOneStep_71 rfl rfl ?_
        refine z_getR hC lgRX11_49 dX11_growByOneStep_72 (fun v16 => ?_)
        refine z_iload_n hC 2 dX11_growByOneStep_75 rfl rfl ?_
        refine z_lald hC dX11_growByOneStep_76 (fun v17 => ?_)
        refine z_lcmp hC dX11_growByOneStep_77 ?_
        refine z_if_eq hC 85 dX11_growByOneStep_78 (by decide) (fun _ => ?_) (fun _ => ?_)
        · refine z_iconst hC (0 : Int32) dX11_growByOneStep_85 (by decide) ?_
          refine z_ior hC dX11_growByOneStep_86 ?_
          refine z_vli (fun x18 => ?_)
          refine z_istore_n hC [(0, .ref p0), (1, .int x18), (2, .int s1.2.1), (3, .long y7)] [1, 0, 2, 3] dX11_growByOneStep_87 rfl (by decide) rfl ?_
          refine z_iincv hC (1 : Int32) 2 (fun x19 => [(0, .ref p0), (1, .int x18), (2, .int x19), (3, .long y7)]) [1, 2, 0, 3] dX11_growByOneStep_88 rfl (by decide) (by decide) (fun _ => rfl) (fun x19 => ?_)
          refine z_goto hC 4 dX11_growByOneStep_91 (by decide) ?_
          refine z_weak [(0, .ref p0), (1, .int x18), (2, .int x19)] [0, 1, 2] rfl ?_
          exact z_leaf (fun h => h)
        · refine z_iconst hC (1 : Int32) dX11_growByOneStep_81 (by decide) ?_
          refine z_goto hC 86 dX11_growByOneStep_82 (by decide) ?_
          refine z_ior hC dX11_growByOneStep_86 ?_
          refine z_vli (fun x20 => ?_)
          refine z_istore_n hC [(0, .ref p0), (1, .int x20), (2, .int s1.2.1), (3, .long y7)] [1, 0, 2, 3] dX11_growByOneStep_87 rfl (by decide) rfl ?_
          refine z_iincv hC (1 : Int32) 2 (fun x21 => [(0, .ref p0), (1, .int x20), (2, .int x21), (3, .long y7)]) [1, 2, 0, 3] dX11_growByOneStep_88 rfl (by decide) (by decide) (fun _ => rfl) (fun x21 => ?_)
          refine z_goto hC 4 dX11_growByOneStep_91 (by decide) ?_
          refine z_weak [(0, .ref p0), (1, .int x20), (2, .int x21)] [0, 1, 2] rfl ?_
          exact z_leaf (fun h => h)
      · refine z_iload hC 4 dX11_growByOneStep_15 rfl ?_
        refine z_bipush hC (10 : Int32) dX11_growByOneStep_17 (by decide) ?_
        refine z_icmp_ge hC 43 dX11_growByOneStep_19 (by decide) (fun _ => ?_) (fun _ => ?_)
        · refine z_weak [(0, .ref p0), (1, .int s1.1), (2, .int s1.2.1), (3, .long s6.1)] [0, 1, 2, 3] rfl ?_
          exact z_leaf (fun h => h)
        · refine z_lload_n hC 3 dX11_growByOneStep_22 rfl rfl ?_
          refine z_aload_n hC 0 dX11_growByOneStep_23 rfl rfl ?_
          refine z_getR hC lgRX11_49 dX11_growByOneStep_24 (fun v22 => ?_)
          refine z_iload_n hC 2 dX11_growByOneStep_27 rfl rfl ?_
          refine z_iconst hC (1 : Int32) dX11_growByOneStep_28 (by decide) ?_
          refine z_iload hC 4 dX11_growByOneStep_29 rfl ?_
          refine z_ishl hC dX11_growByOneStep_31 ?_
          refine z_callSl hC lmRX11_369 (ctX7_changed (vLa V) (vDa V) (vTg V) (vBs V) (vSa V) s1.2.2 v22 s1.2.1 ((1 : Int32) <<< (s6.2 &&& 31))) (by decide) hn0 dX11_growByOneStep_32 rfl rfl (Nat.le_of_ble_eq_true rfl) (fun v23 => ?_)
          refine z_lor hC dX11_growByOneStep_35 ?_
          refine z_vll (fun x24 => ?_)
          refine z_lstore_n hC [(0, .ref p0), (1, .int s1.1), (2, .int s1.2.1), (3, .long x24), (5, .int s6.2)] [1, 2, 3, 0, 4] dX11_growByOneStep_36 rfl (by decide) rfl ?_
          refine z_iincv hC (1 : Int32) 4 (fun x25 => [(0, .ref p0), (1, .int s1.1), (2, .int s1.2.1), (3, .long x24), (5, .int x25)]) [1, 2, 3, 4, 0] dX11_growByOneStep_37 rfl (by decide) (by decide) (fun _ => rfl) (fun x25 => ?_)
          refine z_goto hC 15 dX11_growByOneStep_40 (by decide) ?_
          exact z_leaf (fun h => h)

theorem dX11_ladder_0 : decode cX11_ladder 0 = .ok (.aload_n 0, 1) := by decide +kernel
theorem dX11_ladder_1 : decode cX11_ladder 1 = .ok (.getfield 28, 3) := by decide +kernel
theorem dX11_ladder_4 : decode cX11_ladder 4 = .ok (.iload_n 1, 1) := by decide +kernel
theorem dX11_ladder_5 : decode cX11_ladder 5 = .ok (.invokevirtual 137, 3) := by decide +kernel
theorem dX11_ladder_8 : decode cX11_ladder 8 = .ok (.ifCond .eq 12, 3) := by decide +kernel
theorem dX11_ladder_11 : decode cX11_ladder 11 = .ok (.iload_n 2, 1) := by decide +kernel
theorem dX11_ladder_12 : decode cX11_ladder 12 = .ok (.ifCond .lt 8, 3) := by decide +kernel
theorem dX11_ladder_15 : decode cX11_ladder 15 = .ok (.iload_n 2, 1) := by decide +kernel
theorem dX11_ladder_16 : decode cX11_ladder 16 = .ok (.iconst 1, 1) := by decide +kernel
theorem dX11_ladder_17 : decode cX11_ladder 17 = .ok (.if_icmp .le 5, 3) := by decide +kernel
theorem dX11_ladder_20 : decode cX11_ladder 20 = .ok (.iconst (-1), 1) := by decide +kernel
theorem dX11_ladder_21 : decode cX11_ladder 21 = .ok (.ireturn, 1) := by decide +kernel
theorem dX11_ladder_22 : decode cX11_ladder 22 = .ok (.aload_n 0, 1) := by decide +kernel
theorem dX11_ladder_23 : decode cX11_ladder 23 = .ok (.getfield 42, 3) := by decide +kernel
theorem dX11_ladder_26 : decode cX11_ladder 26 = .ok (.aload_n 0, 1) := by decide +kernel
theorem dX11_ladder_27 : decode cX11_ladder 27 = .ok (.getfield 84, 3) := by decide +kernel
theorem dX11_ladder_30 : decode cX11_ladder 30 = .ok (.getfield 105, 3) := by decide +kernel
theorem dX11_ladder_33 : decode cX11_ladder 33 = .ok (.invokestatic 176, 3) := by decide +kernel
theorem dX11_ladder_36 : decode cX11_ladder 36 = .ok (.ifCond .ne 6, 3) := by decide +kernel
theorem dX11_ladder_39 : decode cX11_ladder 39 = .ok (.bipush (-2), 2) := by decide +kernel
theorem dX11_ladder_41 : decode cX11_ladder 41 = .ok (.ireturn, 1) := by decide +kernel
theorem dX11_ladder_42 : decode cX11_ladder 42 = .ok (.aload_n 0, 1) := by decide +kernel
theorem dX11_ladder_43 : decode cX11_ladder 43 = .ok (.getfield 28, 3) := by decide +kernel
theorem dX11_ladder_46 : decode cX11_ladder 46 = .ok (.getfield 193, 3) := by decide +kernel
theorem dX11_ladder_49 : decode cX11_ladder 49 = .ok (.iload_n 1, 1) := by decide +kernel
theorem dX11_ladder_50 : decode cX11_ladder 50 = .ok (.aaload, 1) := by decide +kernel
theorem dX11_ladder_51 : decode cX11_ladder 51 = .ok (.astore_n 3, 1) := by decide +kernel
theorem dX11_ladder_52 : decode cX11_ladder 52 = .ok (.aload_n 3, 1) := by decide +kernel
theorem dX11_ladder_53 : decode cX11_ladder 53 = .ok (.aload_n 0, 1) := by decide +kernel
theorem dX11_ladder_54 : decode cX11_ladder 54 = .ok (.getfield 84, 3) := by decide +kernel
theorem dX11_ladder_57 : decode cX11_ladder 57 = .ok (.getfield 105, 3) := by decide +kernel
theorem dX11_ladder_60 : decode cX11_ladder 60 = .ok (.invokestatic 176, 3) := by decide +kernel
theorem dX11_ladder_63 : decode cX11_ladder 63 = .ok (.ifCond .eq 14, 3) := by decide +kernel
theorem dX11_ladder_66 : decode cX11_ladder 66 = .ok (.iload_n 2, 1) := by decide +kernel
theorem dX11_ladder_67 : decode cX11_ladder 67 = .ok (.ifCond .ne 7, 3) := by decide +kernel
theorem dX11_ladder_70 : decode cX11_ladder 70 = .ok (.iconst 0, 1) := by decide +kernel
theorem dX11_ladder_71 : decode cX11_ladder 71 = .ok (.goto 5, 3) := by decide +kernel
theorem dX11_ladder_74 : decode cX11_ladder 74 = .ok (.bipush (-3), 2) := by decide +kernel
theorem dX11_ladder_76 : decode cX11_ladder 76 = .ok (.ireturn, 1) := by decide +kernel
theorem dX11_ladder_77 : decode cX11_ladder 77 = .ok (.iconst 0, 1) := by decide +kernel
theorem dX11_ladder_78 : decode cX11_ladder 78 = .ok (.istore 4, 2) := by decide +kernel
theorem dX11_ladder_80 : decode cX11_ladder 80 = .ok (.iload 4, 2) := by decide +kernel
theorem dX11_ladder_82 : decode cX11_ladder 82 = .ok (.bipush 16, 2) := by decide +kernel
theorem dX11_ladder_84 : decode cX11_ladder 84 = .ok (.if_icmp .ge 28, 3) := by decide +kernel
theorem dX11_ladder_87 : decode cX11_ladder 87 = .ok (.aload_n 0, 1) := by decide +kernel
theorem dX11_ladder_88 : decode cX11_ladder 88 = .ok (.getfield 49, 3) := by decide +kernel
theorem dX11_ladder_91 : decode cX11_ladder 91 = .ok (.iload 4, 2) := by decide +kernel
theorem dX11_ladder_93 : decode cX11_ladder 93 = .ok (.aload_n 0, 1) := by decide +kernel
theorem dX11_ladder_94 : decode cX11_ladder 94 = .ok (.getfield 42, 3) := by decide +kernel
theorem dX11_ladder_97 : decode cX11_ladder 97 = .ok (.iload 4, 2) := by decide +kernel
theorem dX11_ladder_99 : decode cX11_ladder 99 = .ok (.laload, 1) := by decide +kernel
theorem dX11_ladder_100 : decode cX11_ladder 100 = .ok (.aload_n 3, 1) := by decide +kernel
theorem dX11_ladder_101 : decode cX11_ladder 101 = .ok (.iload 4, 2) := by decide +kernel
theorem dX11_ladder_103 : decode cX11_ladder 103 = .ok (.laload, 1) := by decide +kernel
theorem dX11_ladder_104 : decode cX11_ladder 104 = .ok (.land, 1) := by decide +kernel
theorem dX11_ladder_105 : decode cX11_ladder 105 = .ok (.lastore, 1) := by decide +kernel
theorem dX11_ladder_106 : decode cX11_ladder 106 = .ok (.iinc 4 1, 3) := by decide +kernel
theorem dX11_ladder_109 : decode cX11_ladder 109 = .ok (.goto (-29), 3) := by decide +kernel
theorem dX11_ladder_112 : decode cX11_ladder 112 = .ok (.iconst 1, 1) := by decide +kernel
theorem dX11_ladder_113 : decode cX11_ladder 113 = .ok (.istore 4, 2) := by decide +kernel
theorem dX11_ladder_115 : decode cX11_ladder 115 = .ok (.iload 4, 2) := by decide +kernel
theorem dX11_ladder_117 : decode cX11_ladder 117 = .ok (.sipush 1024, 3) := by decide +kernel
theorem dX11_ladder_120 : decode cX11_ladder 120 = .ok (.if_icmp .ge 49, 3) := by decide +kernel
theorem dX11_ladder_123 : decode cX11_ladder 123 = .ok (.aload_n 0, 1) := by decide +kernel
theorem dX11_ladder_124 : decode cX11_ladder 124 = .ok (.aload_n 0, 1) := by decide +kernel
theorem dX11_ladder_125 : decode cX11_ladder 125 = .ok (.getfield 84, 3) := by decide +kernel
theorem dX11_ladder_128 : decode cX11_ladder 128 = .ok (.getfield 105, 3) := by decide +kernel
theorem dX11_ladder_131 : decode cX11_ladder 131 = .ok (.invokevirtual 265, 3) := by decide +kernel
theorem dX11_ladder_134 : decode cX11_ladder 134 = .ok (.istore 5, 2) := by decide +kernel
theorem dX11_ladder_136 : decode cX11_ladder 136 = .ok (.iload 5, 2) := by decide +kernel
theorem dX11_ladder_138 : decode cX11_ladder 138 = .ok (.ifCond .lt 15, 3) := by decide +kernel
theorem dX11_ladder_141 : decode cX11_ladder 141 = .ok (.iload_n 2, 1) := by decide +kernel
theorem dX11_ladder_142 : decode cX11_ladder 142 = .ok (.ifCond .ne 8, 3) := by decide +kernel
theorem dX11_ladder_145 : decode cX11_ladder 145 = .ok (.iload 4, 2) := by decide +kernel
theorem dX11_ladder_147 : decode cX11_ladder 147 = .ok (.goto 5, 3) := by decide +kernel
theorem dX11_ladder_150 : decode cX11_ladder 150 = .ok (.iload 5, 2) := by decide +kernel
theorem dX11_ladder_152 : decode cX11_ladder 152 = .ok (.ireturn, 1) := by decide +kernel
theorem dX11_ladder_153 : decode cX11_ladder 153 = .ok (.aload_n 0, 1) := by decide +kernel
theorem dX11_ladder_154 : decode cX11_ladder 154 = .ok (.invokevirtual 268, 3) := by decide +kernel
theorem dX11_ladder_157 : decode cX11_ladder 157 = .ok (.ifCond .ne 6, 3) := by decide +kernel
theorem dX11_ladder_160 : decode cX11_ladder 160 = .ok (.bipush (-2), 2) := by decide +kernel
theorem dX11_ladder_162 : decode cX11_ladder 162 = .ok (.ireturn, 1) := by decide +kernel
theorem dX11_ladder_163 : decode cX11_ladder 163 = .ok (.iinc 4 1, 3) := by decide +kernel
theorem dX11_ladder_166 : decode cX11_ladder 166 = .ok (.goto (-51), 3) := by decide +kernel
theorem dX11_ladder_169 : decode cX11_ladder 169 = .ok (.bipush (-2), 2) := by decide +kernel
theorem dX11_ladder_171 : decode cX11_ladder 171 = .ok (.ireturn, 1) := by decide +kernel
def FX11_ladder (hp : HP) (p0 : Nat) (p1 : Int32) (p2 : Int32) : Option (Int32 × HP) := (gR [11] 2 hp p0).bind (fun v1 => (rc [0] hp v1 (FX0_has hp v1 p1)).bind (fun v2 => if v2 = 0 then some ((-1 : Int32), hp) else if p2 < 0 then some ((-1 : Int32), hp) else if p2 ≤ (1 : Int32) then (gR [11] 5 hp p0).bind (fun v3 => (gR [11] 12 hp p0).bind (fun v4 => (gI [6] 0 hp v4).bind (fun v5 => (FX7_has hp v3 v5).bind (fun v6 => if v6 = 0 then some ((-2 : Int32), hp) else (gR [11] 2 hp p0).bind (fun v7 => (gR [0] 0 hp v7).bind (fun v8 => (rdA 4 hp v8 p1).bind (fun v9 => (gR [11] 12 hp p0).bind (fun v10 => (gI [6] 0 hp v10).bind (fun v11 => (FX7_has hp v9 v11).bind (fun v12 => if v12 = 0 then (lp (fun (s13 : Int32 × HP) => if (16 : Int32) ≤ s13.1 then some (Sum.inl s13.2) else (gR [11] 7 s13.2 p0).bind (fun v22 => (gR [11] 5 s13.2 p0).bind (fun v23 => (rdL s13.2 v23 s13.1).bind (fun v24 => (rdL s13.2 v9 s13.1).bind (fun v25 => (wrL s13.2 v22 s13.1 (v24 &&& v25)).bind (fun hp26 => vl (s13.1 + (1 : Int32)) (fun x27 => some (Sum.inr (x27, hp26))))))))) FU ((0 : Int32), hp)).bind (fun (y14 : HP) => (lp (fun (s15 : Int32 × HP) => if (1024 : Int32) ≤ s15.1 then some (Sum.inl (Sum.inr s15.2)) else (gR [11] 12 s15.2 p0).bind (fun v17 => (gI [6] 0 s15.2 v17).bind (fun v18 => (rc [11] s15.2 p0 (FX11_lowestFactInto s15.2 p0 v18)).bind (fun v19 => if v19 < 0 then (rc [11] s15.2 p0 (FX11_growByOneStep s15.2 p0)).bind (fun w20 => if w20.1 = 0 then some (Sum.inl (Sum.inl ((-2 : Int32), w20.2))) else vl (s15.1 + (1 : Int32)) (fun x21 => some (Sum.inr (x21, w20.2)))) else if p2 = 0 then some (Sum.inl (Sum.inl (s15.1, s15.2))) else some (Sum.inl (Sum.inl (v19, s15.2))))))) FU ((1 : Int32), y14)).bind (lk (P := Int32 × HP) (fun r => r) (fun (y16 : HP) => some ((-2 : Int32), y16)))) else if p2 = 0 then some ((0 : Int32), hp) else some ((-3 : Int32), hp))))))))))) else some ((-1 : Int32), hp)))
set_option maxHeartbeats 4000000 in
set_option maxRecDepth 100000 in
theorem ctX11_ladder (l : Launch) (D : va_G) (tg : Nat → ClassId) (bs : Nat) (sa : Nat → Nat) (hp : HP) (p0 : Nat) (p1 : Int32) (p2 : Int32) : Ct l D tg bs sa yX11_ladder cX11_ladder 6 (some .int) 2 [.ref p0, .int p1, .int p2] hp (FX11_ladder hp p0 p1 p2) (fun r => some (.int r.1)) (fun r => r.2) := by
  refine Ct.of (by decide) (Nat.le_of_ble_eq_true rfl) ?_
  intro V Q hVl hVd hVt hVb hVs hC
  subst hVl; subst hVd; subst hVt; subst hVb; subst hVs
  unfold FX11_ladder
  show Zs V Q (0, 0) 6 _ _ hp [(0, .ref p0), (1, .int p1), (2, .int p2)] 0 []
  refine z_aload_n hC 0 dX11_ladder_0 rfl rfl ?_
  refine z_getR hC lgRX11_28 dX11_ladder_1 (fun v1 => ?_)
  refine z_iload_n hC 1 dX11_ladder_4 rfl rfl ?_
  refine z_callVi hC (ci := 0) rfl lmRX11_137 (ctX0_has (vLa V) (vDa V) (vTg V) (vBs V) (vSa V) hp v1 p1) (by decide) hn0 dX11_ladder_5 rfl rfl (Nat.le_of_ble_eq_true rfl) (fun v2 => ?_)
  refine z_if_eq hC 20 dX11_ladder_8 (by decide) (fun _ => ?_) (fun _ => ?_)
  · refine z_iconst hC (-1 : Int32) dX11_ladder_20 (by decide) ?_
    exact z_iret hC (fun h => h) dX11_ladder_21
  · refine z_iload_n hC 2 dX11_ladder_11 rfl rfl ?_
    refine z_if_lt hC 20 dX11_ladder_12 (by decide) (fun _ => ?_) (fun _ => ?_)
    · refine z_iconst hC (-1 : Int32) dX11_ladder_20 (by decide) ?_
      exact z_iret hC (fun h => h) dX11_ladder_21
    · refine z_iload_n hC 2 dX11_ladder_15 rfl rfl ?_
      refine z_iconst hC (1 : Int32) dX11_ladder_16 (by decide) ?_
      refine z_icmp_le hC 22 dX11_ladder_17 (by decide) (fun _ => ?_) (fun _ => ?_)
      · refine z_aload_n hC 0 dX11_ladder_22 rfl rfl ?_
        refine z_getR hC lgRX11_42 dX11_ladder_23 (fun v3 => ?_)
        refine z_aload_n hC 0 dX11_ladder_26 rfl rfl ?_
        refine z_getR hC lgRX11_84 dX11_ladder_27 (fun v4 => ?_)
        refine z_getI hC lgRX11_105 dX11_ladder_30 (fun v5 => ?_)
        refine z_callSi hC lmRX11_176 (ctX7_has (vLa V) (vDa V) (vTg V) (vBs V) (vSa V) hp v3 v5) (by decide) hn0 dX11_ladder_33 rfl rfl (Nat.le_of_ble_eq_true rfl) (fun v6 => ?_)
        refine z_if_ne hC 42 dX11_ladder_36 (by decide) (fun _ => ?_) (fun _ => ?_)
        · refine z_bipush hC (-2 : Int32) dX11_ladder_39 (by decide) ?_
          exact z_iret hC (fun h => h) dX11_ladder_41
        · refine z_aload_n hC 0 dX11_ladder_42 rfl rfl ?_
          refine z_getR hC lgRX11_28 dX11_ladder_43 (fun v7 => ?_)
          refine z_getR hC lgRX11_193 dX11_ladder_46 (fun v8 => ?_)
          refine z_iload_n hC 1 dX11_ladder_49 rfl rfl ?_
          refine z_aald4 hC dX11_ladder_50 (fun v9 => ?_)
          refine z_astore_n hC [(0, .ref p0), (1, .int p1), (2, .int p2), (3, .ref v9)] [1, 2, 3, 0] dX11_ladder_51 rfl (by decide) rfl ?_
          refine z_aload_n hC 3 dX11_ladder_52 rfl rfl ?_
          refine z_aload_n hC 0 dX11_ladder_53 rfl rfl ?_
          refine z_getR hC lgRX11_84 dX11_ladder_54 (fun v10 => ?_)
          refine z_getI hC lgRX11_105 dX11_ladder_57 (fun v11 => ?_)
          refine z_callSi hC lmRX11_176 (ctX7_has (vLa V) (vDa V) (vTg V) (vBs V) (vSa V) hp v9 v11) (by decide) hn0 dX11_ladder_60 rfl rfl (Nat.le_of_ble_eq_true rfl) (fun v12 => ?_)
          refine z_if_eq hC 77 dX11_ladder_63 (by decide) (fun _ => ?_) (fun _ => ?_)
          · refine z_iconst hC (0 : Int32) dX11_ladder_77 (by decide) ?_
            refine z_istore hC [(0, .ref p0), (1, .int p1), (2, .int p2), (3, .ref v9), (4, .int (0 : Int32))] [1, 2, 3, 4, 0] dX11_ladder_78 (by decide) rfl ?_
            refine z_weak [(0, .ref p0), (2, .int p2), (3, .ref v9), (4, .int (0 : Int32))] [0, 2, 3, 4] rfl ?_
            refine z_lp (S := Int32 × HP) (Y := HP) (fun s13 => s13.2) (fun s13 => [(0, .ref p0), (2, .int p2), (3, .ref v9), (4, .int s13.1)]) (fun y14 => y14) (fun y14 => [(0, .ref p0), (2, .int p2)]) 112 [] (fun y14 => ?_) (fun s13 => ?_) rfl rfl
            · refine z_iconst hC (1 : Int32) dX11_ladder_112 (by decide) ?_
              refine z_istore hC [(0, .ref p0), (2, .int p2), (4, .int (1 : Int32))] [1, 2, 0] dX11_ladder_113 (by decide) rfl ?_
              refine z_lpR (S := Int32 × HP) (Y := HP) (fun s15 => s15.2) (fun s15 => [(0, .ref p0), (2, .int p2), (4, .int s15.1)]) (fun y16 => y16) (fun y16 => []) 169 [] (fun y16 => ?_) (fun s15 => ?_) rfl rfl
              · refine z_bipush hC (-2 : Int32) dX11_ladder_169 (by decide) ?_
                exact z_iret hC (fun h => h) dX11_ladder_171
              · refine z_iload hC 2 dX11_ladder_115 rfl ?_
                refine z_sipush hC (1024 : Int32) dX11_ladder_117 (by decide) ?_
                refine z_icmp_ge hC 169 dX11_ladder_120 (by decide) (fun _ => ?_) (fun _ => ?_)
                · refine z_weak [] [] rfl ?_
                  exact z_leaf (fun h => h)
                · refine z_aload_n hC 0 dX11_ladder_123 rfl rfl ?_
                  refine z_aload_n hC 0 dX11_ladder_124 rfl rfl ?_
                  refine z_getR hC lgRX11_84 dX11_ladder_125 (fun v17 => ?_)
                  refine z_getI hC lgRX11_105 dX11_ladder_128 (fun v18 => ?_)
                  refine z_callVi hC (ci := 11) rfl lmRX11_265 (ctX11_lowestFactInto (vLa V) (vDa V) (vTg V) (vBs V) (vSa V) s15.2 p0 v18) (by decide) hn0 dX11_ladder_131 rfl rfl (Nat.le_of_ble_eq_true rfl) (fun v19 => ?_)
                  refine z_istore hC [(0, .ref p0), (2, .int p2), (4, .int s15.1), (5, .int v19)] [1, 2, 3, 0] dX11_ladder_134 (by decide) rfl ?_
                  refine z_iload hC 3 dX11_ladder_136 rfl ?_
                  refine z_if_lt hC 153 dX11_ladder_138 (by decide) (fun _ => ?_) (fun _ => ?_)
                  · refine z_aload_n hC 0 dX11_ladder_153 rfl rfl ?_
                    refine z_callVi hC (ci := 11) rfl lmRX11_268 (ctX11_growByOneStep (vLa V) (vDa V) (vTg V) (vBs V) (vSa V) s15.2 p0) (by decide) hn0 dX11_ladder_154 rfl rfl (Nat.le_of_ble_eq_true rfl) (fun w20 => ?_)
                    refine z_if_ne hC 163 dX11_ladder_157 (by decide) (fun _ => ?_) (fun _ => ?_)
                    · refine z_bipush hC (-2 : Int32) dX11_ladder_160 (by decide) ?_
                      exact z_iret hC (fun h => h) dX11_ladder_162
                    · refine z_iincv hC (1 : Int32) 2 (fun x21 => [(0, .ref p0), (2, .int p2), (4, .int x21), (5, .int v19)]) [1, 2, 0, 3] dX11_ladder_163 rfl (by decide) (by decide) (fun _ => rfl) (fun x21 => ?_)
                      refine z_goto hC 115 dX11_ladder_166 (by decide) ?_
                      refine z_weak [(0, .ref p0), (2, .int p2), (4, .int x21)] [0, 1, 2] rfl ?_
                      exact z_leaf (fun h => h)
                  · refine z_iload_n hC 1 dX11_ladder_141 rfl rfl ?_
                    refine z_if_ne hC 150 dX11_ladder_142 (by decide) (fun _ => ?_) (fun _ => ?_)
                    · refine z_iload hC 2 dX11_ladder_145 rfl ?_
                      refine z_goto hC 152 dX11_ladder_147 (by decide) ?_
                      exact z_iret hC (fun h => h) dX11_ladder_152
                    · refine z_iload hC 3 dX11_ladder_150 rfl ?_
                      exact z_iret hC (fun h => h) dX11_ladder_152
            · refine z_iload hC 3 dX11_ladder_80 rfl ?_
              refine z_bipush hC (16 : Int32) dX11_ladder_82 (by decide) ?_
              refine z_icmp_ge hC 112 dX11_ladder_84 (by decide) (fun _ => ?_) (fun _ => ?_)
              · refine z_weak [(0, .ref p0), (2, .int p2)] [0, 1] rfl ?_
                exact z_leaf (fun h => h)
              · refine z_aload_n hC 0 dX11_ladder_87 rfl rfl ?_
                refine z_getR hC lgRX11_49 dX11_ladder_88 (fun v22 => ?_)
                refine z_iload hC 3 dX11_ladder_91 rfl ?_
                refine z_aload_n hC 0 dX11_ladder_93 rfl rfl ?_
                refine z_getR hC lgRX11_42 dX11_ladder_94 (fun v23 => ?_)
                refine z_iload hC 3 dX11_ladder_97 rfl ?_
                refine z_lald hC dX11_ladder_99 (fun v24 => ?_)
                refine z_aload_n hC 2 dX11_ladder_100 rfl rfl ?_
                refine z_iload hC 3 dX11_ladder_101 rfl ?_
                refine z_lald hC dX11_ladder_103 (fun v25 => ?_)
                refine z_land hC dX11_ladder_104 ?_
                refine z_last hC dX11_ladder_105 (fun hp26 => ?_)
                refine z_iincv hC (1 : Int32) 3 (fun x27 => [(0, .ref p0), (2, .int p2), (3, .ref v9), (4, .int x27)]) [1, 2, 3, 0] dX11_ladder_106 rfl (by decide) (by decide) (fun _ => rfl) (fun x27 => ?_)
                refine z_goto hC 80 dX11_ladder_109 (by decide) ?_
                exact z_leaf (fun h => h)
          · refine z_iload_n hC 2 dX11_ladder_66 rfl rfl ?_
            refine z_if_ne hC 74 dX11_ladder_67 (by decide) (fun _ => ?_) (fun _ => ?_)
            · refine z_iconst hC (0 : Int32) dX11_ladder_70 (by decide) ?_
              refine z_goto hC 76 dX11_ladder_71 (by decide) ?_
              exact z_iret hC (fun h => h) dX11_ladder_76
            · refine z_bipush hC (-3 : Int32) dX11_ladder_74 (by decide) ?_
              exact z_iret hC (fun h => h) dX11_ladder_76
      · refine z_iconst hC (-1 : Int32) dX11_ladder_20 (by decide) ?_
        exact z_iret hC (fun h => h) dX11_ladder_21

theorem dX11_chances_0 : decode cX11_chances 0 = .ok (.iload_n 2, 1) := by decide +kernel
theorem dX11_chances_1 : decode cX11_chances 1 = .ok (.ifCond .gt 17, 3) := by decide +kernel
theorem dX11_chances_4 : decode cX11_chances 4 = .ok (.aload_n 1, 1) := by decide +kernel
theorem dX11_chances_5 : decode cX11_chances 5 = .ok (.iload_n 3, 1) := by decide +kernel
theorem dX11_chances_6 : decode cX11_chances 6 = .ok (.invokestatic 176, 3) := by decide +kernel
theorem dX11_chances_9 : decode cX11_chances 9 = .ok (.ifCond .eq 7, 3) := by decide +kernel
theorem dX11_chances_12 : decode cX11_chances 12 = .ok (.lconst 1, 1) := by decide +kernel
theorem dX11_chances_13 : decode cX11_chances 13 = .ok (.goto 4, 3) := by decide +kernel
theorem dX11_chances_16 : decode cX11_chances 16 = .ok (.lconst 0, 1) := by decide +kernel
theorem dX11_chances_17 : decode cX11_chances 17 = .ok (.lreturn, 1) := by decide +kernel
theorem dX11_chances_18 : decode cX11_chances 18 = .ok (.iload_n 2, 1) := by decide +kernel
theorem dX11_chances_19 : decode cX11_chances 19 = .ok (.iconst 1, 1) := by decide +kernel
theorem dX11_chances_20 : decode cX11_chances 20 = .ok (.isub, 1) := by decide +kernel
theorem dX11_chances_21 : decode cX11_chances 21 = .ok (.istore 4, 2) := by decide +kernel
theorem dX11_chances_23 : decode cX11_chances 23 = .ok (.aload_n 0, 1) := by decide +kernel
theorem dX11_chances_24 : decode cX11_chances 24 = .ok (.getfield 10, 3) := by decide +kernel
theorem dX11_chances_27 : decode cX11_chances 27 = .ok (.iload 4, 2) := by decide +kernel
theorem dX11_chances_29 : decode cX11_chances 29 = .ok (.invokevirtual 274, 3) := by decide +kernel
theorem dX11_chances_32 : decode cX11_chances 32 = .ok (.istore 5, 2) := by decide +kernel
theorem dX11_chances_34 : decode cX11_chances 34 = .ok (.lconst 0, 1) := by decide +kernel
theorem dX11_chances_35 : decode cX11_chances 35 = .ok (.lstore 6, 2) := by decide +kernel
theorem dX11_chances_37 : decode cX11_chances 37 = .ok (.iload 5, 2) := by decide +kernel
theorem dX11_chances_39 : decode cX11_chances 39 = .ok (.ifCond .le 25, 3) := by decide +kernel
theorem dX11_chances_42 : decode cX11_chances 42 = .ok (.lload 6, 2) := by decide +kernel
theorem dX11_chances_44 : decode cX11_chances 44 = .ok (.iload 5, 2) := by decide +kernel
theorem dX11_chances_46 : decode cX11_chances 46 = .ok (.i2l, 1) := by decide +kernel
theorem dX11_chances_47 : decode cX11_chances 47 = .ok (.aload_n 0, 1) := by decide +kernel
theorem dX11_chances_48 : decode cX11_chances 48 = .ok (.aload_n 1, 1) := by decide +kernel
theorem dX11_chances_49 : decode cX11_chances 49 = .ok (.iload 4, 2) := by decide +kernel
theorem dX11_chances_51 : decode cX11_chances 51 = .ok (.iload_n 3, 1) := by decide +kernel
theorem dX11_chances_52 : decode cX11_chances 52 = .ok (.iconst 1, 1) := by decide +kernel
theorem dX11_chances_53 : decode cX11_chances 53 = .ok (.iload 4, 2) := by decide +kernel
theorem dX11_chances_55 : decode cX11_chances 55 = .ok (.ishl, 1) := by decide +kernel
theorem dX11_chances_56 : decode cX11_chances 56 = .ok (.ior, 1) := by decide +kernel
theorem dX11_chances_57 : decode cX11_chances 57 = .ok (.invokevirtual 279, 3) := by decide +kernel
theorem dX11_chances_60 : decode cX11_chances 60 = .ok (.lmul, 1) := by decide +kernel
theorem dX11_chances_61 : decode cX11_chances 61 = .ok (.ladd, 1) := by decide +kernel
theorem dX11_chances_62 : decode cX11_chances 62 = .ok (.lstore 6, 2) := by decide +kernel
theorem dX11_chances_64 : decode cX11_chances 64 = .ok (.iload 5, 2) := by decide +kernel
theorem dX11_chances_66 : decode cX11_chances 66 = .ok (.bipush 10, 2) := by decide +kernel
theorem dX11_chances_68 : decode cX11_chances 68 = .ok (.if_icmp .ge 23, 3) := by decide +kernel
theorem dX11_chances_71 : decode cX11_chances 71 = .ok (.lload 6, 2) := by decide +kernel
theorem dX11_chances_73 : decode cX11_chances 73 = .ok (.bipush 10, 2) := by decide +kernel
theorem dX11_chances_75 : decode cX11_chances 75 = .ok (.iload 5, 2) := by decide +kernel
theorem dX11_chances_77 : decode cX11_chances 77 = .ok (.isub, 1) := by decide +kernel
theorem dX11_chances_78 : decode cX11_chances 78 = .ok (.i2l, 1) := by decide +kernel
theorem dX11_chances_79 : decode cX11_chances 79 = .ok (.aload_n 0, 1) := by decide +kernel
theorem dX11_chances_80 : decode cX11_chances 80 = .ok (.aload_n 1, 1) := by decide +kernel
theorem dX11_chances_81 : decode cX11_chances 81 = .ok (.iload 4, 2) := by decide +kernel
theorem dX11_chances_83 : decode cX11_chances 83 = .ok (.iload_n 3, 1) := by decide +kernel
theorem dX11_chances_84 : decode cX11_chances 84 = .ok (.invokevirtual 279, 3) := by decide +kernel
theorem dX11_chances_87 : decode cX11_chances 87 = .ok (.lmul, 1) := by decide +kernel
theorem dX11_chances_88 : decode cX11_chances 88 = .ok (.ladd, 1) := by decide +kernel
theorem dX11_chances_89 : decode cX11_chances 89 = .ok (.lstore 6, 2) := by decide +kernel
theorem dX11_chances_91 : decode cX11_chances 91 = .ok (.lload 6, 2) := by decide +kernel
theorem dX11_chances_93 : decode cX11_chances 93 = .ok (.lreturn, 1) := by decide +kernel
def FBX11_chances (rX11_chances : HP → Nat → Nat → Int32 → Int32 → Option (Int64)) (hp : HP) (p0 : Nat) (p1 : Nat) (p2 : Int32) (p3 : Int32) : Option (Int64) := if 0 < p2 then vl (p2 - (1 : Int32)) (fun x1 => (gR [11] 0 hp p0).bind (fun v2 => (rc [8] hp v2 (FX8_at hp v2 x1)).bind (fun v3 => jn (A := Int64) (fun a4 => if (10 : Int32) ≤ v3 then some a4 else (rc [11] hp p0 (rX11_chances hp p0 p1 x1 p3)).bind (fun v6 => vl (a4 + ((((10 : Int32) - v3)).toInt64 * v6)) (fun x7 => some x7))) (fun J5 => if v3 ≤ 0 then J5 (0 : Int64) else (rc [11] hp p0 (rX11_chances hp p0 p1 x1 (p3 ||| ((1 : Int32) <<< (x1 &&& 31))))).bind (fun v8 => vl ((0 : Int64) + ((v3).toInt64 * v8)) (fun x9 => J5 x9)))))) else (FX7_has hp p1 p3).bind (fun v10 => if v10 = 0 then some (0 : Int64) else some (1 : Int64))
set_option maxHeartbeats 4000000 in
set_option maxRecDepth 100000 in
theorem cbX11_chances (l : Launch) (D : va_G) (tg : Nat → ClassId) (bs : Nat) (sa : Nat → Nat) (rX11_chances : HP → Nat → Nat → Int32 → Int32 → Option (Int64)) (Lr : Nat) (hLr : 0 ≤ Lr) (hrX11_chances : ∀ (hp : HP) (p0 : Nat) (p1 : Nat) (p2 : Int32) (p3 : Int32), Ct l D tg bs sa yX11_chances cX11_chances 8 (some .long) Lr [.ref p0, .ref p1, .int p2, .int p3] hp (rX11_chances hp p0 p1 p2 p3) (fun r => some (.long r)) (fun _ => hp)) (hp : HP) (p0 : Nat) (p1 : Nat) (p2 : Int32) (p3 : Int32) : Ct l D tg bs sa yX11_chances cX11_chances 8 (some .long) (Lr + 1) [.ref p0, .ref p1, .int p2, .int p3] hp (FBX11_chances rX11_chances hp p0 p1 p2 p3) (fun r => some (.long r)) (fun _ => hp) := by
  refine Ct.of (by decide) (Nat.le_of_ble_eq_true rfl) ?_
  intro V Q hVl hVd hVt hVb hVs hC
  subst hVl; subst hVd; subst hVt; subst hVb; subst hVs
  unfold FBX11_chances
  show Zs V Q (0, 0) 8 _ _ hp [(0, .ref p0), (1, .ref p1), (2, .int p2), (3, .int p3)] 0 []
  refine z_iload_n hC 2 dX11_chances_0 rfl rfl ?_
  refine z_if_gt hC 18 dX11_chances_1 (by decide) (fun _ => ?_) (fun _ => ?_)
  · refine z_iload_n hC 2 dX11_chances_18 rfl rfl ?_
    refine z_iconst hC (1 : Int32) dX11_chances_19 (by decide) ?_
    refine z_isub hC dX11_chances_20 ?_
    refine z_vli (fun x1 => ?_)
    refine z_istore hC [(0, .ref p0), (1, .ref p1), (2, .int p2), (3, .int p3), (4, .int x1)] [1, 2, 3, 4, 0] dX11_chances_21 (by decide) rfl ?_
    refine z_aload_n hC 0 dX11_chances_23 rfl rfl ?_
    refine z_getR hC lgRX11_10 dX11_chances_24 (fun v2 => ?_)
    refine z_iload hC 4 dX11_chances_27 rfl ?_
    refine z_callVi hC (ci := 8) rfl lmRX11_274 (ctX8_at (vLa V) (vDa V) (vTg V) (vBs V) (vSa V) hp v2 x1) (by have := hLr; omega) hn0 dX11_chances_29 rfl rfl (Nat.le_of_ble_eq_true rfl) (fun v3 => ?_)
    refine z_istore hC [(0, .ref p0), (1, .ref p1), (2, .int p2), (3, .int p3), (4, .int x1), (5, .int v3)] [1, 2, 3, 4, 5, 0] dX11_chances_32 (by decide) rfl ?_
    refine z_lconst hC (0 : Int64) dX11_chances_34 (by decide) ?_
    refine z_lstore hC [(0, .ref p0), (1, .ref p1), (2, .int p2), (3, .int p3), (4, .int x1), (5, .int v3), (6, .long (0 : Int64))] [1, 2, 3, 4, 5, 6, 0] dX11_chances_35 (by decide) rfl ?_
    refine z_iload hC 5 dX11_chances_37 rfl ?_
    refine z_jn (A := Int64) (fun a4 => hp) (fun a4 => [(0, .ref p0), (1, .ref p1), (3, .int p3), (4, .int x1), (5, .int v3), (6, .long a4)]) 64 (fun a4 => []) (fun a4 => ?_) (fun J5 hJ5 => ?_)
    · refine z_iload hC 4 dX11_chances_64 rfl ?_
      refine z_bipush hC (10 : Int32) dX11_chances_66 (by decide) ?_
      refine z_icmp_ge hC 91 dX11_chances_68 (by decide) (fun _ => ?_) (fun _ => ?_)
      · refine z_lload hC 5 dX11_chances_91 rfl ?_
        exact z_lret hC (fun h => h) dX11_chances_93
      · refine z_lload hC 5 dX11_chances_71 rfl ?_
        refine z_bipush hC (10 : Int32) dX11_chances_73 (by decide) ?_
        refine z_iload hC 4 dX11_chances_75 rfl ?_
        refine z_isub hC dX11_chances_77 ?_
        refine z_i2l hC dX11_chances_78 ?_
        refine z_aload_n hC 0 dX11_chances_79 rfl rfl ?_
        refine z_aload_n hC 1 dX11_chances_80 rfl rfl ?_
        refine z_iload hC 3 dX11_chances_81 rfl ?_
        refine z_iload_n hC 2 dX11_chances_83 rfl rfl ?_
        refine z_callVl hC (ci := 11) rfl lmRX11_279 (hrX11_chances hp p0 p1 x1 p3) (Nat.le_refl _) hn0 dX11_chances_84 rfl rfl (Nat.le_of_ble_eq_true rfl) (fun v6 => ?_)
        refine z_lmul hC dX11_chances_87 ?_
        refine z_ladd hC dX11_chances_88 ?_
        refine z_vll (fun x7 => ?_)
        refine z_lstore hC [(0, .ref p0), (1, .ref p1), (3, .int p3), (4, .int x1), (5, .int v3), (6, .long x7)] [1, 2, 3, 4, 5, 0] dX11_chances_89 (by decide) rfl ?_
        refine z_lload hC 5 dX11_chances_91 rfl ?_
        exact z_lret hC (fun h => h) dX11_chances_93
    · refine z_if_le hC 64 dX11_chances_39 (by decide) (fun _ => ?_) (fun _ => ?_)
      · refine z_weak [(0, .ref p0), (1, .ref p1), (3, .int p3), (4, .int x1), (5, .int v3), (6, .long (0 : Int64))] [0, 1, 3, 4, 5, 6] rfl ?_
        exact hJ5 (0 : Int64)
      · refine z_lload hC 6 dX11_chances_42 rfl ?_
        refine z_iload hC 5 dX11_chances_44 rfl ?_
        refine z_i2l hC dX11_chances_46 ?_
        refine z_aload_n hC 0 dX11_chances_47 rfl rfl ?_
        refine z_aload_n hC 1 dX11_chances_48 rfl rfl ?_
        refine z_iload hC 4 dX11_chances_49 rfl ?_
        refine z_iload_n hC 3 dX11_chances_51 rfl rfl ?_
        refine z_iconst hC (1 : Int32) dX11_chances_52 (by decide) ?_
        refine z_iload hC 4 dX11_chances_53 rfl ?_
        refine z_ishl hC dX11_chances_55 ?_
        refine z_ior hC dX11_chances_56 ?_
        refine z_callVl hC (ci := 11) rfl lmRX11_279 (hrX11_chances hp p0 p1 x1 (p3 ||| ((1 : Int32) <<< (x1 &&& 31)))) (Nat.le_refl _) hn0 dX11_chances_57 rfl rfl (Nat.le_of_ble_eq_true rfl) (fun v8 => ?_)
        refine z_lmul hC dX11_chances_60 ?_
        refine z_ladd hC dX11_chances_61 ?_
        refine z_vll (fun x9 => ?_)
        refine z_lstore hC [(0, .ref p0), (1, .ref p1), (2, .int p2), (3, .int p3), (4, .int x1), (5, .int v3), (6, .long x9)] [1, 2, 3, 4, 5, 6, 0] dX11_chances_62 (by decide) rfl ?_
        refine z_weak [(0, .ref p0), (1, .ref p1), (3, .int p3), (4, .int x1), (5, .int v3), (6, .long x9)] [0, 1, 3, 4, 5, 6] rfl ?_
        exact hJ5 x9
  · refine z_aload_n hC 1 dX11_chances_4 rfl rfl ?_
    refine z_iload_n hC 3 dX11_chances_5 rfl rfl ?_
    refine z_callSi hC lmRX11_176 (ctX7_has (vLa V) (vDa V) (vTg V) (vBs V) (vSa V) hp p1 p3) (by have := hLr; omega) hn0 dX11_chances_6 rfl rfl (Nat.le_of_ble_eq_true rfl) (fun v10 => ?_)
    refine z_if_eq hC 16 dX11_chances_9 (by decide) (fun _ => ?_) (fun _ => ?_)
    · refine z_lconst hC (0 : Int64) dX11_chances_16 (by decide) ?_
      exact z_lret hC (fun h => h) dX11_chances_17
    · refine z_lconst hC (1 : Int64) dX11_chances_12 (by decide) ?_
      refine z_goto hC 17 dX11_chances_13 (by decide) ?_
      exact z_lret hC (fun h => h) dX11_chances_17
def FGX11_chances : Nat → (HP → Nat → Nat → Int32 → Int32 → Option (Int64))
  | 0 => (fun _ _ _ _ _ => none)
  | d + 1 => FBX11_chances (FGX11_chances d)
def FX11_chances (d : Nat) : HP → Nat → Nat → Int32 → Int32 → Option (Int64) := (FGX11_chances d)
theorem cgX11_chances (l : Launch) (D : va_G) (tg : Nat → ClassId) (bs : Nat) (sa : Nat → Nat) : ∀ d : Nat, (∀ (hp : HP) (p0 : Nat) (p1 : Nat) (p2 : Int32) (p3 : Int32), Ct l D tg bs sa yX11_chances cX11_chances 8 (some .long) (0 + d) [.ref p0, .ref p1, .int p2, .int p3] hp (FX11_chances d hp p0 p1 p2 p3) (fun r => some (.long r)) (fun _ => hp)) := by
  intro d
  induction d with
  | zero => exact (fun hp _ _ _ _ x hx => by cases hx)
  | succ d ih =>
    exact cbX11_chances l D tg bs sa (FX11_chances d) (0 + d) (Nat.le_add_right _ _) ih
theorem ctX11_chances (l : Launch) (D : va_G) (tg : Nat → ClassId) (bs : Nat) (sa : Nat → Nat) (d : Nat) (hp : HP) (p0 : Nat) (p1 : Nat) (p2 : Int32) (p3 : Int32) : Ct l D tg bs sa yX11_chances cX11_chances 8 (some .long) (0 + d) [.ref p0, .ref p1, .int p2, .int p3] hp (FX11_chances d hp p0 p1 p2 p3) (fun r => some (.long r)) (fun _ => hp) := (cgX11_chances l D tg bs sa d) hp p0 p1 p2 p3
theorem dX11_commonDivisor_0 : decode cX11_commonDivisor 0 = .ok (.lload_n 0, 1) := by decide +kernel
theorem dX11_commonDivisor_1 : decode cX11_commonDivisor 1 = .ok (.lstore 4, 2) := by decide +kernel
theorem dX11_commonDivisor_3 : decode cX11_commonDivisor 3 = .ok (.lload_n 2, 1) := by decide +kernel
theorem dX11_commonDivisor_4 : decode cX11_commonDivisor 4 = .ok (.lstore 6, 2) := by decide +kernel
theorem dX11_commonDivisor_6 : decode cX11_commonDivisor 6 = .ok (.iconst 0, 1) := by decide +kernel
theorem dX11_commonDivisor_7 : decode cX11_commonDivisor 7 = .ok (.istore 8, 2) := by decide +kernel
theorem dX11_commonDivisor_9 : decode cX11_commonDivisor 9 = .ok (.iload 8, 2) := by decide +kernel
theorem dX11_commonDivisor_11 : decode cX11_commonDivisor 11 = .ok (.bipush 100, 2) := by decide +kernel
theorem dX11_commonDivisor_13 : decode cX11_commonDivisor 13 = .ok (.if_icmp .ge 31, 3) := by decide +kernel
theorem dX11_commonDivisor_16 : decode cX11_commonDivisor 16 = .ok (.lload 6, 2) := by decide +kernel
theorem dX11_commonDivisor_18 : decode cX11_commonDivisor 18 = .ok (.lconst 0, 1) := by decide +kernel
theorem dX11_commonDivisor_19 : decode cX11_commonDivisor 19 = .ok (.lcmp, 1) := by decide +kernel
theorem dX11_commonDivisor_20 : decode cX11_commonDivisor 20 = .ok (.ifCond .eq 24, 3) := by decide +kernel
theorem dX11_commonDivisor_23 : decode cX11_commonDivisor 23 = .ok (.lload 4, 2) := by decide +kernel
theorem dX11_commonDivisor_25 : decode cX11_commonDivisor 25 = .ok (.lload 6, 2) := by decide +kernel
theorem dX11_commonDivisor_27 : decode cX11_commonDivisor 27 = .ok (.lrem, 1) := by decide +kernel
theorem dX11_commonDivisor_28 : decode cX11_commonDivisor 28 = .ok (.lstore 9, 2) := by decide +kernel
theorem dX11_commonDivisor_30 : decode cX11_commonDivisor 30 = .ok (.lload 6, 2) := by decide +kernel
theorem dX11_commonDivisor_32 : decode cX11_commonDivisor 32 = .ok (.lstore 4, 2) := by decide +kernel
theorem dX11_commonDivisor_34 : decode cX11_commonDivisor 34 = .ok (.lload 9, 2) := by decide +kernel
theorem dX11_commonDivisor_36 : decode cX11_commonDivisor 36 = .ok (.lstore 6, 2) := by decide +kernel
theorem dX11_commonDivisor_38 : decode cX11_commonDivisor 38 = .ok (.iinc 8 1, 3) := by decide +kernel
theorem dX11_commonDivisor_41 : decode cX11_commonDivisor 41 = .ok (.goto (-32), 3) := by decide +kernel
theorem dX11_commonDivisor_44 : decode cX11_commonDivisor 44 = .ok (.lload 4, 2) := by decide +kernel
theorem dX11_commonDivisor_46 : decode cX11_commonDivisor 46 = .ok (.lreturn, 1) := by decide +kernel
def FX11_commonDivisor (p0 : Int64) (p2 : Int64) : Option (Int64) := (lp (fun (s1 : Int64 × Int64 × Int32) => if (100 : Int32) ≤ s1.2.2 then some (Sum.inl s1.1) else if (lg_cmp s1.2.1 (0 : Int64)) = 0 then some (Sum.inl s1.1) else (rmL s1.1 s1.2.1).bind (fun v3 => vl (s1.2.2 + (1 : Int32)) (fun x4 => some (Sum.inr (s1.2.1, v3, x4))))) FU (p0, p2, (0 : Int32))).bind (fun (y2 : Int64) => some y2)
set_option maxHeartbeats 4000000 in
set_option maxRecDepth 100000 in
theorem ctX11_commonDivisor (l : Launch) (D : va_G) (tg : Nat → ClassId) (bs : Nat) (sa : Nat → Nat) (hp : HP) (p0 : Int64) (p2 : Int64) : Ct l D tg bs sa yX11_commonDivisor cX11_commonDivisor 11 (some .long) 0 [.long p0, .long p2] hp (FX11_commonDivisor p0 p2) (fun r => some (.long r)) (fun _ => hp) := by
  refine Ct.of (by decide) (Nat.le_of_ble_eq_true rfl) ?_
  intro V Q hVl hVd hVt hVb hVs hC
  subst hVl; subst hVd; subst hVt; subst hVb; subst hVs
  unfold FX11_commonDivisor
  show Zs V Q (0, 0) 11 _ _ hp [(0, .long p0), (2, .long p2)] 0 []
  refine z_lload_n hC 0 dX11_commonDivisor_0 rfl rfl ?_
  refine z_lstore hC [(0, .long p0), (2, .long p2), (4, .long p0)] [1, 2, 0] dX11_commonDivisor_1 (by decide) rfl ?_
  refine z_lload_n hC 1 dX11_commonDivisor_3 rfl rfl ?_
  refine z_lstore hC [(0, .long p0), (2, .long p2), (4, .long p0), (6, .long p2)] [1, 2, 3, 0] dX11_commonDivisor_4 (by decide) rfl ?_
  refine z_iconst hC (0 : Int32) dX11_commonDivisor_6 (by decide) ?_
  refine z_istore hC [(0, .long p0), (2, .long p2), (4, .long p0), (6, .long p2), (8, .int (0 : Int32))] [1, 2, 3, 4, 0] dX11_commonDivisor_7 (by decide) rfl ?_
  refine z_weak [(4, .long p0), (6, .long p2), (8, .int (0 : Int32))] [2, 3, 4] rfl ?_
  refine z_lp (S := Int64 × Int64 × Int32) (Y := Int64) (fun s1 => hp) (fun s1 => [(4, .long s1.1), (6, .long s1.2.1), (8, .int s1.2.2)]) (fun y2 => hp) (fun y2 => [(4, .long y2)]) 44 [] (fun y2 => ?_) (fun s1 => ?_) rfl rfl
  · refine z_lload hC 0 dX11_commonDivisor_44 rfl ?_
    exact z_lret hC (fun h => h) dX11_commonDivisor_46
  · refine z_iload hC 2 dX11_commonDivisor_9 rfl ?_
    refine z_bipush hC (100 : Int32) dX11_commonDivisor_11 (by decide) ?_
    refine z_icmp_ge hC 44 dX11_commonDivisor_13 (by decide) (fun _ => ?_) (fun _ => ?_)
    · refine z_weak [(4, .long s1.1)] [0] rfl ?_
      exact z_leaf (fun h => h)
    · refine z_lload hC 1 dX11_commonDivisor_16 rfl ?_
      refine z_lconst hC (0 : Int64) dX11_commonDivisor_18 (by decide) ?_
      refine z_lcmp hC dX11_commonDivisor_19 ?_
      refine z_if_eq hC 44 dX11_commonDivisor_20 (by decide) (fun _ => ?_) (fun _ => ?_)
      · refine z_weak [(4, .long s1.1)] [0] rfl ?_
        exact z_leaf (fun h => h)
      · refine z_lload hC 0 dX11_commonDivisor_23 rfl ?_
        refine z_lload hC 1 dX11_commonDivisor_25 rfl ?_
        refine z_lrem hC dX11_commonDivisor_27 (fun v3 => ?_)
        refine z_lstore hC [(4, .long s1.1), (6, .long s1.2.1), (8, .int s1.2.2), (9, .long v3)] [1, 2, 3, 0] dX11_commonDivisor_28 (by decide) rfl ?_
        refine z_lload hC 1 dX11_commonDivisor_30 rfl ?_
        refine z_lstore hC [(4, .long s1.2.1), (6, .long s1.2.1), (8, .int s1.2.2), (9, .long v3)] [0, 1, 2, 3] dX11_commonDivisor_32 (by decide) rfl ?_
        refine z_lload hC 3 dX11_commonDivisor_34 rfl ?_
        refine z_lstore hC [(4, .long s1.2.1), (6, .long v3), (8, .int s1.2.2), (9, .long v3)] [1, 0, 2, 3] dX11_commonDivisor_36 (by decide) rfl ?_
        refine z_iincv hC (1 : Int32) 2 (fun x4 => [(4, .long s1.2.1), (6, .long v3), (8, .int x4), (9, .long v3)]) [1, 2, 0, 3] dX11_commonDivisor_38 rfl (by decide) (by decide) (fun _ => rfl) (fun x4 => ?_)
        refine z_goto hC 9 dX11_commonDivisor_41 (by decide) ?_
        refine z_weak [(4, .long s1.2.1), (6, .long v3), (8, .int x4)] [0, 1, 2] rfl ?_
        exact z_leaf (fun h => h)

theorem dX11_likely_0 : decode cX11_likely 0 = .ok (.aload_n 0, 1) := by decide +kernel
theorem dX11_likely_1 : decode cX11_likely 1 = .ok (.getfield 28, 3) := by decide +kernel
theorem dX11_likely_4 : decode cX11_likely 4 = .ok (.iload_n 1, 1) := by decide +kernel
theorem dX11_likely_5 : decode cX11_likely 5 = .ok (.invokevirtual 137, 3) := by decide +kernel
theorem dX11_likely_8 : decode cX11_likely 8 = .ok (.ifCond .eq 24, 3) := by decide +kernel
theorem dX11_likely_11 : decode cX11_likely 11 = .ok (.iload_n 2, 1) := by decide +kernel
theorem dX11_likely_12 : decode cX11_likely 12 = .ok (.ifCond .lt 20, 3) := by decide +kernel
theorem dX11_likely_15 : decode cX11_likely 15 = .ok (.iload_n 2, 1) := by decide +kernel
theorem dX11_likely_16 : decode cX11_likely 16 = .ok (.iconst 1, 1) := by decide +kernel
theorem dX11_likely_17 : decode cX11_likely 17 = .ok (.if_icmp .gt 15, 3) := by decide +kernel
theorem dX11_likely_20 : decode cX11_likely 20 = .ok (.aload_n 0, 1) := by decide +kernel
theorem dX11_likely_21 : decode cX11_likely 21 = .ok (.getfield 10, 3) := by decide +kernel
theorem dX11_likely_24 : decode cX11_likely 24 = .ok (.getfield 113, 3) := by decide +kernel
theorem dX11_likely_27 : decode cX11_likely 27 = .ok (.bipush 10, 2) := by decide +kernel
theorem dX11_likely_29 : decode cX11_likely 29 = .ok (.if_icmp .ge 7, 3) := by decide +kernel
theorem dX11_likely_32 : decode cX11_likely 32 = .ok (.ldc2_w 272, 3) := by decide +kernel
theorem dX11_likely_35 : decode cX11_likely 35 = .ok (.lreturn, 1) := by decide +kernel
theorem dX11_likely_36 : decode cX11_likely 36 = .ok (.aload_n 0, 1) := by decide +kernel
theorem dX11_likely_37 : decode cX11_likely 37 = .ok (.getfield 10, 3) := by decide +kernel
theorem dX11_likely_40 : decode cX11_likely 40 = .ok (.iconst 0, 1) := by decide +kernel
theorem dX11_likely_41 : decode cX11_likely 41 = .ok (.putfield 113, 3) := by decide +kernel
theorem dX11_likely_44 : decode cX11_likely 44 = .ok (.iconst 0, 1) := by decide +kernel
theorem dX11_likely_45 : decode cX11_likely 45 = .ok (.istore_n 3, 1) := by decide +kernel
theorem dX11_likely_46 : decode cX11_likely 46 = .ok (.iload_n 3, 1) := by decide +kernel
theorem dX11_likely_47 : decode cX11_likely 47 = .ok (.bipush 10, 2) := by decide +kernel
theorem dX11_likely_49 : decode cX11_likely 49 = .ok (.if_icmp .ge 26, 3) := by decide +kernel
theorem dX11_likely_52 : decode cX11_likely 52 = .ok (.aload_n 0, 1) := by decide +kernel
theorem dX11_likely_53 : decode cX11_likely 53 = .ok (.getfield 10, 3) := by decide +kernel
theorem dX11_likely_56 : decode cX11_likely 56 = .ok (.iload_n 3, 1) := by decide +kernel
theorem dX11_likely_57 : decode cX11_likely 57 = .ok (.invokevirtual 274, 3) := by decide +kernel
theorem dX11_likely_60 : decode cX11_likely 60 = .ok (.bipush 10, 2) := by decide +kernel
theorem dX11_likely_62 : decode cX11_likely 62 = .ok (.if_icmp .le 7, 3) := by decide +kernel
theorem dX11_likely_65 : decode cX11_likely 65 = .ok (.ldc2_w 277, 3) := by decide +kernel
theorem dX11_likely_68 : decode cX11_likely 68 = .ok (.lreturn, 1) := by decide +kernel
theorem dX11_likely_69 : decode cX11_likely 69 = .ok (.iinc 3 1, 3) := by decide +kernel
theorem dX11_likely_72 : decode cX11_likely 72 = .ok (.goto (-26), 3) := by decide +kernel
theorem dX11_likely_75 : decode cX11_likely 75 = .ok (.aload_n 0, 1) := by decide +kernel
theorem dX11_likely_76 : decode cX11_likely 76 = .ok (.aload_n 0, 1) := by decide +kernel
theorem dX11_likely_77 : decode cX11_likely 77 = .ok (.getfield 28, 3) := by decide +kernel
theorem dX11_likely_80 : decode cX11_likely 80 = .ok (.getfield 193, 3) := by decide +kernel
theorem dX11_likely_83 : decode cX11_likely 83 = .ok (.iload_n 1, 1) := by decide +kernel
theorem dX11_likely_84 : decode cX11_likely 84 = .ok (.aaload, 1) := by decide +kernel
theorem dX11_likely_85 : decode cX11_likely 85 = .ok (.bipush 10, 2) := by decide +kernel
theorem dX11_likely_87 : decode cX11_likely 87 = .ok (.iconst 0, 1) := by decide +kernel
theorem dX11_likely_88 : decode cX11_likely 88 = .ok (.invokevirtual 279, 3) := by decide +kernel
theorem dX11_likely_91 : decode cX11_likely 91 = .ok (.lstore_n 3, 1) := by decide +kernel
theorem dX11_likely_92 : decode cX11_likely 92 = .ok (.lconst 1, 1) := by decide +kernel
theorem dX11_likely_93 : decode cX11_likely 93 = .ok (.ldc2_w 283, 3) := by decide +kernel
theorem dX11_likely_96 : decode cX11_likely 96 = .ok (.lload_n 3, 1) := by decide +kernel
theorem dX11_likely_97 : decode cX11_likely 97 = .ok (.invokestatic 285, 3) := by decide +kernel
theorem dX11_likely_100 : decode cX11_likely 100 = .ok (.invokestatic 289, 3) := by decide +kernel
theorem dX11_likely_103 : decode cX11_likely 103 = .ok (.lstore 5, 2) := by decide +kernel
theorem dX11_likely_105 : decode cX11_likely 105 = .ok (.iload_n 2, 1) := by decide +kernel
theorem dX11_likely_106 : decode cX11_likely 106 = .ok (.ifCond .ne 10, 3) := by decide +kernel
theorem dX11_likely_109 : decode cX11_likely 109 = .ok (.lload_n 3, 1) := by decide +kernel
theorem dX11_likely_110 : decode cX11_likely 110 = .ok (.lload 5, 2) := by decide +kernel
theorem dX11_likely_112 : decode cX11_likely 112 = .ok (.ldiv, 1) := by decide +kernel
theorem dX11_likely_113 : decode cX11_likely 113 = .ok (.goto 9, 3) := by decide +kernel
theorem dX11_likely_116 : decode cX11_likely 116 = .ok (.ldc2_w 283, 3) := by decide +kernel
theorem dX11_likely_119 : decode cX11_likely 119 = .ok (.lload 5, 2) := by decide +kernel
theorem dX11_likely_121 : decode cX11_likely 121 = .ok (.ldiv, 1) := by decide +kernel
theorem dX11_likely_122 : decode cX11_likely 122 = .ok (.lreturn, 1) := by decide +kernel
def FX11_likely (hp : HP) (p0 : Nat) (p1 : Int32) (p2 : Int32) : Option (Int64 × HP) := (gR [11] 2 hp p0).bind (fun v1 => (rc [0] hp v1 (FX0_has hp v1 p1)).bind (fun v2 => if v2 = 0 then some ((-1 : Int64), hp) else if p2 < 0 then some ((-1 : Int64), hp) else if (1 : Int32) < p2 then some ((-1 : Int64), hp) else (gR [11] 0 hp p0).bind (fun v3 => (gI [8] 1 hp v3).bind (fun v4 => if (10 : Int32) ≤ v4 then (gR [11] 0 hp p0).bind (fun v5 => (sI [8] 1 hp v5 (0 : Int32)).bind (fun hp6 => (lp (fun (s7 : Int32) => if (10 : Int32) ≤ s7 then some (Sum.inl (Sum.inr ())) else (gR [11] 0 hp6 p0).bind (fun v17 => (rc [8] hp6 v17 (FX8_at hp6 v17 s7)).bind (fun v18 => if v18 ≤ (10 : Int32) then vl (s7 + (1 : Int32)) (fun x19 => some (Sum.inr x19)) else some (Sum.inl (Sum.inl ((-2 : Int64), hp6)))))) FU (0 : Int32)).bind (lk (P := Int64 × HP) (fun r => r) (fun (y8 : Unit) => (gR [11] 2 hp6 p0).bind (fun v9 => (gR [0] 0 hp6 v9).bind (fun v10 => (rdA 4 hp6 v10 p1).bind (fun v11 => (rc [11] hp6 p0 (FX11_chances 12 hp6 p0 v11 (10 : Int32) (0 : Int32))).bind (fun v12 => (FX11_commonDivisor (10000000000 : Int64) v12).bind (fun v13 => vl (mxL (1 : Int64) v13) (fun x14 => if p2 = 0 then (dvL v12 x14).bind (fun v15 => some (v15, hp6)) else (dvL (10000000000 : Int64) x14).bind (fun v16 => some (v16, hp6)))))))))))) else some ((-1 : Int64), hp)))))
set_option maxHeartbeats 4000000 in
set_option maxRecDepth 100000 in
theorem ctX11_likely (l : Launch) (D : va_G) (tg : Nat → ClassId) (bs : Nat) (sa : Nat → Nat) (hp : HP) (p0 : Nat) (p1 : Int32) (p2 : Int32) : Ct l D tg bs sa yX11_likely cX11_likely 7 (some .long) 13 [.ref p0, .int p1, .int p2] hp (FX11_likely hp p0 p1 p2) (fun r => some (.long r.1)) (fun r => r.2) := by
  refine Ct.of (by decide) (Nat.le_of_ble_eq_true rfl) ?_
  intro V Q hVl hVd hVt hVb hVs hC
  subst hVl; subst hVd; subst hVt; subst hVb; subst hVs
  unfold FX11_likely
  show Zs V Q (0, 0) 7 _ _ hp [(0, .ref p0), (1, .int p1), (2, .int p2)] 0 []
  refine z_aload_n hC 0 dX11_likely_0 rfl rfl ?_
  refine z_getR hC lgRX11_28 dX11_likely_1 (fun v1 => ?_)
  refine z_iload_n hC 1 dX11_likely_4 rfl rfl ?_
  refine z_callVi hC (ci := 0) rfl lmRX11_137 (ctX0_has (vLa V) (vDa V) (vTg V) (vBs V) (vSa V) hp v1 p1) (by decide) hn0 dX11_likely_5 rfl rfl (Nat.le_of_ble_eq_true rfl) (fun v2 => ?_)
  refine z_if_eq hC 32 dX11_likely_8 (by decide) (fun _ => ?_) (fun _ => ?_)
  · refine z_ldc2 hC (-1 : Int64) lcRX11_272 dX11_likely_32 ?_
    exact z_lret hC (fun h => h) dX11_likely_35
  · refine z_iload_n hC 2 dX11_likely_11 rfl rfl ?_
    refine z_if_lt hC 32 dX11_likely_12 (by decide) (fun _ => ?_) (fun _ => ?_)
    · refine z_ldc2 hC (-1 : Int64) lcRX11_272 dX11_likely_32 ?_
      exact z_lret hC (fun h => h) dX11_likely_35
    · refine z_iload_n hC 2 dX11_likely_15 rfl rfl ?_
      refine z_iconst hC (1 : Int32) dX11_likely_16 (by decide) ?_
      refine z_icmp_gt hC 32 dX11_likely_17 (by decide) (fun _ => ?_) (fun _ => ?_)
      · refine z_ldc2 hC (-1 : Int64) lcRX11_272 dX11_likely_32 ?_
        exact z_lret hC (fun h => h) dX11_likely_35
      · refine z_aload_n hC 0 dX11_likely_20 rfl rfl ?_
        refine z_getR hC lgRX11_10 dX11_likely_21 (fun v3 => ?_)
        refine z_getI hC lgRX11_113 dX11_likely_24 (fun v4 => ?_)
        refine z_bipush hC (10 : Int32) dX11_likely_27 (by decide) ?_
        refine z_icmp_ge hC 36 dX11_likely_29 (by decide) (fun _ => ?_) (fun _ => ?_)
        · refine z_aload_n hC 0 dX11_likely_36 rfl rfl ?_
          refine z_getR hC lgRX11_10 dX11_likely_37 (fun v5 => ?_)
          refine z_iconst hC (0 : Int32) dX11_likely_40 (by decide) ?_
          refine z_putI hC lpRX11_113 dX11_likely_41 (fun hp6 => ?_)
          refine z_iconst hC (0 : Int32) dX11_likely_44 (by decide) ?_
          refine z_istore_n hC [(0, .ref p0), (1, .int p1), (2, .int p2), (3, .int (0 : Int32))] [1, 2, 3, 0] dX11_likely_45 rfl (by decide) rfl ?_
          refine z_lpR (S := Int32) (Y := Unit) (fun s7 => hp6) (fun s7 => [(0, .ref p0), (1, .int p1), (2, .int p2), (3, .int s7)]) (fun y8 => hp6) (fun y8 => [(0, .ref p0), (1, .int p1), (2, .int p2)]) 75 [] (fun y8 => ?_) (fun s7 => ?_) rfl rfl
          · refine z_aload_n hC 0 dX11_likely_75 rfl rfl ?_
            refine z_aload_n hC 0 dX11_likely_76 rfl rfl ?_
            refine z_getR hC lgRX11_28 dX11_likely_77 (fun v9 => ?_)
            refine z_getR hC lgRX11_193 dX11_likely_80 (fun v10 => ?_)
            refine z_iload_n hC 1 dX11_likely_83 rfl rfl ?_
            refine z_aald4 hC dX11_likely_84 (fun v11 => ?_)
            refine z_bipush hC (10 : Int32) dX11_likely_85 (by decide) ?_
            refine z_iconst hC (0 : Int32) dX11_likely_87 (by decide) ?_
            refine z_callVl hC (ci := 11) rfl lmRX11_279 (ctX11_chances (vLa V) (vDa V) (vTg V) (vBs V) (vSa V) 12 hp6 p0 v11 (10 : Int32) (0 : Int32)) (by decide) hn0 dX11_likely_88 rfl rfl (Nat.le_of_ble_eq_true rfl) (fun v12 => ?_)
            refine z_lstore_n hC [(0, .ref p0), (1, .int p1), (2, .int p2), (3, .long v12)] [1, 2, 3, 0] dX11_likely_91 rfl (by decide) rfl ?_
            refine z_lconst hC (1 : Int64) dX11_likely_92 (by decide) ?_
            refine z_ldc2 hC (10000000000 : Int64) lcRX11_283 dX11_likely_93 ?_
            refine z_lload_n hC 3 dX11_likely_96 rfl rfl ?_
            refine z_callSl hC lmRX11_285 (ctX11_commonDivisor (vLa V) (vDa V) (vTg V) (vBs V) (vSa V) hp6 (10000000000 : Int64) v12) (by decide) hn0 dX11_likely_97 rfl rfl (Nat.le_of_ble_eq_true rfl) (fun v13 => ?_)
            refine z_mmaxL hC laRX11_289 hn0 (Nat.le_of_ble_eq_true rfl) dX11_likely_100 ?_
            refine z_vll (fun x14 => ?_)
            refine z_lstore hC [(0, .ref p0), (1, .int p1), (2, .int p2), (3, .long v12), (5, .long x14)] [1, 2, 3, 4, 0] dX11_likely_103 (by decide) rfl ?_
            refine z_iload_n hC 2 dX11_likely_105 rfl rfl ?_
            refine z_if_ne hC 116 dX11_likely_106 (by decide) (fun _ => ?_) (fun _ => ?_)
            · refine z_lload_n hC 3 dX11_likely_109 rfl rfl ?_
              refine z_lload hC 4 dX11_likely_110 rfl ?_
              refine z_ldiv hC dX11_likely_112 (fun v15 => ?_)
              refine z_goto hC 122 dX11_likely_113 (by decide) ?_
              exact z_lret hC (fun h => h) dX11_likely_122
            · refine z_ldc2 hC (10000000000 : Int64) lcRX11_283 dX11_likely_116 ?_
              refine z_lload hC 4 dX11_likely_119 rfl ?_
              refine z_ldiv hC dX11_likely_121 (fun v16 => ?_)
              exact z_lret hC (fun h => h) dX11_likely_122
          · refine z_iload_n hC 3 dX11_likely_46 rfl rfl ?_
            refine z_bipush hC (10 : Int32) dX11_likely_47 (by decide) ?_
            refine z_icmp_ge hC 75 dX11_likely_49 (by decide) (fun _ => ?_) (fun _ => ?_)
            · refine z_weak [(0, .ref p0), (1, .int p1), (2, .int p2)] [0, 1, 2] rfl ?_
              exact z_leaf (fun h => h)
            · refine z_aload_n hC 0 dX11_likely_52 rfl rfl ?_
              refine z_getR hC lgRX11_10 dX11_likely_53 (fun v17 => ?_)
              refine z_iload_n hC 3 dX11_likely_56 rfl rfl ?_
              refine z_callVi hC (ci := 8) rfl lmRX11_274 (ctX8_at (vLa V) (vDa V) (vTg V) (vBs V) (vSa V) hp6 v17 s7) (by decide) hn0 dX11_likely_57 rfl rfl (Nat.le_of_ble_eq_true rfl) (fun v18 => ?_)
              refine z_bipush hC (10 : Int32) dX11_likely_60 (by decide) ?_
              refine z_icmp_le hC 69 dX11_likely_62 (by decide) (fun _ => ?_) (fun _ => ?_)
              · refine z_iincv hC (1 : Int32) 3 (fun x19 => [(0, .ref p0), (1, .int p1), (2, .int p2), (3, .int x19)]) [1, 2, 3, 0] dX11_likely_69 rfl (by decide) (by decide) (fun _ => rfl) (fun x19 => ?_)
                refine z_goto hC 46 dX11_likely_72 (by decide) ?_
                exact z_leaf (fun h => h)
              · refine z_ldc2 hC (-2 : Int64) lcRX11_277 dX11_likely_65 ?_
                exact z_lret hC (fun h => h) dX11_likely_68
        · refine z_ldc2 hC (-1 : Int64) lcRX11_272 dX11_likely_32 ?_
          exact z_lret hC (fun h => h) dX11_likely_35

theorem dX11_areFacts_0 : decode cX11_areFacts 0 = .ok (.iload_n 0, 1) := by decide +kernel
theorem dX11_areFacts_1 : decode cX11_areFacts 1 = .ok (.ifCond .lt 14, 3) := by decide +kernel
theorem dX11_areFacts_4 : decode cX11_areFacts 4 = .ok (.iload_n 0, 1) := by decide +kernel
theorem dX11_areFacts_5 : decode cX11_areFacts 5 = .ok (.sipush 1024, 3) := by decide +kernel
theorem dX11_areFacts_8 : decode cX11_areFacts 8 = .ok (.if_icmp .ge 7, 3) := by decide +kernel
theorem dX11_areFacts_11 : decode cX11_areFacts 11 = .ok (.iconst 1, 1) := by decide +kernel
theorem dX11_areFacts_12 : decode cX11_areFacts 12 = .ok (.goto 4, 3) := by decide +kernel
theorem dX11_areFacts_15 : decode cX11_areFacts 15 = .ok (.iconst 0, 1) := by decide +kernel
theorem dX11_areFacts_16 : decode cX11_areFacts 16 = .ok (.ireturn, 1) := by decide +kernel
def FX11_areFacts (p0 : Int32) : Option (Int32) := if p0 < 0 then some (0 : Int32) else if (1024 : Int32) ≤ p0 then some (0 : Int32) else some (1 : Int32)
set_option maxHeartbeats 4000000 in
set_option maxRecDepth 100000 in
theorem ctX11_areFacts (l : Launch) (D : va_G) (tg : Nat → ClassId) (bs : Nat) (sa : Nat → Nat) (hp : HP) (p0 : Int32) : Ct l D tg bs sa yX11_areFacts cX11_areFacts 1 (some .boolean) 0 [.int p0] hp (FX11_areFacts p0) (fun r => some (.int r)) (fun _ => hp) := by
  refine Ct.of (by decide) (Nat.le_of_ble_eq_true rfl) ?_
  intro V Q hVl hVd hVt hVb hVs hC
  subst hVl; subst hVd; subst hVt; subst hVb; subst hVs
  unfold FX11_areFacts
  show Zs V Q (0, 0) 1 _ _ hp [(0, .int p0)] 0 []
  refine z_iload_n hC 0 dX11_areFacts_0 rfl rfl ?_
  refine z_if_lt hC 15 dX11_areFacts_1 (by decide) (fun _ => ?_) (fun _ => ?_)
  · refine z_iconst hC (0 : Int32) dX11_areFacts_15 (by decide) ?_
    exact z_zret hC (by decide) (fun h => h) dX11_areFacts_16
  · refine z_iload_n hC 0 dX11_areFacts_4 rfl rfl ?_
    refine z_sipush hC (1024 : Int32) dX11_areFacts_5 (by decide) ?_
    refine z_icmp_ge hC 15 dX11_areFacts_8 (by decide) (fun _ => ?_) (fun _ => ?_)
    · refine z_iconst hC (0 : Int32) dX11_areFacts_15 (by decide) ?_
      exact z_zret hC (by decide) (fun h => h) dX11_areFacts_16
    · refine z_iconst hC (1 : Int32) dX11_areFacts_11 (by decide) ?_
      refine z_goto hC 16 dX11_areFacts_12 (by decide) ?_
      exact z_zret hC (by decide) (fun h => h) dX11_areFacts_16

theorem dX11_gatherAsked_0 : decode cX11_gatherAsked 0 = .ok (.aload_n 0, 1) := by decide +kernel
theorem dX11_gatherAsked_1 : decode cX11_gatherAsked 1 = .ok (.getfield 42, 3) := by decide +kernel
theorem dX11_gatherAsked_4 : decode cX11_gatherAsked 4 = .ok (.iconst 0, 1) := by decide +kernel
theorem dX11_gatherAsked_5 : decode cX11_gatherAsked 5 = .ok (.aload_n 0, 1) := by decide +kernel
theorem dX11_gatherAsked_6 : decode cX11_gatherAsked 6 = .ok (.getfield 49, 3) := by decide +kernel
theorem dX11_gatherAsked_9 : decode cX11_gatherAsked 9 = .ok (.iconst 0, 1) := by decide +kernel
theorem dX11_gatherAsked_10 : decode cX11_gatherAsked 10 = .ok (.bipush 16, 2) := by decide +kernel
theorem dX11_gatherAsked_12 : decode cX11_gatherAsked 12 = .ok (.invokestatic 310, 3) := by decide +kernel
theorem dX11_gatherAsked_15 : decode cX11_gatherAsked 15 = .ok (.iconst 0, 1) := by decide +kernel
theorem dX11_gatherAsked_16 : decode cX11_gatherAsked 16 = .ok (.istore_n 3, 1) := by decide +kernel
theorem dX11_gatherAsked_17 : decode cX11_gatherAsked 17 = .ok (.iload_n 3, 1) := by decide +kernel
theorem dX11_gatherAsked_18 : decode cX11_gatherAsked 18 = .ok (.bipush 10, 2) := by decide +kernel
theorem dX11_gatherAsked_20 : decode cX11_gatherAsked 20 = .ok (.if_icmp .ge 38, 3) := by decide +kernel
theorem dX11_gatherAsked_23 : decode cX11_gatherAsked 23 = .ok (.iload_n 1, 1) := by decide +kernel
theorem dX11_gatherAsked_24 : decode cX11_gatherAsked 24 = .ok (.iload_n 3, 1) := by decide +kernel
theorem dX11_gatherAsked_25 : decode cX11_gatherAsked 25 = .ok (.ishr, 1) := by decide +kernel
theorem dX11_gatherAsked_26 : decode cX11_gatherAsked 26 = .ok (.iconst 1, 1) := by decide +kernel
theorem dX11_gatherAsked_27 : decode cX11_gatherAsked 27 = .ok (.iand, 1) := by decide +kernel
theorem dX11_gatherAsked_28 : decode cX11_gatherAsked 28 = .ok (.ifCond .eq 24, 3) := by decide +kernel
theorem dX11_gatherAsked_31 : decode cX11_gatherAsked 31 = .ok (.aload_n 0, 1) := by decide +kernel
theorem dX11_gatherAsked_32 : decode cX11_gatherAsked 32 = .ok (.getfield 49, 3) := by decide +kernel
theorem dX11_gatherAsked_35 : decode cX11_gatherAsked 35 = .ok (.iload_n 3, 1) := by decide +kernel
theorem dX11_gatherAsked_36 : decode cX11_gatherAsked 36 = .ok (.iload_n 2, 1) := by decide +kernel
theorem dX11_gatherAsked_37 : decode cX11_gatherAsked 37 = .ok (.iload_n 3, 1) := by decide +kernel
theorem dX11_gatherAsked_38 : decode cX11_gatherAsked 38 = .ok (.ishr, 1) := by decide +kernel
theorem dX11_gatherAsked_39 : decode cX11_gatherAsked 39 = .ok (.iconst 1, 1) := by decide +kernel
theorem dX11_gatherAsked_40 : decode cX11_gatherAsked 40 = .ok (.iand, 1) := by decide +kernel
theorem dX11_gatherAsked_41 : decode cX11_gatherAsked 41 = .ok (.ifCond .eq 7, 3) := by decide +kernel
theorem dX11_gatherAsked_44 : decode cX11_gatherAsked 44 = .ok (.iconst 1, 1) := by decide +kernel
theorem dX11_gatherAsked_45 : decode cX11_gatherAsked 45 = .ok (.goto 4, 3) := by decide +kernel
theorem dX11_gatherAsked_48 : decode cX11_gatherAsked 48 = .ok (.iconst 0, 1) := by decide +kernel
theorem dX11_gatherAsked_49 : decode cX11_gatherAsked 49 = .ok (.invokestatic 306, 3) := by decide +kernel
theorem dX11_gatherAsked_52 : decode cX11_gatherAsked 52 = .ok (.iinc 3 1, 3) := by decide +kernel
theorem dX11_gatherAsked_55 : decode cX11_gatherAsked 55 = .ok (.goto (-38), 3) := by decide +kernel
theorem dX11_gatherAsked_58 : decode cX11_gatherAsked 58 = .ok (.return_, 1) := by decide +kernel
def FX11_gatherAsked (hp : HP) (p0 : Nat) (p1 : Int32) (p2 : Int32) : Option (HP) := (gR [11] 5 hp p0).bind (fun v1 => (gR [11] 7 hp p0).bind (fun v2 => (cpL hp v1 (0 : Int32) v2 (0 : Int32) (16 : Int32)).bind (fun hp3 => (lp (fun (s4 : Int32 × HP) => if (10 : Int32) ≤ s4.1 then some (Sum.inl s4.2) else if ((p1 >>> (s4.1 &&& 31)) &&& (1 : Int32)) = 0 then vl (s4.1 + (1 : Int32)) (fun x6 => some (Sum.inr (x6, s4.2))) else (gR [11] 7 s4.2 p0).bind (fun v7 => jn (A := Int32) (fun a8 => (FX7_narrow s4.2 v7 s4.1 a8).bind (fun w10 => vl (s4.1 + (1 : Int32)) (fun x11 => some (Sum.inr (x11, w10))))) (fun J9 => if ((p2 >>> (s4.1 &&& 31)) &&& (1 : Int32)) = 0 then J9 (0 : Int32) else J9 (1 : Int32)))) FU ((0 : Int32), hp3)).bind (fun (y5 : HP) => some y5))))
set_option maxHeartbeats 4000000 in
set_option maxRecDepth 100000 in
theorem ctX11_gatherAsked (l : Launch) (D : va_G) (tg : Nat → ClassId) (bs : Nat) (sa : Nat → Nat) (hp : HP) (p0 : Nat) (p1 : Int32) (p2 : Int32) : Ct l D tg bs sa yX11_gatherAsked cX11_gatherAsked 4 none 2 [.ref p0, .int p1, .int p2] hp (FX11_gatherAsked hp p0 p1 p2) (fun _ => none) (fun r => r) := by
  refine Ct.of (by decide) (Nat.le_of_ble_eq_true rfl) ?_
  intro V Q hVl hVd hVt hVb hVs hC
  subst hVl; subst hVd; subst hVt; subst hVb; subst hVs
  unfold FX11_gatherAsked
  show Zs V Q (0, 0) 4 _ _ hp [(0, .ref p0), (1, .int p1), (2, .int p2)] 0 []
  refine z_aload_n hC 0 dX11_gatherAsked_0 rfl rfl ?_
  refine z_getR hC lgRX11_42 dX11_gatherAsked_1 (fun v1 => ?_)
  refine z_iconst hC (0 : Int32) dX11_gatherAsked_4 (by decide) ?_
  refine z_aload_n hC 0 dX11_gatherAsked_5 rfl rfl ?_
  refine z_getR hC lgRX11_49 dX11_gatherAsked_6 (fun v2 => ?_)
  refine z_iconst hC (0 : Int32) dX11_gatherAsked_9 (by decide) ?_
  refine z_bipush hC (16 : Int32) dX11_gatherAsked_10 (by decide) ?_
  refine z_cpL hC laRX11_310 dX11_gatherAsked_12 (fun hp3 => ?_)
  refine z_iconst hC (0 : Int32) dX11_gatherAsked_15 (by decide) ?_
  refine z_istore_n hC [(0, .ref p0), (1, .int p1), (2, .int p2), (3, .int (0 : Int32))] [1, 2, 3, 0] dX11_gatherAsked_16 rfl (by decide) rfl ?_
  refine z_lp (S := Int32 × HP) (Y := HP) (fun s4 => s4.2) (fun s4 => [(0, .ref p0), (1, .int p1), (2, .int p2), (3, .int s4.1)]) (fun y5 => y5) (fun y5 => []) 58 [] (fun y5 => ?_) (fun s4 => ?_) rfl rfl
  · exact z_vret hC (fun h => h) dX11_gatherAsked_58
  · refine z_iload_n hC 3 dX11_gatherAsked_17 rfl rfl ?_
    refine z_bipush hC (10 : Int32) dX11_gatherAsked_18 (by decide) ?_
    refine z_icmp_ge hC 58 dX11_gatherAsked_20 (by decide) (fun _ => ?_) (fun _ => ?_)
    · refine z_weak [] [] rfl ?_
      exact z_leaf (fun h => h)
    · refine z_iload_n hC 1 dX11_gatherAsked_23 rfl rfl ?_
      refine z_iload_n hC 3 dX11_gatherAsked_24 rfl rfl ?_
      refine z_ishr hC dX11_gatherAsked_25 ?_
      refine z_iconst hC (1 : Int32) dX11_gatherAsked_26 (by decide) ?_
      refine z_iand hC dX11_gatherAsked_27 ?_
      refine z_if_eq hC 52 dX11_gatherAsked_28 (by decide) (fun _ => ?_) (fun _ => ?_)
      · refine z_iincv hC (1 : Int32) 3 (fun x6 => [(0, .ref p0), (1, .int p1), (2, .int p2), (3, .int x6)]) [1, 2, 3, 0] dX11_gatherAsked_52 rfl (by decide) (by decide) (fun _ => rfl) (fun x6 => ?_)
        refine z_goto hC 17 dX11_gatherAsked_55 (by decide) ?_
        exact z_leaf (fun h => h)
      · refine z_aload_n hC 0 dX11_gatherAsked_31 rfl rfl ?_
        refine z_getR hC lgRX11_49 dX11_gatherAsked_32 (fun v7 => ?_)
        refine z_iload_n hC 3 dX11_gatherAsked_35 rfl rfl ?_
        refine z_iload_n hC 2 dX11_gatherAsked_36 rfl rfl ?_
        refine z_iload_n hC 3 dX11_gatherAsked_37 rfl rfl ?_
        refine z_ishr hC dX11_gatherAsked_38 ?_
        refine z_iconst hC (1 : Int32) dX11_gatherAsked_39 (by decide) ?_
        refine z_iand hC dX11_gatherAsked_40 ?_
        refine z_jn (A := Int32) (fun a8 => s4.2) (fun a8 => [(0, .ref p0), (1, .int p1), (2, .int p2), (3, .int s4.1)]) 49 (fun a8 => [.int a8, .int s4.1, .ref v7]) (fun a8 => ?_) (fun J9 hJ9 => ?_)
        · refine z_callSv hC lmRX11_306 (ctX7_narrow (vLa V) (vDa V) (vTg V) (vBs V) (vSa V) s4.2 v7 s4.1 a8) (by decide) hn0 dX11_gatherAsked_49 rfl rfl (Nat.le_of_ble_eq_true rfl) (fun w10 => ?_)
          refine z_iincv hC (1 : Int32) 3 (fun x11 => [(0, .ref p0), (1, .int p1), (2, .int p2), (3, .int x11)]) [1, 2, 3, 0] dX11_gatherAsked_52 rfl (by decide) (by decide) (fun _ => rfl) (fun x11 => ?_)
          refine z_goto hC 17 dX11_gatherAsked_55 (by decide) ?_
          exact z_leaf (fun h => h)
        · refine z_if_eq hC 48 dX11_gatherAsked_41 (by decide) (fun _ => ?_) (fun _ => ?_)
          · refine z_iconst hC (0 : Int32) dX11_gatherAsked_48 (by decide) ?_
            exact hJ9 (0 : Int32)
          · refine z_iconst hC (1 : Int32) dX11_gatherAsked_44 (by decide) ?_
            refine z_goto hC 49 dX11_gatherAsked_45 (by decide) ?_
            exact hJ9 (1 : Int32)

theorem dX11_nextQuestion_0 : decode cX11_nextQuestion 0 = .ok (.aload_n 0, 1) := by decide +kernel
theorem dX11_nextQuestion_1 : decode cX11_nextQuestion 1 = .ok (.getfield 49, 3) := by decide +kernel
theorem dX11_nextQuestion_4 : decode cX11_nextQuestion 4 = .ok (.invokestatic 173, 3) := by decide +kernel
theorem dX11_nextQuestion_7 : decode cX11_nextQuestion 7 = .ok (.istore_n 2, 1) := by decide +kernel
theorem dX11_nextQuestion_8 : decode cX11_nextQuestion 8 = .ok (.bipush (-2), 2) := by decide +kernel
theorem dX11_nextQuestion_10 : decode cX11_nextQuestion 10 = .ok (.istore_n 3, 1) := by decide +kernel
theorem dX11_nextQuestion_11 : decode cX11_nextQuestion 11 = .ok (.iload_n 2, 1) := by decide +kernel
theorem dX11_nextQuestion_12 : decode cX11_nextQuestion 12 = .ok (.istore 4, 2) := by decide +kernel
theorem dX11_nextQuestion_14 : decode cX11_nextQuestion 14 = .ok (.iconst 0, 1) := by decide +kernel
theorem dX11_nextQuestion_15 : decode cX11_nextQuestion 15 = .ok (.istore 5, 2) := by decide +kernel
theorem dX11_nextQuestion_17 : decode cX11_nextQuestion 17 = .ok (.iload 5, 2) := by decide +kernel
theorem dX11_nextQuestion_19 : decode cX11_nextQuestion 19 = .ok (.bipush 10, 2) := by decide +kernel
theorem dX11_nextQuestion_21 : decode cX11_nextQuestion 21 = .ok (.if_icmp .ge 54, 3) := by decide +kernel
theorem dX11_nextQuestion_24 : decode cX11_nextQuestion 24 = .ok (.iload_n 1, 1) := by decide +kernel
theorem dX11_nextQuestion_25 : decode cX11_nextQuestion 25 = .ok (.iload 5, 2) := by decide +kernel
theorem dX11_nextQuestion_27 : decode cX11_nextQuestion 27 = .ok (.ishr, 1) := by decide +kernel
theorem dX11_nextQuestion_28 : decode cX11_nextQuestion 28 = .ok (.iconst 1, 1) := by decide +kernel
theorem dX11_nextQuestion_29 : decode cX11_nextQuestion 29 = .ok (.iand, 1) := by decide +kernel
theorem dX11_nextQuestion_30 : decode cX11_nextQuestion 30 = .ok (.ifCond .ne 39, 3) := by decide +kernel
theorem dX11_nextQuestion_33 : decode cX11_nextQuestion 33 = .ok (.aload_n 0, 1) := by decide +kernel
theorem dX11_nextQuestion_34 : decode cX11_nextQuestion 34 = .ok (.getfield 49, 3) := by decide +kernel
theorem dX11_nextQuestion_37 : decode cX11_nextQuestion 37 = .ok (.iload 5, 2) := by decide +kernel
theorem dX11_nextQuestion_39 : decode cX11_nextQuestion 39 = .ok (.invokestatic 303, 3) := by decide +kernel
theorem dX11_nextQuestion_42 : decode cX11_nextQuestion 42 = .ok (.istore 6, 2) := by decide +kernel
theorem dX11_nextQuestion_44 : decode cX11_nextQuestion 44 = .ok (.iload 6, 2) := by decide +kernel
theorem dX11_nextQuestion_46 : decode cX11_nextQuestion 46 = .ok (.iload_n 2, 1) := by decide +kernel
theorem dX11_nextQuestion_47 : decode cX11_nextQuestion 47 = .ok (.iload 6, 2) := by decide +kernel
theorem dX11_nextQuestion_49 : decode cX11_nextQuestion 49 = .ok (.isub, 1) := by decide +kernel
theorem dX11_nextQuestion_50 : decode cX11_nextQuestion 50 = .ok (.invokestatic 333, 3) := by decide +kernel
theorem dX11_nextQuestion_53 : decode cX11_nextQuestion 53 = .ok (.istore 7, 2) := by decide +kernel
theorem dX11_nextQuestion_55 : decode cX11_nextQuestion 55 = .ok (.iload 7, 2) := by decide +kernel
theorem dX11_nextQuestion_57 : decode cX11_nextQuestion 57 = .ok (.iload 4, 2) := by decide +kernel
theorem dX11_nextQuestion_59 : decode cX11_nextQuestion 59 = .ok (.if_icmp .ge 10, 3) := by decide +kernel
theorem dX11_nextQuestion_62 : decode cX11_nextQuestion 62 = .ok (.iload 7, 2) := by decide +kernel
theorem dX11_nextQuestion_64 : decode cX11_nextQuestion 64 = .ok (.istore 4, 2) := by decide +kernel
theorem dX11_nextQuestion_66 : decode cX11_nextQuestion 66 = .ok (.iload 5, 2) := by decide +kernel
theorem dX11_nextQuestion_68 : decode cX11_nextQuestion 68 = .ok (.istore_n 3, 1) := by decide +kernel
theorem dX11_nextQuestion_69 : decode cX11_nextQuestion 69 = .ok (.iinc 5 1, 3) := by decide +kernel
theorem dX11_nextQuestion_72 : decode cX11_nextQuestion 72 = .ok (.goto (-55), 3) := by decide +kernel
theorem dX11_nextQuestion_75 : decode cX11_nextQuestion 75 = .ok (.iload_n 3, 1) := by decide +kernel
theorem dX11_nextQuestion_76 : decode cX11_nextQuestion 76 = .ok (.ireturn, 1) := by decide +kernel
def FX11_nextQuestion (hp : HP) (p0 : Nat) (p1 : Int32) : Option (Int32) := (gR [11] 7 hp p0).bind (fun v1 => (FX7_size hp v1).bind (fun v2 => (lp (fun (s3 : Int32 × Int32 × Int32) => if (10 : Int32) ≤ s3.2.2 then some (Sum.inl s3.1) else if ((p1 >>> (s3.2.2 &&& 31)) &&& (1 : Int32)) = 0 then (gR [11] 7 hp p0).bind (fun v5 => (FX7_sizeWith hp v5 s3.2.2).bind (fun v6 => vl (mxI v6 (v2 - v6)) (fun x7 => if s3.2.1 ≤ x7 then vl (s3.2.2 + (1 : Int32)) (fun x8 => some (Sum.inr (s3.1, s3.2.1, x8))) else vl (s3.2.2 + (1 : Int32)) (fun x9 => some (Sum.inr (s3.2.2, x7, x9)))))) else vl (s3.2.2 + (1 : Int32)) (fun x10 => some (Sum.inr (s3.1, s3.2.1, x10)))) FU ((-2 : Int32), v2, (0 : Int32))).bind (fun (y4 : Int32) => some y4)))
set_option maxHeartbeats 4000000 in
set_option maxRecDepth 100000 in
theorem ctX11_nextQuestion (l : Launch) (D : va_G) (tg : Nat → ClassId) (bs : Nat) (sa : Nat → Nat) (hp : HP) (p0 : Nat) (p1 : Int32) : Ct l D tg bs sa yX11_nextQuestion cX11_nextQuestion 8 (some .int) 2 [.ref p0, .int p1] hp (FX11_nextQuestion hp p0 p1) (fun r => some (.int r)) (fun _ => hp) := by
  refine Ct.of (by decide) (Nat.le_of_ble_eq_true rfl) ?_
  intro V Q hVl hVd hVt hVb hVs hC
  subst hVl; subst hVd; subst hVt; subst hVb; subst hVs
  unfold FX11_nextQuestion
  show Zs V Q (0, 0) 8 _ _ hp [(0, .ref p0), (1, .int p1)] 0 []
  refine z_aload_n hC 0 dX11_nextQuestion_0 rfl rfl ?_
  refine z_getR hC lgRX11_49 dX11_nextQuestion_1 (fun v1 => ?_)
  refine z_callSi hC lmRX11_173 (ctX7_size (vLa V) (vDa V) (vTg V) (vBs V) (vSa V) hp v1) (by decide) hn0 dX11_nextQuestion_4 rfl rfl (Nat.le_of_ble_eq_true rfl) (fun v2 => ?_)
  refine z_istore_n hC [(0, .ref p0), (1, .int p1), (2, .int v2)] [1, 2, 0] dX11_nextQuestion_7 rfl (by decide) rfl ?_
  refine z_bipush hC (-2 : Int32) dX11_nextQuestion_8 (by decide) ?_
  refine z_istore_n hC [(0, .ref p0), (1, .int p1), (2, .int v2), (3, .int (-2 : Int32))] [1, 2, 3, 0] dX11_nextQuestion_10 rfl (by decide) rfl ?_
  refine z_iload_n hC 2 dX11_nextQuestion_11 rfl rfl ?_
  refine z_istore hC [(0, .ref p0), (1, .int p1), (2, .int v2), (3, .int (-2 : Int32)), (4, .int v2)] [1, 2, 3, 4, 0] dX11_nextQuestion_12 (by decide) rfl ?_
  refine z_iconst hC (0 : Int32) dX11_nextQuestion_14 (by decide) ?_
  refine z_istore hC [(0, .ref p0), (1, .int p1), (2, .int v2), (3, .int (-2 : Int32)), (4, .int v2), (5, .int (0 : Int32))] [1, 2, 3, 4, 5, 0] dX11_nextQuestion_15 (by decide) rfl ?_
  refine z_lp (S := Int32 × Int32 × Int32) (Y := Int32) (fun s3 => hp) (fun s3 => [(0, .ref p0), (1, .int p1), (2, .int v2), (3, .int s3.1), (4, .int s3.2.1), (5, .int s3.2.2)]) (fun y4 => hp) (fun y4 => [(3, .int y4)]) 75 [] (fun y4 => ?_) (fun s3 => ?_) rfl rfl
  · refine z_iload_n hC 0 dX11_nextQuestion_75 rfl rfl ?_
    exact z_iret hC (fun h => h) dX11_nextQuestion_76
  · refine z_iload hC 5 dX11_nextQuestion_17 rfl ?_
    refine z_bipush hC (10 : Int32) dX11_nextQuestion_19 (by decide) ?_
    refine z_icmp_ge hC 75 dX11_nextQuestion_21 (by decide) (fun _ => ?_) (fun _ => ?_)
    · refine z_weak [(3, .int s3.1)] [3] rfl ?_
      exact z_leaf (fun h => h)
    · refine z_iload_n hC 1 dX11_nextQuestion_24 rfl rfl ?_
      refine z_iload hC 5 dX11_nextQuestion_25 rfl ?_
      refine z_ishr hC dX11_nextQuestion_27 ?_
      refine z_iconst hC (1 : Int32) dX11_nextQuestion_28 (by decide) ?_
      refine z_iand hC dX11_nextQuestion_29 ?_
      refine z_if_ne hC 69 dX11_nextQuestion_30 (by decide) (fun _ => ?_) (fun _ => ?_)
      · refine z_aload_n hC 0 dX11_nextQuestion_33 rfl rfl ?_
        refine z_getR hC lgRX11_49 dX11_nextQuestion_34 (fun v5 => ?_)
        refine z_iload hC 5 dX11_nextQuestion_37 rfl ?_
        refine z_callSi hC lmRX11_303 (ctX7_sizeWith (vLa V) (vDa V) (vTg V) (vBs V) (vSa V) hp v5 s3.2.2) (by decide) hn0 dX11_nextQuestion_39 rfl rfl (Nat.le_of_ble_eq_true rfl) (fun v6 => ?_)
        refine z_istore hC [(0, .ref p0), (1, .int p1), (2, .int v2), (3, .int s3.1), (4, .int s3.2.1), (5, .int s3.2.2), (6, .int v6)] [1, 2, 3, 4, 5, 6, 0] dX11_nextQuestion_42 (by decide) rfl ?_
        refine z_iload hC 6 dX11_nextQuestion_44 rfl ?_
        refine z_iload_n hC 2 dX11_nextQuestion_46 rfl rfl ?_
        refine z_iload hC 6 dX11_nextQuestion_47 rfl ?_
        refine z_isub hC dX11_nextQuestion_49 ?_
        refine z_mmax hC laRX11_333 hn0 (Nat.le_of_ble_eq_true rfl) dX11_nextQuestion_50 ?_
        refine z_vli (fun x7 => ?_)
        refine z_istore hC [(0, .ref p0), (1, .int p1), (2, .int v2), (3, .int s3.1), (4, .int s3.2.1), (5, .int s3.2.2), (6, .int v6), (7, .int x7)] [1, 2, 3, 4, 5, 6, 7, 0] dX11_nextQuestion_53 (by decide) rfl ?_
        refine z_iload hC 7 dX11_nextQuestion_55 rfl ?_
        refine z_iload hC 4 dX11_nextQuestion_57 rfl ?_
        refine z_icmp_ge hC 69 dX11_nextQuestion_59 (by decide) (fun _ => ?_) (fun _ => ?_)
        · refine z_iincv hC (1 : Int32) 5 (fun x8 => [(0, .ref p0), (1, .int p1), (2, .int v2), (3, .int s3.1), (4, .int s3.2.1), (5, .int x8), (6, .int v6), (7, .int x7)]) [1, 2, 3, 4, 5, 0, 6, 7] dX11_nextQuestion_69 rfl (by decide) (by decide) (fun _ => rfl) (fun x8 => ?_)
          refine z_goto hC 17 dX11_nextQuestion_72 (by decide) ?_
          refine z_weak [(0, .ref p0), (1, .int p1), (2, .int v2), (3, .int s3.1), (4, .int s3.2.1), (5, .int x8)] [0, 1, 2, 3, 4, 5] rfl ?_
          exact z_leaf (fun h => h)
        · refine z_iload hC 7 dX11_nextQuestion_62 rfl ?_
          refine z_istore hC [(0, .ref p0), (1, .int p1), (2, .int v2), (3, .int s3.1), (4, .int x7), (5, .int s3.2.2), (6, .int v6), (7, .int x7)] [1, 2, 3, 4, 0, 5, 6, 7] dX11_nextQuestion_64 (by decide) rfl ?_
          refine z_iload hC 5 dX11_nextQuestion_66 rfl ?_
          refine z_istore_n hC [(0, .ref p0), (1, .int p1), (2, .int v2), (3, .int s3.2.2), (4, .int x7), (5, .int s3.2.2), (6, .int v6), (7, .int x7)] [1, 2, 3, 0, 4, 5, 6, 7] dX11_nextQuestion_68 rfl (by decide) rfl ?_
          refine z_iincv hC (1 : Int32) 5 (fun x9 => [(0, .ref p0), (1, .int p1), (2, .int v2), (3, .int s3.2.2), (4, .int x7), (5, .int x9), (6, .int v6), (7, .int x7)]) [1, 2, 3, 4, 5, 0, 6, 7] dX11_nextQuestion_69 rfl (by decide) (by decide) (fun _ => rfl) (fun x9 => ?_)
          refine z_goto hC 17 dX11_nextQuestion_72 (by decide) ?_
          refine z_weak [(0, .ref p0), (1, .int p1), (2, .int v2), (3, .int s3.2.2), (4, .int x7), (5, .int x9)] [0, 1, 2, 3, 4, 5] rfl ?_
          exact z_leaf (fun h => h)
      · refine z_iincv hC (1 : Int32) 5 (fun x10 => [(0, .ref p0), (1, .int p1), (2, .int v2), (3, .int s3.1), (4, .int s3.2.1), (5, .int x10)]) [1, 2, 3, 4, 5, 0] dX11_nextQuestion_69 rfl (by decide) (by decide) (fun _ => rfl) (fun x10 => ?_)
        refine z_goto hC 17 dX11_nextQuestion_72 (by decide) ?_
        exact z_leaf (fun h => h)

theorem dX11_asked_0 : decode cX11_asked 0 = .ok (.iload_n 1, 1) := by decide +kernel
theorem dX11_asked_1 : decode cX11_asked 1 = .ok (.invokestatic 294, 3) := by decide +kernel
theorem dX11_asked_4 : decode cX11_asked 4 = .ok (.ifCond .eq 19, 3) := by decide +kernel
theorem dX11_asked_7 : decode cX11_asked 7 = .ok (.iload_n 2, 1) := by decide +kernel
theorem dX11_asked_8 : decode cX11_asked 8 = .ok (.invokestatic 294, 3) := by decide +kernel
theorem dX11_asked_11 : decode cX11_asked 11 = .ok (.ifCond .eq 12, 3) := by decide +kernel
theorem dX11_asked_14 : decode cX11_asked 14 = .ok (.iload_n 3, 1) := by decide +kernel
theorem dX11_asked_15 : decode cX11_asked 15 = .ok (.ifCond .lt 8, 3) := by decide +kernel
theorem dX11_asked_18 : decode cX11_asked 18 = .ok (.iload_n 3, 1) := by decide +kernel
theorem dX11_asked_19 : decode cX11_asked 19 = .ok (.iconst 4, 1) := by decide +kernel
theorem dX11_asked_20 : decode cX11_asked 20 = .ok (.if_icmp .le 5, 3) := by decide +kernel
theorem dX11_asked_23 : decode cX11_asked 23 = .ok (.iconst (-1), 1) := by decide +kernel
theorem dX11_asked_24 : decode cX11_asked 24 = .ok (.ireturn, 1) := by decide +kernel
theorem dX11_asked_25 : decode cX11_asked 25 = .ok (.aload_n 0, 1) := by decide +kernel
theorem dX11_asked_26 : decode cX11_asked 26 = .ok (.iload_n 1, 1) := by decide +kernel
theorem dX11_asked_27 : decode cX11_asked 27 = .ok (.iload_n 2, 1) := by decide +kernel
theorem dX11_asked_28 : decode cX11_asked 28 = .ok (.invokevirtual 297, 3) := by decide +kernel
theorem dX11_asked_31 : decode cX11_asked 31 = .ok (.iload_n 3, 1) := by decide +kernel
theorem dX11_asked_32 : decode cX11_asked 32 = .ok (.ifCond .ne 11, 3) := by decide +kernel
theorem dX11_asked_35 : decode cX11_asked 35 = .ok (.aload_n 0, 1) := by decide +kernel
theorem dX11_asked_36 : decode cX11_asked 36 = .ok (.getfield 49, 3) := by decide +kernel
theorem dX11_asked_39 : decode cX11_asked 39 = .ok (.invokestatic 173, 3) := by decide +kernel
theorem dX11_asked_42 : decode cX11_asked 42 = .ok (.ireturn, 1) := by decide +kernel
theorem dX11_asked_43 : decode cX11_asked 43 = .ok (.iload_n 3, 1) := by decide +kernel
theorem dX11_asked_44 : decode cX11_asked 44 = .ok (.iconst 4, 1) := by decide +kernel
theorem dX11_asked_45 : decode cX11_asked 45 = .ok (.if_icmp .ne 9, 3) := by decide +kernel
theorem dX11_asked_48 : decode cX11_asked 48 = .ok (.aload_n 0, 1) := by decide +kernel
theorem dX11_asked_49 : decode cX11_asked 49 = .ok (.iload_n 1, 1) := by decide +kernel
theorem dX11_asked_50 : decode cX11_asked 50 = .ok (.invokevirtual 300, 3) := by decide +kernel
theorem dX11_asked_53 : decode cX11_asked 53 = .ok (.ireturn, 1) := by decide +kernel
theorem dX11_asked_54 : decode cX11_asked 54 = .ok (.aload_n 0, 1) := by decide +kernel
theorem dX11_asked_55 : decode cX11_asked 55 = .ok (.getfield 49, 3) := by decide +kernel
theorem dX11_asked_58 : decode cX11_asked 58 = .ok (.invokestatic 179, 3) := by decide +kernel
theorem dX11_asked_61 : decode cX11_asked 61 = .ok (.ifCond .eq 15, 3) := by decide +kernel
theorem dX11_asked_64 : decode cX11_asked 64 = .ok (.iload_n 3, 1) := by decide +kernel
theorem dX11_asked_65 : decode cX11_asked 65 = .ok (.iconst 1, 1) := by decide +kernel
theorem dX11_asked_66 : decode cX11_asked 66 = .ok (.if_icmp .ne 8, 3) := by decide +kernel
theorem dX11_asked_69 : decode cX11_asked 69 = .ok (.bipush (-2), 2) := by decide +kernel
theorem dX11_asked_71 : decode cX11_asked 71 = .ok (.goto 4, 3) := by decide +kernel
theorem dX11_asked_74 : decode cX11_asked 74 = .ok (.iconst 0, 1) := by decide +kernel
theorem dX11_asked_75 : decode cX11_asked 75 = .ok (.ireturn, 1) := by decide +kernel
theorem dX11_asked_76 : decode cX11_asked 76 = .ok (.iload_n 3, 1) := by decide +kernel
theorem dX11_asked_77 : decode cX11_asked 77 = .ok (.iconst 1, 1) := by decide +kernel
theorem dX11_asked_78 : decode cX11_asked 78 = .ok (.if_icmp .ne 13, 3) := by decide +kernel
theorem dX11_asked_81 : decode cX11_asked 81 = .ok (.aload_n 0, 1) := by decide +kernel
theorem dX11_asked_82 : decode cX11_asked 82 = .ok (.getfield 49, 3) := by decide +kernel
theorem dX11_asked_85 : decode cX11_asked 85 = .ok (.invokestatic 183, 3) := by decide +kernel
theorem dX11_asked_88 : decode cX11_asked 88 = .ok (.goto 24, 3) := by decide +kernel
theorem dX11_asked_91 : decode cX11_asked 91 = .ok (.aload_n 0, 1) := by decide +kernel
theorem dX11_asked_92 : decode cX11_asked 92 = .ok (.getfield 49, 3) := by decide +kernel
theorem dX11_asked_95 : decode cX11_asked 95 = .ok (.iload_n 3, 1) := by decide +kernel
theorem dX11_asked_96 : decode cX11_asked 96 = .ok (.iconst 2, 1) := by decide +kernel
theorem dX11_asked_97 : decode cX11_asked 97 = .ok (.if_icmp .ne 7, 3) := by decide +kernel
theorem dX11_asked_100 : decode cX11_asked 100 = .ok (.iconst 1, 1) := by decide +kernel
theorem dX11_asked_101 : decode cX11_asked 101 = .ok (.goto 4, 3) := by decide +kernel
theorem dX11_asked_104 : decode cX11_asked 104 = .ok (.iconst 0, 1) := by decide +kernel
theorem dX11_asked_105 : decode cX11_asked 105 = .ok (.invokestatic 189, 3) := by decide +kernel
theorem dX11_asked_108 : decode cX11_asked 108 = .ok (.iload_n 1, 1) := by decide +kernel
theorem dX11_asked_109 : decode cX11_asked 109 = .ok (.iconst (-1), 1) := by decide +kernel
theorem dX11_asked_110 : decode cX11_asked 110 = .ok (.ixor, 1) := by decide +kernel
theorem dX11_asked_111 : decode cX11_asked 111 = .ok (.iand, 1) := by decide +kernel
theorem dX11_asked_112 : decode cX11_asked 112 = .ok (.ireturn, 1) := by decide +kernel
def FX11_asked (hp : HP) (p0 : Nat) (p1 : Int32) (p2 : Int32) (p3 : Int32) : Option (Int32 × HP) := (FX11_areFacts p1).bind (fun v1 => if v1 = 0 then some ((-1 : Int32), hp) else (FX11_areFacts p2).bind (fun v2 => if v2 = 0 then some ((-1 : Int32), hp) else if p3 < 0 then some ((-1 : Int32), hp) else if p3 ≤ (4 : Int32) then (rc [11] hp p0 (FX11_gatherAsked hp p0 p1 p2)).bind (fun w3 => if p3 = 0 then (gR [11] 7 w3 p0).bind (fun v4 => (FX7_size w3 v4).bind (fun v5 => some (v5, w3))) else if p3 = (4 : Int32) then (rc [11] w3 p0 (FX11_nextQuestion w3 p0 p1)).bind (fun v6 => some (v6, w3)) else (gR [11] 7 w3 p0).bind (fun v7 => (FX7_isEmpty w3 v7).bind (fun v8 => if v8 = 0 then if p3 = (1 : Int32) then (gR [11] 7 w3 p0).bind (fun v9 => (FX7_first w3 v9).bind (fun v10 => some (v10, w3))) else (gR [11] 7 w3 p0).bind (fun v11 => jn (A := Int32) (fun a12 => (FX7_sure w3 v11 a12).bind (fun v14 => some ((v14 &&& (p1 ^^^ (-1 : Int32))), w3))) (fun J13 => if p3 = (2 : Int32) then J13 (1 : Int32) else J13 (0 : Int32))) else if p3 = (1 : Int32) then some ((-2 : Int32), w3) else some ((0 : Int32), w3)))) else some ((-1 : Int32), hp)))
set_option maxHeartbeats 4000000 in
set_option maxRecDepth 100000 in
theorem ctX11_asked (l : Launch) (D : va_G) (tg : Nat → ClassId) (bs : Nat) (sa : Nat → Nat) (hp : HP) (p0 : Nat) (p1 : Int32) (p2 : Int32) (p3 : Int32) : Ct l D tg bs sa yX11_asked cX11_asked 4 (some .int) 3 [.ref p0, .int p1, .int p2, .int p3] hp (FX11_asked hp p0 p1 p2 p3) (fun r => some (.int r.1)) (fun r => r.2) := by
  refine Ct.of (by decide) (Nat.le_of_ble_eq_true rfl) ?_
  intro V Q hVl hVd hVt hVb hVs hC
  subst hVl; subst hVd; subst hVt; subst hVb; subst hVs
  unfold FX11_asked
  show Zs V Q (0, 0) 4 _ _ hp [(0, .ref p0), (1, .int p1), (2, .int p2), (3, .int p3)] 0 []
  refine z_iload_n hC 1 dX11_asked_0 rfl rfl ?_
  refine z_callSi hC lmRX11_294 (ctX11_areFacts (vLa V) (vDa V) (vTg V) (vBs V) (vSa V) hp p1) (by decide) hn0 dX11_asked_1 rfl rfl (Nat.le_of_ble_eq_true rfl) (fun v1 => ?_)
  refine z_if_eq hC 23 dX11_asked_4 (by decide) (fun _ => ?_) (fun _ => ?_)
  · refine z_iconst hC (-1 : Int32) dX11_asked_23 (by decide) ?_
    exact z_iret hC (fun h => h) dX11_asked_24
  · refine z_iload_n hC 2 dX11_asked_7 rfl rfl ?_
    refine z_callSi hC lmRX11_294 (ctX11_areFacts (vLa V) (vDa V) (vTg V) (vBs V) (vSa V) hp p2) (by decide) hn0 dX11_asked_8 rfl rfl (Nat.le_of_ble_eq_true rfl) (fun v2 => ?_)
    refine z_if_eq hC 23 dX11_asked_11 (by decide) (fun _ => ?_) (fun _ => ?_)
    · refine z_iconst hC (-1 : Int32) dX11_asked_23 (by decide) ?_
      exact z_iret hC (fun h => h) dX11_asked_24
    · refine z_iload_n hC 3 dX11_asked_14 rfl rfl ?_
      refine z_if_lt hC 23 dX11_asked_15 (by decide) (fun _ => ?_) (fun _ => ?_)
      · refine z_iconst hC (-1 : Int32) dX11_asked_23 (by decide) ?_
        exact z_iret hC (fun h => h) dX11_asked_24
      · refine z_iload_n hC 3 dX11_asked_18 rfl rfl ?_
        refine z_iconst hC (4 : Int32) dX11_asked_19 (by decide) ?_
        refine z_icmp_le hC 25 dX11_asked_20 (by decide) (fun _ => ?_) (fun _ => ?_)
        · refine z_aload_n hC 0 dX11_asked_25 rfl rfl ?_
          refine z_iload_n hC 1 dX11_asked_26 rfl rfl ?_
          refine z_iload_n hC 2 dX11_asked_27 rfl rfl ?_
          refine z_callVv hC (ci := 11) rfl lmRX11_297 (ctX11_gatherAsked (vLa V) (vDa V) (vTg V) (vBs V) (vSa V) hp p0 p1 p2) (by decide) hn0 dX11_asked_28 rfl rfl (Nat.le_of_ble_eq_true rfl) (fun w3 => ?_)
          refine z_iload_n hC 3 dX11_asked_31 rfl rfl ?_
          refine z_if_ne hC 43 dX11_asked_32 (by decide) (fun _ => ?_) (fun _ => ?_)
          · refine z_aload_n hC 0 dX11_asked_35 rfl rfl ?_
            refine z_getR hC lgRX11_49 dX11_asked_36 (fun v4 => ?_)
            refine z_callSi hC lmRX11_173 (ctX7_size (vLa V) (vDa V) (vTg V) (vBs V) (vSa V) w3 v4) (by decide) hn0 dX11_asked_39 rfl rfl (Nat.le_of_ble_eq_true rfl) (fun v5 => ?_)
            exact z_iret hC (fun h => h) dX11_asked_42
          · refine z_iload_n hC 3 dX11_asked_43 rfl rfl ?_
            refine z_iconst hC (4 : Int32) dX11_asked_44 (by decide) ?_
            refine z_icmp_ne hC 54 dX11_asked_45 (by decide) (fun _ => ?_) (fun _ => ?_)
            · refine z_aload_n hC 0 dX11_asked_48 rfl rfl ?_
              refine z_iload_n hC 1 dX11_asked_49 rfl rfl ?_
              refine z_callVi hC (ci := 11) rfl lmRX11_300 (ctX11_nextQuestion (vLa V) (vDa V) (vTg V) (vBs V) (vSa V) w3 p0 p1) (by decide) hn0 dX11_asked_50 rfl rfl (Nat.le_of_ble_eq_true rfl) (fun v6 => ?_)
              exact z_iret hC (fun h => h) dX11_asked_53
            · refine z_aload_n hC 0 dX11_asked_54 rfl rfl ?_
              refine z_getR hC lgRX11_49 dX11_asked_55 (fun v7 => ?_)
              refine z_callSi hC lmRX11_179 (ctX7_isEmpty (vLa V) (vDa V) (vTg V) (vBs V) (vSa V) w3 v7) (by decide) hn0 dX11_asked_58 rfl rfl (Nat.le_of_ble_eq_true rfl) (fun v8 => ?_)
              refine z_if_eq hC 76 dX11_asked_61 (by decide) (fun _ => ?_) (fun _ => ?_)
              · refine z_iload_n hC 3 dX11_asked_76 rfl rfl ?_
                refine z_iconst hC (1 : Int32) dX11_asked_77 (by decide) ?_
                refine z_icmp_ne hC 91 dX11_asked_78 (by decide) (fun _ => ?_) (fun _ => ?_)
                · refine z_aload_n hC 0 dX11_asked_81 rfl rfl ?_
                  refine z_getR hC lgRX11_49 dX11_asked_82 (fun v9 => ?_)
                  refine z_callSi hC lmRX11_183 (ctX7_first (vLa V) (vDa V) (vTg V) (vBs V) (vSa V) w3 v9) (by decide) hn0 dX11_asked_85 rfl rfl (Nat.le_of_ble_eq_true rfl) (fun v10 => ?_)
                  refine z_goto hC 112 dX11_asked_88 (by decide) ?_
                  exact z_iret hC (fun h => h) dX11_asked_112
                · refine z_aload_n hC 0 dX11_asked_91 rfl rfl ?_
                  refine z_getR hC lgRX11_49 dX11_asked_92 (fun v11 => ?_)
                  refine z_iload_n hC 3 dX11_asked_95 rfl rfl ?_
                  refine z_iconst hC (2 : Int32) dX11_asked_96 (by decide) ?_
                  refine z_jn (A := Int32) (fun a12 => w3) (fun a12 => [(1, .int p1)]) 105 (fun a12 => [.int a12, .ref v11]) (fun a12 => ?_) (fun J13 hJ13 => ?_)
                  · refine z_callSi hC lmRX11_189 (ctX7_sure (vLa V) (vDa V) (vTg V) (vBs V) (vSa V) w3 v11 a12) (by decide) hn0 dX11_asked_105 rfl rfl (Nat.le_of_ble_eq_true rfl) (fun v14 => ?_)
                    refine z_iload_n hC 0 dX11_asked_108 rfl rfl ?_
                    refine z_iconst hC (-1 : Int32) dX11_asked_109 (by decide) ?_
                    refine z_ixor hC dX11_asked_110 ?_
                    refine z_iand hC dX11_asked_111 ?_
                    exact z_iret hC (fun h => h) dX11_asked_112
                  · refine z_icmp_ne hC 104 dX11_asked_97 (by decide) (fun _ => ?_) (fun _ => ?_)
                    · refine z_iconst hC (1 : Int32) dX11_asked_100 (by decide) ?_
                      refine z_goto hC 105 dX11_asked_101 (by decide) ?_
                      refine z_weak [(1, .int p1)] [1] rfl ?_
                      exact hJ13 (1 : Int32)
                    · refine z_iconst hC (0 : Int32) dX11_asked_104 (by decide) ?_
                      refine z_weak [(1, .int p1)] [1] rfl ?_
                      exact hJ13 (0 : Int32)
              · refine z_iload_n hC 3 dX11_asked_64 rfl rfl ?_
                refine z_iconst hC (1 : Int32) dX11_asked_65 (by decide) ?_
                refine z_icmp_ne hC 74 dX11_asked_66 (by decide) (fun _ => ?_) (fun _ => ?_)
                · refine z_bipush hC (-2 : Int32) dX11_asked_69 (by decide) ?_
                  refine z_goto hC 75 dX11_asked_71 (by decide) ?_
                  exact z_iret hC (fun h => h) dX11_asked_75
                · refine z_iconst hC (0 : Int32) dX11_asked_74 (by decide) ?_
                  exact z_iret hC (fun h => h) dX11_asked_75
        · refine z_iconst hC (-1 : Int32) dX11_asked_23 (by decide) ?_
          exact z_iret hC (fun h => h) dX11_asked_24

