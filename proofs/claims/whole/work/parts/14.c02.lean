theorem dX2_readSum_0 : decode cX2_readSum 0 = .ok (.iconst 0, 1) := by decide +kernel
theorem dX2_readSum_1 : decode cX2_readSum 1 = .ok (.istore_n 2, 1) := by decide +kernel
theorem dX2_readSum_2 : decode cX2_readSum 2 = .ok (.aload_n 0, 1) := by decide +kernel
theorem dX2_readSum_3 : decode cX2_readSum 3 = .ok (.iload_n 1, 1) := by decide +kernel
theorem dX2_readSum_4 : decode cX2_readSum 4 = .ok (.invokevirtual 81, 3) := by decide +kernel
theorem dX2_readSum_7 : decode cX2_readSum 7 = .ok (.iconst 0, 1) := by decide +kernel
theorem dX2_readSum_8 : decode cX2_readSum 8 = .ok (.istore_n 3, 1) := by decide +kernel
theorem dX2_readSum_9 : decode cX2_readSum 9 = .ok (.iload_n 3, 1) := by decide +kernel
theorem dX2_readSum_10 : decode cX2_readSum 10 = .ok (.aload_n 0, 1) := by decide +kernel
theorem dX2_readSum_11 : decode cX2_readSum 11 = .ok (.getfield 72, 3) := by decide +kernel
theorem dX2_readSum_14 : decode cX2_readSum 14 = .ok (.if_icmp .ge 110, 3) := by decide +kernel
theorem dX2_readSum_17 : decode cX2_readSum 17 = .ok (.aload_n 0, 1) := by decide +kernel
theorem dX2_readSum_18 : decode cX2_readSum 18 = .ok (.getfield 41, 3) := by decide +kernel
theorem dX2_readSum_21 : decode cX2_readSum 21 = .ok (.ifCond .ne 103, 3) := by decide +kernel
theorem dX2_readSum_24 : decode cX2_readSum 24 = .ok (.aload_n 0, 1) := by decide +kernel
theorem dX2_readSum_25 : decode cX2_readSum 25 = .ok (.invokevirtual 47, 3) := by decide +kernel
theorem dX2_readSum_28 : decode cX2_readSum 28 = .ok (.istore 4, 2) := by decide +kernel
theorem dX2_readSum_30 : decode cX2_readSum 30 = .ok (.iload 4, 2) := by decide +kernel
theorem dX2_readSum_32 : decode cX2_readSum 32 = .ok (.bipush 42, 2) := by decide +kernel
theorem dX2_readSum_34 : decode cX2_readSum 34 = .ok (.if_icmp .eq 17, 3) := by decide +kernel
theorem dX2_readSum_37 : decode cX2_readSum 37 = .ok (.iload 4, 2) := by decide +kernel
theorem dX2_readSum_39 : decode cX2_readSum 39 = .ok (.bipush 47, 2) := by decide +kernel
theorem dX2_readSum_41 : decode cX2_readSum 41 = .ok (.if_icmp .eq 10, 3) := by decide +kernel
theorem dX2_readSum_44 : decode cX2_readSum 44 = .ok (.iload 4, 2) := by decide +kernel
theorem dX2_readSum_46 : decode cX2_readSum 46 = .ok (.bipush 37, 2) := by decide +kernel
theorem dX2_readSum_48 : decode cX2_readSum 48 = .ok (.if_icmp .ne 28, 3) := by decide +kernel
theorem dX2_readSum_51 : decode cX2_readSum 51 = .ok (.aload_n 0, 1) := by decide +kernel
theorem dX2_readSum_52 : decode cX2_readSum 52 = .ok (.dup, 1) := by decide +kernel
theorem dX2_readSum_53 : decode cX2_readSum 53 = .ok (.getfield 57, 3) := by decide +kernel
theorem dX2_readSum_56 : decode cX2_readSum 56 = .ok (.iconst 1, 1) := by decide +kernel
theorem dX2_readSum_57 : decode cX2_readSum 57 = .ok (.iadd, 1) := by decide +kernel
theorem dX2_readSum_58 : decode cX2_readSum 58 = .ok (.putfield 57, 3) := by decide +kernel
theorem dX2_readSum_61 : decode cX2_readSum 61 = .ok (.aload_n 0, 1) := by decide +kernel
theorem dX2_readSum_62 : decode cX2_readSum 62 = .ok (.iload_n 1, 1) := by decide +kernel
theorem dX2_readSum_63 : decode cX2_readSum 63 = .ok (.invokevirtual 81, 3) := by decide +kernel
theorem dX2_readSum_66 : decode cX2_readSum 66 = .ok (.aload_n 0, 1) := by decide +kernel
theorem dX2_readSum_67 : decode cX2_readSum 67 = .ok (.iload 4, 2) := by decide +kernel
theorem dX2_readSum_69 : decode cX2_readSum 69 = .ok (.ineg, 1) := by decide +kernel
theorem dX2_readSum_70 : decode cX2_readSum 70 = .ok (.invokevirtual 60, 3) := by decide +kernel
theorem dX2_readSum_73 : decode cX2_readSum 73 = .ok (.goto 45, 3) := by decide +kernel
theorem dX2_readSum_76 : decode cX2_readSum 76 = .ok (.iload 4, 2) := by decide +kernel
theorem dX2_readSum_78 : decode cX2_readSum 78 = .ok (.bipush 43, 2) := by decide +kernel
theorem dX2_readSum_80 : decode cX2_readSum 80 = .ok (.if_icmp .eq 10, 3) := by decide +kernel
theorem dX2_readSum_83 : decode cX2_readSum 83 = .ok (.iload 4, 2) := by decide +kernel
theorem dX2_readSum_85 : decode cX2_readSum 85 = .ok (.bipush 45, 2) := by decide +kernel
theorem dX2_readSum_87 : decode cX2_readSum 87 = .ok (.if_icmp .ne 37, 3) := by decide +kernel
theorem dX2_readSum_90 : decode cX2_readSum 90 = .ok (.aload_n 0, 1) := by decide +kernel
theorem dX2_readSum_91 : decode cX2_readSum 91 = .ok (.dup, 1) := by decide +kernel
theorem dX2_readSum_92 : decode cX2_readSum 92 = .ok (.getfield 57, 3) := by decide +kernel
theorem dX2_readSum_95 : decode cX2_readSum 95 = .ok (.iconst 1, 1) := by decide +kernel
theorem dX2_readSum_96 : decode cX2_readSum 96 = .ok (.iadd, 1) := by decide +kernel
theorem dX2_readSum_97 : decode cX2_readSum 97 = .ok (.putfield 57, 3) := by decide +kernel
theorem dX2_readSum_100 : decode cX2_readSum 100 = .ok (.iload_n 2, 1) := by decide +kernel
theorem dX2_readSum_101 : decode cX2_readSum 101 = .ok (.ifCond .eq 9, 3) := by decide +kernel
theorem dX2_readSum_104 : decode cX2_readSum 104 = .ok (.aload_n 0, 1) := by decide +kernel
theorem dX2_readSum_105 : decode cX2_readSum 105 = .ok (.iload_n 2, 1) := by decide +kernel
theorem dX2_readSum_106 : decode cX2_readSum 106 = .ok (.ineg, 1) := by decide +kernel
theorem dX2_readSum_107 : decode cX2_readSum 107 = .ok (.invokevirtual 60, 3) := by decide +kernel
theorem dX2_readSum_110 : decode cX2_readSum 110 = .ok (.iload 4, 2) := by decide +kernel
theorem dX2_readSum_112 : decode cX2_readSum 112 = .ok (.istore_n 2, 1) := by decide +kernel
theorem dX2_readSum_113 : decode cX2_readSum 113 = .ok (.aload_n 0, 1) := by decide +kernel
theorem dX2_readSum_114 : decode cX2_readSum 114 = .ok (.iload_n 1, 1) := by decide +kernel
theorem dX2_readSum_115 : decode cX2_readSum 115 = .ok (.invokevirtual 81, 3) := by decide +kernel
theorem dX2_readSum_118 : decode cX2_readSum 118 = .ok (.iinc 3 1, 3) := by decide +kernel
theorem dX2_readSum_121 : decode cX2_readSum 121 = .ok (.goto (-112), 3) := by decide +kernel
theorem dX2_readSum_124 : decode cX2_readSum 124 = .ok (.iload_n 2, 1) := by decide +kernel
theorem dX2_readSum_125 : decode cX2_readSum 125 = .ok (.ifCond .eq 9, 3) := by decide +kernel
theorem dX2_readSum_128 : decode cX2_readSum 128 = .ok (.aload_n 0, 1) := by decide +kernel
theorem dX2_readSum_129 : decode cX2_readSum 129 = .ok (.iload_n 2, 1) := by decide +kernel
theorem dX2_readSum_130 : decode cX2_readSum 130 = .ok (.ineg, 1) := by decide +kernel
theorem dX2_readSum_131 : decode cX2_readSum 131 = .ok (.invokevirtual 60, 3) := by decide +kernel
theorem dX2_readSum_134 : decode cX2_readSum 134 = .ok (.return_, 1) := by decide +kernel
def FBX2_readSum (rX2_readSum : HP → Nat → Int32 → Option (HP)) (rX2_readFactor : HP → Nat → Int32 → Option (HP)) (hp : HP) (p0 : Nat) (p1 : Int32) : Option (HP) := (rc [2] hp p0 (rX2_readFactor hp p0 p1)).bind (fun w1 => (lp (fun (s2 : Int32 × Int32 × HP) => (gI [2] 1 s2.2.2 p0).bind (fun v5 => if v5 ≤ s2.2.1 then some (Sum.inl (s2.1, s2.2.2)) else (gI [2] 3 s2.2.2 p0).bind (fun v6 => if v6 = 0 then (rc [2] s2.2.2 p0 (FX4_here s2.2.2 p0)).bind (fun v7 => jn (A := Unit) (fun a8 => (gI [2] 2 s2.2.2 p0).bind (fun v10 => (sI [2] 2 s2.2.2 p0 (v10 + (1 : Int32))).bind (fun hp11 => (rc [2] hp11 p0 (rX2_readFactor hp11 p0 p1)).bind (fun w12 => (rc [2] w12 p0 (FX2_emit w12 p0 (-v7))).bind (fun w13 => vl (s2.2.1 + (1 : Int32)) (fun x14 => some (Sum.inr (s2.1, x14, w13)))))))) (fun J9 => if v7 = (42 : Int32) then J9 () else if v7 = (47 : Int32) then J9 () else if v7 = (37 : Int32) then J9 () else jn (A := Unit) (fun a15 => (gI [2] 2 s2.2.2 p0).bind (fun v17 => (sI [2] 2 s2.2.2 p0 (v17 + (1 : Int32))).bind (fun hp18 => jn (A := HP) (fun a19 => (rc [2] a19 p0 (rX2_readFactor a19 p0 p1)).bind (fun w21 => vl (s2.2.1 + (1 : Int32)) (fun x22 => some (Sum.inr (v7, x22, w21))))) (fun J20 => if s2.1 = 0 then J20 hp18 else (rc [2] hp18 p0 (FX2_emit hp18 p0 (-s2.1))).bind (fun w23 => J20 w23))))) (fun J16 => if v7 = (43 : Int32) then J16 () else if v7 = (45 : Int32) then J16 () else some (Sum.inl (s2.1, s2.2.2))))) else some (Sum.inl (s2.1, s2.2.2))))) FU ((0 : Int32), (0 : Int32), w1)).bind (fun (y3 : Int32 × HP) => if y3.1 = 0 then some y3.2 else (rc [2] y3.2 p0 (FX2_emit y3.2 p0 (-y3.1))).bind (fun w4 => some w4)))
set_option maxHeartbeats 4000000 in
set_option maxRecDepth 100000 in
theorem cbX2_readSum (l : Launch) (D : va_G) (tg : Nat → ClassId) (bs : Nat) (sa : Nat → Nat) (rX2_readSum : HP → Nat → Int32 → Option (HP)) (rX2_readFactor : HP → Nat → Int32 → Option (HP)) (Lr : Nat) (hLr : 6 ≤ Lr) (hrX2_readSum : ∀ (hp : HP) (p0 : Nat) (p1 : Int32), Ct l D tg bs sa yX2_readSum cX2_readSum 5 none Lr [.ref p0, .int p1] hp (rX2_readSum hp p0 p1) (fun _ => none) (fun r => r)) (hrX2_readFactor : ∀ (hp : HP) (p0 : Nat) (p1 : Int32), Ct l D tg bs sa yX2_readFactor cX2_readFactor 4 none Lr [.ref p0, .int p1] hp (rX2_readFactor hp p0 p1) (fun _ => none) (fun r => r)) (hp : HP) (p0 : Nat) (p1 : Int32) : Ct l D tg bs sa yX2_readSum cX2_readSum 5 none (Lr + 1) [.ref p0, .int p1] hp (FBX2_readSum rX2_readSum rX2_readFactor hp p0 p1) (fun _ => none) (fun r => r) := by
  refine Ct.of (by decide) (Nat.le_of_ble_eq_true rfl) ?_
  intro V Q hVl hVd hVt hVb hVs hC
  subst hVl; subst hVd; subst hVt; subst hVb; subst hVs
  unfold FBX2_readSum
  show Zs V Q (0, 0) 5 _ _ hp [(0, .ref p0), (1, .int p1)] 0 []
  refine z_iconst hC (0 : Int32) dX2_readSum_0 (by decide) ?_
  refine z_istore_n hC [(0, .ref p0), (1, .int p1), (2, .int (0 : Int32))] [1, 2, 0] dX2_readSum_1 rfl (by decide) rfl ?_
  refine z_aload_n hC 0 dX2_readSum_2 rfl rfl ?_
  refine z_iload_n hC 1 dX2_readSum_3 rfl rfl ?_
  refine z_callVv hC (ci := 2) rfl lmRX2_81 (hrX2_readFactor hp p0 p1) (Nat.le_refl _) hn0 dX2_readSum_4 rfl rfl (Nat.le_of_ble_eq_true rfl) (fun w1 => ?_)
  refine z_iconst hC (0 : Int32) dX2_readSum_7 (by decide) ?_
  refine z_istore_n hC [(0, .ref p0), (1, .int p1), (2, .int (0 : Int32)), (3, .int (0 : Int32))] [1, 2, 3, 0] dX2_readSum_8 rfl (by decide) rfl ?_
  refine z_lp (S := Int32 × Int32 × HP) (Y := Int32 × HP) (fun s2 => s2.2.2) (fun s2 => [(0, .ref p0), (1, .int p1), (2, .int s2.1), (3, .int s2.2.1)]) (fun y3 => y3.2) (fun y3 => [(0, .ref p0), (2, .int y3.1)]) 124 [] (fun y3 => ?_) (fun s2 => ?_) rfl rfl
  · refine z_iload_n hC 1 dX2_readSum_124 rfl rfl ?_
    refine z_if_eq hC 134 dX2_readSum_125 (by decide) (fun _ => ?_) (fun _ => ?_)
    · exact z_vret hC (fun h => h) dX2_readSum_134
    · refine z_aload_n hC 0 dX2_readSum_128 rfl rfl ?_
      refine z_iload_n hC 1 dX2_readSum_129 rfl rfl ?_
      refine z_ineg hC dX2_readSum_130 ?_
      refine z_callVv hC (ci := 2) rfl lmRX2_60 (ctX2_emit (vLa V) (vDa V) (vTg V) (vBs V) (vSa V) y3.2 p0 (-y3.1)) (by have := hLr; omega) hn0 dX2_readSum_131 rfl rfl (Nat.le_of_ble_eq_true rfl) (fun w4 => ?_)
      exact z_vret hC (fun h => h) dX2_readSum_134
  · refine z_iload_n hC 3 dX2_readSum_9 rfl rfl ?_
    refine z_aload_n hC 0 dX2_readSum_10 rfl rfl ?_
    refine z_getI hC lgRX2_72 dX2_readSum_11 (fun v5 => ?_)
    refine z_icmp_ge hC 124 dX2_readSum_14 (by decide) (fun _ => ?_) (fun _ => ?_)
    · refine z_weak [(0, .ref p0), (2, .int s2.1)] [0, 2] rfl ?_
      exact z_leaf (fun h => h)
    · refine z_aload_n hC 0 dX2_readSum_17 rfl rfl ?_
      refine z_getI hC lgRX2_41 dX2_readSum_18 (fun v6 => ?_)
      refine z_if_ne hC 124 dX2_readSum_21 (by decide) (fun _ => ?_) (fun _ => ?_)
      · refine z_aload_n hC 0 dX2_readSum_24 rfl rfl ?_
        refine z_callUi hC lmRX2_47 (ctX4_here (vLa V) (vDa V) (vTg V) (vBs V) (vSa V) s2.2.2 p0) (by have := hLr; omega) hn0 dX2_readSum_25 rfl rfl (Nat.le_of_ble_eq_true rfl) (fun v7 => ?_)
        refine z_istore hC [(0, .ref p0), (1, .int p1), (2, .int s2.1), (3, .int s2.2.1), (4, .int v7)] [1, 2, 3, 4, 0] dX2_readSum_28 (by decide) rfl ?_
        refine z_iload hC 4 dX2_readSum_30 rfl ?_
        refine z_bipush hC (42 : Int32) dX2_readSum_32 (by decide) ?_
        refine z_jn (A := Unit) (fun a8 => s2.2.2) (fun a8 => [(0, .ref p0), (1, .int p1), (2, .int s2.1), (3, .int s2.2.1), (4, .int v7)]) 51 (fun a8 => []) (fun a8 => ?_) (fun J9 hJ9 => ?_)
        · refine z_aload_n hC 0 dX2_readSum_51 rfl rfl ?_
          refine z_dup hC dX2_readSum_52 rfl ?_
          refine z_getI hC lgRX2_57 dX2_readSum_53 (fun v10 => ?_)
          refine z_iconst hC (1 : Int32) dX2_readSum_56 (by decide) ?_
          refine z_iadd hC dX2_readSum_57 ?_
          refine z_putI hC lpRX2_57 dX2_readSum_58 (fun hp11 => ?_)
          refine z_aload_n hC 0 dX2_readSum_61 rfl rfl ?_
          refine z_iload_n hC 1 dX2_readSum_62 rfl rfl ?_
          refine z_callVv hC (ci := 2) rfl lmRX2_81 (hrX2_readFactor hp11 p0 p1) (Nat.le_refl _) hn0 dX2_readSum_63 rfl rfl (Nat.le_of_ble_eq_true rfl) (fun w12 => ?_)
          refine z_aload_n hC 0 dX2_readSum_66 rfl rfl ?_
          refine z_iload hC 4 dX2_readSum_67 rfl ?_
          refine z_ineg hC dX2_readSum_69 ?_
          refine z_callVv hC (ci := 2) rfl lmRX2_60 (ctX2_emit (vLa V) (vDa V) (vTg V) (vBs V) (vSa V) w12 p0 (-v7)) (by have := hLr; omega) hn0 dX2_readSum_70 rfl rfl (Nat.le_of_ble_eq_true rfl) (fun w13 => ?_)
          refine z_goto hC 118 dX2_readSum_73 (by decide) ?_
          refine z_iincv hC (1 : Int32) 3 (fun x14 => [(0, .ref p0), (1, .int p1), (2, .int s2.1), (3, .int x14), (4, .int v7)]) [1, 2, 3, 0, 4] dX2_readSum_118 rfl (by decide) (by decide) (fun _ => rfl) (fun x14 => ?_)
          refine z_goto hC 9 dX2_readSum_121 (by decide) ?_
          refine z_weak [(0, .ref p0), (1, .int p1), (2, .int s2.1), (3, .int x14)] [0, 1, 2, 3] rfl ?_
          exact z_leaf (fun h => h)
        · refine z_icmp_eq hC 51 dX2_readSum_34 (by decide) (fun _ => ?_) (fun _ => ?_)
          · exact hJ9 ()
          · refine z_iload hC 4 dX2_readSum_37 rfl ?_
            refine z_bipush hC (47 : Int32) dX2_readSum_39 (by decide) ?_
            refine z_icmp_eq hC 51 dX2_readSum_41 (by decide) (fun _ => ?_) (fun _ => ?_)
            · exact hJ9 ()
            · refine z_iload hC 4 dX2_readSum_44 rfl ?_
              refine z_bipush hC (37 : Int32) dX2_readSum_46 (by decide) ?_
              refine z_icmp_ne hC 76 dX2_readSum_48 (by decide) (fun _ => ?_) (fun _ => ?_)
              · exact hJ9 ()
              · refine z_iload hC 4 dX2_readSum_76 rfl ?_
                refine z_bipush hC (43 : Int32) dX2_readSum_78 (by decide) ?_
                refine z_jn (A := Unit) (fun a15 => s2.2.2) (fun a15 => [(0, .ref p0), (1, .int p1), (2, .int s2.1), (3, .int s2.2.1), (4, .int v7)]) 90 (fun a15 => []) (fun a15 => ?_) (fun J16 hJ16 => ?_)
                · refine z_aload_n hC 0 dX2_readSum_90 rfl rfl ?_
                  refine z_dup hC dX2_readSum_91 rfl ?_
                  refine z_getI hC lgRX2_57 dX2_readSum_92 (fun v17 => ?_)
                  refine z_iconst hC (1 : Int32) dX2_readSum_95 (by decide) ?_
                  refine z_iadd hC dX2_readSum_96 ?_
                  refine z_putI hC lpRX2_57 dX2_readSum_97 (fun hp18 => ?_)
                  refine z_iload_n hC 2 dX2_readSum_100 rfl rfl ?_
                  refine z_jn (A := HP) (fun a19 => a19) (fun a19 => [(0, .ref p0), (1, .int p1), (3, .int s2.2.1), (4, .int v7)]) 110 (fun a19 => []) (fun a19 => ?_) (fun J20 hJ20 => ?_)
                  · refine z_iload hC 3 dX2_readSum_110 rfl ?_
                    refine z_istore_n hC [(0, .ref p0), (1, .int p1), (2, .int v7), (3, .int s2.2.1), (4, .int v7)] [1, 2, 0, 3, 4] dX2_readSum_112 rfl (by decide) rfl ?_
                    refine z_aload_n hC 0 dX2_readSum_113 rfl rfl ?_
                    refine z_iload_n hC 1 dX2_readSum_114 rfl rfl ?_
                    refine z_callVv hC (ci := 2) rfl lmRX2_81 (hrX2_readFactor a19 p0 p1) (Nat.le_refl _) hn0 dX2_readSum_115 rfl rfl (Nat.le_of_ble_eq_true rfl) (fun w21 => ?_)
                    refine z_iincv hC (1 : Int32) 3 (fun x22 => [(0, .ref p0), (1, .int p1), (2, .int v7), (3, .int x22), (4, .int v7)]) [1, 2, 3, 0, 4] dX2_readSum_118 rfl (by decide) (by decide) (fun _ => rfl) (fun x22 => ?_)
                    refine z_goto hC 9 dX2_readSum_121 (by decide) ?_
                    refine z_weak [(0, .ref p0), (1, .int p1), (2, .int v7), (3, .int x22)] [0, 1, 2, 3] rfl ?_
                    exact z_leaf (fun h => h)
                  · refine z_if_eq hC 110 dX2_readSum_101 (by decide) (fun _ => ?_) (fun _ => ?_)
                    · refine z_weak [(0, .ref p0), (1, .int p1), (3, .int s2.2.1), (4, .int v7)] [0, 1, 3, 4] rfl ?_
                      exact hJ20 hp18
                    · refine z_aload_n hC 0 dX2_readSum_104 rfl rfl ?_
                      refine z_iload_n hC 2 dX2_readSum_105 rfl rfl ?_
                      refine z_ineg hC dX2_readSum_106 ?_
                      refine z_callVv hC (ci := 2) rfl lmRX2_60 (ctX2_emit (vLa V) (vDa V) (vTg V) (vBs V) (vSa V) hp18 p0 (-s2.1)) (by have := hLr; omega) hn0 dX2_readSum_107 rfl rfl (Nat.le_of_ble_eq_true rfl) (fun w23 => ?_)
                      refine z_weak [(0, .ref p0), (1, .int p1), (3, .int s2.2.1), (4, .int v7)] [0, 1, 3, 4] rfl ?_
                      exact hJ20 w23
                · refine z_icmp_eq hC 90 dX2_readSum_80 (by decide) (fun _ => ?_) (fun _ => ?_)
                  · exact hJ16 ()
                  · refine z_iload hC 4 dX2_readSum_83 rfl ?_
                    refine z_bipush hC (45 : Int32) dX2_readSum_85 (by decide) ?_
                    refine z_icmp_ne hC 124 dX2_readSum_87 (by decide) (fun _ => ?_) (fun _ => ?_)
                    · exact hJ16 ()
                    · refine z_weak [(0, .ref p0), (2, .int s2.1)] [0, 2] rfl ?_
                      exact z_leaf (fun h => h)
      · refine z_weak [(0, .ref p0), (2, .int s2.1)] [0, 2] rfl ?_
        exact z_leaf (fun h => h)
theorem dX2_readFactor_0 : decode cX2_readFactor 0 = .ok (.aload_n 0, 1) := by decide +kernel
theorem dX2_readFactor_1 : decode cX2_readFactor 1 = .ok (.invokevirtual 47, 3) := by decide +kernel
theorem dX2_readFactor_4 : decode cX2_readFactor 4 = .ok (.istore_n 2, 1) := by decide +kernel
theorem dX2_readFactor_5 : decode cX2_readFactor 5 = .ok (.iload_n 2, 1) := by decide +kernel
theorem dX2_readFactor_6 : decode cX2_readFactor 6 = .ok (.bipush 97, 2) := by decide +kernel
theorem dX2_readFactor_8 : decode cX2_readFactor 8 = .ok (.if_icmp .lt 13, 3) := by decide +kernel
theorem dX2_readFactor_11 : decode cX2_readFactor 11 = .ok (.ldc 84, 2) := by decide +kernel
theorem dX2_readFactor_13 : decode cX2_readFactor 13 = .ok (.iload_n 2, 1) := by decide +kernel
theorem dX2_readFactor_14 : decode cX2_readFactor 14 = .ok (.i2c, 1) := by decide +kernel
theorem dX2_readFactor_15 : decode cX2_readFactor 15 = .ok (.invokevirtual 86, 3) := by decide +kernel
theorem dX2_readFactor_18 : decode cX2_readFactor 18 = .ok (.goto 4, 3) := by decide +kernel
theorem dX2_readFactor_21 : decode cX2_readFactor 21 = .ok (.iconst (-1), 1) := by decide +kernel
theorem dX2_readFactor_22 : decode cX2_readFactor 22 = .ok (.istore_n 3, 1) := by decide +kernel
theorem dX2_readFactor_23 : decode cX2_readFactor 23 = .ok (.iload_n 2, 1) := by decide +kernel
theorem dX2_readFactor_24 : decode cX2_readFactor 24 = .ok (.bipush 91, 2) := by decide +kernel
theorem dX2_readFactor_26 : decode cX2_readFactor 26 = .ok (.if_icmp .ne 31, 3) := by decide +kernel
theorem dX2_readFactor_29 : decode cX2_readFactor 29 = .ok (.aload_n 0, 1) := by decide +kernel
theorem dX2_readFactor_30 : decode cX2_readFactor 30 = .ok (.iload_n 1, 1) := by decide +kernel
theorem dX2_readFactor_31 : decode cX2_readFactor 31 = .ok (.invokevirtual 78, 3) := by decide +kernel
theorem dX2_readFactor_34 : decode cX2_readFactor 34 = .ok (.aload_n 0, 1) := by decide +kernel
theorem dX2_readFactor_35 : decode cX2_readFactor 35 = .ok (.getfield 41, 3) := by decide +kernel
theorem dX2_readFactor_38 : decode cX2_readFactor 38 = .ok (.ifCond .ne 68, 3) := by decide +kernel
theorem dX2_readFactor_41 : decode cX2_readFactor 41 = .ok (.aload_n 0, 1) := by decide +kernel
theorem dX2_readFactor_42 : decode cX2_readFactor 42 = .ok (.iload_n 1, 1) := by decide +kernel
theorem dX2_readFactor_43 : decode cX2_readFactor 43 = .ok (.iconst 1, 1) := by decide +kernel
theorem dX2_readFactor_44 : decode cX2_readFactor 44 = .ok (.iadd, 1) := by decide +kernel
theorem dX2_readFactor_45 : decode cX2_readFactor 45 = .ok (.invokevirtual 63, 3) := by decide +kernel
theorem dX2_readFactor_48 : decode cX2_readFactor 48 = .ok (.aload_n 0, 1) := by decide +kernel
theorem dX2_readFactor_49 : decode cX2_readFactor 49 = .ok (.bipush 93, 2) := by decide +kernel
theorem dX2_readFactor_51 : decode cX2_readFactor 51 = .ok (.invokevirtual 51, 3) := by decide +kernel
theorem dX2_readFactor_54 : decode cX2_readFactor 54 = .ok (.goto 52, 3) := by decide +kernel
theorem dX2_readFactor_57 : decode cX2_readFactor 57 = .ok (.iload_n 2, 1) := by decide +kernel
theorem dX2_readFactor_58 : decode cX2_readFactor 58 = .ok (.bipush 48, 2) := by decide +kernel
theorem dX2_readFactor_60 : decode cX2_readFactor 60 = .ok (.if_icmp .lt 16, 3) := by decide +kernel
theorem dX2_readFactor_63 : decode cX2_readFactor 63 = .ok (.iload_n 2, 1) := by decide +kernel
theorem dX2_readFactor_64 : decode cX2_readFactor 64 = .ok (.bipush 57, 2) := by decide +kernel
theorem dX2_readFactor_66 : decode cX2_readFactor 66 = .ok (.if_icmp .gt 10, 3) := by decide +kernel
theorem dX2_readFactor_69 : decode cX2_readFactor 69 = .ok (.aload_n 0, 1) := by decide +kernel
theorem dX2_readFactor_70 : decode cX2_readFactor 70 = .ok (.invokevirtual 92, 3) := by decide +kernel
theorem dX2_readFactor_73 : decode cX2_readFactor 73 = .ok (.goto 33, 3) := by decide +kernel
theorem dX2_readFactor_76 : decode cX2_readFactor 76 = .ok (.iload_n 3, 1) := by decide +kernel
theorem dX2_readFactor_77 : decode cX2_readFactor 77 = .ok (.ifCond .lt 24, 3) := by decide +kernel
theorem dX2_readFactor_80 : decode cX2_readFactor 80 = .ok (.aload_n 0, 1) := by decide +kernel
theorem dX2_readFactor_81 : decode cX2_readFactor 81 = .ok (.dup, 1) := by decide +kernel
theorem dX2_readFactor_82 : decode cX2_readFactor 82 = .ok (.getfield 57, 3) := by decide +kernel
theorem dX2_readFactor_85 : decode cX2_readFactor 85 = .ok (.iconst 1, 1) := by decide +kernel
theorem dX2_readFactor_86 : decode cX2_readFactor 86 = .ok (.iadd, 1) := by decide +kernel
theorem dX2_readFactor_87 : decode cX2_readFactor 87 = .ok (.putfield 57, 3) := by decide +kernel
theorem dX2_readFactor_90 : decode cX2_readFactor 90 = .ok (.aload_n 0, 1) := by decide +kernel
theorem dX2_readFactor_91 : decode cX2_readFactor 91 = .ok (.ldc 96, 2) := by decide +kernel
theorem dX2_readFactor_93 : decode cX2_readFactor 93 = .ok (.iload_n 3, 1) := by decide +kernel
theorem dX2_readFactor_94 : decode cX2_readFactor 94 = .ok (.iadd, 1) := by decide +kernel
theorem dX2_readFactor_95 : decode cX2_readFactor 95 = .ok (.invokevirtual 60, 3) := by decide +kernel
theorem dX2_readFactor_98 : decode cX2_readFactor 98 = .ok (.goto 8, 3) := by decide +kernel
theorem dX2_readFactor_101 : decode cX2_readFactor 101 = .ok (.aload_n 0, 1) := by decide +kernel
theorem dX2_readFactor_102 : decode cX2_readFactor 102 = .ok (.iconst 1, 1) := by decide +kernel
theorem dX2_readFactor_103 : decode cX2_readFactor 103 = .ok (.invokevirtual 54, 3) := by decide +kernel
theorem dX2_readFactor_106 : decode cX2_readFactor 106 = .ok (.return_, 1) := by decide +kernel
def FBX2_readFactor (rX2_readSum : HP → Nat → Int32 → Option (HP)) (rX2_readFactor : HP → Nat → Int32 → Option (HP)) (hp : HP) (p0 : Nat) (p1 : Int32) : Option (HP) := (rc [2] hp p0 (FX4_here hp p0)).bind (fun v1 => jn (A := Int32) (fun a2 => if v1 = (91 : Int32) then (rc [2] hp p0 (FX4_open hp p0 p1)).bind (fun w4 => (gI [2] 3 w4 p0).bind (fun v5 => if v5 = 0 then (rc [2] w4 p0 (rX2_readSum w4 p0 (p1 + (1 : Int32)))).bind (fun w6 => (rc [2] w6 p0 (FX4_expect w6 p0 (93 : Int32))).bind (fun w7 => some w7)) else some w4)) else jn (A := Unit) (fun a8 => if a2 < 0 then (rc [2] hp p0 (FX4_fail hp p0 (1 : Int32))).bind (fun w10 => some w10) else (gI [2] 2 hp p0).bind (fun v11 => (sI [2] 2 hp p0 (v11 + (1 : Int32))).bind (fun hp12 => (rc [2] hp12 p0 (FX2_emit hp12 p0 ((100000 : Int32) + a2))).bind (fun w13 => some w13)))) (fun J9 => if v1 < (48 : Int32) then J9 () else if (57 : Int32) < v1 then J9 () else (rc [2] hp p0 (FX2_readNumber hp p0)).bind (fun w14 => some w14))) (fun J3 => if v1 < (97 : Int32) then J3 (-1 : Int32) else (FJ0_indexOf_0f7a4 hp (((v1).toUInt32 % 65536).toInt32)).bind (fun v15 => J3 v15)))
set_option maxHeartbeats 4000000 in
set_option maxRecDepth 100000 in
theorem cbX2_readFactor (l : Launch) (D : va_G) (tg : Nat → ClassId) (bs : Nat) (sa : Nat → Nat) (rX2_readSum : HP → Nat → Int32 → Option (HP)) (rX2_readFactor : HP → Nat → Int32 → Option (HP)) (Lr : Nat) (hLr : 6 ≤ Lr) (hrX2_readSum : ∀ (hp : HP) (p0 : Nat) (p1 : Int32), Ct l D tg bs sa yX2_readSum cX2_readSum 5 none Lr [.ref p0, .int p1] hp (rX2_readSum hp p0 p1) (fun _ => none) (fun r => r)) (hrX2_readFactor : ∀ (hp : HP) (p0 : Nat) (p1 : Int32), Ct l D tg bs sa yX2_readFactor cX2_readFactor 4 none Lr [.ref p0, .int p1] hp (rX2_readFactor hp p0 p1) (fun _ => none) (fun r => r)) (hp : HP) (p0 : Nat) (p1 : Int32) : Ct l D tg bs sa yX2_readFactor cX2_readFactor 4 none (Lr + 1) [.ref p0, .int p1] hp (FBX2_readFactor rX2_readSum rX2_readFactor hp p0 p1) (fun _ => none) (fun r => r) := by
  refine Ct.of (by decide) (Nat.le_of_ble_eq_true rfl) ?_
  intro V Q hVl hVd hVt hVb hVs hC
  subst hVl; subst hVd; subst hVt; subst hVb; subst hVs
  unfold FBX2_readFactor
  show Zs V Q (0, 0) 4 _ _ hp [(0, .ref p0), (1, .int p1)] 0 []
  refine z_aload_n hC 0 dX2_readFactor_0 rfl rfl ?_
  refine z_callUi hC lmRX2_47 (ctX4_here (vLa V) (vDa V) (vTg V) (vBs V) (vSa V) hp p0) (by have := hLr; omega) hn0 dX2_readFactor_1 rfl rfl (Nat.le_of_ble_eq_true rfl) (fun v1 => ?_)
  refine z_istore_n hC [(0, .ref p0), (1, .int p1), (2, .int v1)] [1, 2, 0] dX2_readFactor_4 rfl (by decide) rfl ?_
  refine z_iload_n hC 2 dX2_readFactor_5 rfl rfl ?_
  refine z_bipush hC (97 : Int32) dX2_readFactor_6 (by decide) ?_
  refine z_jn (A := Int32) (fun a2 => hp) (fun a2 => [(0, .ref p0), (1, .int p1), (2, .int v1)]) 22 (fun a2 => [.int a2]) (fun a2 => ?_) (fun J3 hJ3 => ?_)
  · refine z_istore_n hC [(0, .ref p0), (1, .int p1), (2, .int v1), (3, .int a2)] [1, 2, 3, 0] dX2_readFactor_22 rfl (by decide) rfl ?_
    refine z_iload_n hC 2 dX2_readFactor_23 rfl rfl ?_
    refine z_bipush hC (91 : Int32) dX2_readFactor_24 (by decide) ?_
    refine z_icmp_ne hC 57 dX2_readFactor_26 (by decide) (fun _ => ?_) (fun _ => ?_)
    · refine z_aload_n hC 0 dX2_readFactor_29 rfl rfl ?_
      refine z_iload_n hC 1 dX2_readFactor_30 rfl rfl ?_
      refine z_callUv hC lmRX2_78 (ctX4_open (vLa V) (vDa V) (vTg V) (vBs V) (vSa V) hp p0 p1) (by have := hLr; omega) hn0 dX2_readFactor_31 rfl rfl (Nat.le_of_ble_eq_true rfl) (fun w4 => ?_)
      refine z_aload_n hC 0 dX2_readFactor_34 rfl rfl ?_
      refine z_getI hC lgRX2_41 dX2_readFactor_35 (fun v5 => ?_)
      refine z_if_ne hC 106 dX2_readFactor_38 (by decide) (fun _ => ?_) (fun _ => ?_)
      · refine z_aload_n hC 0 dX2_readFactor_41 rfl rfl ?_
        refine z_iload_n hC 1 dX2_readFactor_42 rfl rfl ?_
        refine z_iconst hC (1 : Int32) dX2_readFactor_43 (by decide) ?_
        refine z_iadd hC dX2_readFactor_44 ?_
        refine z_callVv hC (ci := 2) rfl lmRX2_63 (hrX2_readSum w4 p0 (p1 + (1 : Int32))) (Nat.le_refl _) hn0 dX2_readFactor_45 rfl rfl (Nat.le_of_ble_eq_true rfl) (fun w6 => ?_)
        refine z_aload_n hC 0 dX2_readFactor_48 rfl rfl ?_
        refine z_bipush hC (93 : Int32) dX2_readFactor_49 (by decide) ?_
        refine z_callUv hC lmRX2_51 (ctX4_expect (vLa V) (vDa V) (vTg V) (vBs V) (vSa V) w6 p0 (93 : Int32)) (by have := hLr; omega) hn0 dX2_readFactor_51 rfl rfl (Nat.le_of_ble_eq_true rfl) (fun w7 => ?_)
        refine z_goto hC 106 dX2_readFactor_54 (by decide) ?_
        exact z_vret hC (fun h => h) dX2_readFactor_106
      · exact z_vret hC (fun h => h) dX2_readFactor_106
    · refine z_iload_n hC 2 dX2_readFactor_57 rfl rfl ?_
      refine z_bipush hC (48 : Int32) dX2_readFactor_58 (by decide) ?_
      refine z_jn (A := Unit) (fun a8 => hp) (fun a8 => [(0, .ref p0), (3, .int a2)]) 76 (fun a8 => []) (fun a8 => ?_) (fun J9 hJ9 => ?_)
      · refine z_iload_n hC 1 dX2_readFactor_76 rfl rfl ?_
        refine z_if_lt hC 101 dX2_readFactor_77 (by decide) (fun _ => ?_) (fun _ => ?_)
        · refine z_aload_n hC 0 dX2_readFactor_101 rfl rfl ?_
          refine z_iconst hC (1 : Int32) dX2_readFactor_102 (by decide) ?_
          refine z_callUv hC lmRX2_54 (ctX4_fail (vLa V) (vDa V) (vTg V) (vBs V) (vSa V) hp p0 (1 : Int32)) (by have := hLr; omega) hn0 dX2_readFactor_103 rfl rfl (Nat.le_of_ble_eq_true rfl) (fun w10 => ?_)
          exact z_vret hC (fun h => h) dX2_readFactor_106
        · refine z_aload_n hC 0 dX2_readFactor_80 rfl rfl ?_
          refine z_dup hC dX2_readFactor_81 rfl ?_
          refine z_getI hC lgRX2_57 dX2_readFactor_82 (fun v11 => ?_)
          refine z_iconst hC (1 : Int32) dX2_readFactor_85 (by decide) ?_
          refine z_iadd hC dX2_readFactor_86 ?_
          refine z_putI hC lpRX2_57 dX2_readFactor_87 (fun hp12 => ?_)
          refine z_aload_n hC 0 dX2_readFactor_90 rfl rfl ?_
          refine z_ldc hC (100000 : Int32) lcRX2_96 dX2_readFactor_91 ?_
          refine z_iload_n hC 1 dX2_readFactor_93 rfl rfl ?_
          refine z_iadd hC dX2_readFactor_94 ?_
          refine z_callVv hC (ci := 2) rfl lmRX2_60 (ctX2_emit (vLa V) (vDa V) (vTg V) (vBs V) (vSa V) hp12 p0 ((100000 : Int32) + a2)) (by have := hLr; omega) hn0 dX2_readFactor_95 rfl rfl (Nat.le_of_ble_eq_true rfl) (fun w13 => ?_)
          refine z_goto hC 106 dX2_readFactor_98 (by decide) ?_
          exact z_vret hC (fun h => h) dX2_readFactor_106
      · refine z_icmp_lt hC 76 dX2_readFactor_60 (by decide) (fun _ => ?_) (fun _ => ?_)
        · refine z_weak [(0, .ref p0), (3, .int a2)] [0, 3] rfl ?_
          exact hJ9 ()
        · refine z_iload_n hC 2 dX2_readFactor_63 rfl rfl ?_
          refine z_bipush hC (57 : Int32) dX2_readFactor_64 (by decide) ?_
          refine z_icmp_gt hC 76 dX2_readFactor_66 (by decide) (fun _ => ?_) (fun _ => ?_)
          · refine z_weak [(0, .ref p0), (3, .int a2)] [0, 3] rfl ?_
            exact hJ9 ()
          · refine z_aload_n hC 0 dX2_readFactor_69 rfl rfl ?_
            refine z_callVv hC (ci := 2) rfl lmRX2_92 (ctX2_readNumber (vLa V) (vDa V) (vTg V) (vBs V) (vSa V) hp p0) (by have := hLr; omega) hn0 dX2_readFactor_70 rfl rfl (Nat.le_of_ble_eq_true rfl) (fun w14 => ?_)
            refine z_goto hC 106 dX2_readFactor_73 (by decide) ?_
            exact z_vret hC (fun h => h) dX2_readFactor_106
  · refine z_icmp_lt hC 21 dX2_readFactor_8 (by decide) (fun _ => ?_) (fun _ => ?_)
    · refine z_iconst hC (-1 : Int32) dX2_readFactor_21 (by decide) ?_
      exact hJ3 (-1 : Int32)
    · refine z_ldcS hC dX2_readFactor_11 ?_
      refine z_iload_n hC 2 dX2_readFactor_13 rfl rfl ?_
      refine z_i2c hC dX2_readFactor_14 ?_
      refine z_callTi hC lmRX2_86 (ctJ0_indexOf_0f7a4 (vLa V) (vDa V) (vTg V) (vBs V) (vSa V) hp (((v1).toUInt32 % 65536).toInt32)) (by have := hLr; omega) hn0 dX2_readFactor_15 rfl rfl (Nat.le_of_ble_eq_true rfl) (fun v15 => ?_)
      refine z_goto hC 22 dX2_readFactor_18 (by decide) ?_
      exact hJ3 v15
def FGSU : Nat → (HP → Nat → Int32 → Option (HP)) × (HP → Nat → Int32 → Option (HP))
  | 0 => ((fun _ _ _ => none), (fun _ _ _ => none))
  | d + 1 => (FBX2_readSum (FGSU d).1 (FGSU d).2, FBX2_readFactor (FGSU d).1 (FGSU d).2)
def FX2_readSum (d : Nat) : HP → Nat → Int32 → Option (HP) := (FGSU d).1
def FX2_readFactor (d : Nat) : HP → Nat → Int32 → Option (HP) := (FGSU d).2
theorem cgSU (l : Launch) (D : va_G) (tg : Nat → ClassId) (bs : Nat) (sa : Nat → Nat) : ∀ d : Nat, (∀ (hp : HP) (p0 : Nat) (p1 : Int32), Ct l D tg bs sa yX2_readSum cX2_readSum 5 none (6 + d) [.ref p0, .int p1] hp (FX2_readSum d hp p0 p1) (fun _ => none) (fun r => r)) ∧ (∀ (hp : HP) (p0 : Nat) (p1 : Int32), Ct l D tg bs sa yX2_readFactor cX2_readFactor 4 none (6 + d) [.ref p0, .int p1] hp (FX2_readFactor d hp p0 p1) (fun _ => none) (fun r => r)) := by
  intro d
  induction d with
  | zero => exact ⟨(fun hp _ _ x hx => by cases hx), (fun hp _ _ x hx => by cases hx)⟩
  | succ d ih =>
    exact ⟨cbX2_readSum l D tg bs sa (FX2_readSum d) (FX2_readFactor d) (6 + d) (Nat.le_add_right _ _) ih.1 ih.2, cbX2_readFactor l D tg bs sa (FX2_readSum d) (FX2_readFactor d) (6 + d) (Nat.le_add_right _ _) ih.1 ih.2⟩
theorem ctX2_readSum (l : Launch) (D : va_G) (tg : Nat → ClassId) (bs : Nat) (sa : Nat → Nat) (d : Nat) (hp : HP) (p0 : Nat) (p1 : Int32) : Ct l D tg bs sa yX2_readSum cX2_readSum 5 none (6 + d) [.ref p0, .int p1] hp (FX2_readSum d hp p0 p1) (fun _ => none) (fun r => r) := (cgSU l D tg bs sa d).1 hp p0 p1
theorem ctX2_readFactor (l : Launch) (D : va_G) (tg : Nat → ClassId) (bs : Nat) (sa : Nat → Nat) (d : Nat) (hp : HP) (p0 : Nat) (p1 : Int32) : Ct l D tg bs sa yX2_readFactor cX2_readFactor 4 none (6 + d) [.ref p0, .int p1] hp (FX2_readFactor d hp p0 p1) (fun _ => none) (fun r => r) := (cgSU l D tg bs sa d).2 hp p0 p1
theorem dX2_landSkip_0 : decode cX2_landSkip 0 = .ok (.iload_n 1, 1) := by decide +kernel
theorem dX2_landSkip_1 : decode cX2_landSkip 1 = .ok (.ifCond .lt 23, 3) := by decide +kernel
theorem dX2_landSkip_4 : decode cX2_landSkip 4 = .ok (.iload_n 1, 1) := by decide +kernel
theorem dX2_landSkip_5 : decode cX2_landSkip 5 = .ok (.sipush 240, 3) := by decide +kernel
theorem dX2_landSkip_8 : decode cX2_landSkip 8 = .ok (.if_icmp .ge 16, 3) := by decide +kernel
theorem dX2_landSkip_11 : decode cX2_landSkip 11 = .ok (.aload_n 0, 1) := by decide +kernel
theorem dX2_landSkip_12 : decode cX2_landSkip 12 = .ok (.getfield 21, 3) := by decide +kernel
theorem dX2_landSkip_15 : decode cX2_landSkip 15 = .ok (.iload_n 1, 1) := by decide +kernel
theorem dX2_landSkip_16 : decode cX2_landSkip 16 = .ok (.dup2, 1) := by decide +kernel
theorem dX2_landSkip_17 : decode cX2_landSkip 17 = .ok (.iaload, 1) := by decide +kernel
theorem dX2_landSkip_18 : decode cX2_landSkip 18 = .ok (.aload_n 0, 1) := by decide +kernel
theorem dX2_landSkip_19 : decode cX2_landSkip 19 = .ok (.getfield 38, 3) := by decide +kernel
theorem dX2_landSkip_22 : decode cX2_landSkip 22 = .ok (.isub, 1) := by decide +kernel
theorem dX2_landSkip_23 : decode cX2_landSkip 23 = .ok (.iastore, 1) := by decide +kernel
theorem dX2_landSkip_24 : decode cX2_landSkip 24 = .ok (.return_, 1) := by decide +kernel
def FX2_landSkip (hp : HP) (p0 : Nat) (p1 : Int32) : Option (HP) := if p1 < 0 then some hp else if (240 : Int32) ≤ p1 then some hp else (gR [2] 8 hp p0).bind (fun v1 => (rdN 0 hp v1 p1).bind (fun v2 => (gI [2] 9 hp p0).bind (fun v3 => (wrI hp v1 p1 (v2 - v3)).bind (fun hp4 => some hp4))))
set_option maxHeartbeats 4000000 in
set_option maxRecDepth 100000 in
theorem ctX2_landSkip (l : Launch) (D : va_G) (tg : Nat → ClassId) (bs : Nat) (sa : Nat → Nat) (hp : HP) (p0 : Nat) (p1 : Int32) : Ct l D tg bs sa yX2_landSkip cX2_landSkip 2 none 0 [.ref p0, .int p1] hp (FX2_landSkip hp p0 p1) (fun _ => none) (fun r => r) := by
  refine Ct.of (by decide) (Nat.le_of_ble_eq_true rfl) ?_
  intro V Q hVl hVd hVt hVb hVs hC
  subst hVl; subst hVd; subst hVt; subst hVb; subst hVs
  unfold FX2_landSkip
  show Zs V Q (0, 0) 2 _ _ hp [(0, .ref p0), (1, .int p1)] 0 []
  refine z_iload_n hC 1 dX2_landSkip_0 rfl rfl ?_
  refine z_if_lt hC 24 dX2_landSkip_1 (by decide) (fun _ => ?_) (fun _ => ?_)
  · exact z_vret hC (fun h => h) dX2_landSkip_24
  · refine z_iload_n hC 1 dX2_landSkip_4 rfl rfl ?_
    refine z_sipush hC (240 : Int32) dX2_landSkip_5 (by decide) ?_
    refine z_icmp_ge hC 24 dX2_landSkip_8 (by decide) (fun _ => ?_) (fun _ => ?_)
    · exact z_vret hC (fun h => h) dX2_landSkip_24
    · refine z_aload_n hC 0 dX2_landSkip_11 rfl rfl ?_
      refine z_getR hC lgRX2_21 dX2_landSkip_12 (fun v1 => ?_)
      refine z_iload_n hC 1 dX2_landSkip_15 rfl rfl ?_
      refine z_dup2_11 hC dX2_landSkip_16 rfl rfl ?_
      refine z_iald hC dX2_landSkip_17 (fun v2 => ?_)
      refine z_aload_n hC 0 dX2_landSkip_18 rfl rfl ?_
      refine z_getI hC lgRX2_38 dX2_landSkip_19 (fun v3 => ?_)
      refine z_isub hC dX2_landSkip_22 ?_
      refine z_iast hC dX2_landSkip_23 (fun hp4 => ?_)
      exact z_vret hC (fun h => h) dX2_landSkip_24

theorem dX2_readSome_0 : decode cX2_readSome 0 = .ok (.iconst (-1), 1) := by decide +kernel
theorem dX2_readSome_1 : decode cX2_readSome 1 = .ok (.istore_n 2, 1) := by decide +kernel
theorem dX2_readSome_2 : decode cX2_readSome 2 = .ok (.iconst (-1), 1) := by decide +kernel
theorem dX2_readSome_3 : decode cX2_readSome 3 = .ok (.istore_n 3, 1) := by decide +kernel
theorem dX2_readSome_4 : decode cX2_readSome 4 = .ok (.aload_n 0, 1) := by decide +kernel
theorem dX2_readSome_5 : decode cX2_readSome 5 = .ok (.iload_n 1, 1) := by decide +kernel
theorem dX2_readSome_6 : decode cX2_readSome 6 = .ok (.invokevirtual 69, 3) := by decide +kernel
theorem dX2_readSome_9 : decode cX2_readSome 9 = .ok (.iconst 0, 1) := by decide +kernel
theorem dX2_readSome_10 : decode cX2_readSome 10 = .ok (.istore 4, 2) := by decide +kernel
theorem dX2_readSome_12 : decode cX2_readSome 12 = .ok (.iload 4, 2) := by decide +kernel
theorem dX2_readSome_14 : decode cX2_readSome 14 = .ok (.aload_n 0, 1) := by decide +kernel
theorem dX2_readSome_15 : decode cX2_readSome 15 = .ok (.getfield 72, 3) := by decide +kernel
theorem dX2_readSome_18 : decode cX2_readSome 18 = .ok (.if_icmp .ge 100, 3) := by decide +kernel
theorem dX2_readSome_21 : decode cX2_readSome 21 = .ok (.aload_n 0, 1) := by decide +kernel
theorem dX2_readSome_22 : decode cX2_readSome 22 = .ok (.getfield 41, 3) := by decide +kernel
theorem dX2_readSome_25 : decode cX2_readSome 25 = .ok (.ifCond .ne 93, 3) := by decide +kernel
theorem dX2_readSome_28 : decode cX2_readSome 28 = .ok (.aload_n 0, 1) := by decide +kernel
theorem dX2_readSome_29 : decode cX2_readSome 29 = .ok (.invokevirtual 47, 3) := by decide +kernel
theorem dX2_readSome_32 : decode cX2_readSome 32 = .ok (.istore 5, 2) := by decide +kernel
theorem dX2_readSome_34 : decode cX2_readSome 34 = .ok (.iload 5, 2) := by decide +kernel
theorem dX2_readSome_36 : decode cX2_readSome 36 = .ok (.bipush 38, 2) := by decide +kernel
theorem dX2_readSome_38 : decode cX2_readSome 38 = .ok (.if_icmp .eq 13, 3) := by decide +kernel
theorem dX2_readSome_41 : decode cX2_readSome 41 = .ok (.iload 5, 2) := by decide +kernel
theorem dX2_readSome_43 : decode cX2_readSome 43 = .ok (.bipush 124, 2) := by decide +kernel
theorem dX2_readSome_45 : decode cX2_readSome 45 = .ok (.if_icmp .eq 6, 3) := by decide +kernel
theorem dX2_readSome_48 : decode cX2_readSome 48 = .ok (.goto 70, 3) := by decide +kernel
theorem dX2_readSome_51 : decode cX2_readSome 51 = .ok (.aload_n 0, 1) := by decide +kernel
theorem dX2_readSome_52 : decode cX2_readSome 52 = .ok (.dup, 1) := by decide +kernel
theorem dX2_readSome_53 : decode cX2_readSome 53 = .ok (.getfield 57, 3) := by decide +kernel
theorem dX2_readSome_56 : decode cX2_readSome 56 = .ok (.iconst 1, 1) := by decide +kernel
theorem dX2_readSome_57 : decode cX2_readSome 57 = .ok (.iadd, 1) := by decide +kernel
theorem dX2_readSome_58 : decode cX2_readSome 58 = .ok (.putfield 57, 3) := by decide +kernel
theorem dX2_readSome_61 : decode cX2_readSome 61 = .ok (.aload_n 0, 1) := by decide +kernel
theorem dX2_readSome_62 : decode cX2_readSome 62 = .ok (.iload_n 2, 1) := by decide +kernel
theorem dX2_readSome_63 : decode cX2_readSome 63 = .ok (.invokevirtual 75, 3) := by decide +kernel
theorem dX2_readSome_66 : decode cX2_readSome 66 = .ok (.iconst (-1), 1) := by decide +kernel
theorem dX2_readSome_67 : decode cX2_readSome 67 = .ok (.istore_n 2, 1) := by decide +kernel
theorem dX2_readSome_68 : decode cX2_readSome 68 = .ok (.iload 5, 2) := by decide +kernel
theorem dX2_readSome_70 : decode cX2_readSome 70 = .ok (.bipush 38, 2) := by decide +kernel
theorem dX2_readSome_72 : decode cX2_readSome 72 = .ok (.if_icmp .ne 18, 3) := by decide +kernel
theorem dX2_readSome_75 : decode cX2_readSome 75 = .ok (.aload_n 0, 1) := by decide +kernel
theorem dX2_readSome_76 : decode cX2_readSome 76 = .ok (.getfield 38, 3) := by decide +kernel
theorem dX2_readSome_79 : decode cX2_readSome 79 = .ok (.istore_n 2, 1) := by decide +kernel
theorem dX2_readSome_80 : decode cX2_readSome 80 = .ok (.aload_n 0, 1) := by decide +kernel
theorem dX2_readSome_81 : decode cX2_readSome 81 = .ok (.sipush (-1000), 3) := by decide +kernel
theorem dX2_readSome_84 : decode cX2_readSome 84 = .ok (.invokevirtual 60, 3) := by decide +kernel
theorem dX2_readSome_87 : decode cX2_readSome 87 = .ok (.goto 20, 3) := by decide +kernel
theorem dX2_readSome_90 : decode cX2_readSome 90 = .ok (.aload_n 0, 1) := by decide +kernel
theorem dX2_readSome_91 : decode cX2_readSome 91 = .ok (.iload_n 3, 1) := by decide +kernel
theorem dX2_readSome_92 : decode cX2_readSome 92 = .ok (.invokevirtual 75, 3) := by decide +kernel
theorem dX2_readSome_95 : decode cX2_readSome 95 = .ok (.aload_n 0, 1) := by decide +kernel
theorem dX2_readSome_96 : decode cX2_readSome 96 = .ok (.getfield 38, 3) := by decide +kernel
theorem dX2_readSome_99 : decode cX2_readSome 99 = .ok (.istore_n 3, 1) := by decide +kernel
theorem dX2_readSome_100 : decode cX2_readSome 100 = .ok (.aload_n 0, 1) := by decide +kernel
theorem dX2_readSome_101 : decode cX2_readSome 101 = .ok (.sipush (-2000), 3) := by decide +kernel
theorem dX2_readSome_104 : decode cX2_readSome 104 = .ok (.invokevirtual 60, 3) := by decide +kernel
theorem dX2_readSome_107 : decode cX2_readSome 107 = .ok (.aload_n 0, 1) := by decide +kernel
theorem dX2_readSome_108 : decode cX2_readSome 108 = .ok (.iload_n 1, 1) := by decide +kernel
theorem dX2_readSome_109 : decode cX2_readSome 109 = .ok (.invokevirtual 69, 3) := by decide +kernel
theorem dX2_readSome_112 : decode cX2_readSome 112 = .ok (.iinc 4 1, 3) := by decide +kernel
theorem dX2_readSome_115 : decode cX2_readSome 115 = .ok (.goto (-103), 3) := by decide +kernel
theorem dX2_readSome_118 : decode cX2_readSome 118 = .ok (.aload_n 0, 1) := by decide +kernel
theorem dX2_readSome_119 : decode cX2_readSome 119 = .ok (.iload_n 2, 1) := by decide +kernel
theorem dX2_readSome_120 : decode cX2_readSome 120 = .ok (.invokevirtual 75, 3) := by decide +kernel
theorem dX2_readSome_123 : decode cX2_readSome 123 = .ok (.aload_n 0, 1) := by decide +kernel
theorem dX2_readSome_124 : decode cX2_readSome 124 = .ok (.iload_n 3, 1) := by decide +kernel
theorem dX2_readSome_125 : decode cX2_readSome 125 = .ok (.invokevirtual 75, 3) := by decide +kernel
theorem dX2_readSome_128 : decode cX2_readSome 128 = .ok (.return_, 1) := by decide +kernel
def FBX2_readSome (rX2_readSome : HP → Nat → Int32 → Option (HP)) (rX2_readTest : HP → Nat → Int32 → Option (HP)) (hp : HP) (p0 : Nat) (p1 : Int32) : Option (HP) := (rc [2] hp p0 (rX2_readTest hp p0 p1)).bind (fun w1 => (lp (fun (s2 : Int32 × Int32 × Int32 × HP) => (gI [2] 1 s2.2.2.2 p0).bind (fun v6 => if v6 ≤ s2.2.2.1 then some (Sum.inl (s2.1, s2.2.1, s2.2.2.2)) else (gI [2] 3 s2.2.2.2 p0).bind (fun v7 => if v7 = 0 then (rc [2] s2.2.2.2 p0 (FX4_here s2.2.2.2 p0)).bind (fun v8 => jn (A := Unit) (fun a9 => (gI [2] 2 s2.2.2.2 p0).bind (fun v11 => (sI [2] 2 s2.2.2.2 p0 (v11 + (1 : Int32))).bind (fun hp12 => (rc [2] hp12 p0 (FX2_landSkip hp12 p0 s2.1)).bind (fun w13 => jn (A := Int32 × Int32 × HP) (fun a14 => (rc [2] a14.2.2 p0 (rX2_readTest a14.2.2 p0 p1)).bind (fun w16 => vl (s2.2.2.1 + (1 : Int32)) (fun x17 => some (Sum.inr (a14.1, a14.2.1, x17, w16))))) (fun J15 => if v8 = (38 : Int32) then (gI [2] 9 w13 p0).bind (fun v18 => (rc [2] w13 p0 (FX2_emit w13 p0 (-1000 : Int32))).bind (fun w19 => J15 (v18, s2.2.1, w19))) else (rc [2] w13 p0 (FX2_landSkip w13 p0 s2.2.1)).bind (fun w20 => (gI [2] 9 w20 p0).bind (fun v21 => (rc [2] w20 p0 (FX2_emit w20 p0 (-2000 : Int32))).bind (fun w22 => J15 ((-1 : Int32), v21, w22))))))))) (fun J10 => if v8 = (38 : Int32) then J10 () else if v8 = (124 : Int32) then J10 () else some (Sum.inl (s2.1, s2.2.1, s2.2.2.2)))) else some (Sum.inl (s2.1, s2.2.1, s2.2.2.2))))) FU ((-1 : Int32), (-1 : Int32), (0 : Int32), w1)).bind (fun (y3 : Int32 × Int32 × HP) => (rc [2] y3.2.2 p0 (FX2_landSkip y3.2.2 p0 y3.1)).bind (fun w4 => (rc [2] w4 p0 (FX2_landSkip w4 p0 y3.2.1)).bind (fun w5 => some w5))))
set_option maxHeartbeats 4000000 in
set_option maxRecDepth 100000 in
theorem cbX2_readSome (l : Launch) (D : va_G) (tg : Nat → ClassId) (bs : Nat) (sa : Nat → Nat) (rX2_readSome : HP → Nat → Int32 → Option (HP)) (rX2_readTest : HP → Nat → Int32 → Option (HP)) (Lr : Nat) (hLr : 26 ≤ Lr) (hrX2_readSome : ∀ (hp : HP) (p0 : Nat) (p1 : Int32), Ct l D tg bs sa yX2_readSome cX2_readSome 6 none Lr [.ref p0, .int p1] hp (rX2_readSome hp p0 p1) (fun _ => none) (fun r => r)) (hrX2_readTest : ∀ (hp : HP) (p0 : Nat) (p1 : Int32), Ct l D tg bs sa yX2_readTest cX2_readTest 4 none Lr [.ref p0, .int p1] hp (rX2_readTest hp p0 p1) (fun _ => none) (fun r => r)) (hp : HP) (p0 : Nat) (p1 : Int32) : Ct l D tg bs sa yX2_readSome cX2_readSome 6 none (Lr + 1) [.ref p0, .int p1] hp (FBX2_readSome rX2_readSome rX2_readTest hp p0 p1) (fun _ => none) (fun r => r) := by
  refine Ct.of (by decide) (Nat.le_of_ble_eq_true rfl) ?_
  intro V Q hVl hVd hVt hVb hVs hC
  subst hVl; subst hVd; subst hVt; subst hVb; subst hVs
  unfold FBX2_readSome
  show Zs V Q (0, 0) 6 _ _ hp [(0, .ref p0), (1, .int p1)] 0 []
  refine z_iconst hC (-1 : Int32) dX2_readSome_0 (by decide) ?_
  refine z_istore_n hC [(0, .ref p0), (1, .int p1), (2, .int (-1 : Int32))] [1, 2, 0] dX2_readSome_1 rfl (by decide) rfl ?_
  refine z_iconst hC (-1 : Int32) dX2_readSome_2 (by decide) ?_
  refine z_istore_n hC [(0, .ref p0), (1, .int p1), (2, .int (-1 : Int32)), (3, .int (-1 : Int32))] [1, 2, 3, 0] dX2_readSome_3 rfl (by decide) rfl ?_
  refine z_aload_n hC 0 dX2_readSome_4 rfl rfl ?_
  refine z_iload_n hC 1 dX2_readSome_5 rfl rfl ?_
  refine z_callVv hC (ci := 2) rfl lmRX2_69 (hrX2_readTest hp p0 p1) (Nat.le_refl _) hn0 dX2_readSome_6 rfl rfl (Nat.le_of_ble_eq_true rfl) (fun w1 => ?_)
  refine z_iconst hC (0 : Int32) dX2_readSome_9 (by decide) ?_
  refine z_istore hC [(0, .ref p0), (1, .int p1), (2, .int (-1 : Int32)), (3, .int (-1 : Int32)), (4, .int (0 : Int32))] [1, 2, 3, 4, 0] dX2_readSome_10 (by decide) rfl ?_
  refine z_lp (S := Int32 × Int32 × Int32 × HP) (Y := Int32 × Int32 × HP) (fun s2 => s2.2.2.2) (fun s2 => [(0, .ref p0), (1, .int p1), (2, .int s2.1), (3, .int s2.2.1), (4, .int s2.2.2.1)]) (fun y3 => y3.2.2) (fun y3 => [(0, .ref p0), (2, .int y3.1), (3, .int y3.2.1)]) 118 [] (fun y3 => ?_) (fun s2 => ?_) rfl rfl
  · refine z_aload_n hC 0 dX2_readSome_118 rfl rfl ?_
    refine z_iload_n hC 1 dX2_readSome_119 rfl rfl ?_
    refine z_callVv hC (ci := 2) rfl lmRX2_75 (ctX2_landSkip (vLa V) (vDa V) (vTg V) (vBs V) (vSa V) y3.2.2 p0 y3.1) (by have := hLr; omega) hn0 dX2_readSome_120 rfl rfl (Nat.le_of_ble_eq_true rfl) (fun w4 => ?_)
    refine z_aload_n hC 0 dX2_readSome_123 rfl rfl ?_
    refine z_iload_n hC 2 dX2_readSome_124 rfl rfl ?_
    refine z_callVv hC (ci := 2) rfl lmRX2_75 (ctX2_landSkip (vLa V) (vDa V) (vTg V) (vBs V) (vSa V) w4 p0 y3.2.1) (by have := hLr; omega) hn0 dX2_readSome_125 rfl rfl (Nat.le_of_ble_eq_true rfl) (fun w5 => ?_)
    exact z_vret hC (fun h => h) dX2_readSome_128
  · refine z_iload hC 4 dX2_readSome_12 rfl ?_
    refine z_aload_n hC 0 dX2_readSome_14 rfl rfl ?_
    refine z_getI hC lgRX2_72 dX2_readSome_15 (fun v6 => ?_)
    refine z_icmp_ge hC 118 dX2_readSome_18 (by decide) (fun _ => ?_) (fun _ => ?_)
    · refine z_weak [(0, .ref p0), (2, .int s2.1), (3, .int s2.2.1)] [0, 2, 3] rfl ?_
      exact z_leaf (fun h => h)
    · refine z_aload_n hC 0 dX2_readSome_21 rfl rfl ?_
      refine z_getI hC lgRX2_41 dX2_readSome_22 (fun v7 => ?_)
      refine z_if_ne hC 118 dX2_readSome_25 (by decide) (fun _ => ?_) (fun _ => ?_)
      · refine z_aload_n hC 0 dX2_readSome_28 rfl rfl ?_
        refine z_callUi hC lmRX2_47 (ctX4_here (vLa V) (vDa V) (vTg V) (vBs V) (vSa V) s2.2.2.2 p0) (by have := hLr; omega) hn0 dX2_readSome_29 rfl rfl (Nat.le_of_ble_eq_true rfl) (fun v8 => ?_)
        refine z_istore hC [(0, .ref p0), (1, .int p1), (2, .int s2.1), (3, .int s2.2.1), (4, .int s2.2.2.1), (5, .int v8)] [1, 2, 3, 4, 5, 0] dX2_readSome_32 (by decide) rfl ?_
        refine z_iload hC 5 dX2_readSome_34 rfl ?_
        refine z_bipush hC (38 : Int32) dX2_readSome_36 (by decide) ?_
        refine z_jn (A := Unit) (fun a9 => s2.2.2.2) (fun a9 => [(0, .ref p0), (1, .int p1), (2, .int s2.1), (3, .int s2.2.1), (4, .int s2.2.2.1), (5, .int v8)]) 51 (fun a9 => []) (fun a9 => ?_) (fun J10 hJ10 => ?_)
        · refine z_aload_n hC 0 dX2_readSome_51 rfl rfl ?_
          refine z_dup hC dX2_readSome_52 rfl ?_
          refine z_getI hC lgRX2_57 dX2_readSome_53 (fun v11 => ?_)
          refine z_iconst hC (1 : Int32) dX2_readSome_56 (by decide) ?_
          refine z_iadd hC dX2_readSome_57 ?_
          refine z_putI hC lpRX2_57 dX2_readSome_58 (fun hp12 => ?_)
          refine z_aload_n hC 0 dX2_readSome_61 rfl rfl ?_
          refine z_iload_n hC 2 dX2_readSome_62 rfl rfl ?_
          refine z_callVv hC (ci := 2) rfl lmRX2_75 (ctX2_landSkip (vLa V) (vDa V) (vTg V) (vBs V) (vSa V) hp12 p0 s2.1) (by have := hLr; omega) hn0 dX2_readSome_63 rfl rfl (Nat.le_of_ble_eq_true rfl) (fun w13 => ?_)
          refine z_iconst hC (-1 : Int32) dX2_readSome_66 (by decide) ?_
          refine z_istore_n hC [(0, .ref p0), (1, .int p1), (2, .int (-1 : Int32)), (3, .int s2.2.1), (4, .int s2.2.2.1), (5, .int v8)] [1, 2, 0, 3, 4, 5] dX2_readSome_67 rfl (by decide) rfl ?_
          refine z_iload hC 5 dX2_readSome_68 rfl ?_
          refine z_bipush hC (38 : Int32) dX2_readSome_70 (by decide) ?_
          refine z_jn (A := Int32 × Int32 × HP) (fun a14 => a14.2.2) (fun a14 => [(0, .ref p0), (1, .int p1), (2, .int a14.1), (3, .int a14.2.1), (4, .int s2.2.2.1)]) 107 (fun a14 => []) (fun a14 => ?_) (fun J15 hJ15 => ?_)
          · refine z_aload_n hC 0 dX2_readSome_107 rfl rfl ?_
            refine z_iload_n hC 1 dX2_readSome_108 rfl rfl ?_
            refine z_callVv hC (ci := 2) rfl lmRX2_69 (hrX2_readTest a14.2.2 p0 p1) (Nat.le_refl _) hn0 dX2_readSome_109 rfl rfl (Nat.le_of_ble_eq_true rfl) (fun w16 => ?_)
            refine z_iincv hC (1 : Int32) 4 (fun x17 => [(0, .ref p0), (1, .int p1), (2, .int a14.1), (3, .int a14.2.1), (4, .int x17)]) [1, 2, 3, 4, 0] dX2_readSome_112 rfl (by decide) (by decide) (fun _ => rfl) (fun x17 => ?_)
            refine z_goto hC 12 dX2_readSome_115 (by decide) ?_
            exact z_leaf (fun h => h)
          · refine z_icmp_ne hC 90 dX2_readSome_72 (by decide) (fun _ => ?_) (fun _ => ?_)
            · refine z_aload_n hC 0 dX2_readSome_75 rfl rfl ?_
              refine z_getI hC lgRX2_38 dX2_readSome_76 (fun v18 => ?_)
              refine z_istore_n hC [(0, .ref p0), (1, .int p1), (2, .int v18), (3, .int s2.2.1), (4, .int s2.2.2.1), (5, .int v8)] [1, 2, 0, 3, 4, 5] dX2_readSome_79 rfl (by decide) rfl ?_
              refine z_aload_n hC 0 dX2_readSome_80 rfl rfl ?_
              refine z_sipush hC (-1000 : Int32) dX2_readSome_81 (by decide) ?_
              refine z_callVv hC (ci := 2) rfl lmRX2_60 (ctX2_emit (vLa V) (vDa V) (vTg V) (vBs V) (vSa V) w13 p0 (-1000 : Int32)) (by have := hLr; omega) hn0 dX2_readSome_84 rfl rfl (Nat.le_of_ble_eq_true rfl) (fun w19 => ?_)
              refine z_goto hC 107 dX2_readSome_87 (by decide) ?_
              refine z_weak [(0, .ref p0), (1, .int p1), (2, .int v18), (3, .int s2.2.1), (4, .int s2.2.2.1)] [0, 1, 2, 3, 4] rfl ?_
              exact hJ15 (v18, s2.2.1, w19)
            · refine z_aload_n hC 0 dX2_readSome_90 rfl rfl ?_
              refine z_iload_n hC 3 dX2_readSome_91 rfl rfl ?_
              refine z_callVv hC (ci := 2) rfl lmRX2_75 (ctX2_landSkip (vLa V) (vDa V) (vTg V) (vBs V) (vSa V) w13 p0 s2.2.1) (by have := hLr; omega) hn0 dX2_readSome_92 rfl rfl (Nat.le_of_ble_eq_true rfl) (fun w20 => ?_)
              refine z_aload_n hC 0 dX2_readSome_95 rfl rfl ?_
              refine z_getI hC lgRX2_38 dX2_readSome_96 (fun v21 => ?_)
              refine z_istore_n hC [(0, .ref p0), (1, .int p1), (2, .int (-1 : Int32)), (3, .int v21), (4, .int s2.2.2.1), (5, .int v8)] [1, 2, 3, 0, 4, 5] dX2_readSome_99 rfl (by decide) rfl ?_
              refine z_aload_n hC 0 dX2_readSome_100 rfl rfl ?_
              refine z_sipush hC (-2000 : Int32) dX2_readSome_101 (by decide) ?_
              refine z_callVv hC (ci := 2) rfl lmRX2_60 (ctX2_emit (vLa V) (vDa V) (vTg V) (vBs V) (vSa V) w20 p0 (-2000 : Int32)) (by have := hLr; omega) hn0 dX2_readSome_104 rfl rfl (Nat.le_of_ble_eq_true rfl) (fun w22 => ?_)
              refine z_weak [(0, .ref p0), (1, .int p1), (2, .int (-1 : Int32)), (3, .int v21), (4, .int s2.2.2.1)] [0, 1, 2, 3, 4] rfl ?_
              exact hJ15 ((-1 : Int32), v21, w22)
        · refine z_icmp_eq hC 51 dX2_readSome_38 (by decide) (fun _ => ?_) (fun _ => ?_)
          · exact hJ10 ()
          · refine z_iload hC 5 dX2_readSome_41 rfl ?_
            refine z_bipush hC (124 : Int32) dX2_readSome_43 (by decide) ?_
            refine z_icmp_eq hC 51 dX2_readSome_45 (by decide) (fun _ => ?_) (fun _ => ?_)
            · exact hJ10 ()
            · refine z_goto hC 118 dX2_readSome_48 (by decide) ?_
              refine z_weak [(0, .ref p0), (2, .int s2.1), (3, .int s2.2.1)] [0, 2, 3] rfl ?_
              exact z_leaf (fun h => h)
      · refine z_weak [(0, .ref p0), (2, .int s2.1), (3, .int s2.2.1)] [0, 2, 3] rfl ?_
        exact z_leaf (fun h => h)
theorem dX2_readTest_0 : decode cX2_readTest 0 = .ok (.aload_n 0, 1) := by decide +kernel
theorem dX2_readTest_1 : decode cX2_readTest 1 = .ok (.invokevirtual 47, 3) := by decide +kernel
theorem dX2_readTest_4 : decode cX2_readTest 4 = .ok (.istore_n 2, 1) := by decide +kernel
theorem dX2_readTest_5 : decode cX2_readTest 5 = .ok (.iload_n 2, 1) := by decide +kernel
theorem dX2_readTest_6 : decode cX2_readTest 6 = .ok (.bipush 33, 2) := by decide +kernel
theorem dX2_readTest_8 : decode cX2_readTest 8 = .ok (.if_icmp .ne 31, 3) := by decide +kernel
theorem dX2_readTest_11 : decode cX2_readTest 11 = .ok (.aload_n 0, 1) := by decide +kernel
theorem dX2_readTest_12 : decode cX2_readTest 12 = .ok (.iload_n 1, 1) := by decide +kernel
theorem dX2_readTest_13 : decode cX2_readTest 13 = .ok (.invokevirtual 78, 3) := by decide +kernel
theorem dX2_readTest_16 : decode cX2_readTest 16 = .ok (.aload_n 0, 1) := by decide +kernel
theorem dX2_readTest_17 : decode cX2_readTest 17 = .ok (.getfield 41, 3) := by decide +kernel
theorem dX2_readTest_20 : decode cX2_readTest 20 = .ok (.ifCond .ne 108, 3) := by decide +kernel
theorem dX2_readTest_23 : decode cX2_readTest 23 = .ok (.aload_n 0, 1) := by decide +kernel
theorem dX2_readTest_24 : decode cX2_readTest 24 = .ok (.iload_n 1, 1) := by decide +kernel
theorem dX2_readTest_25 : decode cX2_readTest 25 = .ok (.iconst 1, 1) := by decide +kernel
theorem dX2_readTest_26 : decode cX2_readTest 26 = .ok (.iadd, 1) := by decide +kernel
theorem dX2_readTest_27 : decode cX2_readTest 27 = .ok (.invokevirtual 69, 3) := by decide +kernel
theorem dX2_readTest_30 : decode cX2_readTest 30 = .ok (.aload_n 0, 1) := by decide +kernel
theorem dX2_readTest_31 : decode cX2_readTest 31 = .ok (.iload_n 2, 1) := by decide +kernel
theorem dX2_readTest_32 : decode cX2_readTest 32 = .ok (.ineg, 1) := by decide +kernel
theorem dX2_readTest_33 : decode cX2_readTest 33 = .ok (.invokevirtual 60, 3) := by decide +kernel
theorem dX2_readTest_36 : decode cX2_readTest 36 = .ok (.goto 92, 3) := by decide +kernel
theorem dX2_readTest_39 : decode cX2_readTest 39 = .ok (.iload_n 2, 1) := by decide +kernel
theorem dX2_readTest_40 : decode cX2_readTest 40 = .ok (.bipush 40, 2) := by decide +kernel
theorem dX2_readTest_42 : decode cX2_readTest 42 = .ok (.if_icmp .ne 31, 3) := by decide +kernel
theorem dX2_readTest_45 : decode cX2_readTest 45 = .ok (.aload_n 0, 1) := by decide +kernel
theorem dX2_readTest_46 : decode cX2_readTest 46 = .ok (.iload_n 1, 1) := by decide +kernel
theorem dX2_readTest_47 : decode cX2_readTest 47 = .ok (.invokevirtual 78, 3) := by decide +kernel
theorem dX2_readTest_50 : decode cX2_readTest 50 = .ok (.aload_n 0, 1) := by decide +kernel
theorem dX2_readTest_51 : decode cX2_readTest 51 = .ok (.getfield 41, 3) := by decide +kernel
theorem dX2_readTest_54 : decode cX2_readTest 54 = .ok (.ifCond .ne 74, 3) := by decide +kernel
theorem dX2_readTest_57 : decode cX2_readTest 57 = .ok (.aload_n 0, 1) := by decide +kernel
theorem dX2_readTest_58 : decode cX2_readTest 58 = .ok (.iload_n 1, 1) := by decide +kernel
theorem dX2_readTest_59 : decode cX2_readTest 59 = .ok (.iconst 1, 1) := by decide +kernel
theorem dX2_readTest_60 : decode cX2_readTest 60 = .ok (.iadd, 1) := by decide +kernel
theorem dX2_readTest_61 : decode cX2_readTest 61 = .ok (.invokevirtual 66, 3) := by decide +kernel
theorem dX2_readTest_64 : decode cX2_readTest 64 = .ok (.aload_n 0, 1) := by decide +kernel
theorem dX2_readTest_65 : decode cX2_readTest 65 = .ok (.bipush 41, 2) := by decide +kernel
theorem dX2_readTest_67 : decode cX2_readTest 67 = .ok (.invokevirtual 51, 3) := by decide +kernel
theorem dX2_readTest_70 : decode cX2_readTest 70 = .ok (.goto 58, 3) := by decide +kernel
theorem dX2_readTest_73 : decode cX2_readTest 73 = .ok (.aload_n 0, 1) := by decide +kernel
theorem dX2_readTest_74 : decode cX2_readTest 74 = .ok (.iload_n 1, 1) := by decide +kernel
theorem dX2_readTest_75 : decode cX2_readTest 75 = .ok (.invokevirtual 63, 3) := by decide +kernel
theorem dX2_readTest_78 : decode cX2_readTest 78 = .ok (.aload_n 0, 1) := by decide +kernel
theorem dX2_readTest_79 : decode cX2_readTest 79 = .ok (.invokevirtual 47, 3) := by decide +kernel
theorem dX2_readTest_82 : decode cX2_readTest 82 = .ok (.istore_n 3, 1) := by decide +kernel
theorem dX2_readTest_83 : decode cX2_readTest 83 = .ok (.iload_n 3, 1) := by decide +kernel
theorem dX2_readTest_84 : decode cX2_readTest 84 = .ok (.bipush 60, 2) := by decide +kernel
theorem dX2_readTest_86 : decode cX2_readTest 86 = .ok (.if_icmp .eq 21, 3) := by decide +kernel
theorem dX2_readTest_89 : decode cX2_readTest 89 = .ok (.iload_n 3, 1) := by decide +kernel
theorem dX2_readTest_90 : decode cX2_readTest 90 = .ok (.bipush 62, 2) := by decide +kernel
theorem dX2_readTest_92 : decode cX2_readTest 92 = .ok (.if_icmp .eq 15, 3) := by decide +kernel
theorem dX2_readTest_95 : decode cX2_readTest 95 = .ok (.iload_n 3, 1) := by decide +kernel
theorem dX2_readTest_96 : decode cX2_readTest 96 = .ok (.bipush 61, 2) := by decide +kernel
theorem dX2_readTest_98 : decode cX2_readTest 98 = .ok (.if_icmp .eq 9, 3) := by decide +kernel
theorem dX2_readTest_101 : decode cX2_readTest 101 = .ok (.aload_n 0, 1) := by decide +kernel
theorem dX2_readTest_102 : decode cX2_readTest 102 = .ok (.iconst 1, 1) := by decide +kernel
theorem dX2_readTest_103 : decode cX2_readTest 103 = .ok (.invokevirtual 54, 3) := by decide +kernel
theorem dX2_readTest_106 : decode cX2_readTest 106 = .ok (.return_, 1) := by decide +kernel
theorem dX2_readTest_107 : decode cX2_readTest 107 = .ok (.aload_n 0, 1) := by decide +kernel
theorem dX2_readTest_108 : decode cX2_readTest 108 = .ok (.dup, 1) := by decide +kernel
theorem dX2_readTest_109 : decode cX2_readTest 109 = .ok (.getfield 57, 3) := by decide +kernel
theorem dX2_readTest_112 : decode cX2_readTest 112 = .ok (.iconst 1, 1) := by decide +kernel
theorem dX2_readTest_113 : decode cX2_readTest 113 = .ok (.iadd, 1) := by decide +kernel
theorem dX2_readTest_114 : decode cX2_readTest 114 = .ok (.putfield 57, 3) := by decide +kernel
theorem dX2_readTest_117 : decode cX2_readTest 117 = .ok (.aload_n 0, 1) := by decide +kernel
theorem dX2_readTest_118 : decode cX2_readTest 118 = .ok (.iload_n 1, 1) := by decide +kernel
theorem dX2_readTest_119 : decode cX2_readTest 119 = .ok (.invokevirtual 63, 3) := by decide +kernel
theorem dX2_readTest_122 : decode cX2_readTest 122 = .ok (.aload_n 0, 1) := by decide +kernel
theorem dX2_readTest_123 : decode cX2_readTest 123 = .ok (.iload_n 3, 1) := by decide +kernel
theorem dX2_readTest_124 : decode cX2_readTest 124 = .ok (.ineg, 1) := by decide +kernel
theorem dX2_readTest_125 : decode cX2_readTest 125 = .ok (.invokevirtual 60, 3) := by decide +kernel
theorem dX2_readTest_128 : decode cX2_readTest 128 = .ok (.return_, 1) := by decide +kernel
def FBX2_readTest (rX2_readSome : HP → Nat → Int32 → Option (HP)) (rX2_readTest : HP → Nat → Int32 → Option (HP)) (hp : HP) (p0 : Nat) (p1 : Int32) : Option (HP) := (rc [2] hp p0 (FX4_here hp p0)).bind (fun v1 => if v1 = (33 : Int32) then (rc [2] hp p0 (FX4_open hp p0 p1)).bind (fun w2 => (gI [2] 3 w2 p0).bind (fun v3 => if v3 = 0 then (rc [2] w2 p0 (rX2_readTest w2 p0 (p1 + (1 : Int32)))).bind (fun w4 => (rc [2] w4 p0 (FX2_emit w4 p0 (-v1))).bind (fun w5 => some w5)) else some w2)) else if v1 = (40 : Int32) then (rc [2] hp p0 (FX4_open hp p0 p1)).bind (fun w6 => (gI [2] 3 w6 p0).bind (fun v7 => if v7 = 0 then (rc [2] w6 p0 (rX2_readSome w6 p0 (p1 + (1 : Int32)))).bind (fun w8 => (rc [2] w8 p0 (FX4_expect w8 p0 (41 : Int32))).bind (fun w9 => some w9)) else some w6)) else (rc [2] hp p0 (FX2_readSum 20 hp p0 p1)).bind (fun w10 => (rc [2] w10 p0 (FX4_here w10 p0)).bind (fun v11 => jn (A := Unit) (fun a12 => (gI [2] 2 w10 p0).bind (fun v14 => (sI [2] 2 w10 p0 (v14 + (1 : Int32))).bind (fun hp15 => (rc [2] hp15 p0 (FX2_readSum 20 hp15 p0 p1)).bind (fun w16 => (rc [2] w16 p0 (FX2_emit w16 p0 (-v11))).bind (fun w17 => some w17))))) (fun J13 => if v11 = (60 : Int32) then J13 () else if v11 = (62 : Int32) then J13 () else if v11 = (61 : Int32) then J13 () else (rc [2] w10 p0 (FX4_fail w10 p0 (1 : Int32))).bind (fun w18 => some w18)))))
set_option maxHeartbeats 4000000 in
set_option maxRecDepth 100000 in
theorem cbX2_readTest (l : Launch) (D : va_G) (tg : Nat → ClassId) (bs : Nat) (sa : Nat → Nat) (rX2_readSome : HP → Nat → Int32 → Option (HP)) (rX2_readTest : HP → Nat → Int32 → Option (HP)) (Lr : Nat) (hLr : 26 ≤ Lr) (hrX2_readSome : ∀ (hp : HP) (p0 : Nat) (p1 : Int32), Ct l D tg bs sa yX2_readSome cX2_readSome 6 none Lr [.ref p0, .int p1] hp (rX2_readSome hp p0 p1) (fun _ => none) (fun r => r)) (hrX2_readTest : ∀ (hp : HP) (p0 : Nat) (p1 : Int32), Ct l D tg bs sa yX2_readTest cX2_readTest 4 none Lr [.ref p0, .int p1] hp (rX2_readTest hp p0 p1) (fun _ => none) (fun r => r)) (hp : HP) (p0 : Nat) (p1 : Int32) : Ct l D tg bs sa yX2_readTest cX2_readTest 4 none (Lr + 1) [.ref p0, .int p1] hp (FBX2_readTest rX2_readSome rX2_readTest hp p0 p1) (fun _ => none) (fun r => r) := by
  refine Ct.of (by decide) (Nat.le_of_ble_eq_true rfl) ?_
  intro V Q hVl hVd hVt hVb hVs hC
  subst hVl; subst hVd; subst hVt; subst hVb; subst hVs
  unfold FBX2_readTest
  show Zs V Q (0, 0) 4 _ _ hp [(0, .ref p0), (1, .int p1)] 0 []
  refine z_aload_n hC 0 dX2_readTest_0 rfl rfl ?_
  refine z_callUi hC lmRX2_47 (ctX4_here (vLa V) (vDa V) (vTg V) (vBs V) (vSa V) hp p0) (by have := hLr; omega) hn0 dX2_readTest_1 rfl rfl (Nat.le_of_ble_eq_true rfl) (fun v1 => ?_)
  refine z_istore_n hC [(0, .ref p0), (1, .int p1), (2, .int v1)] [1, 2, 0] dX2_readTest_4 rfl (by decide) rfl ?_
  refine z_iload_n hC 2 dX2_readTest_5 rfl rfl ?_
  refine z_bipush hC (33 : Int32) dX2_readTest_6 (by decide) ?_
  refine z_icmp_ne hC 39 dX2_readTest_8 (by decide) (fun _ => ?_) (fun _ => ?_)
  · refine z_aload_n hC 0 dX2_readTest_11 rfl rfl ?_
    refine z_iload_n hC 1 dX2_readTest_12 rfl rfl ?_
    refine z_callUv hC lmRX2_78 (ctX4_open (vLa V) (vDa V) (vTg V) (vBs V) (vSa V) hp p0 p1) (by have := hLr; omega) hn0 dX2_readTest_13 rfl rfl (Nat.le_of_ble_eq_true rfl) (fun w2 => ?_)
    refine z_aload_n hC 0 dX2_readTest_16 rfl rfl ?_
    refine z_getI hC lgRX2_41 dX2_readTest_17 (fun v3 => ?_)
    refine z_if_ne hC 128 dX2_readTest_20 (by decide) (fun _ => ?_) (fun _ => ?_)
    · refine z_aload_n hC 0 dX2_readTest_23 rfl rfl ?_
      refine z_iload_n hC 1 dX2_readTest_24 rfl rfl ?_
      refine z_iconst hC (1 : Int32) dX2_readTest_25 (by decide) ?_
      refine z_iadd hC dX2_readTest_26 ?_
      refine z_callVv hC (ci := 2) rfl lmRX2_69 (hrX2_readTest w2 p0 (p1 + (1 : Int32))) (Nat.le_refl _) hn0 dX2_readTest_27 rfl rfl (Nat.le_of_ble_eq_true rfl) (fun w4 => ?_)
      refine z_aload_n hC 0 dX2_readTest_30 rfl rfl ?_
      refine z_iload_n hC 2 dX2_readTest_31 rfl rfl ?_
      refine z_ineg hC dX2_readTest_32 ?_
      refine z_callVv hC (ci := 2) rfl lmRX2_60 (ctX2_emit (vLa V) (vDa V) (vTg V) (vBs V) (vSa V) w4 p0 (-v1)) (by have := hLr; omega) hn0 dX2_readTest_33 rfl rfl (Nat.le_of_ble_eq_true rfl) (fun w5 => ?_)
      refine z_goto hC 128 dX2_readTest_36 (by decide) ?_
      exact z_vret hC (fun h => h) dX2_readTest_128
    · exact z_vret hC (fun h => h) dX2_readTest_128
  · refine z_iload_n hC 2 dX2_readTest_39 rfl rfl ?_
    refine z_bipush hC (40 : Int32) dX2_readTest_40 (by decide) ?_
    refine z_icmp_ne hC 73 dX2_readTest_42 (by decide) (fun _ => ?_) (fun _ => ?_)
    · refine z_aload_n hC 0 dX2_readTest_45 rfl rfl ?_
      refine z_iload_n hC 1 dX2_readTest_46 rfl rfl ?_
      refine z_callUv hC lmRX2_78 (ctX4_open (vLa V) (vDa V) (vTg V) (vBs V) (vSa V) hp p0 p1) (by have := hLr; omega) hn0 dX2_readTest_47 rfl rfl (Nat.le_of_ble_eq_true rfl) (fun w6 => ?_)
      refine z_aload_n hC 0 dX2_readTest_50 rfl rfl ?_
      refine z_getI hC lgRX2_41 dX2_readTest_51 (fun v7 => ?_)
      refine z_if_ne hC 128 dX2_readTest_54 (by decide) (fun _ => ?_) (fun _ => ?_)
      · refine z_aload_n hC 0 dX2_readTest_57 rfl rfl ?_
        refine z_iload_n hC 1 dX2_readTest_58 rfl rfl ?_
        refine z_iconst hC (1 : Int32) dX2_readTest_59 (by decide) ?_
        refine z_iadd hC dX2_readTest_60 ?_
        refine z_callVv hC (ci := 2) rfl lmRX2_66 (hrX2_readSome w6 p0 (p1 + (1 : Int32))) (Nat.le_refl _) hn0 dX2_readTest_61 rfl rfl (Nat.le_of_ble_eq_true rfl) (fun w8 => ?_)
        refine z_aload_n hC 0 dX2_readTest_64 rfl rfl ?_
        refine z_bipush hC (41 : Int32) dX2_readTest_65 (by decide) ?_
        refine z_callUv hC lmRX2_51 (ctX4_expect (vLa V) (vDa V) (vTg V) (vBs V) (vSa V) w8 p0 (41 : Int32)) (by have := hLr; omega) hn0 dX2_readTest_67 rfl rfl (Nat.le_of_ble_eq_true rfl) (fun w9 => ?_)
        refine z_goto hC 128 dX2_readTest_70 (by decide) ?_
        exact z_vret hC (fun h => h) dX2_readTest_128
      · exact z_vret hC (fun h => h) dX2_readTest_128
    · refine z_aload_n hC 0 dX2_readTest_73 rfl rfl ?_
      refine z_iload_n hC 1 dX2_readTest_74 rfl rfl ?_
      refine z_callVv hC (ci := 2) rfl lmRX2_63 (ctX2_readSum (vLa V) (vDa V) (vTg V) (vBs V) (vSa V) 20 hp p0 p1) (by have := hLr; omega) hn0 dX2_readTest_75 rfl rfl (Nat.le_of_ble_eq_true rfl) (fun w10 => ?_)
      refine z_aload_n hC 0 dX2_readTest_78 rfl rfl ?_
      refine z_callUi hC lmRX2_47 (ctX4_here (vLa V) (vDa V) (vTg V) (vBs V) (vSa V) w10 p0) (by have := hLr; omega) hn0 dX2_readTest_79 rfl rfl (Nat.le_of_ble_eq_true rfl) (fun v11 => ?_)
      refine z_istore_n hC [(0, .ref p0), (1, .int p1), (2, .int v1), (3, .int v11)] [1, 2, 3, 0] dX2_readTest_82 rfl (by decide) rfl ?_
      refine z_iload_n hC 3 dX2_readTest_83 rfl rfl ?_
      refine z_bipush hC (60 : Int32) dX2_readTest_84 (by decide) ?_
      refine z_jn (A := Unit) (fun a12 => w10) (fun a12 => [(0, .ref p0), (1, .int p1), (3, .int v11)]) 107 (fun a12 => []) (fun a12 => ?_) (fun J13 hJ13 => ?_)
      · refine z_aload_n hC 0 dX2_readTest_107 rfl rfl ?_
        refine z_dup hC dX2_readTest_108 rfl ?_
        refine z_getI hC lgRX2_57 dX2_readTest_109 (fun v14 => ?_)
        refine z_iconst hC (1 : Int32) dX2_readTest_112 (by decide) ?_
        refine z_iadd hC dX2_readTest_113 ?_
        refine z_putI hC lpRX2_57 dX2_readTest_114 (fun hp15 => ?_)
        refine z_aload_n hC 0 dX2_readTest_117 rfl rfl ?_
        refine z_iload_n hC 1 dX2_readTest_118 rfl rfl ?_
        refine z_callVv hC (ci := 2) rfl lmRX2_63 (ctX2_readSum (vLa V) (vDa V) (vTg V) (vBs V) (vSa V) 20 hp15 p0 p1) (by have := hLr; omega) hn0 dX2_readTest_119 rfl rfl (Nat.le_of_ble_eq_true rfl) (fun w16 => ?_)
        refine z_aload_n hC 0 dX2_readTest_122 rfl rfl ?_
        refine z_iload_n hC 2 dX2_readTest_123 rfl rfl ?_
        refine z_ineg hC dX2_readTest_124 ?_
        refine z_callVv hC (ci := 2) rfl lmRX2_60 (ctX2_emit (vLa V) (vDa V) (vTg V) (vBs V) (vSa V) w16 p0 (-v11)) (by have := hLr; omega) hn0 dX2_readTest_125 rfl rfl (Nat.le_of_ble_eq_true rfl) (fun w17 => ?_)
        exact z_vret hC (fun h => h) dX2_readTest_128
      · refine z_icmp_eq hC 107 dX2_readTest_86 (by decide) (fun _ => ?_) (fun _ => ?_)
        · refine z_weak [(0, .ref p0), (1, .int p1), (3, .int v11)] [0, 1, 3] rfl ?_
          exact hJ13 ()
        · refine z_iload_n hC 3 dX2_readTest_89 rfl rfl ?_
          refine z_bipush hC (62 : Int32) dX2_readTest_90 (by decide) ?_
          refine z_icmp_eq hC 107 dX2_readTest_92 (by decide) (fun _ => ?_) (fun _ => ?_)
          · refine z_weak [(0, .ref p0), (1, .int p1), (3, .int v11)] [0, 1, 3] rfl ?_
            exact hJ13 ()
          · refine z_iload_n hC 3 dX2_readTest_95 rfl rfl ?_
            refine z_bipush hC (61 : Int32) dX2_readTest_96 (by decide) ?_
            refine z_icmp_eq hC 107 dX2_readTest_98 (by decide) (fun _ => ?_) (fun _ => ?_)
            · refine z_weak [(0, .ref p0), (1, .int p1), (3, .int v11)] [0, 1, 3] rfl ?_
              exact hJ13 ()
            · refine z_aload_n hC 0 dX2_readTest_101 rfl rfl ?_
              refine z_iconst hC (1 : Int32) dX2_readTest_102 (by decide) ?_
              refine z_callUv hC lmRX2_54 (ctX4_fail (vLa V) (vDa V) (vTg V) (vBs V) (vSa V) w10 p0 (1 : Int32)) (by have := hLr; omega) hn0 dX2_readTest_103 rfl rfl (Nat.le_of_ble_eq_true rfl) (fun w18 => ?_)
              exact z_vret hC (fun h => h) dX2_readTest_106
def FGSO : Nat → (HP → Nat → Int32 → Option (HP)) × (HP → Nat → Int32 → Option (HP))
  | 0 => ((fun _ _ _ => none), (fun _ _ _ => none))
  | d + 1 => (FBX2_readSome (FGSO d).1 (FGSO d).2, FBX2_readTest (FGSO d).1 (FGSO d).2)
def FX2_readSome (d : Nat) : HP → Nat → Int32 → Option (HP) := (FGSO d).1
def FX2_readTest (d : Nat) : HP → Nat → Int32 → Option (HP) := (FGSO d).2
theorem cgSO (l : Launch) (D : va_G) (tg : Nat → ClassId) (bs : Nat) (sa : Nat → Nat) : ∀ d : Nat, (∀ (hp : HP) (p0 : Nat) (p1 : Int32), Ct l D tg bs sa yX2_readSome cX2_readSome 6 none (26 + d) [.ref p0, .int p1] hp (FX2_readSome d hp p0 p1) (fun _ => none) (fun r => r)) ∧ (∀ (hp : HP) (p0 : Nat) (p1 : Int32), Ct l D tg bs sa yX2_readTest cX2_readTest 4 none (26 + d) [.ref p0, .int p1] hp (FX2_readTest d hp p0 p1) (fun _ => none) (fun r => r)) := by
  intro d
  induction d with
  | zero => exact ⟨(fun hp _ _ x hx => by cases hx), (fun hp _ _ x hx => by cases hx)⟩
  | succ d ih =>
    exact ⟨cbX2_readSome l D tg bs sa (FX2_readSome d) (FX2_readTest d) (26 + d) (Nat.le_add_right _ _) ih.1 ih.2, cbX2_readTest l D tg bs sa (FX2_readSome d) (FX2_readTest d) (26 + d) (Nat.le_add_right _ _) ih.1 ih.2⟩
theorem ctX2_readSome (l : Launch) (D : va_G) (tg : Nat → ClassId) (bs : Nat) (sa : Nat → Nat) (d : Nat) (hp : HP) (p0 : Nat) (p1 : Int32) : Ct l D tg bs sa yX2_readSome cX2_readSome 6 none (26 + d) [.ref p0, .int p1] hp (FX2_readSome d hp p0 p1) (fun _ => none) (fun r => r) := (cgSO l D tg bs sa d).1 hp p0 p1
theorem ctX2_readTest (l : Launch) (D : va_G) (tg : Nat → ClassId) (bs : Nat) (sa : Nat → Nat) (d : Nat) (hp : HP) (p0 : Nat) (p1 : Int32) : Ct l D tg bs sa yX2_readTest cX2_readTest 4 none (26 + d) [.ref p0, .int p1] hp (FX2_readTest d hp p0 p1) (fun _ => none) (fun r => r) := (cgSO l D tg bs sa d).2 hp p0 p1
theorem dX2_readRule_0 : decode cX2_readRule 0 = .ok (.aload_n 0, 1) := by decide +kernel
theorem dX2_readRule_1 : decode cX2_readRule 1 = .ok (.invokevirtual 47, 3) := by decide +kernel
theorem dX2_readRule_4 : decode cX2_readRule 4 = .ok (.istore_n 2, 1) := by decide +kernel
theorem dX2_readRule_5 : decode cX2_readRule 5 = .ok (.iload_n 2, 1) := by decide +kernel
theorem dX2_readRule_6 : decode cX2_readRule 6 = .ok (.bipush 100, 2) := by decide +kernel
theorem dX2_readRule_8 : decode cX2_readRule 8 = .ok (.if_icmp .eq 21, 3) := by decide +kernel
theorem dX2_readRule_11 : decode cX2_readRule 11 = .ok (.iload_n 2, 1) := by decide +kernel
theorem dX2_readRule_12 : decode cX2_readRule 12 = .ok (.bipush 103, 2) := by decide +kernel
theorem dX2_readRule_14 : decode cX2_readRule 14 = .ok (.if_icmp .eq 15, 3) := by decide +kernel
theorem dX2_readRule_17 : decode cX2_readRule 17 = .ok (.iload_n 2, 1) := by decide +kernel
theorem dX2_readRule_18 : decode cX2_readRule 18 = .ok (.bipush 120, 2) := by decide +kernel
theorem dX2_readRule_20 : decode cX2_readRule 20 = .ok (.if_icmp .eq 9, 3) := by decide +kernel
theorem dX2_readRule_23 : decode cX2_readRule 23 = .ok (.aload_n 0, 1) := by decide +kernel
theorem dX2_readRule_24 : decode cX2_readRule 24 = .ok (.iconst 1, 1) := by decide +kernel
theorem dX2_readRule_25 : decode cX2_readRule 25 = .ok (.invokevirtual 54, 3) := by decide +kernel
theorem dX2_readRule_28 : decode cX2_readRule 28 = .ok (.return_, 1) := by decide +kernel
theorem dX2_readRule_29 : decode cX2_readRule 29 = .ok (.iload_n 1, 1) := by decide +kernel
theorem dX2_readRule_30 : decode cX2_readRule 30 = .ok (.ifCond .lt 9, 3) := by decide +kernel
theorem dX2_readRule_33 : decode cX2_readRule 33 = .ok (.iload_n 1, 1) := by decide +kernel
theorem dX2_readRule_34 : decode cX2_readRule 34 = .ok (.bipush 16, 2) := by decide +kernel
theorem dX2_readRule_36 : decode cX2_readRule 36 = .ok (.if_icmp .lt 9, 3) := by decide +kernel
theorem dX2_readRule_39 : decode cX2_readRule 39 = .ok (.aload_n 0, 1) := by decide +kernel
theorem dX2_readRule_40 : decode cX2_readRule 40 = .ok (.iconst 4, 1) := by decide +kernel
theorem dX2_readRule_41 : decode cX2_readRule 41 = .ok (.invokevirtual 54, 3) := by decide +kernel
theorem dX2_readRule_44 : decode cX2_readRule 44 = .ok (.return_, 1) := by decide +kernel
theorem dX2_readRule_45 : decode cX2_readRule 45 = .ok (.aload_n 0, 1) := by decide +kernel
theorem dX2_readRule_46 : decode cX2_readRule 46 = .ok (.dup, 1) := by decide +kernel
theorem dX2_readRule_47 : decode cX2_readRule 47 = .ok (.getfield 57, 3) := by decide +kernel
theorem dX2_readRule_50 : decode cX2_readRule 50 = .ok (.iconst 1, 1) := by decide +kernel
theorem dX2_readRule_51 : decode cX2_readRule 51 = .ok (.iadd, 1) := by decide +kernel
theorem dX2_readRule_52 : decode cX2_readRule 52 = .ok (.putfield 57, 3) := by decide +kernel
theorem dX2_readRule_55 : decode cX2_readRule 55 = .ok (.aload_n 0, 1) := by decide +kernel
theorem dX2_readRule_56 : decode cX2_readRule 56 = .ok (.getfield 9, 3) := by decide +kernel
theorem dX2_readRule_59 : decode cX2_readRule 59 = .ok (.iload_n 1, 1) := by decide +kernel
theorem dX2_readRule_60 : decode cX2_readRule 60 = .ok (.iload_n 2, 1) := by decide +kernel
theorem dX2_readRule_61 : decode cX2_readRule 61 = .ok (.iastore, 1) := by decide +kernel
theorem dX2_readRule_62 : decode cX2_readRule 62 = .ok (.aload_n 0, 1) := by decide +kernel
theorem dX2_readRule_63 : decode cX2_readRule 63 = .ok (.getfield 15, 3) := by decide +kernel
theorem dX2_readRule_66 : decode cX2_readRule 66 = .ok (.iload_n 1, 1) := by decide +kernel
theorem dX2_readRule_67 : decode cX2_readRule 67 = .ok (.aload_n 0, 1) := by decide +kernel
theorem dX2_readRule_68 : decode cX2_readRule 68 = .ok (.getfield 38, 3) := by decide +kernel
theorem dX2_readRule_71 : decode cX2_readRule 71 = .ok (.iastore, 1) := by decide +kernel
theorem dX2_readRule_72 : decode cX2_readRule 72 = .ok (.aload_n 0, 1) := by decide +kernel
theorem dX2_readRule_73 : decode cX2_readRule 73 = .ok (.iload_n 1, 1) := by decide +kernel
theorem dX2_readRule_74 : decode cX2_readRule 74 = .ok (.iconst 1, 1) := by decide +kernel
theorem dX2_readRule_75 : decode cX2_readRule 75 = .ok (.iadd, 1) := by decide +kernel
theorem dX2_readRule_76 : decode cX2_readRule 76 = .ok (.putfield 34, 3) := by decide +kernel
theorem dX2_readRule_79 : decode cX2_readRule 79 = .ok (.iload_n 2, 1) := by decide +kernel
theorem dX2_readRule_80 : decode cX2_readRule 80 = .ok (.bipush 120, 2) := by decide +kernel
theorem dX2_readRule_82 : decode cX2_readRule 82 = .ok (.if_icmp .ne 11, 3) := by decide +kernel
theorem dX2_readRule_85 : decode cX2_readRule 85 = .ok (.aload_n 0, 1) := by decide +kernel
theorem dX2_readRule_86 : decode cX2_readRule 86 = .ok (.iconst 1, 1) := by decide +kernel
theorem dX2_readRule_87 : decode cX2_readRule 87 = .ok (.invokevirtual 60, 3) := by decide +kernel
theorem dX2_readRule_90 : decode cX2_readRule 90 = .ok (.goto 8, 3) := by decide +kernel
theorem dX2_readRule_93 : decode cX2_readRule 93 = .ok (.aload_n 0, 1) := by decide +kernel
theorem dX2_readRule_94 : decode cX2_readRule 94 = .ok (.iconst 0, 1) := by decide +kernel
theorem dX2_readRule_95 : decode cX2_readRule 95 = .ok (.invokevirtual 63, 3) := by decide +kernel
theorem dX2_readRule_98 : decode cX2_readRule 98 = .ok (.aload_n 0, 1) := by decide +kernel
theorem dX2_readRule_99 : decode cX2_readRule 99 = .ok (.bipush (-41), 2) := by decide +kernel
theorem dX2_readRule_101 : decode cX2_readRule 101 = .ok (.invokevirtual 60, 3) := by decide +kernel
theorem dX2_readRule_104 : decode cX2_readRule 104 = .ok (.aload_n 0, 1) := by decide +kernel
theorem dX2_readRule_105 : decode cX2_readRule 105 = .ok (.getfield 18, 3) := by decide +kernel
theorem dX2_readRule_108 : decode cX2_readRule 108 = .ok (.iload_n 1, 1) := by decide +kernel
theorem dX2_readRule_109 : decode cX2_readRule 109 = .ok (.aload_n 0, 1) := by decide +kernel
theorem dX2_readRule_110 : decode cX2_readRule 110 = .ok (.getfield 38, 3) := by decide +kernel
theorem dX2_readRule_113 : decode cX2_readRule 113 = .ok (.iastore, 1) := by decide +kernel
theorem dX2_readRule_114 : decode cX2_readRule 114 = .ok (.aload_n 0, 1) := by decide +kernel
theorem dX2_readRule_115 : decode cX2_readRule 115 = .ok (.bipush 40, 2) := by decide +kernel
theorem dX2_readRule_117 : decode cX2_readRule 117 = .ok (.invokevirtual 51, 3) := by decide +kernel
theorem dX2_readRule_120 : decode cX2_readRule 120 = .ok (.aload_n 0, 1) := by decide +kernel
theorem dX2_readRule_121 : decode cX2_readRule 121 = .ok (.iconst 1, 1) := by decide +kernel
theorem dX2_readRule_122 : decode cX2_readRule 122 = .ok (.invokevirtual 66, 3) := by decide +kernel
theorem dX2_readRule_125 : decode cX2_readRule 125 = .ok (.aload_n 0, 1) := by decide +kernel
theorem dX2_readRule_126 : decode cX2_readRule 126 = .ok (.bipush 41, 2) := by decide +kernel
theorem dX2_readRule_128 : decode cX2_readRule 128 = .ok (.invokevirtual 51, 3) := by decide +kernel
theorem dX2_readRule_131 : decode cX2_readRule 131 = .ok (.aload_n 0, 1) := by decide +kernel
theorem dX2_readRule_132 : decode cX2_readRule 132 = .ok (.bipush (-41), 2) := by decide +kernel
theorem dX2_readRule_134 : decode cX2_readRule 134 = .ok (.invokevirtual 60, 3) := by decide +kernel
theorem dX2_readRule_137 : decode cX2_readRule 137 = .ok (.return_, 1) := by decide +kernel
def FX2_readRule (hp : HP) (p0 : Nat) (p1 : Int32) : Option (HP) := (rc [2] hp p0 (FX4_here hp p0)).bind (fun v1 => jn (A := Unit) (fun a2 => jn (A := Unit) (fun a4 => (rc [2] hp p0 (FX4_fail hp p0 (4 : Int32))).bind (fun w6 => some w6)) (fun J5 => if p1 < 0 then J5 () else if p1 < (16 : Int32) then (gI [2] 2 hp p0).bind (fun v7 => (sI [2] 2 hp p0 (v7 + (1 : Int32))).bind (fun hp8 => (gR [2] 5 hp8 p0).bind (fun v9 => (wrI hp8 v9 p1 v1).bind (fun hp10 => (gR [2] 6 hp10 p0).bind (fun v11 => (gI [2] 9 hp10 p0).bind (fun v12 => (wrI hp10 v11 p1 v12).bind (fun hp13 => (sI [2] 4 hp13 p0 (p1 + (1 : Int32))).bind (fun hp14 => jn (A := HP) (fun a15 => (rc [2] a15 p0 (FX2_emit a15 p0 (-41 : Int32))).bind (fun w17 => (gR [2] 7 w17 p0).bind (fun v18 => (gI [2] 9 w17 p0).bind (fun v19 => (wrI w17 v18 p1 v19).bind (fun hp20 => (rc [2] hp20 p0 (FX4_expect hp20 p0 (40 : Int32))).bind (fun w21 => (rc [2] w21 p0 (FX2_readSome 20 w21 p0 (1 : Int32))).bind (fun w22 => (rc [2] w22 p0 (FX4_expect w22 p0 (41 : Int32))).bind (fun w23 => (rc [2] w23 p0 (FX2_emit w23 p0 (-41 : Int32))).bind (fun w24 => some w24))))))))) (fun J16 => if v1 = (120 : Int32) then (rc [2] hp14 p0 (FX2_emit hp14 p0 (1 : Int32))).bind (fun w25 => J16 w25) else (rc [2] hp14 p0 (FX2_readSum 20 hp14 p0 (0 : Int32))).bind (fun w26 => J16 w26)))))))))) else J5 ())) (fun J3 => if v1 = (100 : Int32) then J3 () else if v1 = (103 : Int32) then J3 () else if v1 = (120 : Int32) then J3 () else (rc [2] hp p0 (FX4_fail hp p0 (1 : Int32))).bind (fun w27 => some w27)))
set_option maxHeartbeats 4000000 in
set_option maxRecDepth 100000 in
theorem ctX2_readRule (l : Launch) (D : va_G) (tg : Nat → ClassId) (bs : Nat) (sa : Nat → Nat) (hp : HP) (p0 : Nat) (p1 : Int32) : Ct l D tg bs sa yX2_readRule cX2_readRule 3 none 47 [.ref p0, .int p1] hp (FX2_readRule hp p0 p1) (fun _ => none) (fun r => r) := by
  refine Ct.of (by decide) (Nat.le_of_ble_eq_true rfl) ?_
  intro V Q hVl hVd hVt hVb hVs hC
  subst hVl; subst hVd; subst hVt; subst hVb; subst hVs
  unfold FX2_readRule
  show Zs V Q (0, 0) 3 _ _ hp [(0, .ref p0), (1, .int p1)] 0 []
  refine z_aload_n hC 0 dX2_readRule_0 rfl rfl ?_
  refine z_callUi hC lmRX2_47 (ctX4_here (vLa V) (vDa V) (vTg V) (vBs V) (vSa V) hp p0) (by decide) hn0 dX2_readRule_1 rfl rfl (Nat.le_of_ble_eq_true rfl) (fun v1 => ?_)
  refine z_istore_n hC [(0, .ref p0), (1, .int p1), (2, .int v1)] [1, 2, 0] dX2_readRule_4 rfl (by decide) rfl ?_
  refine z_iload_n hC 2 dX2_readRule_5 rfl rfl ?_
  refine z_bipush hC (100 : Int32) dX2_readRule_6 (by decide) ?_
  refine z_jn (A := Unit) (fun a2 => hp) (fun a2 => [(0, .ref p0), (1, .int p1), (2, .int v1)]) 29 (fun a2 => []) (fun a2 => ?_) (fun J3 hJ3 => ?_)
  · refine z_iload_n hC 1 dX2_readRule_29 rfl rfl ?_
    refine z_jn (A := Unit) (fun a4 => hp) (fun a4 => [(0, .ref p0)]) 39 (fun a4 => []) (fun a4 => ?_) (fun J5 hJ5 => ?_)
    · refine z_aload_n hC 0 dX2_readRule_39 rfl rfl ?_
      refine z_iconst hC (4 : Int32) dX2_readRule_40 (by decide) ?_
      refine z_callUv hC lmRX2_54 (ctX4_fail (vLa V) (vDa V) (vTg V) (vBs V) (vSa V) hp p0 (4 : Int32)) (by decide) hn0 dX2_readRule_41 rfl rfl (Nat.le_of_ble_eq_true rfl) (fun w6 => ?_)
      exact z_vret hC (fun h => h) dX2_readRule_44
    · refine z_if_lt hC 39 dX2_readRule_30 (by decide) (fun _ => ?_) (fun _ => ?_)
      · refine z_weak [(0, .ref p0)] [0] rfl ?_
        exact hJ5 ()
      · refine z_iload_n hC 1 dX2_readRule_33 rfl rfl ?_
        refine z_bipush hC (16 : Int32) dX2_readRule_34 (by decide) ?_
        refine z_icmp_lt hC 45 dX2_readRule_36 (by decide) (fun _ => ?_) (fun _ => ?_)
        · refine z_aload_n hC 0 dX2_readRule_45 rfl rfl ?_
          refine z_dup hC dX2_readRule_46 rfl ?_
          refine z_getI hC lgRX2_57 dX2_readRule_47 (fun v7 => ?_)
          refine z_iconst hC (1 : Int32) dX2_readRule_50 (by decide) ?_
          refine z_iadd hC dX2_readRule_51 ?_
          refine z_putI hC lpRX2_57 dX2_readRule_52 (fun hp8 => ?_)
          refine z_aload_n hC 0 dX2_readRule_55 rfl rfl ?_
          refine z_getR hC lgRX2_9 dX2_readRule_56 (fun v9 => ?_)
          refine z_iload_n hC 1 dX2_readRule_59 rfl rfl ?_
          refine z_iload_n hC 2 dX2_readRule_60 rfl rfl ?_
          refine z_iast hC dX2_readRule_61 (fun hp10 => ?_)
          refine z_aload_n hC 0 dX2_readRule_62 rfl rfl ?_
          refine z_getR hC lgRX2_15 dX2_readRule_63 (fun v11 => ?_)
          refine z_iload_n hC 1 dX2_readRule_66 rfl rfl ?_
          refine z_aload_n hC 0 dX2_readRule_67 rfl rfl ?_
          refine z_getI hC lgRX2_38 dX2_readRule_68 (fun v12 => ?_)
          refine z_iast hC dX2_readRule_71 (fun hp13 => ?_)
          refine z_aload_n hC 0 dX2_readRule_72 rfl rfl ?_
          refine z_iload_n hC 1 dX2_readRule_73 rfl rfl ?_
          refine z_iconst hC (1 : Int32) dX2_readRule_74 (by decide) ?_
          refine z_iadd hC dX2_readRule_75 ?_
          refine z_putI hC lpRX2_34 dX2_readRule_76 (fun hp14 => ?_)
          refine z_iload_n hC 2 dX2_readRule_79 rfl rfl ?_
          refine z_bipush hC (120 : Int32) dX2_readRule_80 (by decide) ?_
          refine z_jn (A := HP) (fun a15 => a15) (fun a15 => [(0, .ref p0), (1, .int p1)]) 98 (fun a15 => []) (fun a15 => ?_) (fun J16 hJ16 => ?_)
          · refine z_aload_n hC 0 dX2_readRule_98 rfl rfl ?_
            refine z_bipush hC (-41 : Int32) dX2_readRule_99 (by decide) ?_
            refine z_callVv hC (ci := 2) rfl lmRX2_60 (ctX2_emit (vLa V) (vDa V) (vTg V) (vBs V) (vSa V) a15 p0 (-41 : Int32)) (by decide) hn0 dX2_readRule_101 rfl rfl (Nat.le_of_ble_eq_true rfl) (fun w17 => ?_)
            refine z_aload_n hC 0 dX2_readRule_104 rfl rfl ?_
            refine z_getR hC lgRX2_18 dX2_readRule_105 (fun v18 => ?_)
            refine z_iload_n hC 1 dX2_readRule_108 rfl rfl ?_
            refine z_aload_n hC 0 dX2_readRule_109 rfl rfl ?_
            refine z_getI hC lgRX2_38 dX2_readRule_110 (fun v19 => ?_)
            refine z_iast hC dX2_readRule_113 (fun hp20 => ?_)
            refine z_aload_n hC 0 dX2_readRule_114 rfl rfl ?_
            refine z_bipush hC (40 : Int32) dX2_readRule_115 (by decide) ?_
            refine z_callUv hC lmRX2_51 (ctX4_expect (vLa V) (vDa V) (vTg V) (vBs V) (vSa V) hp20 p0 (40 : Int32)) (by decide) hn0 dX2_readRule_117 rfl rfl (Nat.le_of_ble_eq_true rfl) (fun w21 => ?_)
            refine z_aload_n hC 0 dX2_readRule_120 rfl rfl ?_
            refine z_iconst hC (1 : Int32) dX2_readRule_121 (by decide) ?_
            refine z_callVv hC (ci := 2) rfl lmRX2_66 (ctX2_readSome (vLa V) (vDa V) (vTg V) (vBs V) (vSa V) 20 w21 p0 (1 : Int32)) (by decide) hn0 dX2_readRule_122 rfl rfl (Nat.le_of_ble_eq_true rfl) (fun w22 => ?_)
            refine z_aload_n hC 0 dX2_readRule_125 rfl rfl ?_
            refine z_bipush hC (41 : Int32) dX2_readRule_126 (by decide) ?_
            refine z_callUv hC lmRX2_51 (ctX4_expect (vLa V) (vDa V) (vTg V) (vBs V) (vSa V) w22 p0 (41 : Int32)) (by decide) hn0 dX2_readRule_128 rfl rfl (Nat.le_of_ble_eq_true rfl) (fun w23 => ?_)
            refine z_aload_n hC 0 dX2_readRule_131 rfl rfl ?_
            refine z_bipush hC (-41 : Int32) dX2_readRule_132 (by decide) ?_
            refine z_callVv hC (ci := 2) rfl lmRX2_60 (ctX2_emit (vLa V) (vDa V) (vTg V) (vBs V) (vSa V) w23 p0 (-41 : Int32)) (by decide) hn0 dX2_readRule_134 rfl rfl (Nat.le_of_ble_eq_true rfl) (fun w24 => ?_)
            exact z_vret hC (fun h => h) dX2_readRule_137
          · refine z_icmp_ne hC 93 dX2_readRule_82 (by decide) (fun _ => ?_) (fun _ => ?_)
            · refine z_aload_n hC 0 dX2_readRule_85 rfl rfl ?_
              refine z_iconst hC (1 : Int32) dX2_readRule_86 (by decide) ?_
              refine z_callVv hC (ci := 2) rfl lmRX2_60 (ctX2_emit (vLa V) (vDa V) (vTg V) (vBs V) (vSa V) hp14 p0 (1 : Int32)) (by decide) hn0 dX2_readRule_87 rfl rfl (Nat.le_of_ble_eq_true rfl) (fun w25 => ?_)
              refine z_goto hC 98 dX2_readRule_90 (by decide) ?_
              refine z_weak [(0, .ref p0), (1, .int p1)] [0, 1] rfl ?_
              exact hJ16 w25
            · refine z_aload_n hC 0 dX2_readRule_93 rfl rfl ?_
              refine z_iconst hC (0 : Int32) dX2_readRule_94 (by decide) ?_
              refine z_callVv hC (ci := 2) rfl lmRX2_63 (ctX2_readSum (vLa V) (vDa V) (vTg V) (vBs V) (vSa V) 20 hp14 p0 (0 : Int32)) (by decide) hn0 dX2_readRule_95 rfl rfl (Nat.le_of_ble_eq_true rfl) (fun w26 => ?_)
              refine z_weak [(0, .ref p0), (1, .int p1)] [0, 1] rfl ?_
              exact hJ16 w26
        · refine z_weak [(0, .ref p0)] [0] rfl ?_
          exact hJ5 ()
  · refine z_icmp_eq hC 29 dX2_readRule_8 (by decide) (fun _ => ?_) (fun _ => ?_)
    · exact hJ3 ()
    · refine z_iload_n hC 2 dX2_readRule_11 rfl rfl ?_
      refine z_bipush hC (103 : Int32) dX2_readRule_12 (by decide) ?_
      refine z_icmp_eq hC 29 dX2_readRule_14 (by decide) (fun _ => ?_) (fun _ => ?_)
      · exact hJ3 ()
      · refine z_iload_n hC 2 dX2_readRule_17 rfl rfl ?_
        refine z_bipush hC (120 : Int32) dX2_readRule_18 (by decide) ?_
        refine z_icmp_eq hC 29 dX2_readRule_20 (by decide) (fun _ => ?_) (fun _ => ?_)
        · exact hJ3 ()
        · refine z_aload_n hC 0 dX2_readRule_23 rfl rfl ?_
          refine z_iconst hC (1 : Int32) dX2_readRule_24 (by decide) ?_
          refine z_callUv hC lmRX2_54 (ctX4_fail (vLa V) (vDa V) (vTg V) (vBs V) (vSa V) hp p0 (1 : Int32)) (by decide) hn0 dX2_readRule_25 rfl rfl (Nat.le_of_ble_eq_true rfl) (fun w27 => ?_)
          exact z_vret hC (fun h => h) dX2_readRule_28

theorem dX2_read_0 : decode cX2_read 0 = .ok (.aload_n 0, 1) := by decide +kernel
theorem dX2_read_1 : decode cX2_read 1 = .ok (.iload_n 1, 1) := by decide +kernel
theorem dX2_read_2 : decode cX2_read 2 = .ok (.invokevirtual 30, 3) := by decide +kernel
theorem dX2_read_5 : decode cX2_read 5 = .ok (.aload_n 0, 1) := by decide +kernel
theorem dX2_read_6 : decode cX2_read 6 = .ok (.iconst 0, 1) := by decide +kernel
theorem dX2_read_7 : decode cX2_read 7 = .ok (.putfield 34, 3) := by decide +kernel
theorem dX2_read_10 : decode cX2_read 10 = .ok (.aload_n 0, 1) := by decide +kernel
theorem dX2_read_11 : decode cX2_read 11 = .ok (.iconst 0, 1) := by decide +kernel
theorem dX2_read_12 : decode cX2_read 12 = .ok (.putfield 38, 3) := by decide +kernel
theorem dX2_read_15 : decode cX2_read 15 = .ok (.iconst 0, 1) := by decide +kernel
theorem dX2_read_16 : decode cX2_read 16 = .ok (.istore_n 2, 1) := by decide +kernel
theorem dX2_read_17 : decode cX2_read 17 = .ok (.iload_n 2, 1) := by decide +kernel
theorem dX2_read_18 : decode cX2_read 18 = .ok (.bipush 16, 2) := by decide +kernel
theorem dX2_read_20 : decode cX2_read 20 = .ok (.if_icmp .gt 50, 3) := by decide +kernel
theorem dX2_read_23 : decode cX2_read 23 = .ok (.aload_n 0, 1) := by decide +kernel
theorem dX2_read_24 : decode cX2_read 24 = .ok (.getfield 41, 3) := by decide +kernel
theorem dX2_read_27 : decode cX2_read 27 = .ok (.ifCond .ne 43, 3) := by decide +kernel
theorem dX2_read_30 : decode cX2_read 30 = .ok (.aload_n 0, 1) := by decide +kernel
theorem dX2_read_31 : decode cX2_read 31 = .ok (.aload_n 0, 1) := by decide +kernel
theorem dX2_read_32 : decode cX2_read 32 = .ok (.getfield 34, 3) := by decide +kernel
theorem dX2_read_35 : decode cX2_read 35 = .ok (.invokevirtual 44, 3) := by decide +kernel
theorem dX2_read_38 : decode cX2_read 38 = .ok (.aload_n 0, 1) := by decide +kernel
theorem dX2_read_39 : decode cX2_read 39 = .ok (.getfield 41, 3) := by decide +kernel
theorem dX2_read_42 : decode cX2_read 42 = .ok (.ifCond .ne 16, 3) := by decide +kernel
theorem dX2_read_45 : decode cX2_read 45 = .ok (.aload_n 0, 1) := by decide +kernel
theorem dX2_read_46 : decode cX2_read 46 = .ok (.invokevirtual 47, 3) := by decide +kernel
theorem dX2_read_49 : decode cX2_read 49 = .ok (.iconst (-1), 1) := by decide +kernel
theorem dX2_read_50 : decode cX2_read 50 = .ok (.if_icmp .ne 8, 3) := by decide +kernel
theorem dX2_read_53 : decode cX2_read 53 = .ok (.aload_n 0, 1) := by decide +kernel
theorem dX2_read_54 : decode cX2_read 54 = .ok (.getfield 34, 3) := by decide +kernel
theorem dX2_read_57 : decode cX2_read 57 = .ok (.ireturn, 1) := by decide +kernel
theorem dX2_read_58 : decode cX2_read 58 = .ok (.aload_n 0, 1) := by decide +kernel
theorem dX2_read_59 : decode cX2_read 59 = .ok (.bipush 59, 2) := by decide +kernel
theorem dX2_read_61 : decode cX2_read 61 = .ok (.invokevirtual 51, 3) := by decide +kernel
theorem dX2_read_64 : decode cX2_read 64 = .ok (.iinc 2 1, 3) := by decide +kernel
theorem dX2_read_67 : decode cX2_read 67 = .ok (.goto (-50), 3) := by decide +kernel
theorem dX2_read_70 : decode cX2_read 70 = .ok (.aload_n 0, 1) := by decide +kernel
theorem dX2_read_71 : decode cX2_read 71 = .ok (.getfield 41, 3) := by decide +kernel
theorem dX2_read_74 : decode cX2_read 74 = .ok (.ireturn, 1) := by decide +kernel
def FX2_read (hp : HP) (p0 : Nat) (p1 : Int32) : Option (Int32 × HP) := (rc [2] hp p0 (FX4_begin hp p0 p1)).bind (fun w1 => (sI [2] 4 w1 p0 (0 : Int32)).bind (fun hp2 => (sI [2] 9 hp2 p0 (0 : Int32)).bind (fun hp3 => (lp (fun (s4 : Int32 × HP) => if (16 : Int32) < s4.1 then some (Sum.inl (Sum.inr s4.2)) else (gI [2] 3 s4.2 p0).bind (fun v7 => if v7 = 0 then (gI [2] 4 s4.2 p0).bind (fun v8 => (rc [2] s4.2 p0 (FX2_readRule s4.2 p0 v8)).bind (fun w9 => (gI [2] 3 w9 p0).bind (fun v10 => jn (A := Unit) (fun a11 => (rc [2] w9 p0 (FX4_expect w9 p0 (59 : Int32))).bind (fun w13 => vl (s4.1 + (1 : Int32)) (fun x14 => some (Sum.inr (x14, w13))))) (fun J12 => if v10 = 0 then (rc [2] w9 p0 (FX4_here w9 p0)).bind (fun v15 => if v15 = (-1 : Int32) then (gI [2] 4 w9 p0).bind (fun v16 => some (Sum.inl (Sum.inl (v16, w9)))) else J12 ()) else J12 ())))) else some (Sum.inl (Sum.inr s4.2)))) FU ((0 : Int32), hp3)).bind (lk (P := Int32 × HP) (fun r => r) (fun (y5 : HP) => (gI [2] 3 y5 p0).bind (fun v6 => some (v6, y5)))))))
set_option maxHeartbeats 4000000 in
set_option maxRecDepth 100000 in
theorem ctX2_read (l : Launch) (D : va_G) (tg : Nat → ClassId) (bs : Nat) (sa : Nat → Nat) (hp : HP) (p0 : Nat) (p1 : Int32) : Ct l D tg bs sa yX2_read cX2_read 3 (some .int) 48 [.ref p0, .int p1] hp (FX2_read hp p0 p1) (fun r => some (.int r.1)) (fun r => r.2) := by
  refine Ct.of (by decide) (Nat.le_of_ble_eq_true rfl) ?_
  intro V Q hVl hVd hVt hVb hVs hC
  subst hVl; subst hVd; subst hVt; subst hVb; subst hVs
  unfold FX2_read
  show Zs V Q (0, 0) 3 _ _ hp [(0, .ref p0), (1, .int p1)] 0 []
  refine z_aload_n hC 0 dX2_read_0 rfl rfl ?_
  refine z_iload_n hC 1 dX2_read_1 rfl rfl ?_
  refine z_callUv hC lmRX2_30 (ctX4_begin (vLa V) (vDa V) (vTg V) (vBs V) (vSa V) hp p0 p1) (by decide) hn0 dX2_read_2 rfl rfl (Nat.le_of_ble_eq_true rfl) (fun w1 => ?_)
  refine z_aload_n hC 0 dX2_read_5 rfl rfl ?_
  refine z_iconst hC (0 : Int32) dX2_read_6 (by decide) ?_
  refine z_putI hC lpRX2_34 dX2_read_7 (fun hp2 => ?_)
  refine z_aload_n hC 0 dX2_read_10 rfl rfl ?_
  refine z_iconst hC (0 : Int32) dX2_read_11 (by decide) ?_
  refine z_putI hC lpRX2_38 dX2_read_12 (fun hp3 => ?_)
  refine z_iconst hC (0 : Int32) dX2_read_15 (by decide) ?_
  refine z_istore_n hC [(0, .ref p0), (1, .int p1), (2, .int (0 : Int32))] [1, 2, 0] dX2_read_16 rfl (by decide) rfl ?_
  refine z_weak [(0, .ref p0), (2, .int (0 : Int32))] [0, 2] rfl ?_
  refine z_lpR (S := Int32 × HP) (Y := HP) (fun s4 => s4.2) (fun s4 => [(0, .ref p0), (2, .int s4.1)]) (fun y5 => y5) (fun y5 => [(0, .ref p0)]) 70 [] (fun y5 => ?_) (fun s4 => ?_) rfl rfl
  · refine z_aload_n hC 0 dX2_read_70 rfl rfl ?_
    refine z_getI hC lgRX2_41 dX2_read_71 (fun v6 => ?_)
    exact z_iret hC (fun h => h) dX2_read_74
  · refine z_iload_n hC 1 dX2_read_17 rfl rfl ?_
    refine z_bipush hC (16 : Int32) dX2_read_18 (by decide) ?_
    refine z_icmp_gt hC 70 dX2_read_20 (by decide) (fun _ => ?_) (fun _ => ?_)
    · refine z_weak [(0, .ref p0)] [0] rfl ?_
      exact z_leaf (fun h => h)
    · refine z_aload_n hC 0 dX2_read_23 rfl rfl ?_
      refine z_getI hC lgRX2_41 dX2_read_24 (fun v7 => ?_)
      refine z_if_ne hC 70 dX2_read_27 (by decide) (fun _ => ?_) (fun _ => ?_)
      · refine z_aload_n hC 0 dX2_read_30 rfl rfl ?_
        refine z_aload_n hC 0 dX2_read_31 rfl rfl ?_
        refine z_getI hC lgRX2_34 dX2_read_32 (fun v8 => ?_)
        refine z_callVv hC (ci := 2) rfl lmRX2_44 (ctX2_readRule (vLa V) (vDa V) (vTg V) (vBs V) (vSa V) s4.2 p0 v8) (by decide) hn0 dX2_read_35 rfl rfl (Nat.le_of_ble_eq_true rfl) (fun w9 => ?_)
        refine z_aload_n hC 0 dX2_read_38 rfl rfl ?_
        refine z_getI hC lgRX2_41 dX2_read_39 (fun v10 => ?_)
        refine z_jn (A := Unit) (fun a11 => w9) (fun a11 => [(0, .ref p0), (2, .int s4.1)]) 58 (fun a11 => []) (fun a11 => ?_) (fun J12 hJ12 => ?_)
        · refine z_aload_n hC 0 dX2_read_58 rfl rfl ?_
          refine z_bipush hC (59 : Int32) dX2_read_59 (by decide) ?_
          refine z_callUv hC lmRX2_51 (ctX4_expect (vLa V) (vDa V) (vTg V) (vBs V) (vSa V) w9 p0 (59 : Int32)) (by decide) hn0 dX2_read_61 rfl rfl (Nat.le_of_ble_eq_true rfl) (fun w13 => ?_)
          refine z_iincv hC (1 : Int32) 1 (fun x14 => [(0, .ref p0), (2, .int x14)]) [1, 0] dX2_read_64 rfl (by decide) (by decide) (fun _ => rfl) (fun x14 => ?_)
          refine z_goto hC 17 dX2_read_67 (by decide) ?_
          exact z_leaf (fun h => h)
        · refine z_if_ne hC 58 dX2_read_42 (by decide) (fun _ => ?_) (fun _ => ?_)
          · refine z_aload_n hC 0 dX2_read_45 rfl rfl ?_
            refine z_callUi hC lmRX2_47 (ctX4_here (vLa V) (vDa V) (vTg V) (vBs V) (vSa V) w9 p0) (by decide) hn0 dX2_read_46 rfl rfl (Nat.le_of_ble_eq_true rfl) (fun v15 => ?_)
            refine z_iconst hC (-1 : Int32) dX2_read_49 (by decide) ?_
            refine z_icmp_ne hC 58 dX2_read_50 (by decide) (fun _ => ?_) (fun _ => ?_)
            · refine z_aload_n hC 0 dX2_read_53 rfl rfl ?_
              refine z_getI hC lgRX2_34 dX2_read_54 (fun v16 => ?_)
              exact z_iret hC (fun h => h) dX2_read_57
            · exact hJ12 ()
          · exact hJ12 ()
      · refine z_weak [(0, .ref p0)] [0] rfl ?_
        exact z_leaf (fun h => h)

theorem dX6_month_0 : decode cX6_month 0 = .ok (.aload_n 0, 1) := by decide +kernel
theorem dX6_month_1 : decode cX6_month 1 = .ok (.getfield 15, 3) := by decide +kernel
theorem dX6_month_4 : decode cX6_month 4 = .ok (.sipush 360, 3) := by decide +kernel
theorem dX6_month_7 : decode cX6_month 7 = .ok (.irem, 1) := by decide +kernel
theorem dX6_month_8 : decode cX6_month 8 = .ok (.bipush 30, 2) := by decide +kernel
theorem dX6_month_10 : decode cX6_month 10 = .ok (.idiv, 1) := by decide +kernel
theorem dX6_month_11 : decode cX6_month 11 = .ok (.ireturn, 1) := by decide +kernel
def FX6_month (hp : HP) (p0 : Nat) : Option (Int32) := (gI [6] 1 hp p0).bind (fun v1 => (rmI v1 (360 : Int32)).bind (fun v2 => (dvI v2 (30 : Int32)).bind (fun v3 => some v3)))
set_option maxHeartbeats 4000000 in
set_option maxRecDepth 100000 in
theorem ctX6_month (l : Launch) (D : va_G) (tg : Nat → ClassId) (bs : Nat) (sa : Nat → Nat) (hp : HP) (p0 : Nat) : Ct l D tg bs sa yX6_month cX6_month 1 (some .int) 0 [.ref p0] hp (FX6_month hp p0) (fun r => some (.int r)) (fun _ => hp) := by
  refine Ct.of (by decide) (Nat.le_of_ble_eq_true rfl) ?_
  intro V Q hVl hVd hVt hVb hVs hC
  subst hVl; subst hVd; subst hVt; subst hVb; subst hVs
  unfold FX6_month
  show Zs V Q (0, 0) 1 _ _ hp [(0, .ref p0)] 0 []
  refine z_aload_n hC 0 dX6_month_0 rfl rfl ?_
  refine z_getI hC lgRX6_15 dX6_month_1 (fun v1 => ?_)
  refine z_sipush hC (360 : Int32) dX6_month_4 (by decide) ?_
  refine z_irem hC dX6_month_7 (fun v2 => ?_)
  refine z_bipush hC (30 : Int32) dX6_month_8 (by decide) ?_
  refine z_idiv hC dX6_month_10 (fun v3 => ?_)
  exact z_iret hC (fun h => h) dX6_month_11

