theorem dX5_reachOn_0 : decode cX5_reachOn 0 = .ok (.iload_n 2, 1) := by decide +kernel
theorem dX5_reachOn_1 : decode cX5_reachOn 1 = .ok (.ifCond .lt 8, 3) := by decide +kernel
theorem dX5_reachOn_4 : decode cX5_reachOn 4 = .ok (.iload_n 2, 1) := by decide +kernel
theorem dX5_reachOn_5 : decode cX5_reachOn 5 = .ok (.iconst 5, 1) := by decide +kernel
theorem dX5_reachOn_6 : decode cX5_reachOn 6 = .ok (.if_icmp .lt 5, 3) := by decide +kernel
theorem dX5_reachOn_9 : decode cX5_reachOn 9 = .ok (.iconst 0, 1) := by decide +kernel
theorem dX5_reachOn_10 : decode cX5_reachOn 10 = .ok (.ireturn, 1) := by decide +kernel
theorem dX5_reachOn_11 : decode cX5_reachOn 11 = .ok (.iload_n 2, 1) := by decide +kernel
theorem dX5_reachOn_12 : decode cX5_reachOn 12 = .ok (.iload_n 3, 1) := by decide +kernel
theorem dX5_reachOn_13 : decode cX5_reachOn 13 = .ok (.if_icmp .lt 28, 3) := by decide +kernel
theorem dX5_reachOn_16 : decode cX5_reachOn 16 = .ok (.aload_n 0, 1) := by decide +kernel
theorem dX5_reachOn_17 : decode cX5_reachOn 17 = .ok (.getfield 28, 3) := by decide +kernel
theorem dX5_reachOn_20 : decode cX5_reachOn 20 = .ok (.getfield 65, 3) := by decide +kernel
theorem dX5_reachOn_23 : decode cX5_reachOn 23 = .ok (.iload_n 1, 1) := by decide +kernel
theorem dX5_reachOn_24 : decode cX5_reachOn 24 = .ok (.bipush 7, 2) := by decide +kernel
theorem dX5_reachOn_26 : decode cX5_reachOn 26 = .ok (.iand, 1) := by decide +kernel
theorem dX5_reachOn_27 : decode cX5_reachOn 27 = .ok (.aaload, 1) := by decide +kernel
theorem dX5_reachOn_28 : decode cX5_reachOn 28 = .ok (.aload_n 0, 1) := by decide +kernel
theorem dX5_reachOn_29 : decode cX5_reachOn 29 = .ok (.getfield 20, 3) := by decide +kernel
theorem dX5_reachOn_32 : decode cX5_reachOn 32 = .ok (.iload_n 2, 1) := by decide +kernel
theorem dX5_reachOn_33 : decode cX5_reachOn 33 = .ok (.aaload, 1) := by decide +kernel
theorem dX5_reachOn_34 : decode cX5_reachOn 34 = .ok (.getfield 41, 3) := by decide +kernel
theorem dX5_reachOn_37 : decode cX5_reachOn 37 = .ok (.invokestatic 132, 3) := by decide +kernel
theorem dX5_reachOn_40 : decode cX5_reachOn 40 = .ok (.ireturn, 1) := by decide +kernel
theorem dX5_reachOn_41 : decode cX5_reachOn 41 = .ok (.iconst 0, 1) := by decide +kernel
theorem dX5_reachOn_42 : decode cX5_reachOn 42 = .ok (.istore 4, 2) := by decide +kernel
theorem dX5_reachOn_44 : decode cX5_reachOn 44 = .ok (.iload 4, 2) := by decide +kernel
theorem dX5_reachOn_46 : decode cX5_reachOn 46 = .ok (.bipush 8, 2) := by decide +kernel
theorem dX5_reachOn_48 : decode cX5_reachOn 48 = .ok (.if_icmp .ge 59, 3) := by decide +kernel
theorem dX5_reachOn_51 : decode cX5_reachOn 51 = .ok (.iload 4, 2) := by decide +kernel
theorem dX5_reachOn_53 : decode cX5_reachOn 53 = .ok (.iload_n 1, 1) := by decide +kernel
theorem dX5_reachOn_54 : decode cX5_reachOn 54 = .ok (.if_icmp .eq 47, 3) := by decide +kernel
theorem dX5_reachOn_57 : decode cX5_reachOn 57 = .ok (.aload_n 0, 1) := by decide +kernel
theorem dX5_reachOn_58 : decode cX5_reachOn 58 = .ok (.getfield 28, 3) := by decide +kernel
theorem dX5_reachOn_61 : decode cX5_reachOn 61 = .ok (.iload 4, 2) := by decide +kernel
theorem dX5_reachOn_63 : decode cX5_reachOn 63 = .ok (.invokevirtual 138, 3) := by decide +kernel
theorem dX5_reachOn_66 : decode cX5_reachOn 66 = .ok (.ifCond .eq 35, 3) := by decide +kernel
theorem dX5_reachOn_69 : decode cX5_reachOn 69 = .ok (.aload_n 0, 1) := by decide +kernel
theorem dX5_reachOn_70 : decode cX5_reachOn 70 = .ok (.iload_n 2, 1) := by decide +kernel
theorem dX5_reachOn_71 : decode cX5_reachOn 71 = .ok (.iload 4, 2) := by decide +kernel
theorem dX5_reachOn_73 : decode cX5_reachOn 73 = .ok (.invokevirtual 124, 3) := by decide +kernel
theorem dX5_reachOn_76 : decode cX5_reachOn 76 = .ok (.ifCond .eq 25, 3) := by decide +kernel
theorem dX5_reachOn_79 : decode cX5_reachOn 79 = .ok (.aload_n 0, 1) := by decide +kernel
theorem dX5_reachOn_80 : decode cX5_reachOn 80 = .ok (.getfield 9, 3) := by decide +kernel
theorem dX5_reachOn_83 : decode cX5_reachOn 83 = .ok (.iload_n 2, 1) := by decide +kernel
theorem dX5_reachOn_84 : decode cX5_reachOn 84 = .ok (.iload 4, 2) := by decide +kernel
theorem dX5_reachOn_86 : decode cX5_reachOn 86 = .ok (.iastore, 1) := by decide +kernel
theorem dX5_reachOn_87 : decode cX5_reachOn 87 = .ok (.aload_n 0, 1) := by decide +kernel
theorem dX5_reachOn_88 : decode cX5_reachOn 88 = .ok (.iload_n 1, 1) := by decide +kernel
theorem dX5_reachOn_89 : decode cX5_reachOn 89 = .ok (.iload_n 2, 1) := by decide +kernel
theorem dX5_reachOn_90 : decode cX5_reachOn 90 = .ok (.iconst 1, 1) := by decide +kernel
theorem dX5_reachOn_91 : decode cX5_reachOn 91 = .ok (.iadd, 1) := by decide +kernel
theorem dX5_reachOn_92 : decode cX5_reachOn 92 = .ok (.iload_n 3, 1) := by decide +kernel
theorem dX5_reachOn_93 : decode cX5_reachOn 93 = .ok (.invokevirtual 128, 3) := by decide +kernel
theorem dX5_reachOn_96 : decode cX5_reachOn 96 = .ok (.ifCond .eq 5, 3) := by decide +kernel
theorem dX5_reachOn_99 : decode cX5_reachOn 99 = .ok (.iconst 1, 1) := by decide +kernel
theorem dX5_reachOn_100 : decode cX5_reachOn 100 = .ok (.ireturn, 1) := by decide +kernel
theorem dX5_reachOn_101 : decode cX5_reachOn 101 = .ok (.iinc 4 1, 3) := by decide +kernel
theorem dX5_reachOn_104 : decode cX5_reachOn 104 = .ok (.goto (-60), 3) := by decide +kernel
theorem dX5_reachOn_107 : decode cX5_reachOn 107 = .ok (.iconst 0, 1) := by decide +kernel
theorem dX5_reachOn_108 : decode cX5_reachOn 108 = .ok (.ireturn, 1) := by decide +kernel
def FBX5_reachOn (rX5_reachOn : HP → Nat → Int32 → Int32 → Int32 → Option (Int32 × HP)) (hp : HP) (p0 : Nat) (p1 : Int32) (p2 : Int32) (p3 : Int32) : Option (Int32 × HP) := if p2 < 0 then some ((0 : Int32), hp) else if p2 < (5 : Int32) then if p2 < p3 then (lp (fun (s1 : Int32 × HP) => if (8 : Int32) ≤ s1.1 then some (Sum.inl (Sum.inr s1.2)) else if s1.1 = p1 then vl (s1.1 + (1 : Int32)) (fun x3 => some (Sum.inr (x3, s1.2))) else (gR [5] 9 s1.2 p0).bind (fun v4 => (rc [0] s1.2 v4 (FX0_has s1.2 v4 s1.1)).bind (fun v5 => if v5 = 0 then vl (s1.1 + (1 : Int32)) (fun x6 => some (Sum.inr (x6, s1.2))) else (rc [5] s1.2 p0 (FX5_isGranted s1.2 p0 p2 s1.1)).bind (fun w7 => if w7.1 = 0 then vl (s1.1 + (1 : Int32)) (fun x8 => some (Sum.inr (x8, w7.2))) else (gR [5] 7 w7.2 p0).bind (fun v9 => (wrI w7.2 v9 p2 s1.1).bind (fun hp10 => (rc [5] hp10 p0 (rX5_reachOn hp10 p0 p1 (p2 + (1 : Int32)) p3)).bind (fun w11 => if w11.1 = 0 then vl (s1.1 + (1 : Int32)) (fun x12 => some (Sum.inr (x12, w11.2))) else some (Sum.inl (Sum.inl ((1 : Int32), w11.2)))))))))) FU ((0 : Int32), hp)).bind (lk (P := Int32 × HP) (fun r => r) (fun (y2 : HP) => some ((0 : Int32), y2))) else (gR [5] 9 hp p0).bind (fun v13 => (gR [0] 0 hp v13).bind (fun v14 => (rdA 4 hp v14 (p1 &&& (7 : Int32))).bind (fun v15 => (gR [5] 12 hp p0).bind (fun v16 => (rdA 5 hp v16 p2).bind (fun v17 => (gI [6] 0 hp v17).bind (fun v18 => (FX7_has hp v15 v18).bind (fun v19 => bz v19 (some (v19, hp))))))))) else some ((0 : Int32), hp)
set_option maxHeartbeats 4000000 in
set_option maxRecDepth 100000 in
theorem cbX5_reachOn (l : Launch) (D : va_G) (tg : Nat → ClassId) (bs : Nat) (sa : Nat → Nat) (rX5_reachOn : HP → Nat → Int32 → Int32 → Int32 → Option (Int32 × HP)) (Lr : Nat) (hLr : 4 ≤ Lr) (hrX5_reachOn : ∀ (hp : HP) (p0 : Nat) (p1 : Int32) (p2 : Int32) (p3 : Int32), Ct l D tg bs sa yX5_reachOn cX5_reachOn 5 (some .boolean) Lr [.ref p0, .int p1, .int p2, .int p3] hp (rX5_reachOn hp p0 p1 p2 p3) (fun r => some (.int r.1)) (fun r => r.2)) (hp : HP) (p0 : Nat) (p1 : Int32) (p2 : Int32) (p3 : Int32) : Ct l D tg bs sa yX5_reachOn cX5_reachOn 5 (some .boolean) (Lr + 1) [.ref p0, .int p1, .int p2, .int p3] hp (FBX5_reachOn rX5_reachOn hp p0 p1 p2 p3) (fun r => some (.int r.1)) (fun r => r.2) := by
  refine Ct.of (by decide) (Nat.le_of_ble_eq_true rfl) ?_
  intro V Q hVl hVd hVt hVb hVs hC
  subst hVl; subst hVd; subst hVt; subst hVb; subst hVs
  unfold FBX5_reachOn
  show Zs V Q (0, 0) 5 _ _ hp [(0, .ref p0), (1, .int p1), (2, .int p2), (3, .int p3)] 0 []
  refine z_iload_n hC 2 dX5_reachOn_0 rfl rfl ?_
  refine z_if_lt hC 9 dX5_reachOn_1 (by decide) (fun _ => ?_) (fun _ => ?_)
  · refine z_iconst hC (0 : Int32) dX5_reachOn_9 (by decide) ?_
    exact z_zret hC (by decide) (fun h => h) dX5_reachOn_10
  · refine z_iload_n hC 2 dX5_reachOn_4 rfl rfl ?_
    refine z_iconst hC (5 : Int32) dX5_reachOn_5 (by decide) ?_
    refine z_icmp_lt hC 11 dX5_reachOn_6 (by decide) (fun _ => ?_) (fun _ => ?_)
    · refine z_iload_n hC 2 dX5_reachOn_11 rfl rfl ?_
      refine z_iload_n hC 3 dX5_reachOn_12 rfl rfl ?_
      refine z_icmp_lt hC 41 dX5_reachOn_13 (by decide) (fun _ => ?_) (fun _ => ?_)
      · refine z_iconst hC (0 : Int32) dX5_reachOn_41 (by decide) ?_
        refine z_istore hC [(0, .ref p0), (1, .int p1), (2, .int p2), (3, .int p3), (4, .int (0 : Int32))] [1, 2, 3, 4, 0] dX5_reachOn_42 (by decide) rfl ?_
        refine z_lpR (S := Int32 × HP) (Y := HP) (fun s1 => s1.2) (fun s1 => [(0, .ref p0), (1, .int p1), (2, .int p2), (3, .int p3), (4, .int s1.1)]) (fun y2 => y2) (fun y2 => []) 107 [] (fun y2 => ?_) (fun s1 => ?_) rfl rfl
        · refine z_iconst hC (0 : Int32) dX5_reachOn_107 (by decide) ?_
          exact z_zret hC (by decide) (fun h => h) dX5_reachOn_108
        · refine z_iload hC 4 dX5_reachOn_44 rfl ?_
          refine z_bipush hC (8 : Int32) dX5_reachOn_46 (by decide) ?_
          refine z_icmp_ge hC 107 dX5_reachOn_48 (by decide) (fun _ => ?_) (fun _ => ?_)
          · refine z_weak [] [] rfl ?_
            exact z_leaf (fun h => h)
          · refine z_iload hC 4 dX5_reachOn_51 rfl ?_
            refine z_iload_n hC 1 dX5_reachOn_53 rfl rfl ?_
            refine z_icmp_eq hC 101 dX5_reachOn_54 (by decide) (fun _ => ?_) (fun _ => ?_)
            · refine z_iincv hC (1 : Int32) 4 (fun x3 => [(0, .ref p0), (1, .int p1), (2, .int p2), (3, .int p3), (4, .int x3)]) [1, 2, 3, 4, 0] dX5_reachOn_101 rfl (by decide) (by decide) (fun _ => rfl) (fun x3 => ?_)
              refine z_goto hC 44 dX5_reachOn_104 (by decide) ?_
              exact z_leaf (fun h => h)
            · refine z_aload_n hC 0 dX5_reachOn_57 rfl rfl ?_
              refine z_getR hC lgRX5_28 dX5_reachOn_58 (fun v4 => ?_)
              refine z_iload hC 4 dX5_reachOn_61 rfl ?_
              refine z_callVi hC (ci := 0) rfl lmRX5_138 (ctX0_has (vLa V) (vDa V) (vTg V) (vBs V) (vSa V) s1.2 v4 s1.1) (by have := hLr; omega) hn0 dX5_reachOn_63 rfl rfl (Nat.le_of_ble_eq_true rfl) (fun v5 => ?_)
              refine z_if_eq hC 101 dX5_reachOn_66 (by decide) (fun _ => ?_) (fun _ => ?_)
              · refine z_iincv hC (1 : Int32) 4 (fun x6 => [(0, .ref p0), (1, .int p1), (2, .int p2), (3, .int p3), (4, .int x6)]) [1, 2, 3, 4, 0] dX5_reachOn_101 rfl (by decide) (by decide) (fun _ => rfl) (fun x6 => ?_)
                refine z_goto hC 44 dX5_reachOn_104 (by decide) ?_
                exact z_leaf (fun h => h)
              · refine z_aload_n hC 0 dX5_reachOn_69 rfl rfl ?_
                refine z_iload_n hC 2 dX5_reachOn_70 rfl rfl ?_
                refine z_iload hC 4 dX5_reachOn_71 rfl ?_
                refine z_callVi hC (ci := 5) rfl lmRX5_124 (ctX5_isGranted (vLa V) (vDa V) (vTg V) (vBs V) (vSa V) s1.2 p0 p2 s1.1) (by have := hLr; omega) hn0 dX5_reachOn_73 rfl rfl (Nat.le_of_ble_eq_true rfl) (fun w7 => ?_)
                refine z_if_eq hC 101 dX5_reachOn_76 (by decide) (fun _ => ?_) (fun _ => ?_)
                · refine z_iincv hC (1 : Int32) 4 (fun x8 => [(0, .ref p0), (1, .int p1), (2, .int p2), (3, .int p3), (4, .int x8)]) [1, 2, 3, 4, 0] dX5_reachOn_101 rfl (by decide) (by decide) (fun _ => rfl) (fun x8 => ?_)
                  refine z_goto hC 44 dX5_reachOn_104 (by decide) ?_
                  exact z_leaf (fun h => h)
                · refine z_aload_n hC 0 dX5_reachOn_79 rfl rfl ?_
                  refine z_getR hC lgRX5_9 dX5_reachOn_80 (fun v9 => ?_)
                  refine z_iload_n hC 2 dX5_reachOn_83 rfl rfl ?_
                  refine z_iload hC 4 dX5_reachOn_84 rfl ?_
                  refine z_iast hC dX5_reachOn_86 (fun hp10 => ?_)
                  refine z_aload_n hC 0 dX5_reachOn_87 rfl rfl ?_
                  refine z_iload_n hC 1 dX5_reachOn_88 rfl rfl ?_
                  refine z_iload_n hC 2 dX5_reachOn_89 rfl rfl ?_
                  refine z_iconst hC (1 : Int32) dX5_reachOn_90 (by decide) ?_
                  refine z_iadd hC dX5_reachOn_91 ?_
                  refine z_iload_n hC 3 dX5_reachOn_92 rfl rfl ?_
                  refine z_callVi hC (ci := 5) rfl lmRX5_128 (hrX5_reachOn hp10 p0 p1 (p2 + (1 : Int32)) p3) (Nat.le_refl _) hn0 dX5_reachOn_93 rfl rfl (Nat.le_of_ble_eq_true rfl) (fun w11 => ?_)
                  refine z_if_eq hC 101 dX5_reachOn_96 (by decide) (fun _ => ?_) (fun _ => ?_)
                  · refine z_iincv hC (1 : Int32) 4 (fun x12 => [(0, .ref p0), (1, .int p1), (2, .int p2), (3, .int p3), (4, .int x12)]) [1, 2, 3, 4, 0] dX5_reachOn_101 rfl (by decide) (by decide) (fun _ => rfl) (fun x12 => ?_)
                    refine z_goto hC 44 dX5_reachOn_104 (by decide) ?_
                    exact z_leaf (fun h => h)
                  · refine z_iconst hC (1 : Int32) dX5_reachOn_99 (by decide) ?_
                    exact z_zret hC (by decide) (fun h => h) dX5_reachOn_100
      · refine z_aload_n hC 0 dX5_reachOn_16 rfl rfl ?_
        refine z_getR hC lgRX5_28 dX5_reachOn_17 (fun v13 => ?_)
        refine z_getR hC lgRX5_65 dX5_reachOn_20 (fun v14 => ?_)
        refine z_iload_n hC 1 dX5_reachOn_23 rfl rfl ?_
        refine z_bipush hC (7 : Int32) dX5_reachOn_24 (by decide) ?_
        refine z_iand hC dX5_reachOn_26 ?_
        refine z_aald4 hC dX5_reachOn_27 (fun v15 => ?_)
        refine z_aload_n hC 0 dX5_reachOn_28 rfl rfl ?_
        refine z_getR hC lgRX5_20 dX5_reachOn_29 (fun v16 => ?_)
        refine z_iload_n hC 2 dX5_reachOn_32 rfl rfl ?_
        refine z_aald5 hC dX5_reachOn_33 (fun v17 => ?_)
        refine z_getI hC lgRX5_41 dX5_reachOn_34 (fun v18 => ?_)
        refine z_callSi hC lmRX5_132 (ctX7_has (vLa V) (vDa V) (vTg V) (vBs V) (vSa V) hp v15 v18) (by have := hLr; omega) hn0 dX5_reachOn_37 rfl rfl (Nat.le_of_ble_eq_true rfl) (fun v19 => ?_)
        exact z_bz (fun hv => z_zret hC hv (fun h => h) dX5_reachOn_40)
    · refine z_iconst hC (0 : Int32) dX5_reachOn_9 (by decide) ?_
      exact z_zret hC (by decide) (fun h => h) dX5_reachOn_10
def FGX5_reachOn : Nat → (HP → Nat → Int32 → Int32 → Int32 → Option (Int32 × HP))
  | 0 => (fun _ _ _ _ _ => none)
  | d + 1 => FBX5_reachOn (FGX5_reachOn d)
def FX5_reachOn (d : Nat) : HP → Nat → Int32 → Int32 → Int32 → Option (Int32 × HP) := (FGX5_reachOn d)
theorem cgX5_reachOn (l : Launch) (D : va_G) (tg : Nat → ClassId) (bs : Nat) (sa : Nat → Nat) : ∀ d : Nat, (∀ (hp : HP) (p0 : Nat) (p1 : Int32) (p2 : Int32) (p3 : Int32), Ct l D tg bs sa yX5_reachOn cX5_reachOn 5 (some .boolean) (4 + d) [.ref p0, .int p1, .int p2, .int p3] hp (FX5_reachOn d hp p0 p1 p2 p3) (fun r => some (.int r.1)) (fun r => r.2)) := by
  intro d
  induction d with
  | zero => exact (fun hp _ _ _ _ x hx => by cases hx)
  | succ d ih =>
    exact cbX5_reachOn l D tg bs sa (FX5_reachOn d) (4 + d) (Nat.le_add_right _ _) ih
theorem ctX5_reachOn (l : Launch) (D : va_G) (tg : Nat → ClassId) (bs : Nat) (sa : Nat → Nat) (d : Nat) (hp : HP) (p0 : Nat) (p1 : Int32) (p2 : Int32) (p3 : Int32) : Ct l D tg bs sa yX5_reachOn cX5_reachOn 5 (some .boolean) (4 + d) [.ref p0, .int p1, .int p2, .int p3] hp (FX5_reachOn d hp p0 p1 p2 p3) (fun r => some (.int r.1)) (fun r => r.2) := (cgX5_reachOn l D tg bs sa d) hp p0 p1 p2 p3
theorem dX5_reach_0 : decode cX5_reach 0 = .ok (.aload_n 0, 1) := by decide +kernel
theorem dX5_reach_1 : decode cX5_reach 1 = .ok (.getfield 20, 3) := by decide +kernel
theorem dX5_reach_4 : decode cX5_reach 4 = .ok (.iconst 0, 1) := by decide +kernel
theorem dX5_reach_5 : decode cX5_reach 5 = .ok (.aaload, 1) := by decide +kernel
theorem dX5_reach_6 : decode cX5_reach 6 = .ok (.aload_n 1, 1) := by decide +kernel
theorem dX5_reach_7 : decode cX5_reach 7 = .ok (.invokevirtual 110, 3) := by decide +kernel
theorem dX5_reach_10 : decode cX5_reach 10 = .ok (.iconst 0, 1) := by decide +kernel
theorem dX5_reach_11 : decode cX5_reach 11 = .ok (.istore_n 3, 1) := by decide +kernel
theorem dX5_reach_12 : decode cX5_reach 12 = .ok (.iload_n 3, 1) := by decide +kernel
theorem dX5_reach_13 : decode cX5_reach 13 = .ok (.iconst 4, 1) := by decide +kernel
theorem dX5_reach_14 : decode cX5_reach 14 = .ok (.if_icmp .gt 21, 3) := by decide +kernel
theorem dX5_reach_17 : decode cX5_reach 17 = .ok (.aload_n 0, 1) := by decide +kernel
theorem dX5_reach_18 : decode cX5_reach 18 = .ok (.iload_n 2, 1) := by decide +kernel
theorem dX5_reach_19 : decode cX5_reach 19 = .ok (.iconst 0, 1) := by decide +kernel
theorem dX5_reach_20 : decode cX5_reach 20 = .ok (.iload_n 3, 1) := by decide +kernel
theorem dX5_reach_21 : decode cX5_reach 21 = .ok (.invokevirtual 128, 3) := by decide +kernel
theorem dX5_reach_24 : decode cX5_reach 24 = .ok (.ifCond .eq 5, 3) := by decide +kernel
theorem dX5_reach_27 : decode cX5_reach 27 = .ok (.iload_n 3, 1) := by decide +kernel
theorem dX5_reach_28 : decode cX5_reach 28 = .ok (.ireturn, 1) := by decide +kernel
theorem dX5_reach_29 : decode cX5_reach 29 = .ok (.iinc 3 1, 3) := by decide +kernel
theorem dX5_reach_32 : decode cX5_reach 32 = .ok (.goto (-20), 3) := by decide +kernel
theorem dX5_reach_35 : decode cX5_reach 35 = .ok (.iconst (-1), 1) := by decide +kernel
theorem dX5_reach_36 : decode cX5_reach 36 = .ok (.ireturn, 1) := by decide +kernel
def FX5_reach (hp : HP) (p0 : Nat) (p1 : Nat) (p2 : Int32) : Option (Int32 × HP) := (gR [5] 12 hp p0).bind (fun v1 => (rdA 5 hp v1 (0 : Int32)).bind (fun v2 => (rc [6] hp v2 (FX6_take hp v2 p1)).bind (fun w3 => (lp (fun (s4 : Int32 × HP) => if (4 : Int32) < s4.1 then some (Sum.inl (Sum.inr s4.2)) else (rc [5] s4.2 p0 (FX5_reachOn 8 s4.2 p0 p2 (0 : Int32) s4.1)).bind (fun w6 => if w6.1 = 0 then vl (s4.1 + (1 : Int32)) (fun x7 => some (Sum.inr (x7, w6.2))) else some (Sum.inl (Sum.inl (s4.1, w6.2))))) FU ((0 : Int32), w3)).bind (lk (P := Int32 × HP) (fun r => r) (fun (y5 : HP) => some ((-1 : Int32), y5))))))
set_option maxHeartbeats 4000000 in
set_option maxRecDepth 100000 in
theorem ctX5_reach (l : Launch) (D : va_G) (tg : Nat → ClassId) (bs : Nat) (sa : Nat → Nat) (hp : HP) (p0 : Nat) (p1 : Nat) (p2 : Int32) : Ct l D tg bs sa yX5_reach cX5_reach 4 (some .int) 13 [.ref p0, .ref p1, .int p2] hp (FX5_reach hp p0 p1 p2) (fun r => some (.int r.1)) (fun r => r.2) := by
  refine Ct.of (by decide) (Nat.le_of_ble_eq_true rfl) ?_
  intro V Q hVl hVd hVt hVb hVs hC
  subst hVl; subst hVd; subst hVt; subst hVb; subst hVs
  unfold FX5_reach
  show Zs V Q (0, 0) 4 _ _ hp [(0, .ref p0), (1, .ref p1), (2, .int p2)] 0 []
  refine z_aload_n hC 0 dX5_reach_0 rfl rfl ?_
  refine z_getR hC lgRX5_20 dX5_reach_1 (fun v1 => ?_)
  refine z_iconst hC (0 : Int32) dX5_reach_4 (by decide) ?_
  refine z_aald5 hC dX5_reach_5 (fun v2 => ?_)
  refine z_aload_n hC 1 dX5_reach_6 rfl rfl ?_
  refine z_callVv hC (ci := 6) rfl lmRX5_110 (ctX6_take (vLa V) (vDa V) (vTg V) (vBs V) (vSa V) hp v2 p1) (by decide) hn0 dX5_reach_7 rfl rfl (Nat.le_of_ble_eq_true rfl) (fun w3 => ?_)
  refine z_iconst hC (0 : Int32) dX5_reach_10 (by decide) ?_
  refine z_istore_n hC [(0, .ref p0), (1, .ref p1), (2, .int p2), (3, .int (0 : Int32))] [1, 2, 3, 0] dX5_reach_11 rfl (by decide) rfl ?_
  refine z_weak [(0, .ref p0), (2, .int p2), (3, .int (0 : Int32))] [0, 2, 3] rfl ?_
  refine z_lpR (S := Int32 × HP) (Y := HP) (fun s4 => s4.2) (fun s4 => [(0, .ref p0), (2, .int p2), (3, .int s4.1)]) (fun y5 => y5) (fun y5 => []) 35 [] (fun y5 => ?_) (fun s4 => ?_) rfl rfl
  · refine z_iconst hC (-1 : Int32) dX5_reach_35 (by decide) ?_
    exact z_iret hC (fun h => h) dX5_reach_36
  · refine z_iload_n hC 2 dX5_reach_12 rfl rfl ?_
    refine z_iconst hC (4 : Int32) dX5_reach_13 (by decide) ?_
    refine z_icmp_gt hC 35 dX5_reach_14 (by decide) (fun _ => ?_) (fun _ => ?_)
    · refine z_weak [] [] rfl ?_
      exact z_leaf (fun h => h)
    · refine z_aload_n hC 0 dX5_reach_17 rfl rfl ?_
      refine z_iload_n hC 1 dX5_reach_18 rfl rfl ?_
      refine z_iconst hC (0 : Int32) dX5_reach_19 (by decide) ?_
      refine z_iload_n hC 2 dX5_reach_20 rfl rfl ?_
      refine z_callVi hC (ci := 5) rfl lmRX5_128 (ctX5_reachOn (vLa V) (vDa V) (vTg V) (vBs V) (vSa V) 8 s4.2 p0 p2 (0 : Int32) s4.1) (by decide) hn0 dX5_reach_21 rfl rfl (Nat.le_of_ble_eq_true rfl) (fun w6 => ?_)
      refine z_if_eq hC 29 dX5_reach_24 (by decide) (fun _ => ?_) (fun _ => ?_)
      · refine z_iincv hC (1 : Int32) 2 (fun x7 => [(0, .ref p0), (2, .int p2), (3, .int x7)]) [1, 2, 0] dX5_reach_29 rfl (by decide) (by decide) (fun _ => rfl) (fun x7 => ?_)
        refine z_goto hC 12 dX5_reach_32 (by decide) ?_
        exact z_leaf (fun h => h)
      · refine z_iload_n hC 2 dX5_reach_27 rfl rfl ?_
        exact z_iret hC (fun h => h) dX5_reach_28

theorem dX7_changed_0 : decode cX7_changed 0 = .ok (.aload_n 0, 1) := by decide +kernel
theorem dX7_changed_1 : decode cX7_changed 1 = .ok (.iload_n 1, 1) := by decide +kernel
theorem dX7_changed_2 : decode cX7_changed 2 = .ok (.iload_n 2, 1) := by decide +kernel
theorem dX7_changed_3 : decode cX7_changed 3 = .ok (.bipush 6, 2) := by decide +kernel
theorem dX7_changed_5 : decode cX7_changed 5 = .ok (.ishr, 1) := by decide +kernel
theorem dX7_changed_6 : decode cX7_changed 6 = .ok (.ixor, 1) := by decide +kernel
theorem dX7_changed_7 : decode cX7_changed 7 = .ok (.bipush 15, 2) := by decide +kernel
theorem dX7_changed_9 : decode cX7_changed 9 = .ok (.iand, 1) := by decide +kernel
theorem dX7_changed_10 : decode cX7_changed 10 = .ok (.laload, 1) := by decide +kernel
theorem dX7_changed_11 : decode cX7_changed 11 = .ok (.lstore_n 3, 1) := by decide +kernel
theorem dX7_changed_12 : decode cX7_changed 12 = .ok (.iconst 0, 1) := by decide +kernel
theorem dX7_changed_13 : decode cX7_changed 13 = .ok (.istore 5, 2) := by decide +kernel
theorem dX7_changed_15 : decode cX7_changed 15 = .ok (.iload 5, 2) := by decide +kernel
theorem dX7_changed_17 : decode cX7_changed 17 = .ok (.bipush 6, 2) := by decide +kernel
theorem dX7_changed_19 : decode cX7_changed 19 = .ok (.if_icmp .ge 50, 3) := by decide +kernel
theorem dX7_changed_22 : decode cX7_changed 22 = .ok (.iload_n 2, 1) := by decide +kernel
theorem dX7_changed_23 : decode cX7_changed 23 = .ok (.iload 5, 2) := by decide +kernel
theorem dX7_changed_25 : decode cX7_changed 25 = .ok (.ishr, 1) := by decide +kernel
theorem dX7_changed_26 : decode cX7_changed 26 = .ok (.iconst 1, 1) := by decide +kernel
theorem dX7_changed_27 : decode cX7_changed 27 = .ok (.iand, 1) := by decide +kernel
theorem dX7_changed_28 : decode cX7_changed 28 = .ok (.ifCond .eq 35, 3) := by decide +kernel
theorem dX7_changed_31 : decode cX7_changed 31 = .ok (.lload_n 3, 1) := by decide +kernel
theorem dX7_changed_32 : decode cX7_changed 32 = .ok (.getstatic 11, 3) := by decide +kernel
theorem dX7_changed_35 : decode cX7_changed 35 = .ok (.iload 5, 2) := by decide +kernel
theorem dX7_changed_37 : decode cX7_changed 37 = .ok (.laload, 1) := by decide +kernel
theorem dX7_changed_38 : decode cX7_changed 38 = .ok (.land, 1) := by decide +kernel
theorem dX7_changed_39 : decode cX7_changed 39 = .ok (.iconst 1, 1) := by decide +kernel
theorem dX7_changed_40 : decode cX7_changed 40 = .ok (.iload 5, 2) := by decide +kernel
theorem dX7_changed_42 : decode cX7_changed 42 = .ok (.ishl, 1) := by decide +kernel
theorem dX7_changed_43 : decode cX7_changed 43 = .ok (.lushr, 1) := by decide +kernel
theorem dX7_changed_44 : decode cX7_changed 44 = .ok (.lload_n 3, 1) := by decide +kernel
theorem dX7_changed_45 : decode cX7_changed 45 = .ok (.getstatic 11, 3) := by decide +kernel
theorem dX7_changed_48 : decode cX7_changed 48 = .ok (.iload 5, 2) := by decide +kernel
theorem dX7_changed_50 : decode cX7_changed 50 = .ok (.laload, 1) := by decide +kernel
theorem dX7_changed_51 : decode cX7_changed 51 = .ok (.ldc2_w 15, 3) := by decide +kernel
theorem dX7_changed_54 : decode cX7_changed 54 = .ok (.lxor, 1) := by decide +kernel
theorem dX7_changed_55 : decode cX7_changed 55 = .ok (.land, 1) := by decide +kernel
theorem dX7_changed_56 : decode cX7_changed 56 = .ok (.iconst 1, 1) := by decide +kernel
theorem dX7_changed_57 : decode cX7_changed 57 = .ok (.iload 5, 2) := by decide +kernel
theorem dX7_changed_59 : decode cX7_changed 59 = .ok (.ishl, 1) := by decide +kernel
theorem dX7_changed_60 : decode cX7_changed 60 = .ok (.lshl, 1) := by decide +kernel
theorem dX7_changed_61 : decode cX7_changed 61 = .ok (.lor, 1) := by decide +kernel
theorem dX7_changed_62 : decode cX7_changed 62 = .ok (.lstore_n 3, 1) := by decide +kernel
theorem dX7_changed_63 : decode cX7_changed 63 = .ok (.iinc 5 1, 3) := by decide +kernel
theorem dX7_changed_66 : decode cX7_changed 66 = .ok (.goto (-51), 3) := by decide +kernel
theorem dX7_changed_69 : decode cX7_changed 69 = .ok (.lload_n 3, 1) := by decide +kernel
theorem dX7_changed_70 : decode cX7_changed 70 = .ok (.lreturn, 1) := by decide +kernel
def FX7_changed (hp : HP) (p0 : Nat) (p1 : Int32) (p2 : Int32) : Option (Int64) := (rdL hp p0 ((p1 ^^^ (p2 >>> ((6 : Int32) &&& 31))) &&& (15 : Int32))).bind (fun v1 => (lp (fun (s2 : Int64 × Int32) => if (6 : Int32) ≤ s2.2 then some (Sum.inl s2.1) else if ((p2 >>> (s2.2 &&& 31)) &&& (1 : Int32)) = 0 then vl (s2.2 + (1 : Int32)) (fun x4 => some (Sum.inr (s2.1, x4))) else (soR s2.2).bind (fun v5 => (soR s2.2).bind (fun v6 => vl ((((s2.1 &&& v5)).toUInt64 >>> ((((1 : Int32) <<< (s2.2 &&& 31))).toInt64.toUInt64 &&& Int64.toUInt64 63)).toInt64 ||| ((s2.1 &&& (v6 ^^^ (-1 : Int64))) <<< ((((1 : Int32) <<< (s2.2 &&& 31))).toInt64 &&& 63))) (fun x7 => vl (s2.2 + (1 : Int32)) (fun x8 => some (Sum.inr (x7, x8))))))) FU (v1, (0 : Int32))).bind (fun (y3 : Int64) => some y3))
set_option maxHeartbeats 4000000 in
set_option maxRecDepth 100000 in
theorem ctX7_changed (l : Launch) (D : va_G) (tg : Nat → ClassId) (bs : Nat) (sa : Nat → Nat) (hp : HP) (p0 : Nat) (p1 : Int32) (p2 : Int32) : Ct l D tg bs sa yX7_changed cX7_changed 6 (some .long) 0 [.ref p0, .int p1, .int p2] hp (FX7_changed hp p0 p1 p2) (fun r => some (.long r)) (fun _ => hp) := by
  refine Ct.of (by decide) (Nat.le_of_ble_eq_true rfl) ?_
  intro V Q hVl hVd hVt hVb hVs hC
  subst hVl; subst hVd; subst hVt; subst hVb; subst hVs
  unfold FX7_changed
  show Zs V Q (0, 0) 6 _ _ hp [(0, .ref p0), (1, .int p1), (2, .int p2)] 0 []
  refine z_aload_n hC 0 dX7_changed_0 rfl rfl ?_
  refine z_iload_n hC 1 dX7_changed_1 rfl rfl ?_
  refine z_iload_n hC 2 dX7_changed_2 rfl rfl ?_
  refine z_bipush hC (6 : Int32) dX7_changed_3 (by decide) ?_
  refine z_ishr hC dX7_changed_5 ?_
  refine z_ixor hC dX7_changed_6 ?_
  refine z_bipush hC (15 : Int32) dX7_changed_7 (by decide) ?_
  refine z_iand hC dX7_changed_9 ?_
  refine z_lald hC dX7_changed_10 (fun v1 => ?_)
  refine z_lstore_n hC [(0, .ref p0), (1, .int p1), (2, .int p2), (3, .long v1)] [1, 2, 3, 0] dX7_changed_11 rfl (by decide) rfl ?_
  refine z_iconst hC (0 : Int32) dX7_changed_12 (by decide) ?_
  refine z_istore hC [(0, .ref p0), (1, .int p1), (2, .int p2), (3, .long v1), (5, .int (0 : Int32))] [1, 2, 3, 4, 0] dX7_changed_13 (by decide) rfl ?_
  refine z_weak [(2, .int p2), (3, .long v1), (5, .int (0 : Int32))] [2, 3, 4] rfl ?_
  refine z_lp (S := Int64 × Int32) (Y := Int64) (fun s2 => hp) (fun s2 => [(2, .int p2), (3, .long s2.1), (5, .int s2.2)]) (fun y3 => hp) (fun y3 => [(3, .long y3)]) 69 [] (fun y3 => ?_) (fun s2 => ?_) rfl rfl
  · refine z_lload_n hC 0 dX7_changed_69 rfl rfl ?_
    exact z_lret hC (fun h => h) dX7_changed_70
  · refine z_iload hC 2 dX7_changed_15 rfl ?_
    refine z_bipush hC (6 : Int32) dX7_changed_17 (by decide) ?_
    refine z_icmp_ge hC 69 dX7_changed_19 (by decide) (fun _ => ?_) (fun _ => ?_)
    · refine z_weak [(3, .long s2.1)] [1] rfl ?_
      exact z_leaf (fun h => h)
    · refine z_iload_n hC 0 dX7_changed_22 rfl rfl ?_
      refine z_iload hC 2 dX7_changed_23 rfl ?_
      refine z_ishr hC dX7_changed_25 ?_
      refine z_iconst hC (1 : Int32) dX7_changed_26 (by decide) ?_
      refine z_iand hC dX7_changed_27 ?_
      refine z_if_eq hC 63 dX7_changed_28 (by decide) (fun _ => ?_) (fun _ => ?_)
      · refine z_iincv hC (1 : Int32) 2 (fun x4 => [(2, .int p2), (3, .long s2.1), (5, .int x4)]) [1, 2, 0] dX7_changed_63 rfl (by decide) (by decide) (fun _ => rfl) (fun x4 => ?_)
        refine z_goto hC 15 dX7_changed_66 (by decide) ?_
        exact z_leaf (fun h => h)
      · refine z_lload_n hC 1 dX7_changed_31 rfl rfl ?_
        refine z_getSO hC lsRX7_11 dX7_changed_32 ?_
        refine z_iload hC 2 dX7_changed_35 rfl ?_
        refine z_sold hC dX7_changed_37 (fun v5 => ?_)
        refine z_land hC dX7_changed_38 ?_
        refine z_iconst hC (1 : Int32) dX7_changed_39 (by decide) ?_
        refine z_iload hC 2 dX7_changed_40 rfl ?_
        refine z_ishl hC dX7_changed_42 ?_
        refine z_lushr hC dX7_changed_43 ?_
        refine z_lload_n hC 1 dX7_changed_44 rfl rfl ?_
        refine z_getSO hC lsRX7_11 dX7_changed_45 ?_
        refine z_iload hC 2 dX7_changed_48 rfl ?_
        refine z_sold hC dX7_changed_50 (fun v6 => ?_)
        refine z_ldc2 hC (-1 : Int64) lcRX7_15 dX7_changed_51 ?_
        refine z_lxor hC dX7_changed_54 ?_
        refine z_land hC dX7_changed_55 ?_
        refine z_iconst hC (1 : Int32) dX7_changed_56 (by decide) ?_
        refine z_iload hC 2 dX7_changed_57 rfl ?_
        refine z_ishl hC dX7_changed_59 ?_
        refine z_lshl hC dX7_changed_60 ?_
        refine z_lor hC dX7_changed_61 ?_
        refine z_vll (fun x7 => ?_)
        refine z_lstore_n hC [(2, .int p2), (3, .long x7), (5, .int s2.2)] [1, 0, 2] dX7_changed_62 rfl (by decide) rfl ?_
        refine z_iincv hC (1 : Int32) 2 (fun x8 => [(2, .int p2), (3, .long x7), (5, .int x8)]) [1, 2, 0] dX7_changed_63 rfl (by decide) (by decide) (fun _ => rfl) (fun x8 => ?_)
        refine z_goto hC 15 dX7_changed_66 (by decide) ?_
        exact z_leaf (fun h => h)

theorem dX7_fill_0 : decode cX7_fill 0 = .ok (.iconst 0, 1) := by decide +kernel
theorem dX7_fill_1 : decode cX7_fill 1 = .ok (.istore_n 1, 1) := by decide +kernel
theorem dX7_fill_2 : decode cX7_fill 2 = .ok (.iload_n 1, 1) := by decide +kernel
theorem dX7_fill_3 : decode cX7_fill 3 = .ok (.bipush 16, 2) := by decide +kernel
theorem dX7_fill_5 : decode cX7_fill 5 = .ok (.if_icmp .ge 15, 3) := by decide +kernel
theorem dX7_fill_8 : decode cX7_fill 8 = .ok (.aload_n 0, 1) := by decide +kernel
theorem dX7_fill_9 : decode cX7_fill 9 = .ok (.iload_n 1, 1) := by decide +kernel
theorem dX7_fill_10 : decode cX7_fill 10 = .ok (.ldc2_w 15, 3) := by decide +kernel
theorem dX7_fill_13 : decode cX7_fill 13 = .ok (.lastore, 1) := by decide +kernel
theorem dX7_fill_14 : decode cX7_fill 14 = .ok (.iinc 1 1, 3) := by decide +kernel
theorem dX7_fill_17 : decode cX7_fill 17 = .ok (.goto (-15), 3) := by decide +kernel
theorem dX7_fill_20 : decode cX7_fill 20 = .ok (.return_, 1) := by decide +kernel
def FX7_fill (hp : HP) (p0 : Nat) : Option (HP) := (lp (fun (s1 : Int32 × HP) => if (16 : Int32) ≤ s1.1 then some (Sum.inl s1.2) else (wrL s1.2 p0 s1.1 (-1 : Int64)).bind (fun hp3 => vl (s1.1 + (1 : Int32)) (fun x4 => some (Sum.inr (x4, hp3))))) FU ((0 : Int32), hp)).bind (fun (y2 : HP) => some y2)
set_option maxHeartbeats 4000000 in
set_option maxRecDepth 100000 in
theorem ctX7_fill (l : Launch) (D : va_G) (tg : Nat → ClassId) (bs : Nat) (sa : Nat → Nat) (hp : HP) (p0 : Nat) : Ct l D tg bs sa yX7_fill cX7_fill 2 none 0 [.ref p0] hp (FX7_fill hp p0) (fun _ => none) (fun r => r) := by
  refine Ct.of (by decide) (Nat.le_of_ble_eq_true rfl) ?_
  intro V Q hVl hVd hVt hVb hVs hC
  subst hVl; subst hVd; subst hVt; subst hVb; subst hVs
  unfold FX7_fill
  show Zs V Q (0, 0) 2 _ _ hp [(0, .ref p0)] 0 []
  refine z_iconst hC (0 : Int32) dX7_fill_0 (by decide) ?_
  refine z_istore_n hC [(0, .ref p0), (1, .int (0 : Int32))] [1, 0] dX7_fill_1 rfl (by decide) rfl ?_
  refine z_lp (S := Int32 × HP) (Y := HP) (fun s1 => s1.2) (fun s1 => [(0, .ref p0), (1, .int s1.1)]) (fun y2 => y2) (fun y2 => []) 20 [] (fun y2 => ?_) (fun s1 => ?_) rfl rfl
  · exact z_vret hC (fun h => h) dX7_fill_20
  · refine z_iload_n hC 1 dX7_fill_2 rfl rfl ?_
    refine z_bipush hC (16 : Int32) dX7_fill_3 (by decide) ?_
    refine z_icmp_ge hC 20 dX7_fill_5 (by decide) (fun _ => ?_) (fun _ => ?_)
    · refine z_weak [] [] rfl ?_
      exact z_leaf (fun h => h)
    · refine z_aload_n hC 0 dX7_fill_8 rfl rfl ?_
      refine z_iload_n hC 1 dX7_fill_9 rfl rfl ?_
      refine z_ldc2 hC (-1 : Int64) lcRX7_15 dX7_fill_10 ?_
      refine z_last hC dX7_fill_13 (fun hp3 => ?_)
      refine z_iincv hC (1 : Int32) 1 (fun x4 => [(0, .ref p0), (1, .int x4)]) [1, 0] dX7_fill_14 rfl (by decide) (by decide) (fun _ => rfl) (fun x4 => ?_)
      refine z_goto hC 2 dX7_fill_17 (by decide) ?_
      exact z_leaf (fun h => h)

theorem dX7_isEmpty_0 : decode cX7_isEmpty 0 = .ok (.lconst 0, 1) := by decide +kernel
theorem dX7_isEmpty_1 : decode cX7_isEmpty 1 = .ok (.lstore_n 1, 1) := by decide +kernel
theorem dX7_isEmpty_2 : decode cX7_isEmpty 2 = .ok (.iconst 0, 1) := by decide +kernel
theorem dX7_isEmpty_3 : decode cX7_isEmpty 3 = .ok (.istore_n 3, 1) := by decide +kernel
theorem dX7_isEmpty_4 : decode cX7_isEmpty 4 = .ok (.iload_n 3, 1) := by decide +kernel
theorem dX7_isEmpty_5 : decode cX7_isEmpty 5 = .ok (.bipush 16, 2) := by decide +kernel
theorem dX7_isEmpty_7 : decode cX7_isEmpty 7 = .ok (.if_icmp .ge 15, 3) := by decide +kernel
theorem dX7_isEmpty_10 : decode cX7_isEmpty 10 = .ok (.lload_n 1, 1) := by decide +kernel
theorem dX7_isEmpty_11 : decode cX7_isEmpty 11 = .ok (.aload_n 0, 1) := by decide +kernel
theorem dX7_isEmpty_12 : decode cX7_isEmpty 12 = .ok (.iload_n 3, 1) := by decide +kernel
theorem dX7_isEmpty_13 : decode cX7_isEmpty 13 = .ok (.laload, 1) := by decide +kernel
theorem dX7_isEmpty_14 : decode cX7_isEmpty 14 = .ok (.lor, 1) := by decide +kernel
theorem dX7_isEmpty_15 : decode cX7_isEmpty 15 = .ok (.lstore_n 1, 1) := by decide +kernel
theorem dX7_isEmpty_16 : decode cX7_isEmpty 16 = .ok (.iinc 3 1, 3) := by decide +kernel
theorem dX7_isEmpty_19 : decode cX7_isEmpty 19 = .ok (.goto (-15), 3) := by decide +kernel
theorem dX7_isEmpty_22 : decode cX7_isEmpty 22 = .ok (.lload_n 1, 1) := by decide +kernel
theorem dX7_isEmpty_23 : decode cX7_isEmpty 23 = .ok (.lconst 0, 1) := by decide +kernel
theorem dX7_isEmpty_24 : decode cX7_isEmpty 24 = .ok (.lcmp, 1) := by decide +kernel
theorem dX7_isEmpty_25 : decode cX7_isEmpty 25 = .ok (.ifCond .ne 7, 3) := by decide +kernel
theorem dX7_isEmpty_28 : decode cX7_isEmpty 28 = .ok (.iconst 1, 1) := by decide +kernel
theorem dX7_isEmpty_29 : decode cX7_isEmpty 29 = .ok (.goto 4, 3) := by decide +kernel
theorem dX7_isEmpty_32 : decode cX7_isEmpty 32 = .ok (.iconst 0, 1) := by decide +kernel
theorem dX7_isEmpty_33 : decode cX7_isEmpty 33 = .ok (.ireturn, 1) := by decide +kernel
def FX7_isEmpty (hp : HP) (p0 : Nat) : Option (Int32) := (lp (fun (s1 : Int64 × Int32) => if (16 : Int32) ≤ s1.2 then some (Sum.inl s1.1) else (rdL hp p0 s1.2).bind (fun v3 => vl (s1.1 ||| v3) (fun x4 => vl (s1.2 + (1 : Int32)) (fun x5 => some (Sum.inr (x4, x5)))))) FU ((0 : Int64), (0 : Int32))).bind (fun (y2 : Int64) => if (lg_cmp y2 (0 : Int64)) = 0 then some (1 : Int32) else some (0 : Int32))
set_option maxHeartbeats 4000000 in
set_option maxRecDepth 100000 in
theorem ctX7_isEmpty (l : Launch) (D : va_G) (tg : Nat → ClassId) (bs : Nat) (sa : Nat → Nat) (hp : HP) (p0 : Nat) : Ct l D tg bs sa yX7_isEmpty cX7_isEmpty 4 (some .boolean) 0 [.ref p0] hp (FX7_isEmpty hp p0) (fun r => some (.int r)) (fun _ => hp) := by
  refine Ct.of (by decide) (Nat.le_of_ble_eq_true rfl) ?_
  intro V Q hVl hVd hVt hVb hVs hC
  subst hVl; subst hVd; subst hVt; subst hVb; subst hVs
  unfold FX7_isEmpty
  show Zs V Q (0, 0) 4 _ _ hp [(0, .ref p0)] 0 []
  refine z_lconst hC (0 : Int64) dX7_isEmpty_0 (by decide) ?_
  refine z_lstore_n hC [(0, .ref p0), (1, .long (0 : Int64))] [1, 0] dX7_isEmpty_1 rfl (by decide) rfl ?_
  refine z_iconst hC (0 : Int32) dX7_isEmpty_2 (by decide) ?_
  refine z_istore_n hC [(0, .ref p0), (1, .long (0 : Int64)), (3, .int (0 : Int32))] [1, 2, 0] dX7_isEmpty_3 rfl (by decide) rfl ?_
  refine z_lp (S := Int64 × Int32) (Y := Int64) (fun s1 => hp) (fun s1 => [(0, .ref p0), (1, .long s1.1), (3, .int s1.2)]) (fun y2 => hp) (fun y2 => [(1, .long y2)]) 22 [] (fun y2 => ?_) (fun s1 => ?_) rfl rfl
  · refine z_lload_n hC 0 dX7_isEmpty_22 rfl rfl ?_
    refine z_lconst hC (0 : Int64) dX7_isEmpty_23 (by decide) ?_
    refine z_lcmp hC dX7_isEmpty_24 ?_
    refine z_if_ne hC 32 dX7_isEmpty_25 (by decide) (fun _ => ?_) (fun _ => ?_)
    · refine z_iconst hC (1 : Int32) dX7_isEmpty_28 (by decide) ?_
      refine z_goto hC 33 dX7_isEmpty_29 (by decide) ?_
      exact z_zret hC (by decide) (fun h => h) dX7_isEmpty_33
    · refine z_iconst hC (0 : Int32) dX7_isEmpty_32 (by decide) ?_
      exact z_zret hC (by decide) (fun h => h) dX7_isEmpty_33
  · refine z_iload_n hC 2 dX7_isEmpty_4 rfl rfl ?_
    refine z_bipush hC (16 : Int32) dX7_isEmpty_5 (by decide) ?_
    refine z_icmp_ge hC 22 dX7_isEmpty_7 (by decide) (fun _ => ?_) (fun _ => ?_)
    · refine z_weak [(1, .long s1.1)] [1] rfl ?_
      exact z_leaf (fun h => h)
    · refine z_lload_n hC 1 dX7_isEmpty_10 rfl rfl ?_
      refine z_aload_n hC 0 dX7_isEmpty_11 rfl rfl ?_
      refine z_iload_n hC 2 dX7_isEmpty_12 rfl rfl ?_
      refine z_lald hC dX7_isEmpty_13 (fun v3 => ?_)
      refine z_lor hC dX7_isEmpty_14 ?_
      refine z_vll (fun x4 => ?_)
      refine z_lstore_n hC [(0, .ref p0), (1, .long x4), (3, .int s1.2)] [1, 0, 2] dX7_isEmpty_15 rfl (by decide) rfl ?_
      refine z_iincv hC (1 : Int32) 2 (fun x5 => [(0, .ref p0), (1, .long x4), (3, .int x5)]) [1, 2, 0] dX7_isEmpty_16 rfl (by decide) (by decide) (fun _ => rfl) (fun x5 => ?_)
      refine z_goto hC 4 dX7_isEmpty_19 (by decide) ?_
      exact z_leaf (fun h => h)

theorem dX7_size_0 : decode cX7_size 0 = .ok (.iconst 0, 1) := by decide +kernel
theorem dX7_size_1 : decode cX7_size 1 = .ok (.istore_n 1, 1) := by decide +kernel
theorem dX7_size_2 : decode cX7_size 2 = .ok (.iconst 0, 1) := by decide +kernel
theorem dX7_size_3 : decode cX7_size 3 = .ok (.istore_n 2, 1) := by decide +kernel
theorem dX7_size_4 : decode cX7_size 4 = .ok (.iload_n 2, 1) := by decide +kernel
theorem dX7_size_5 : decode cX7_size 5 = .ok (.bipush 16, 2) := by decide +kernel
theorem dX7_size_7 : decode cX7_size 7 = .ok (.if_icmp .ge 18, 3) := by decide +kernel
theorem dX7_size_10 : decode cX7_size 10 = .ok (.iload_n 1, 1) := by decide +kernel
theorem dX7_size_11 : decode cX7_size 11 = .ok (.aload_n 0, 1) := by decide +kernel
theorem dX7_size_12 : decode cX7_size 12 = .ok (.iload_n 2, 1) := by decide +kernel
theorem dX7_size_13 : decode cX7_size 13 = .ok (.laload, 1) := by decide +kernel
theorem dX7_size_14 : decode cX7_size 14 = .ok (.invokestatic 17, 3) := by decide +kernel
theorem dX7_size_17 : decode cX7_size 17 = .ok (.iadd, 1) := by decide +kernel
theorem dX7_size_18 : decode cX7_size 18 = .ok (.istore_n 1, 1) := by decide +kernel
theorem dX7_size_19 : decode cX7_size 19 = .ok (.iinc 2 1, 3) := by decide +kernel
theorem dX7_size_22 : decode cX7_size 22 = .ok (.goto (-18), 3) := by decide +kernel
theorem dX7_size_25 : decode cX7_size 25 = .ok (.iload_n 1, 1) := by decide +kernel
theorem dX7_size_26 : decode cX7_size 26 = .ok (.ireturn, 1) := by decide +kernel
def FX7_size (hp : HP) (p0 : Nat) : Option (Int32) := (lp (fun (s1 : Int32 × Int32) => if (16 : Int32) ≤ s1.2 then some (Sum.inl s1.1) else (rdL hp p0 s1.2).bind (fun v3 => (FJ13_bitCount_95d88 v3).bind (fun v4 => vl (s1.1 + v4) (fun x5 => vl (s1.2 + (1 : Int32)) (fun x6 => some (Sum.inr (x5, x6))))))) FU ((0 : Int32), (0 : Int32))).bind (fun (y2 : Int32) => some y2)
set_option maxHeartbeats 4000000 in
set_option maxRecDepth 100000 in
theorem ctX7_size (l : Launch) (D : va_G) (tg : Nat → ClassId) (bs : Nat) (sa : Nat → Nat) (hp : HP) (p0 : Nat) : Ct l D tg bs sa yX7_size cX7_size 3 (some .int) 1 [.ref p0] hp (FX7_size hp p0) (fun r => some (.int r)) (fun _ => hp) := by
  refine Ct.of (by decide) (Nat.le_of_ble_eq_true rfl) ?_
  intro V Q hVl hVd hVt hVb hVs hC
  subst hVl; subst hVd; subst hVt; subst hVb; subst hVs
  unfold FX7_size
  show Zs V Q (0, 0) 3 _ _ hp [(0, .ref p0)] 0 []
  refine z_iconst hC (0 : Int32) dX7_size_0 (by decide) ?_
  refine z_istore_n hC [(0, .ref p0), (1, .int (0 : Int32))] [1, 0] dX7_size_1 rfl (by decide) rfl ?_
  refine z_iconst hC (0 : Int32) dX7_size_2 (by decide) ?_
  refine z_istore_n hC [(0, .ref p0), (1, .int (0 : Int32)), (2, .int (0 : Int32))] [1, 2, 0] dX7_size_3 rfl (by decide) rfl ?_
  refine z_lp (S := Int32 × Int32) (Y := Int32) (fun s1 => hp) (fun s1 => [(0, .ref p0), (1, .int s1.1), (2, .int s1.2)]) (fun y2 => hp) (fun y2 => [(1, .int y2)]) 25 [] (fun y2 => ?_) (fun s1 => ?_) rfl rfl
  · refine z_iload_n hC 0 dX7_size_25 rfl rfl ?_
    exact z_iret hC (fun h => h) dX7_size_26
  · refine z_iload_n hC 2 dX7_size_4 rfl rfl ?_
    refine z_bipush hC (16 : Int32) dX7_size_5 (by decide) ?_
    refine z_icmp_ge hC 25 dX7_size_7 (by decide) (fun _ => ?_) (fun _ => ?_)
    · refine z_weak [(1, .int s1.1)] [1] rfl ?_
      exact z_leaf (fun h => h)
    · refine z_iload_n hC 1 dX7_size_10 rfl rfl ?_
      refine z_aload_n hC 0 dX7_size_11 rfl rfl ?_
      refine z_iload_n hC 2 dX7_size_12 rfl rfl ?_
      refine z_lald hC dX7_size_13 (fun v3 => ?_)
      refine z_callSi hC lmRX7_17 (ctJ13_bitCount_95d88 (vLa V) (vDa V) (vTg V) (vBs V) (vSa V) hp v3) (by decide) hn0 dX7_size_14 rfl rfl (Nat.le_of_ble_eq_true rfl) (fun v4 => ?_)
      refine z_iadd hC dX7_size_17 ?_
      refine z_vli (fun x5 => ?_)
      refine z_istore_n hC [(0, .ref p0), (1, .int x5), (2, .int s1.2)] [1, 0, 2] dX7_size_18 rfl (by decide) rfl ?_
      refine z_iincv hC (1 : Int32) 2 (fun x6 => [(0, .ref p0), (1, .int x5), (2, .int x6)]) [1, 2, 0] dX7_size_19 rfl (by decide) (by decide) (fun _ => rfl) (fun x6 => ?_)
      refine z_goto hC 4 dX7_size_22 (by decide) ?_
      exact z_leaf (fun h => h)

theorem dX7_sharedSize_0 : decode cX7_sharedSize 0 = .ok (.iconst 0, 1) := by decide +kernel
theorem dX7_sharedSize_1 : decode cX7_sharedSize 1 = .ok (.istore_n 2, 1) := by decide +kernel
theorem dX7_sharedSize_2 : decode cX7_sharedSize 2 = .ok (.iconst 0, 1) := by decide +kernel
theorem dX7_sharedSize_3 : decode cX7_sharedSize 3 = .ok (.istore_n 3, 1) := by decide +kernel
theorem dX7_sharedSize_4 : decode cX7_sharedSize 4 = .ok (.iload_n 3, 1) := by decide +kernel
theorem dX7_sharedSize_5 : decode cX7_sharedSize 5 = .ok (.bipush 16, 2) := by decide +kernel
theorem dX7_sharedSize_7 : decode cX7_sharedSize 7 = .ok (.if_icmp .ge 22, 3) := by decide +kernel
theorem dX7_sharedSize_10 : decode cX7_sharedSize 10 = .ok (.iload_n 2, 1) := by decide +kernel
theorem dX7_sharedSize_11 : decode cX7_sharedSize 11 = .ok (.aload_n 0, 1) := by decide +kernel
theorem dX7_sharedSize_12 : decode cX7_sharedSize 12 = .ok (.iload_n 3, 1) := by decide +kernel
theorem dX7_sharedSize_13 : decode cX7_sharedSize 13 = .ok (.laload, 1) := by decide +kernel
theorem dX7_sharedSize_14 : decode cX7_sharedSize 14 = .ok (.aload_n 1, 1) := by decide +kernel
theorem dX7_sharedSize_15 : decode cX7_sharedSize 15 = .ok (.iload_n 3, 1) := by decide +kernel
theorem dX7_sharedSize_16 : decode cX7_sharedSize 16 = .ok (.laload, 1) := by decide +kernel
theorem dX7_sharedSize_17 : decode cX7_sharedSize 17 = .ok (.land, 1) := by decide +kernel
theorem dX7_sharedSize_18 : decode cX7_sharedSize 18 = .ok (.invokestatic 17, 3) := by decide +kernel
theorem dX7_sharedSize_21 : decode cX7_sharedSize 21 = .ok (.iadd, 1) := by decide +kernel
theorem dX7_sharedSize_22 : decode cX7_sharedSize 22 = .ok (.istore_n 2, 1) := by decide +kernel
theorem dX7_sharedSize_23 : decode cX7_sharedSize 23 = .ok (.iinc 3 1, 3) := by decide +kernel
theorem dX7_sharedSize_26 : decode cX7_sharedSize 26 = .ok (.goto (-22), 3) := by decide +kernel
theorem dX7_sharedSize_29 : decode cX7_sharedSize 29 = .ok (.iload_n 2, 1) := by decide +kernel
theorem dX7_sharedSize_30 : decode cX7_sharedSize 30 = .ok (.ireturn, 1) := by decide +kernel
def FX7_sharedSize (hp : HP) (p0 : Nat) (p1 : Nat) : Option (Int32) := (lp (fun (s1 : Int32 × Int32) => if (16 : Int32) ≤ s1.2 then some (Sum.inl s1.1) else (rdL hp p0 s1.2).bind (fun v3 => (rdL hp p1 s1.2).bind (fun v4 => (FJ13_bitCount_95d88 (v3 &&& v4)).bind (fun v5 => vl (s1.1 + v5) (fun x6 => vl (s1.2 + (1 : Int32)) (fun x7 => some (Sum.inr (x6, x7)))))))) FU ((0 : Int32), (0 : Int32))).bind (fun (y2 : Int32) => some y2)
set_option maxHeartbeats 4000000 in
set_option maxRecDepth 100000 in
theorem ctX7_sharedSize (l : Launch) (D : va_G) (tg : Nat → ClassId) (bs : Nat) (sa : Nat → Nat) (hp : HP) (p0 : Nat) (p1 : Nat) : Ct l D tg bs sa yX7_sharedSize cX7_sharedSize 4 (some .int) 1 [.ref p0, .ref p1] hp (FX7_sharedSize hp p0 p1) (fun r => some (.int r)) (fun _ => hp) := by
  refine Ct.of (by decide) (Nat.le_of_ble_eq_true rfl) ?_
  intro V Q hVl hVd hVt hVb hVs hC
  subst hVl; subst hVd; subst hVt; subst hVb; subst hVs
  unfold FX7_sharedSize
  show Zs V Q (0, 0) 4 _ _ hp [(0, .ref p0), (1, .ref p1)] 0 []
  refine z_iconst hC (0 : Int32) dX7_sharedSize_0 (by decide) ?_
  refine z_istore_n hC [(0, .ref p0), (1, .ref p1), (2, .int (0 : Int32))] [1, 2, 0] dX7_sharedSize_1 rfl (by decide) rfl ?_
  refine z_iconst hC (0 : Int32) dX7_sharedSize_2 (by decide) ?_
  refine z_istore_n hC [(0, .ref p0), (1, .ref p1), (2, .int (0 : Int32)), (3, .int (0 : Int32))] [1, 2, 3, 0] dX7_sharedSize_3 rfl (by decide) rfl ?_
  refine z_lp (S := Int32 × Int32) (Y := Int32) (fun s1 => hp) (fun s1 => [(0, .ref p0), (1, .ref p1), (2, .int s1.1), (3, .int s1.2)]) (fun y2 => hp) (fun y2 => [(2, .int y2)]) 29 [] (fun y2 => ?_) (fun s1 => ?_) rfl rfl
  · refine z_iload_n hC 0 dX7_sharedSize_29 rfl rfl ?_
    exact z_iret hC (fun h => h) dX7_sharedSize_30
  · refine z_iload_n hC 3 dX7_sharedSize_4 rfl rfl ?_
    refine z_bipush hC (16 : Int32) dX7_sharedSize_5 (by decide) ?_
    refine z_icmp_ge hC 29 dX7_sharedSize_7 (by decide) (fun _ => ?_) (fun _ => ?_)
    · refine z_weak [(2, .int s1.1)] [2] rfl ?_
      exact z_leaf (fun h => h)
    · refine z_iload_n hC 2 dX7_sharedSize_10 rfl rfl ?_
      refine z_aload_n hC 0 dX7_sharedSize_11 rfl rfl ?_
      refine z_iload_n hC 3 dX7_sharedSize_12 rfl rfl ?_
      refine z_lald hC dX7_sharedSize_13 (fun v3 => ?_)
      refine z_aload_n hC 1 dX7_sharedSize_14 rfl rfl ?_
      refine z_iload_n hC 3 dX7_sharedSize_15 rfl rfl ?_
      refine z_lald hC dX7_sharedSize_16 (fun v4 => ?_)
      refine z_land hC dX7_sharedSize_17 ?_
      refine z_callSi hC lmRX7_17 (ctJ13_bitCount_95d88 (vLa V) (vDa V) (vTg V) (vBs V) (vSa V) hp (v3 &&& v4)) (by decide) hn0 dX7_sharedSize_18 rfl rfl (Nat.le_of_ble_eq_true rfl) (fun v5 => ?_)
      refine z_iadd hC dX7_sharedSize_21 ?_
      refine z_vli (fun x6 => ?_)
      refine z_istore_n hC [(0, .ref p0), (1, .ref p1), (2, .int x6), (3, .int s1.2)] [1, 2, 0, 3] dX7_sharedSize_22 rfl (by decide) rfl ?_
      refine z_iincv hC (1 : Int32) 3 (fun x7 => [(0, .ref p0), (1, .ref p1), (2, .int x6), (3, .int x7)]) [1, 2, 3, 0] dX7_sharedSize_23 rfl (by decide) (by decide) (fun _ => rfl) (fun x7 => ?_)
      refine z_goto hC 4 dX7_sharedSize_26 (by decide) ?_
      exact z_leaf (fun h => h)

theorem dX7_loneSize_0 : decode cX7_loneSize 0 = .ok (.iconst 0, 1) := by decide +kernel
theorem dX7_loneSize_1 : decode cX7_loneSize 1 = .ok (.istore_n 3, 1) := by decide +kernel
theorem dX7_loneSize_2 : decode cX7_loneSize 2 = .ok (.iconst 0, 1) := by decide +kernel
theorem dX7_loneSize_3 : decode cX7_loneSize 3 = .ok (.istore 4, 2) := by decide +kernel
theorem dX7_loneSize_5 : decode cX7_loneSize 5 = .ok (.iload 4, 2) := by decide +kernel
theorem dX7_loneSize_7 : decode cX7_loneSize 7 = .ok (.bipush 16, 2) := by decide +kernel
theorem dX7_loneSize_9 : decode cX7_loneSize 9 = .ok (.if_icmp .ge 33, 3) := by decide +kernel
theorem dX7_loneSize_12 : decode cX7_loneSize 12 = .ok (.iload_n 3, 1) := by decide +kernel
theorem dX7_loneSize_13 : decode cX7_loneSize 13 = .ok (.aload_n 0, 1) := by decide +kernel
theorem dX7_loneSize_14 : decode cX7_loneSize 14 = .ok (.iload 4, 2) := by decide +kernel
theorem dX7_loneSize_16 : decode cX7_loneSize 16 = .ok (.laload, 1) := by decide +kernel
theorem dX7_loneSize_17 : decode cX7_loneSize 17 = .ok (.aload_n 1, 1) := by decide +kernel
theorem dX7_loneSize_18 : decode cX7_loneSize 18 = .ok (.iload 4, 2) := by decide +kernel
theorem dX7_loneSize_20 : decode cX7_loneSize 20 = .ok (.laload, 1) := by decide +kernel
theorem dX7_loneSize_21 : decode cX7_loneSize 21 = .ok (.land, 1) := by decide +kernel
theorem dX7_loneSize_22 : decode cX7_loneSize 22 = .ok (.aload_n 2, 1) := by decide +kernel
theorem dX7_loneSize_23 : decode cX7_loneSize 23 = .ok (.iload 4, 2) := by decide +kernel
theorem dX7_loneSize_25 : decode cX7_loneSize 25 = .ok (.laload, 1) := by decide +kernel
theorem dX7_loneSize_26 : decode cX7_loneSize 26 = .ok (.ldc2_w 15, 3) := by decide +kernel
theorem dX7_loneSize_29 : decode cX7_loneSize 29 = .ok (.lxor, 1) := by decide +kernel
theorem dX7_loneSize_30 : decode cX7_loneSize 30 = .ok (.land, 1) := by decide +kernel
theorem dX7_loneSize_31 : decode cX7_loneSize 31 = .ok (.invokestatic 17, 3) := by decide +kernel
theorem dX7_loneSize_34 : decode cX7_loneSize 34 = .ok (.iadd, 1) := by decide +kernel
theorem dX7_loneSize_35 : decode cX7_loneSize 35 = .ok (.istore_n 3, 1) := by decide +kernel
theorem dX7_loneSize_36 : decode cX7_loneSize 36 = .ok (.iinc 4 1, 3) := by decide +kernel
theorem dX7_loneSize_39 : decode cX7_loneSize 39 = .ok (.goto (-34), 3) := by decide +kernel
theorem dX7_loneSize_42 : decode cX7_loneSize 42 = .ok (.iload_n 3, 1) := by decide +kernel
theorem dX7_loneSize_43 : decode cX7_loneSize 43 = .ok (.ireturn, 1) := by decide +kernel
def FX7_loneSize (hp : HP) (p0 : Nat) (p1 : Nat) (p2 : Nat) : Option (Int32) := (lp (fun (s1 : Int32 × Int32) => if (16 : Int32) ≤ s1.2 then some (Sum.inl s1.1) else (rdL hp p0 s1.2).bind (fun v3 => (rdL hp p1 s1.2).bind (fun v4 => (rdL hp p2 s1.2).bind (fun v5 => (FJ13_bitCount_95d88 ((v3 &&& v4) &&& (v5 ^^^ (-1 : Int64)))).bind (fun v6 => vl (s1.1 + v6) (fun x7 => vl (s1.2 + (1 : Int32)) (fun x8 => some (Sum.inr (x7, x8))))))))) FU ((0 : Int32), (0 : Int32))).bind (fun (y2 : Int32) => some y2)
set_option maxHeartbeats 4000000 in
set_option maxRecDepth 100000 in
theorem ctX7_loneSize (l : Launch) (D : va_G) (tg : Nat → ClassId) (bs : Nat) (sa : Nat → Nat) (hp : HP) (p0 : Nat) (p1 : Nat) (p2 : Nat) : Ct l D tg bs sa yX7_loneSize cX7_loneSize 5 (some .int) 1 [.ref p0, .ref p1, .ref p2] hp (FX7_loneSize hp p0 p1 p2) (fun r => some (.int r)) (fun _ => hp) := by
  refine Ct.of (by decide) (Nat.le_of_ble_eq_true rfl) ?_
  intro V Q hVl hVd hVt hVb hVs hC
  subst hVl; subst hVd; subst hVt; subst hVb; subst hVs
  unfold FX7_loneSize
  show Zs V Q (0, 0) 5 _ _ hp [(0, .ref p0), (1, .ref p1), (2, .ref p2)] 0 []
  refine z_iconst hC (0 : Int32) dX7_loneSize_0 (by decide) ?_
  refine z_istore_n hC [(0, .ref p0), (1, .ref p1), (2, .ref p2), (3, .int (0 : Int32))] [1, 2, 3, 0] dX7_loneSize_1 rfl (by decide) rfl ?_
  refine z_iconst hC (0 : Int32) dX7_loneSize_2 (by decide) ?_
  refine z_istore hC [(0, .ref p0), (1, .ref p1), (2, .ref p2), (3, .int (0 : Int32)), (4, .int (0 : Int32))] [1, 2, 3, 4, 0] dX7_loneSize_3 (by decide) rfl ?_
  refine z_lp (S := Int32 × Int32) (Y := Int32) (fun s1 => hp) (fun s1 => [(0, .ref p0), (1, .ref p1), (2, .ref p2), (3, .int s1.1), (4, .int s1.2)]) (fun y2 => hp) (fun y2 => [(3, .int y2)]) 42 [] (fun y2 => ?_) (fun s1 => ?_) rfl rfl
  · refine z_iload_n hC 0 dX7_loneSize_42 rfl rfl ?_
    exact z_iret hC (fun h => h) dX7_loneSize_43
  · refine z_iload hC 4 dX7_loneSize_5 rfl ?_
    refine z_bipush hC (16 : Int32) dX7_loneSize_7 (by decide) ?_
    refine z_icmp_ge hC 42 dX7_loneSize_9 (by decide) (fun _ => ?_) (fun _ => ?_)
    · refine z_weak [(3, .int s1.1)] [3] rfl ?_
      exact z_leaf (fun h => h)
    · refine z_iload_n hC 3 dX7_loneSize_12 rfl rfl ?_
      refine z_aload_n hC 0 dX7_loneSize_13 rfl rfl ?_
      refine z_iload hC 4 dX7_loneSize_14 rfl ?_
      refine z_lald hC dX7_loneSize_16 (fun v3 => ?_)
      refine z_aload_n hC 1 dX7_loneSize_17 rfl rfl ?_
      refine z_iload hC 4 dX7_loneSize_18 rfl ?_
      refine z_lald hC dX7_loneSize_20 (fun v4 => ?_)
      refine z_land hC dX7_loneSize_21 ?_
      refine z_aload_n hC 2 dX7_loneSize_22 rfl rfl ?_
      refine z_iload hC 4 dX7_loneSize_23 rfl ?_
      refine z_lald hC dX7_loneSize_25 (fun v5 => ?_)
      refine z_ldc2 hC (-1 : Int64) lcRX7_15 dX7_loneSize_26 ?_
      refine z_lxor hC dX7_loneSize_29 ?_
      refine z_land hC dX7_loneSize_30 ?_
      refine z_callSi hC lmRX7_17 (ctJ13_bitCount_95d88 (vLa V) (vDa V) (vTg V) (vBs V) (vSa V) hp ((v3 &&& v4) &&& (v5 ^^^ (-1 : Int64)))) (by decide) hn0 dX7_loneSize_31 rfl rfl (Nat.le_of_ble_eq_true rfl) (fun v6 => ?_)
      refine z_iadd hC dX7_loneSize_34 ?_
      refine z_vli (fun x7 => ?_)
      refine z_istore_n hC [(0, .ref p0), (1, .ref p1), (2, .ref p2), (3, .int x7), (4, .int s1.2)] [1, 2, 3, 0, 4] dX7_loneSize_35 rfl (by decide) rfl ?_
      refine z_iincv hC (1 : Int32) 4 (fun x8 => [(0, .ref p0), (1, .ref p1), (2, .ref p2), (3, .int x7), (4, .int x8)]) [1, 2, 3, 4, 0] dX7_loneSize_36 rfl (by decide) (by decide) (fun _ => rfl) (fun x8 => ?_)
      refine z_goto hC 5 dX7_loneSize_39 (by decide) ?_
      exact z_leaf (fun h => h)

theorem dX7_sizeWith_0 : decode cX7_sizeWith 0 = .ok (.iconst 0, 1) := by decide +kernel
theorem dX7_sizeWith_1 : decode cX7_sizeWith 1 = .ok (.istore_n 2, 1) := by decide +kernel
theorem dX7_sizeWith_2 : decode cX7_sizeWith 2 = .ok (.iconst 0, 1) := by decide +kernel
theorem dX7_sizeWith_3 : decode cX7_sizeWith 3 = .ok (.istore_n 3, 1) := by decide +kernel
theorem dX7_sizeWith_4 : decode cX7_sizeWith 4 = .ok (.iload_n 3, 1) := by decide +kernel
theorem dX7_sizeWith_5 : decode cX7_sizeWith 5 = .ok (.bipush 16, 2) := by decide +kernel
theorem dX7_sizeWith_7 : decode cX7_sizeWith 7 = .ok (.if_icmp .ge 24, 3) := by decide +kernel
theorem dX7_sizeWith_10 : decode cX7_sizeWith 10 = .ok (.iload_n 2, 1) := by decide +kernel
theorem dX7_sizeWith_11 : decode cX7_sizeWith 11 = .ok (.aload_n 0, 1) := by decide +kernel
theorem dX7_sizeWith_12 : decode cX7_sizeWith 12 = .ok (.iload_n 3, 1) := by decide +kernel
theorem dX7_sizeWith_13 : decode cX7_sizeWith 13 = .ok (.laload, 1) := by decide +kernel
theorem dX7_sizeWith_14 : decode cX7_sizeWith 14 = .ok (.iload_n 1, 1) := by decide +kernel
theorem dX7_sizeWith_15 : decode cX7_sizeWith 15 = .ok (.iload_n 3, 1) := by decide +kernel
theorem dX7_sizeWith_16 : decode cX7_sizeWith 16 = .ok (.invokestatic 23, 3) := by decide +kernel
theorem dX7_sizeWith_19 : decode cX7_sizeWith 19 = .ok (.land, 1) := by decide +kernel
theorem dX7_sizeWith_20 : decode cX7_sizeWith 20 = .ok (.invokestatic 17, 3) := by decide +kernel
theorem dX7_sizeWith_23 : decode cX7_sizeWith 23 = .ok (.iadd, 1) := by decide +kernel
theorem dX7_sizeWith_24 : decode cX7_sizeWith 24 = .ok (.istore_n 2, 1) := by decide +kernel
theorem dX7_sizeWith_25 : decode cX7_sizeWith 25 = .ok (.iinc 3 1, 3) := by decide +kernel
theorem dX7_sizeWith_28 : decode cX7_sizeWith 28 = .ok (.goto (-24), 3) := by decide +kernel
theorem dX7_sizeWith_31 : decode cX7_sizeWith 31 = .ok (.iload_n 2, 1) := by decide +kernel
theorem dX7_sizeWith_32 : decode cX7_sizeWith 32 = .ok (.ireturn, 1) := by decide +kernel
def FX7_sizeWith (hp : HP) (p0 : Nat) (p1 : Int32) : Option (Int32) := (lp (fun (s1 : Int32 × Int32) => if (16 : Int32) ≤ s1.2 then some (Sum.inl s1.1) else (rdL hp p0 s1.2).bind (fun v3 => (FX7_soWord hp p1 s1.2).bind (fun v4 => (FJ13_bitCount_95d88 (v3 &&& v4)).bind (fun v5 => vl (s1.1 + v5) (fun x6 => vl (s1.2 + (1 : Int32)) (fun x7 => some (Sum.inr (x6, x7)))))))) FU ((0 : Int32), (0 : Int32))).bind (fun (y2 : Int32) => some y2)
set_option maxHeartbeats 4000000 in
set_option maxRecDepth 100000 in
theorem ctX7_sizeWith (l : Launch) (D : va_G) (tg : Nat → ClassId) (bs : Nat) (sa : Nat → Nat) (hp : HP) (p0 : Nat) (p1 : Int32) : Ct l D tg bs sa yX7_sizeWith cX7_sizeWith 4 (some .int) 1 [.ref p0, .int p1] hp (FX7_sizeWith hp p0 p1) (fun r => some (.int r)) (fun _ => hp) := by
  refine Ct.of (by decide) (Nat.le_of_ble_eq_true rfl) ?_
  intro V Q hVl hVd hVt hVb hVs hC
  subst hVl; subst hVd; subst hVt; subst hVb; subst hVs
  unfold FX7_sizeWith
  show Zs V Q (0, 0) 4 _ _ hp [(0, .ref p0), (1, .int p1)] 0 []
  refine z_iconst hC (0 : Int32) dX7_sizeWith_0 (by decide) ?_
  refine z_istore_n hC [(0, .ref p0), (1, .int p1), (2, .int (0 : Int32))] [1, 2, 0] dX7_sizeWith_1 rfl (by decide) rfl ?_
  refine z_iconst hC (0 : Int32) dX7_sizeWith_2 (by decide) ?_
  refine z_istore_n hC [(0, .ref p0), (1, .int p1), (2, .int (0 : Int32)), (3, .int (0 : Int32))] [1, 2, 3, 0] dX7_sizeWith_3 rfl (by decide) rfl ?_
  refine z_lp (S := Int32 × Int32) (Y := Int32) (fun s1 => hp) (fun s1 => [(0, .ref p0), (1, .int p1), (2, .int s1.1), (3, .int s1.2)]) (fun y2 => hp) (fun y2 => [(2, .int y2)]) 31 [] (fun y2 => ?_) (fun s1 => ?_) rfl rfl
  · refine z_iload_n hC 0 dX7_sizeWith_31 rfl rfl ?_
    exact z_iret hC (fun h => h) dX7_sizeWith_32
  · refine z_iload_n hC 3 dX7_sizeWith_4 rfl rfl ?_
    refine z_bipush hC (16 : Int32) dX7_sizeWith_5 (by decide) ?_
    refine z_icmp_ge hC 31 dX7_sizeWith_7 (by decide) (fun _ => ?_) (fun _ => ?_)
    · refine z_weak [(2, .int s1.1)] [2] rfl ?_
      exact z_leaf (fun h => h)
    · refine z_iload_n hC 2 dX7_sizeWith_10 rfl rfl ?_
      refine z_aload_n hC 0 dX7_sizeWith_11 rfl rfl ?_
      refine z_iload_n hC 3 dX7_sizeWith_12 rfl rfl ?_
      refine z_lald hC dX7_sizeWith_13 (fun v3 => ?_)
      refine z_iload_n hC 1 dX7_sizeWith_14 rfl rfl ?_
      refine z_iload_n hC 3 dX7_sizeWith_15 rfl rfl ?_
      refine z_callSl hC lmRX7_23 (ctX7_soWord (vLa V) (vDa V) (vTg V) (vBs V) (vSa V) hp p1 s1.2) (by decide) hn0 dX7_sizeWith_16 rfl rfl (Nat.le_of_ble_eq_true rfl) (fun v4 => ?_)
      refine z_land hC dX7_sizeWith_19 ?_
      refine z_callSi hC lmRX7_17 (ctJ13_bitCount_95d88 (vLa V) (vDa V) (vTg V) (vBs V) (vSa V) hp (v3 &&& v4)) (by decide) hn0 dX7_sizeWith_20 rfl rfl (Nat.le_of_ble_eq_true rfl) (fun v5 => ?_)
      refine z_iadd hC dX7_sizeWith_23 ?_
      refine z_vli (fun x6 => ?_)
      refine z_istore_n hC [(0, .ref p0), (1, .int p1), (2, .int x6), (3, .int s1.2)] [1, 2, 0, 3] dX7_sizeWith_24 rfl (by decide) rfl ?_
      refine z_iincv hC (1 : Int32) 3 (fun x7 => [(0, .ref p0), (1, .int p1), (2, .int x6), (3, .int x7)]) [1, 2, 3, 0] dX7_sizeWith_25 rfl (by decide) (by decide) (fun _ => rfl) (fun x7 => ?_)
      refine z_goto hC 4 dX7_sizeWith_28 (by decide) ?_
      exact z_leaf (fun h => h)

theorem dX7_narrow_0 : decode cX7_narrow 0 = .ok (.iconst 0, 1) := by decide +kernel
theorem dX7_narrow_1 : decode cX7_narrow 1 = .ok (.istore_n 3, 1) := by decide +kernel
theorem dX7_narrow_2 : decode cX7_narrow 2 = .ok (.iload_n 3, 1) := by decide +kernel
theorem dX7_narrow_3 : decode cX7_narrow 3 = .ok (.bipush 16, 2) := by decide +kernel
theorem dX7_narrow_5 : decode cX7_narrow 5 = .ok (.if_icmp .ge 37, 3) := by decide +kernel
theorem dX7_narrow_8 : decode cX7_narrow 8 = .ok (.iload_n 1, 1) := by decide +kernel
theorem dX7_narrow_9 : decode cX7_narrow 9 = .ok (.iload_n 3, 1) := by decide +kernel
theorem dX7_narrow_10 : decode cX7_narrow 10 = .ok (.invokestatic 23, 3) := by decide +kernel
theorem dX7_narrow_13 : decode cX7_narrow 13 = .ok (.lstore 4, 2) := by decide +kernel
theorem dX7_narrow_15 : decode cX7_narrow 15 = .ok (.aload_n 0, 1) := by decide +kernel
theorem dX7_narrow_16 : decode cX7_narrow 16 = .ok (.iload_n 3, 1) := by decide +kernel
theorem dX7_narrow_17 : decode cX7_narrow 17 = .ok (.dup2, 1) := by decide +kernel
theorem dX7_narrow_18 : decode cX7_narrow 18 = .ok (.laload, 1) := by decide +kernel
theorem dX7_narrow_19 : decode cX7_narrow 19 = .ok (.iload_n 2, 1) := by decide +kernel
theorem dX7_narrow_20 : decode cX7_narrow 20 = .ok (.ifCond .eq 8, 3) := by decide +kernel
theorem dX7_narrow_23 : decode cX7_narrow 23 = .ok (.lload 4, 2) := by decide +kernel
theorem dX7_narrow_25 : decode cX7_narrow 25 = .ok (.goto 9, 3) := by decide +kernel
theorem dX7_narrow_28 : decode cX7_narrow 28 = .ok (.lload 4, 2) := by decide +kernel
theorem dX7_narrow_30 : decode cX7_narrow 30 = .ok (.ldc2_w 15, 3) := by decide +kernel
theorem dX7_narrow_33 : decode cX7_narrow 33 = .ok (.lxor, 1) := by decide +kernel
theorem dX7_narrow_34 : decode cX7_narrow 34 = .ok (.land, 1) := by decide +kernel
theorem dX7_narrow_35 : decode cX7_narrow 35 = .ok (.lastore, 1) := by decide +kernel
theorem dX7_narrow_36 : decode cX7_narrow 36 = .ok (.iinc 3 1, 3) := by decide +kernel
theorem dX7_narrow_39 : decode cX7_narrow 39 = .ok (.goto (-37), 3) := by decide +kernel
theorem dX7_narrow_42 : decode cX7_narrow 42 = .ok (.return_, 1) := by decide +kernel
def FX7_narrow (hp : HP) (p0 : Nat) (p1 : Int32) (p2 : Int32) : Option (HP) := (lp (fun (s1 : Int32 × HP) => if (16 : Int32) ≤ s1.1 then some (Sum.inl s1.2) else (FX7_soWord s1.2 p1 s1.1).bind (fun v3 => (rdL s1.2 p0 s1.1).bind (fun v4 => jn (A := Int64) (fun a5 => (wrL s1.2 p0 s1.1 (v4 &&& a5)).bind (fun hp7 => vl (s1.1 + (1 : Int32)) (fun x8 => some (Sum.inr (x8, hp7))))) (fun J6 => if p2 = 0 then vl (v3 ^^^ (-1 : Int64)) (fun x9 => J6 x9) else J6 v3)))) FU ((0 : Int32), hp)).bind (fun (y2 : HP) => some y2)
set_option maxHeartbeats 4000000 in
set_option maxRecDepth 100000 in
theorem ctX7_narrow (l : Launch) (D : va_G) (tg : Nat → ClassId) (bs : Nat) (sa : Nat → Nat) (hp : HP) (p0 : Nat) (p1 : Int32) (p2 : Int32) : Ct l D tg bs sa yX7_narrow cX7_narrow 6 none 1 [.ref p0, .int p1, .int p2] hp (FX7_narrow hp p0 p1 p2) (fun _ => none) (fun r => r) := by
  refine Ct.of (by decide) (Nat.le_of_ble_eq_true rfl) ?_
  intro V Q hVl hVd hVt hVb hVs hC
  subst hVl; subst hVd; subst hVt; subst hVb; subst hVs
  unfold FX7_narrow
  show Zs V Q (0, 0) 6 _ _ hp [(0, .ref p0), (1, .int p1), (2, .int p2)] 0 []
  refine z_iconst hC (0 : Int32) dX7_narrow_0 (by decide) ?_
  refine z_istore_n hC [(0, .ref p0), (1, .int p1), (2, .int p2), (3, .int (0 : Int32))] [1, 2, 3, 0] dX7_narrow_1 rfl (by decide) rfl ?_
  refine z_lp (S := Int32 × HP) (Y := HP) (fun s1 => s1.2) (fun s1 => [(0, .ref p0), (1, .int p1), (2, .int p2), (3, .int s1.1)]) (fun y2 => y2) (fun y2 => []) 42 [] (fun y2 => ?_) (fun s1 => ?_) rfl rfl
  · exact z_vret hC (fun h => h) dX7_narrow_42
  · refine z_iload_n hC 3 dX7_narrow_2 rfl rfl ?_
    refine z_bipush hC (16 : Int32) dX7_narrow_3 (by decide) ?_
    refine z_icmp_ge hC 42 dX7_narrow_5 (by decide) (fun _ => ?_) (fun _ => ?_)
    · refine z_weak [] [] rfl ?_
      exact z_leaf (fun h => h)
    · refine z_iload_n hC 1 dX7_narrow_8 rfl rfl ?_
      refine z_iload_n hC 3 dX7_narrow_9 rfl rfl ?_
      refine z_callSl hC lmRX7_23 (ctX7_soWord (vLa V) (vDa V) (vTg V) (vBs V) (vSa V) s1.2 p1 s1.1) (by decide) hn0 dX7_narrow_10 rfl rfl (Nat.le_of_ble_eq_true rfl) (fun v3 => ?_)
      refine z_lstore hC [(0, .ref p0), (1, .int p1), (2, .int p2), (3, .int s1.1), (4, .long v3)] [1, 2, 3, 4, 0] dX7_narrow_13 (by decide) rfl ?_
      refine z_aload_n hC 0 dX7_narrow_15 rfl rfl ?_
      refine z_iload_n hC 3 dX7_narrow_16 rfl rfl ?_
      refine z_dup2_11 hC dX7_narrow_17 rfl rfl ?_
      refine z_lald hC dX7_narrow_18 (fun v4 => ?_)
      refine z_iload_n hC 2 dX7_narrow_19 rfl rfl ?_
      refine z_jn (A := Int64) (fun a5 => s1.2) (fun a5 => [(0, .ref p0), (1, .int p1), (2, .int p2), (3, .int s1.1)]) 34 (fun a5 => [.long a5, .long v4, .int s1.1, .ref p0]) (fun a5 => ?_) (fun J6 hJ6 => ?_)
      · refine z_land hC dX7_narrow_34 ?_
        refine z_last hC dX7_narrow_35 (fun hp7 => ?_)
        refine z_iincv hC (1 : Int32) 3 (fun x8 => [(0, .ref p0), (1, .int p1), (2, .int p2), (3, .int x8)]) [1, 2, 3, 0] dX7_narrow_36 rfl (by decide) (by decide) (fun _ => rfl) (fun x8 => ?_)
        refine z_goto hC 2 dX7_narrow_39 (by decide) ?_
        exact z_leaf (fun h => h)
      · refine z_if_eq hC 28 dX7_narrow_20 (by decide) (fun _ => ?_) (fun _ => ?_)
        · refine z_lload hC 4 dX7_narrow_28 rfl ?_
          refine z_ldc2 hC (-1 : Int64) lcRX7_15 dX7_narrow_30 ?_
          refine z_lxor hC dX7_narrow_33 ?_
          refine z_vll (fun x9 => ?_)
          refine z_weak [(0, .ref p0), (1, .int p1), (2, .int p2), (3, .int s1.1)] [0, 1, 2, 3] rfl ?_
          exact hJ6 x9
        · refine z_lload hC 4 dX7_narrow_23 rfl ?_
          refine z_goto hC 34 dX7_narrow_25 (by decide) ?_
          refine z_weak [(0, .ref p0), (1, .int p1), (2, .int p2), (3, .int s1.1)] [0, 1, 2, 3] rfl ?_
          exact hJ6 v3

theorem dX7_first_0 : decode cX7_first 0 = .ok (.iconst 0, 1) := by decide +kernel
theorem dX7_first_1 : decode cX7_first 1 = .ok (.istore_n 1, 1) := by decide +kernel
theorem dX7_first_2 : decode cX7_first 2 = .ok (.iload_n 1, 1) := by decide +kernel
theorem dX7_first_3 : decode cX7_first 3 = .ok (.bipush 16, 2) := by decide +kernel
theorem dX7_first_5 : decode cX7_first 5 = .ok (.if_icmp .ge 29, 3) := by decide +kernel
theorem dX7_first_8 : decode cX7_first 8 = .ok (.aload_n 0, 1) := by decide +kernel
theorem dX7_first_9 : decode cX7_first 9 = .ok (.iload_n 1, 1) := by decide +kernel
theorem dX7_first_10 : decode cX7_first 10 = .ok (.laload, 1) := by decide +kernel
theorem dX7_first_11 : decode cX7_first 11 = .ok (.lconst 0, 1) := by decide +kernel
theorem dX7_first_12 : decode cX7_first 12 = .ok (.lcmp, 1) := by decide +kernel
theorem dX7_first_13 : decode cX7_first 13 = .ok (.ifCond .eq 15, 3) := by decide +kernel
theorem dX7_first_16 : decode cX7_first 16 = .ok (.iload_n 1, 1) := by decide +kernel
theorem dX7_first_17 : decode cX7_first 17 = .ok (.bipush 64, 2) := by decide +kernel
theorem dX7_first_19 : decode cX7_first 19 = .ok (.imul, 1) := by decide +kernel
theorem dX7_first_20 : decode cX7_first 20 = .ok (.aload_n 0, 1) := by decide +kernel
theorem dX7_first_21 : decode cX7_first 21 = .ok (.iload_n 1, 1) := by decide +kernel
theorem dX7_first_22 : decode cX7_first 22 = .ok (.laload, 1) := by decide +kernel
theorem dX7_first_23 : decode cX7_first 23 = .ok (.invokestatic 27, 3) := by decide +kernel
theorem dX7_first_26 : decode cX7_first 26 = .ok (.iadd, 1) := by decide +kernel
theorem dX7_first_27 : decode cX7_first 27 = .ok (.ireturn, 1) := by decide +kernel
theorem dX7_first_28 : decode cX7_first 28 = .ok (.iinc 1 1, 3) := by decide +kernel
theorem dX7_first_31 : decode cX7_first 31 = .ok (.goto (-29), 3) := by decide +kernel
theorem dX7_first_34 : decode cX7_first 34 = .ok (.iconst (-1), 1) := by decide +kernel
theorem dX7_first_35 : decode cX7_first 35 = .ok (.ireturn, 1) := by decide +kernel
def FX7_first (hp : HP) (p0 : Nat) : Option (Int32) := (lp (fun (s1 : Int32) => if (16 : Int32) ≤ s1 then some (Sum.inl (Sum.inr ())) else (rdL hp p0 s1).bind (fun v3 => if (lg_cmp v3 (0 : Int64)) = 0 then vl (s1 + (1 : Int32)) (fun x4 => some (Sum.inr x4)) else (rdL hp p0 s1).bind (fun v5 => (FX7_lowestBit v5).bind (fun v6 => some (Sum.inl (Sum.inl ((s1 * (64 : Int32)) + v6))))))) FU (0 : Int32)).bind (lk (P := Int32) (fun r => r) (fun (y2 : Unit) => some (-1 : Int32)))
set_option maxHeartbeats 4000000 in
set_option maxRecDepth 100000 in
theorem ctX7_first (l : Launch) (D : va_G) (tg : Nat → ClassId) (bs : Nat) (sa : Nat → Nat) (hp : HP) (p0 : Nat) : Ct l D tg bs sa yX7_first cX7_first 2 (some .int) 2 [.ref p0] hp (FX7_first hp p0) (fun r => some (.int r)) (fun _ => hp) := by
  refine Ct.of (by decide) (Nat.le_of_ble_eq_true rfl) ?_
  intro V Q hVl hVd hVt hVb hVs hC
  subst hVl; subst hVd; subst hVt; subst hVb; subst hVs
  unfold FX7_first
  show Zs V Q (0, 0) 2 _ _ hp [(0, .ref p0)] 0 []
  refine z_iconst hC (0 : Int32) dX7_first_0 (by decide) ?_
  refine z_istore_n hC [(0, .ref p0), (1, .int (0 : Int32))] [1, 0] dX7_first_1 rfl (by decide) rfl ?_
  refine z_lpR (S := Int32) (Y := Unit) (fun s1 => hp) (fun s1 => [(0, .ref p0), (1, .int s1)]) (fun y2 => hp) (fun y2 => []) 34 [] (fun y2 => ?_) (fun s1 => ?_) rfl rfl
  · refine z_iconst hC (-1 : Int32) dX7_first_34 (by decide) ?_
    exact z_iret hC (fun h => h) dX7_first_35
  · refine z_iload_n hC 1 dX7_first_2 rfl rfl ?_
    refine z_bipush hC (16 : Int32) dX7_first_3 (by decide) ?_
    refine z_icmp_ge hC 34 dX7_first_5 (by decide) (fun _ => ?_) (fun _ => ?_)
    · refine z_weak [] [] rfl ?_
      exact z_leaf (fun h => h)
    · refine z_aload_n hC 0 dX7_first_8 rfl rfl ?_
      refine z_iload_n hC 1 dX7_first_9 rfl rfl ?_
      refine z_lald hC dX7_first_10 (fun v3 => ?_)
      refine z_lconst hC (0 : Int64) dX7_first_11 (by decide) ?_
      refine z_lcmp hC dX7_first_12 ?_
      refine z_if_eq hC 28 dX7_first_13 (by decide) (fun _ => ?_) (fun _ => ?_)
      · refine z_iincv hC (1 : Int32) 1 (fun x4 => [(0, .ref p0), (1, .int x4)]) [1, 0] dX7_first_28 rfl (by decide) (by decide) (fun _ => rfl) (fun x4 => ?_)
        refine z_goto hC 2 dX7_first_31 (by decide) ?_
        exact z_leaf (fun h => h)
      · refine z_iload_n hC 1 dX7_first_16 rfl rfl ?_
        refine z_bipush hC (64 : Int32) dX7_first_17 (by decide) ?_
        refine z_imul hC dX7_first_19 ?_
        refine z_aload_n hC 0 dX7_first_20 rfl rfl ?_
        refine z_iload_n hC 1 dX7_first_21 rfl rfl ?_
        refine z_lald hC dX7_first_22 (fun v5 => ?_)
        refine z_callSi hC lmRX7_27 (ctX7_lowestBit (vLa V) (vDa V) (vTg V) (vBs V) (vSa V) hp v5) (by decide) hn0 dX7_first_23 rfl rfl (Nat.le_of_ble_eq_true rfl) (fun v6 => ?_)
        refine z_iadd hC dX7_first_26 ?_
        exact z_iret hC (fun h => h) dX7_first_27

theorem dX7_last_0 : decode cX7_last 0 = .ok (.sipush 1023, 3) := by decide +kernel
theorem dX7_last_3 : decode cX7_last 3 = .ok (.istore_n 1, 1) := by decide +kernel
theorem dX7_last_4 : decode cX7_last 4 = .ok (.iload_n 1, 1) := by decide +kernel
theorem dX7_last_5 : decode cX7_last 5 = .ok (.ifCond .lt 19, 3) := by decide +kernel
theorem dX7_last_8 : decode cX7_last 8 = .ok (.aload_n 0, 1) := by decide +kernel
theorem dX7_last_9 : decode cX7_last 9 = .ok (.iload_n 1, 1) := by decide +kernel
theorem dX7_last_10 : decode cX7_last 10 = .ok (.invokestatic 30, 3) := by decide +kernel
theorem dX7_last_13 : decode cX7_last 13 = .ok (.ifCond .eq 5, 3) := by decide +kernel
theorem dX7_last_16 : decode cX7_last 16 = .ok (.iload_n 1, 1) := by decide +kernel
theorem dX7_last_17 : decode cX7_last 17 = .ok (.ireturn, 1) := by decide +kernel
theorem dX7_last_18 : decode cX7_last 18 = .ok (.iinc 1 (-1), 3) := by decide +kernel
theorem dX7_last_21 : decode cX7_last 21 = .ok (.goto (-17), 3) := by decide +kernel
theorem dX7_last_24 : decode cX7_last 24 = .ok (.iconst (-1), 1) := by decide +kernel
theorem dX7_last_25 : decode cX7_last 25 = .ok (.ireturn, 1) := by decide +kernel
def FX7_last (hp : HP) (p0 : Nat) : Option (Int32) := (lp (fun (s1 : Int32) => if s1 < 0 then some (Sum.inl (Sum.inr ())) else (FX7_has hp p0 s1).bind (fun v3 => if v3 = 0 then vl (s1 + (-1 : Int32)) (fun x4 => some (Sum.inr x4)) else some (Sum.inl (Sum.inl s1)))) FU (1023 : Int32)).bind (lk (P := Int32) (fun r => r) (fun (y2 : Unit) => some (-1 : Int32)))
set_option maxHeartbeats 4000000 in
set_option maxRecDepth 100000 in
theorem ctX7_last (l : Launch) (D : va_G) (tg : Nat → ClassId) (bs : Nat) (sa : Nat → Nat) (hp : HP) (p0 : Nat) : Ct l D tg bs sa yX7_last cX7_last 2 (some .int) 1 [.ref p0] hp (FX7_last hp p0) (fun r => some (.int r)) (fun _ => hp) := by
  refine Ct.of (by decide) (Nat.le_of_ble_eq_true rfl) ?_
  intro V Q hVl hVd hVt hVb hVs hC
  subst hVl; subst hVd; subst hVt; subst hVb; subst hVs
  unfold FX7_last
  show Zs V Q (0, 0) 2 _ _ hp [(0, .ref p0)] 0 []
  refine z_sipush hC (1023 : Int32) dX7_last_0 (by decide) ?_
  refine z_istore_n hC [(0, .ref p0), (1, .int (1023 : Int32))] [1, 0] dX7_last_3 rfl (by decide) rfl ?_
  refine z_lpR (S := Int32) (Y := Unit) (fun s1 => hp) (fun s1 => [(0, .ref p0), (1, .int s1)]) (fun y2 => hp) (fun y2 => []) 24 [] (fun y2 => ?_) (fun s1 => ?_) rfl rfl
  · refine z_iconst hC (-1 : Int32) dX7_last_24 (by decide) ?_
    exact z_iret hC (fun h => h) dX7_last_25
  · refine z_iload_n hC 1 dX7_last_4 rfl rfl ?_
    refine z_if_lt hC 24 dX7_last_5 (by decide) (fun _ => ?_) (fun _ => ?_)
    · refine z_weak [] [] rfl ?_
      exact z_leaf (fun h => h)
    · refine z_aload_n hC 0 dX7_last_8 rfl rfl ?_
      refine z_iload_n hC 1 dX7_last_9 rfl rfl ?_
      refine z_callSi hC lmRX7_30 (ctX7_has (vLa V) (vDa V) (vTg V) (vBs V) (vSa V) hp p0 s1) (by decide) hn0 dX7_last_10 rfl rfl (Nat.le_of_ble_eq_true rfl) (fun v3 => ?_)
      refine z_if_eq hC 18 dX7_last_13 (by decide) (fun _ => ?_) (fun _ => ?_)
      · refine z_iincv hC (-1 : Int32) 1 (fun x4 => [(0, .ref p0), (1, .int x4)]) [1, 0] dX7_last_18 rfl (by decide) (by decide) (fun _ => rfl) (fun x4 => ?_)
        refine z_goto hC 4 dX7_last_21 (by decide) ?_
        exact z_leaf (fun h => h)
      · refine z_iload_n hC 1 dX7_last_16 rfl rfl ?_
        exact z_iret hC (fun h => h) dX7_last_17

theorem dX7_sure_0 : decode cX7_sure 0 = .ok (.aload_n 0, 1) := by decide +kernel
theorem dX7_sure_1 : decode cX7_sure 1 = .ok (.invokestatic 34, 3) := by decide +kernel
theorem dX7_sure_4 : decode cX7_sure 4 = .ok (.istore_n 2, 1) := by decide +kernel
theorem dX7_sure_5 : decode cX7_sure 5 = .ok (.iconst 0, 1) := by decide +kernel
theorem dX7_sure_6 : decode cX7_sure 6 = .ok (.istore_n 3, 1) := by decide +kernel
theorem dX7_sure_7 : decode cX7_sure 7 = .ok (.iconst 0, 1) := by decide +kernel
theorem dX7_sure_8 : decode cX7_sure 8 = .ok (.istore 4, 2) := by decide +kernel
theorem dX7_sure_10 : decode cX7_sure 10 = .ok (.iload 4, 2) := by decide +kernel
theorem dX7_sure_12 : decode cX7_sure 12 = .ok (.bipush 10, 2) := by decide +kernel
theorem dX7_sure_14 : decode cX7_sure 14 = .ok (.if_icmp .ge 34, 3) := by decide +kernel
theorem dX7_sure_17 : decode cX7_sure 17 = .ok (.aload_n 0, 1) := by decide +kernel
theorem dX7_sure_18 : decode cX7_sure 18 = .ok (.iload 4, 2) := by decide +kernel
theorem dX7_sure_20 : decode cX7_sure 20 = .ok (.invokestatic 38, 3) := by decide +kernel
theorem dX7_sure_23 : decode cX7_sure 23 = .ok (.iload_n 1, 1) := by decide +kernel
theorem dX7_sure_24 : decode cX7_sure 24 = .ok (.ifCond .eq 7, 3) := by decide +kernel
theorem dX7_sure_27 : decode cX7_sure 27 = .ok (.iload_n 2, 1) := by decide +kernel
theorem dX7_sure_28 : decode cX7_sure 28 = .ok (.goto 4, 3) := by decide +kernel
theorem dX7_sure_31 : decode cX7_sure 31 = .ok (.iconst 0, 1) := by decide +kernel
theorem dX7_sure_32 : decode cX7_sure 32 = .ok (.if_icmp .ne 10, 3) := by decide +kernel
theorem dX7_sure_35 : decode cX7_sure 35 = .ok (.iload_n 3, 1) := by decide +kernel
theorem dX7_sure_36 : decode cX7_sure 36 = .ok (.iconst 1, 1) := by decide +kernel
theorem dX7_sure_37 : decode cX7_sure 37 = .ok (.iload 4, 2) := by decide +kernel
theorem dX7_sure_39 : decode cX7_sure 39 = .ok (.ishl, 1) := by decide +kernel
theorem dX7_sure_40 : decode cX7_sure 40 = .ok (.ior, 1) := by decide +kernel
theorem dX7_sure_41 : decode cX7_sure 41 = .ok (.istore_n 3, 1) := by decide +kernel
theorem dX7_sure_42 : decode cX7_sure 42 = .ok (.iinc 4 1, 3) := by decide +kernel
theorem dX7_sure_45 : decode cX7_sure 45 = .ok (.goto (-35), 3) := by decide +kernel
theorem dX7_sure_48 : decode cX7_sure 48 = .ok (.iload_n 3, 1) := by decide +kernel
theorem dX7_sure_49 : decode cX7_sure 49 = .ok (.ireturn, 1) := by decide +kernel
def FX7_sure (hp : HP) (p0 : Nat) (p1 : Int32) : Option (Int32) := (FX7_size hp p0).bind (fun v1 => (lp (fun (s2 : Int32 × Int32) => if (10 : Int32) ≤ s2.2 then some (Sum.inl s2.1) else (FX7_sizeWith hp p0 s2.2).bind (fun v4 => jn (A := Int32) (fun a5 => if v4 = a5 then vl (s2.1 ||| ((1 : Int32) <<< (s2.2 &&& 31))) (fun x7 => vl (s2.2 + (1 : Int32)) (fun x8 => some (Sum.inr (x7, x8)))) else vl (s2.2 + (1 : Int32)) (fun x9 => some (Sum.inr (s2.1, x9)))) (fun J6 => if p1 = 0 then J6 (0 : Int32) else J6 v1))) FU ((0 : Int32), (0 : Int32))).bind (fun (y3 : Int32) => some y3))
set_option maxHeartbeats 4000000 in
set_option maxRecDepth 100000 in
theorem ctX7_sure (l : Launch) (D : va_G) (tg : Nat → ClassId) (bs : Nat) (sa : Nat → Nat) (hp : HP) (p0 : Nat) (p1 : Int32) : Ct l D tg bs sa yX7_sure cX7_sure 5 (some .int) 2 [.ref p0, .int p1] hp (FX7_sure hp p0 p1) (fun r => some (.int r)) (fun _ => hp) := by
  refine Ct.of (by decide) (Nat.le_of_ble_eq_true rfl) ?_
  intro V Q hVl hVd hVt hVb hVs hC
  subst hVl; subst hVd; subst hVt; subst hVb; subst hVs
  unfold FX7_sure
  show Zs V Q (0, 0) 5 _ _ hp [(0, .ref p0), (1, .int p1)] 0 []
  refine z_aload_n hC 0 dX7_sure_0 rfl rfl ?_
  refine z_callSi hC lmRX7_34 (ctX7_size (vLa V) (vDa V) (vTg V) (vBs V) (vSa V) hp p0) (by decide) hn0 dX7_sure_1 rfl rfl (Nat.le_of_ble_eq_true rfl) (fun v1 => ?_)
  refine z_istore_n hC [(0, .ref p0), (1, .int p1), (2, .int v1)] [1, 2, 0] dX7_sure_4 rfl (by decide) rfl ?_
  refine z_iconst hC (0 : Int32) dX7_sure_5 (by decide) ?_
  refine z_istore_n hC [(0, .ref p0), (1, .int p1), (2, .int v1), (3, .int (0 : Int32))] [1, 2, 3, 0] dX7_sure_6 rfl (by decide) rfl ?_
  refine z_iconst hC (0 : Int32) dX7_sure_7 (by decide) ?_
  refine z_istore hC [(0, .ref p0), (1, .int p1), (2, .int v1), (3, .int (0 : Int32)), (4, .int (0 : Int32))] [1, 2, 3, 4, 0] dX7_sure_8 (by decide) rfl ?_
  refine z_lp (S := Int32 × Int32) (Y := Int32) (fun s2 => hp) (fun s2 => [(0, .ref p0), (1, .int p1), (2, .int v1), (3, .int s2.1), (4, .int s2.2)]) (fun y3 => hp) (fun y3 => [(3, .int y3)]) 48 [] (fun y3 => ?_) (fun s2 => ?_) rfl rfl
  · refine z_iload_n hC 0 dX7_sure_48 rfl rfl ?_
    exact z_iret hC (fun h => h) dX7_sure_49
  · refine z_iload hC 4 dX7_sure_10 rfl ?_
    refine z_bipush hC (10 : Int32) dX7_sure_12 (by decide) ?_
    refine z_icmp_ge hC 48 dX7_sure_14 (by decide) (fun _ => ?_) (fun _ => ?_)
    · refine z_weak [(3, .int s2.1)] [3] rfl ?_
      exact z_leaf (fun h => h)
    · refine z_aload_n hC 0 dX7_sure_17 rfl rfl ?_
      refine z_iload hC 4 dX7_sure_18 rfl ?_
      refine z_callSi hC lmRX7_38 (ctX7_sizeWith (vLa V) (vDa V) (vTg V) (vBs V) (vSa V) hp p0 s2.2) (by decide) hn0 dX7_sure_20 rfl rfl (Nat.le_of_ble_eq_true rfl) (fun v4 => ?_)
      refine z_iload_n hC 1 dX7_sure_23 rfl rfl ?_
      refine z_jn (A := Int32) (fun a5 => hp) (fun a5 => [(0, .ref p0), (1, .int p1), (2, .int v1), (3, .int s2.1), (4, .int s2.2)]) 32 (fun a5 => [.int a5, .int v4]) (fun a5 => ?_) (fun J6 hJ6 => ?_)
      · refine z_icmp_ne hC 42 dX7_sure_32 (by decide) (fun _ => ?_) (fun _ => ?_)
        · refine z_iload_n hC 3 dX7_sure_35 rfl rfl ?_
          refine z_iconst hC (1 : Int32) dX7_sure_36 (by decide) ?_
          refine z_iload hC 4 dX7_sure_37 rfl ?_
          refine z_ishl hC dX7_sure_39 ?_
          refine z_ior hC dX7_sure_40 ?_
          refine z_vli (fun x7 => ?_)
          refine z_istore_n hC [(0, .ref p0), (1, .int p1), (2, .int v1), (3, .int x7), (4, .int s2.2)] [1, 2, 3, 0, 4] dX7_sure_41 rfl (by decide) rfl ?_
          refine z_iincv hC (1 : Int32) 4 (fun x8 => [(0, .ref p0), (1, .int p1), (2, .int v1), (3, .int x7), (4, .int x8)]) [1, 2, 3, 4, 0] dX7_sure_42 rfl (by decide) (by decide) (fun _ => rfl) (fun x8 => ?_)
          refine z_goto hC 10 dX7_sure_45 (by decide) ?_
          exact z_leaf (fun h => h)
        · refine z_iincv hC (1 : Int32) 4 (fun x9 => [(0, .ref p0), (1, .int p1), (2, .int v1), (3, .int s2.1), (4, .int x9)]) [1, 2, 3, 4, 0] dX7_sure_42 rfl (by decide) (by decide) (fun _ => rfl) (fun x9 => ?_)
          refine z_goto hC 10 dX7_sure_45 (by decide) ?_
          exact z_leaf (fun h => h)
      · refine z_if_eq hC 31 dX7_sure_24 (by decide) (fun _ => ?_) (fun _ => ?_)
        · refine z_iconst hC (0 : Int32) dX7_sure_31 (by decide) ?_
          exact hJ6 (0 : Int32)
        · refine z_iload_n hC 2 dX7_sure_27 rfl rfl ?_
          refine z_goto hC 32 dX7_sure_28 (by decide) ?_
          exact hJ6 v1

theorem dX7_swing_0 : decode cX7_swing 0 = .ok (.iconst 0, 1) := by decide +kernel
theorem dX7_swing_1 : decode cX7_swing 1 = .ok (.istore_n 2, 1) := by decide +kernel
theorem dX7_swing_2 : decode cX7_swing 2 = .ok (.iconst 0, 1) := by decide +kernel
theorem dX7_swing_3 : decode cX7_swing 3 = .ok (.istore_n 3, 1) := by decide +kernel
theorem dX7_swing_4 : decode cX7_swing 4 = .ok (.iload_n 3, 1) := by decide +kernel
theorem dX7_swing_5 : decode cX7_swing 5 = .ok (.bipush 16, 2) := by decide +kernel
theorem dX7_swing_7 : decode cX7_swing 7 = .ok (.if_icmp .ge 27, 3) := by decide +kernel
theorem dX7_swing_10 : decode cX7_swing 10 = .ok (.iload_n 2, 1) := by decide +kernel
theorem dX7_swing_11 : decode cX7_swing 11 = .ok (.aload_n 0, 1) := by decide +kernel
theorem dX7_swing_12 : decode cX7_swing 12 = .ok (.iload_n 3, 1) := by decide +kernel
theorem dX7_swing_13 : decode cX7_swing 13 = .ok (.laload, 1) := by decide +kernel
theorem dX7_swing_14 : decode cX7_swing 14 = .ok (.aload_n 0, 1) := by decide +kernel
theorem dX7_swing_15 : decode cX7_swing 15 = .ok (.iload_n 3, 1) := by decide +kernel
theorem dX7_swing_16 : decode cX7_swing 16 = .ok (.iconst 1, 1) := by decide +kernel
theorem dX7_swing_17 : decode cX7_swing 17 = .ok (.iload_n 1, 1) := by decide +kernel
theorem dX7_swing_18 : decode cX7_swing 18 = .ok (.ishl, 1) := by decide +kernel
theorem dX7_swing_19 : decode cX7_swing 19 = .ok (.invokestatic 42, 3) := by decide +kernel
theorem dX7_swing_22 : decode cX7_swing 22 = .ok (.lxor, 1) := by decide +kernel
theorem dX7_swing_23 : decode cX7_swing 23 = .ok (.invokestatic 17, 3) := by decide +kernel
theorem dX7_swing_26 : decode cX7_swing 26 = .ok (.iadd, 1) := by decide +kernel
theorem dX7_swing_27 : decode cX7_swing 27 = .ok (.istore_n 2, 1) := by decide +kernel
theorem dX7_swing_28 : decode cX7_swing 28 = .ok (.iinc 3 1, 3) := by decide +kernel
theorem dX7_swing_31 : decode cX7_swing 31 = .ok (.goto (-27), 3) := by decide +kernel
theorem dX7_swing_34 : decode cX7_swing 34 = .ok (.iload_n 2, 1) := by decide +kernel
theorem dX7_swing_35 : decode cX7_swing 35 = .ok (.ireturn, 1) := by decide +kernel
def FX7_swing (hp : HP) (p0 : Nat) (p1 : Int32) : Option (Int32) := (lp (fun (s1 : Int32 × Int32) => if (16 : Int32) ≤ s1.2 then some (Sum.inl s1.1) else (rdL hp p0 s1.2).bind (fun v3 => (FX7_changed hp p0 s1.2 ((1 : Int32) <<< (p1 &&& 31))).bind (fun v4 => (FJ13_bitCount_95d88 (v3 ^^^ v4)).bind (fun v5 => vl (s1.1 + v5) (fun x6 => vl (s1.2 + (1 : Int32)) (fun x7 => some (Sum.inr (x6, x7)))))))) FU ((0 : Int32), (0 : Int32))).bind (fun (y2 : Int32) => some y2)
set_option maxHeartbeats 4000000 in
set_option maxRecDepth 100000 in
theorem ctX7_swing (l : Launch) (D : va_G) (tg : Nat → ClassId) (bs : Nat) (sa : Nat → Nat) (hp : HP) (p0 : Nat) (p1 : Int32) : Ct l D tg bs sa yX7_swing cX7_swing 4 (some .int) 1 [.ref p0, .int p1] hp (FX7_swing hp p0 p1) (fun r => some (.int r)) (fun _ => hp) := by
  refine Ct.of (by decide) (Nat.le_of_ble_eq_true rfl) ?_
  intro V Q hVl hVd hVt hVb hVs hC
  subst hVl; subst hVd; subst hVt; subst hVb; subst hVs
  unfold FX7_swing
  show Zs V Q (0, 0) 4 _ _ hp [(0, .ref p0), (1, .int p1)] 0 []
  refine z_iconst hC (0 : Int32) dX7_swing_0 (by decide) ?_
  refine z_istore_n hC [(0, .ref p0), (1, .int p1), (2, .int (0 : Int32))] [1, 2, 0] dX7_swing_1 rfl (by decide) rfl ?_
  refine z_iconst hC (0 : Int32) dX7_swing_2 (by decide) ?_
  refine z_istore_n hC [(0, .ref p0), (1, .int p1), (2, .int (0 : Int32)), (3, .int (0 : Int32))] [1, 2, 3, 0] dX7_swing_3 rfl (by decide) rfl ?_
  refine z_lp (S := Int32 × Int32) (Y := Int32) (fun s1 => hp) (fun s1 => [(0, .ref p0), (1, .int p1), (2, .int s1.1), (3, .int s1.2)]) (fun y2 => hp) (fun y2 => [(2, .int y2)]) 34 [] (fun y2 => ?_) (fun s1 => ?_) rfl rfl
  · refine z_iload_n hC 0 dX7_swing_34 rfl rfl ?_
    exact z_iret hC (fun h => h) dX7_swing_35
  · refine z_iload_n hC 3 dX7_swing_4 rfl rfl ?_
    refine z_bipush hC (16 : Int32) dX7_swing_5 (by decide) ?_
    refine z_icmp_ge hC 34 dX7_swing_7 (by decide) (fun _ => ?_) (fun _ => ?_)
    · refine z_weak [(2, .int s1.1)] [2] rfl ?_
      exact z_leaf (fun h => h)
    · refine z_iload_n hC 2 dX7_swing_10 rfl rfl ?_
      refine z_aload_n hC 0 dX7_swing_11 rfl rfl ?_
      refine z_iload_n hC 3 dX7_swing_12 rfl rfl ?_
      refine z_lald hC dX7_swing_13 (fun v3 => ?_)
      refine z_aload_n hC 0 dX7_swing_14 rfl rfl ?_
      refine z_iload_n hC 3 dX7_swing_15 rfl rfl ?_
      refine z_iconst hC (1 : Int32) dX7_swing_16 (by decide) ?_
      refine z_iload_n hC 1 dX7_swing_17 rfl rfl ?_
      refine z_ishl hC dX7_swing_18 ?_
      refine z_callSl hC lmRX7_42 (ctX7_changed (vLa V) (vDa V) (vTg V) (vBs V) (vSa V) hp p0 s1.2 ((1 : Int32) <<< (p1 &&& 31))) (by decide) hn0 dX7_swing_19 rfl rfl (Nat.le_of_ble_eq_true rfl) (fun v4 => ?_)
      refine z_lxor hC dX7_swing_22 ?_
      refine z_callSi hC lmRX7_17 (ctJ13_bitCount_95d88 (vLa V) (vDa V) (vTg V) (vBs V) (vSa V) hp (v3 ^^^ v4)) (by decide) hn0 dX7_swing_23 rfl rfl (Nat.le_of_ble_eq_true rfl) (fun v5 => ?_)
      refine z_iadd hC dX7_swing_26 ?_
      refine z_vli (fun x6 => ?_)
      refine z_istore_n hC [(0, .ref p0), (1, .int p1), (2, .int x6), (3, .int s1.2)] [1, 2, 0, 3] dX7_swing_27 rfl (by decide) rfl ?_
      refine z_iincv hC (1 : Int32) 3 (fun x7 => [(0, .ref p0), (1, .int p1), (2, .int x6), (3, .int x7)]) [1, 2, 3, 0] dX7_swing_28 rfl (by decide) (by decide) (fun _ => rfl) (fun x7 => ?_)
      refine z_goto hC 4 dX7_swing_31 (by decide) ?_
      exact z_leaf (fun h => h)

theorem dX7_forbidden_0 : decode cX7_forbidden 0 = .ok (.aload_n 0, 1) := by decide +kernel
theorem dX7_forbidden_1 : decode cX7_forbidden 1 = .ok (.iload_n 1, 1) := by decide +kernel
theorem dX7_forbidden_2 : decode cX7_forbidden 2 = .ok (.invokestatic 46, 3) := by decide +kernel
theorem dX7_forbidden_5 : decode cX7_forbidden 5 = .ok (.iconst 2, 1) := by decide +kernel
theorem dX7_forbidden_6 : decode cX7_forbidden 6 = .ok (.idiv, 1) := by decide +kernel
theorem dX7_forbidden_7 : decode cX7_forbidden 7 = .ok (.ireturn, 1) := by decide +kernel
def FX7_forbidden (hp : HP) (p0 : Nat) (p1 : Int32) : Option (Int32) := (FX7_swing hp p0 p1).bind (fun v1 => (dvI v1 (2 : Int32)).bind (fun v2 => some v2))
set_option maxHeartbeats 4000000 in
set_option maxRecDepth 100000 in
theorem ctX7_forbidden (l : Launch) (D : va_G) (tg : Nat → ClassId) (bs : Nat) (sa : Nat → Nat) (hp : HP) (p0 : Nat) (p1 : Int32) : Ct l D tg bs sa yX7_forbidden cX7_forbidden 2 (some .int) 2 [.ref p0, .int p1] hp (FX7_forbidden hp p0 p1) (fun r => some (.int r)) (fun _ => hp) := by
  refine Ct.of (by decide) (Nat.le_of_ble_eq_true rfl) ?_
  intro V Q hVl hVd hVt hVb hVs hC
  subst hVl; subst hVd; subst hVt; subst hVb; subst hVs
  unfold FX7_forbidden
  show Zs V Q (0, 0) 2 _ _ hp [(0, .ref p0), (1, .int p1)] 0 []
  refine z_aload_n hC 0 dX7_forbidden_0 rfl rfl ?_
  refine z_iload_n hC 1 dX7_forbidden_1 rfl rfl ?_
  refine z_callSi hC lmRX7_46 (ctX7_swing (vLa V) (vDa V) (vTg V) (vBs V) (vSa V) hp p0 p1) (by decide) hn0 dX7_forbidden_2 rfl rfl (Nat.le_of_ble_eq_true rfl) (fun v1 => ?_)
  refine z_iconst hC (2 : Int32) dX7_forbidden_5 (by decide) ?_
  refine z_idiv hC dX7_forbidden_6 (fun v2 => ?_)
  exact z_iret hC (fun h => h) dX7_forbidden_7

theorem dX7_dependsOn_0 : decode cX7_dependsOn 0 = .ok (.iconst 0, 1) := by decide +kernel
theorem dX7_dependsOn_1 : decode cX7_dependsOn 1 = .ok (.istore_n 1, 1) := by decide +kernel
theorem dX7_dependsOn_2 : decode cX7_dependsOn 2 = .ok (.iconst 0, 1) := by decide +kernel
theorem dX7_dependsOn_3 : decode cX7_dependsOn 3 = .ok (.istore_n 2, 1) := by decide +kernel
theorem dX7_dependsOn_4 : decode cX7_dependsOn 4 = .ok (.iload_n 2, 1) := by decide +kernel
theorem dX7_dependsOn_5 : decode cX7_dependsOn 5 = .ok (.bipush 10, 2) := by decide +kernel
theorem dX7_dependsOn_7 : decode cX7_dependsOn 7 = .ok (.if_icmp .ge 23, 3) := by decide +kernel
theorem dX7_dependsOn_10 : decode cX7_dependsOn 10 = .ok (.aload_n 0, 1) := by decide +kernel
theorem dX7_dependsOn_11 : decode cX7_dependsOn 11 = .ok (.iload_n 2, 1) := by decide +kernel
theorem dX7_dependsOn_12 : decode cX7_dependsOn 12 = .ok (.invokestatic 46, 3) := by decide +kernel
theorem dX7_dependsOn_15 : decode cX7_dependsOn 15 = .ok (.ifCond .eq 9, 3) := by decide +kernel
theorem dX7_dependsOn_18 : decode cX7_dependsOn 18 = .ok (.iload_n 1, 1) := by decide +kernel
theorem dX7_dependsOn_19 : decode cX7_dependsOn 19 = .ok (.iconst 1, 1) := by decide +kernel
theorem dX7_dependsOn_20 : decode cX7_dependsOn 20 = .ok (.iload_n 2, 1) := by decide +kernel
theorem dX7_dependsOn_21 : decode cX7_dependsOn 21 = .ok (.ishl, 1) := by decide +kernel
theorem dX7_dependsOn_22 : decode cX7_dependsOn 22 = .ok (.ior, 1) := by decide +kernel
theorem dX7_dependsOn_23 : decode cX7_dependsOn 23 = .ok (.istore_n 1, 1) := by decide +kernel
theorem dX7_dependsOn_24 : decode cX7_dependsOn 24 = .ok (.iinc 2 1, 3) := by decide +kernel
theorem dX7_dependsOn_27 : decode cX7_dependsOn 27 = .ok (.goto (-23), 3) := by decide +kernel
theorem dX7_dependsOn_30 : decode cX7_dependsOn 30 = .ok (.iload_n 1, 1) := by decide +kernel
theorem dX7_dependsOn_31 : decode cX7_dependsOn 31 = .ok (.ireturn, 1) := by decide +kernel
def FX7_dependsOn (hp : HP) (p0 : Nat) : Option (Int32) := (lp (fun (s1 : Int32 × Int32) => if (10 : Int32) ≤ s1.2 then some (Sum.inl s1.1) else (FX7_swing hp p0 s1.2).bind (fun v3 => if v3 = 0 then vl (s1.2 + (1 : Int32)) (fun x4 => some (Sum.inr (s1.1, x4))) else vl (s1.1 ||| ((1 : Int32) <<< (s1.2 &&& 31))) (fun x5 => vl (s1.2 + (1 : Int32)) (fun x6 => some (Sum.inr (x5, x6)))))) FU ((0 : Int32), (0 : Int32))).bind (fun (y2 : Int32) => some y2)
set_option maxHeartbeats 4000000 in
set_option maxRecDepth 100000 in
theorem ctX7_dependsOn (l : Launch) (D : va_G) (tg : Nat → ClassId) (bs : Nat) (sa : Nat → Nat) (hp : HP) (p0 : Nat) : Ct l D tg bs sa yX7_dependsOn cX7_dependsOn 3 (some .int) 2 [.ref p0] hp (FX7_dependsOn hp p0) (fun r => some (.int r)) (fun _ => hp) := by
  refine Ct.of (by decide) (Nat.le_of_ble_eq_true rfl) ?_
  intro V Q hVl hVd hVt hVb hVs hC
  subst hVl; subst hVd; subst hVt; subst hVb; subst hVs
  unfold FX7_dependsOn
  show Zs V Q (0, 0) 3 _ _ hp [(0, .ref p0)] 0 []
  refine z_iconst hC (0 : Int32) dX7_dependsOn_0 (by decide) ?_
  refine z_istore_n hC [(0, .ref p0), (1, .int (0 : Int32))] [1, 0] dX7_dependsOn_1 rfl (by decide) rfl ?_
  refine z_iconst hC (0 : Int32) dX7_dependsOn_2 (by decide) ?_
  refine z_istore_n hC [(0, .ref p0), (1, .int (0 : Int32)), (2, .int (0 : Int32))] [1, 2, 0] dX7_dependsOn_3 rfl (by decide) rfl ?_
  refine z_lp (S := Int32 × Int32) (Y := Int32) (fun s1 => hp) (fun s1 => [(0, .ref p0), (1, .int s1.1), (2, .int s1.2)]) (fun y2 => hp) (fun y2 => [(1, .int y2)]) 30 [] (fun y2 => ?_) (fun s1 => ?_) rfl rfl
  · refine z_iload_n hC 0 dX7_dependsOn_30 rfl rfl ?_
    exact z_iret hC (fun h => h) dX7_dependsOn_31
  · refine z_iload_n hC 2 dX7_dependsOn_4 rfl rfl ?_
    refine z_bipush hC (10 : Int32) dX7_dependsOn_5 (by decide) ?_
    refine z_icmp_ge hC 30 dX7_dependsOn_7 (by decide) (fun _ => ?_) (fun _ => ?_)
    · refine z_weak [(1, .int s1.1)] [1] rfl ?_
      exact z_leaf (fun h => h)
    · refine z_aload_n hC 0 dX7_dependsOn_10 rfl rfl ?_
      refine z_iload_n hC 2 dX7_dependsOn_11 rfl rfl ?_
      refine z_callSi hC lmRX7_46 (ctX7_swing (vLa V) (vDa V) (vTg V) (vBs V) (vSa V) hp p0 s1.2) (by decide) hn0 dX7_dependsOn_12 rfl rfl (Nat.le_of_ble_eq_true rfl) (fun v3 => ?_)
      refine z_if_eq hC 24 dX7_dependsOn_15 (by decide) (fun _ => ?_) (fun _ => ?_)
      · refine z_iincv hC (1 : Int32) 2 (fun x4 => [(0, .ref p0), (1, .int s1.1), (2, .int x4)]) [1, 2, 0] dX7_dependsOn_24 rfl (by decide) (by decide) (fun _ => rfl) (fun x4 => ?_)
        refine z_goto hC 4 dX7_dependsOn_27 (by decide) ?_
        exact z_leaf (fun h => h)
      · refine z_iload_n hC 1 dX7_dependsOn_18 rfl rfl ?_
        refine z_iconst hC (1 : Int32) dX7_dependsOn_19 (by decide) ?_
        refine z_iload_n hC 2 dX7_dependsOn_20 rfl rfl ?_
        refine z_ishl hC dX7_dependsOn_21 ?_
        refine z_ior hC dX7_dependsOn_22 ?_
        refine z_vli (fun x5 => ?_)
        refine z_istore_n hC [(0, .ref p0), (1, .int x5), (2, .int s1.2)] [1, 0, 2] dX7_dependsOn_23 rfl (by decide) rfl ?_
        refine z_iincv hC (1 : Int32) 2 (fun x6 => [(0, .ref p0), (1, .int x5), (2, .int x6)]) [1, 2, 0] dX7_dependsOn_24 rfl (by decide) (by decide) (fun _ => rfl) (fun x6 => ?_)
        refine z_goto hC 4 dX7_dependsOn_27 (by decide) ?_
        exact z_leaf (fun h => h)

theorem dX7_rising_0 : decode cX7_rising 0 = .ok (.aload_n 0, 1) := by decide +kernel
theorem dX7_rising_1 : decode cX7_rising 1 = .ok (.invokestatic 49, 3) := by decide +kernel
theorem dX7_rising_4 : decode cX7_rising 4 = .ok (.istore_n 1, 1) := by decide +kernel
theorem dX7_rising_5 : decode cX7_rising 5 = .ok (.iconst 0, 1) := by decide +kernel
theorem dX7_rising_6 : decode cX7_rising 6 = .ok (.istore_n 2, 1) := by decide +kernel
theorem dX7_rising_7 : decode cX7_rising 7 = .ok (.iload_n 2, 1) := by decide +kernel
theorem dX7_rising_8 : decode cX7_rising 8 = .ok (.bipush 10, 2) := by decide +kernel
theorem dX7_rising_10 : decode cX7_rising 10 = .ok (.if_icmp .ge 62, 3) := by decide +kernel
theorem dX7_rising_13 : decode cX7_rising 13 = .ok (.iconst 0, 1) := by decide +kernel
theorem dX7_rising_14 : decode cX7_rising 14 = .ok (.istore_n 3, 1) := by decide +kernel
theorem dX7_rising_15 : decode cX7_rising 15 = .ok (.iload_n 3, 1) := by decide +kernel
theorem dX7_rising_16 : decode cX7_rising 16 = .ok (.bipush 16, 2) := by decide +kernel
theorem dX7_rising_18 : decode cX7_rising 18 = .ok (.if_icmp .ge 48, 3) := by decide +kernel
theorem dX7_rising_21 : decode cX7_rising 21 = .ok (.aload_n 0, 1) := by decide +kernel
theorem dX7_rising_22 : decode cX7_rising 22 = .ok (.iload_n 3, 1) := by decide +kernel
theorem dX7_rising_23 : decode cX7_rising 23 = .ok (.laload, 1) := by decide +kernel
theorem dX7_rising_24 : decode cX7_rising 24 = .ok (.aload_n 0, 1) := by decide +kernel
theorem dX7_rising_25 : decode cX7_rising 25 = .ok (.iload_n 3, 1) := by decide +kernel
theorem dX7_rising_26 : decode cX7_rising 26 = .ok (.iconst 1, 1) := by decide +kernel
theorem dX7_rising_27 : decode cX7_rising 27 = .ok (.iload_n 2, 1) := by decide +kernel
theorem dX7_rising_28 : decode cX7_rising 28 = .ok (.ishl, 1) := by decide +kernel
theorem dX7_rising_29 : decode cX7_rising 29 = .ok (.invokestatic 42, 3) := by decide +kernel
theorem dX7_rising_32 : decode cX7_rising 32 = .ok (.ldc2_w 15, 3) := by decide +kernel
theorem dX7_rising_35 : decode cX7_rising 35 = .ok (.lxor, 1) := by decide +kernel
theorem dX7_rising_36 : decode cX7_rising 36 = .ok (.land, 1) := by decide +kernel
theorem dX7_rising_37 : decode cX7_rising 37 = .ok (.iload_n 2, 1) := by decide +kernel
theorem dX7_rising_38 : decode cX7_rising 38 = .ok (.iload_n 3, 1) := by decide +kernel
theorem dX7_rising_39 : decode cX7_rising 39 = .ok (.invokestatic 23, 3) := by decide +kernel
theorem dX7_rising_42 : decode cX7_rising 42 = .ok (.ldc2_w 15, 3) := by decide +kernel
theorem dX7_rising_45 : decode cX7_rising 45 = .ok (.lxor, 1) := by decide +kernel
theorem dX7_rising_46 : decode cX7_rising 46 = .ok (.land, 1) := by decide +kernel
theorem dX7_rising_47 : decode cX7_rising 47 = .ok (.lconst 0, 1) := by decide +kernel
theorem dX7_rising_48 : decode cX7_rising 48 = .ok (.lcmp, 1) := by decide +kernel
theorem dX7_rising_49 : decode cX7_rising 49 = .ok (.ifCond .eq 11, 3) := by decide +kernel
theorem dX7_rising_52 : decode cX7_rising 52 = .ok (.iload_n 1, 1) := by decide +kernel
theorem dX7_rising_53 : decode cX7_rising 53 = .ok (.iconst 1, 1) := by decide +kernel
theorem dX7_rising_54 : decode cX7_rising 54 = .ok (.iload_n 2, 1) := by decide +kernel
theorem dX7_rising_55 : decode cX7_rising 55 = .ok (.ishl, 1) := by decide +kernel
theorem dX7_rising_56 : decode cX7_rising 56 = .ok (.iconst (-1), 1) := by decide +kernel
theorem dX7_rising_57 : decode cX7_rising 57 = .ok (.ixor, 1) := by decide +kernel
theorem dX7_rising_58 : decode cX7_rising 58 = .ok (.iand, 1) := by decide +kernel
theorem dX7_rising_59 : decode cX7_rising 59 = .ok (.istore_n 1, 1) := by decide +kernel
theorem dX7_rising_60 : decode cX7_rising 60 = .ok (.iinc 3 1, 3) := by decide +kernel
theorem dX7_rising_63 : decode cX7_rising 63 = .ok (.goto (-48), 3) := by decide +kernel
theorem dX7_rising_66 : decode cX7_rising 66 = .ok (.iinc 2 1, 3) := by decide +kernel
theorem dX7_rising_69 : decode cX7_rising 69 = .ok (.goto (-62), 3) := by decide +kernel
theorem dX7_rising_72 : decode cX7_rising 72 = .ok (.iload_n 1, 1) := by decide +kernel
theorem dX7_rising_73 : decode cX7_rising 73 = .ok (.ireturn, 1) := by decide +kernel
def FX7_rising (hp : HP) (p0 : Nat) : Option (Int32) := (FX7_dependsOn hp p0).bind (fun v1 => (lp (fun (s2 : Int32 × Int32) => if (10 : Int32) ≤ s2.2 then some (Sum.inl s2.1) else (lp (fun (s4 : Int32 × Int32) => if (16 : Int32) ≤ s4.2 then some (Sum.inl s4.1) else (rdL hp p0 s4.2).bind (fun v7 => (FX7_changed hp p0 s4.2 ((1 : Int32) <<< (s2.2 &&& 31))).bind (fun v8 => (FX7_soWord hp s2.2 s4.2).bind (fun v9 => if (lg_cmp ((v7 &&& (v8 ^^^ (-1 : Int64))) &&& (v9 ^^^ (-1 : Int64))) (0 : Int64)) = 0 then vl (s4.2 + (1 : Int32)) (fun x10 => some (Sum.inr (s4.1, x10))) else vl (s4.1 &&& (((1 : Int32) <<< (s2.2 &&& 31)) ^^^ (-1 : Int32))) (fun x11 => vl (s4.2 + (1 : Int32)) (fun x12 => some (Sum.inr (x11, x12)))))))) FU (s2.1, (0 : Int32))).bind (fun (y5 : Int32) => vl (s2.2 + (1 : Int32)) (fun x6 => some (Sum.inr (y5, x6))))) FU (v1, (0 : Int32))).bind (fun (y3 : Int32) => some y3))
set_option maxHeartbeats 4000000 in
set_option maxRecDepth 100000 in
theorem ctX7_rising (l : Launch) (D : va_G) (tg : Nat → ClassId) (bs : Nat) (sa : Nat → Nat) (hp : HP) (p0 : Nat) : Ct l D tg bs sa yX7_rising cX7_rising 4 (some .int) 3 [.ref p0] hp (FX7_rising hp p0) (fun r => some (.int r)) (fun _ => hp) := by
  refine Ct.of (by decide) (Nat.le_of_ble_eq_true rfl) ?_
  intro V Q hVl hVd hVt hVb hVs hC
  subst hVl; subst hVd; subst hVt; subst hVb; subst hVs
  unfold FX7_rising
  show Zs V Q (0, 0) 4 _ _ hp [(0, .ref p0)] 0 []
  refine z_aload_n hC 0 dX7_rising_0 rfl rfl ?_
  refine z_callSi hC lmRX7_49 (ctX7_dependsOn (vLa V) (vDa V) (vTg V) (vBs V) (vSa V) hp p0) (by decide) hn0 dX7_rising_1 rfl rfl (Nat.le_of_ble_eq_true rfl) (fun v1 => ?_)
  refine z_istore_n hC [(0, .ref p0), (1, .int v1)] [1, 0] dX7_rising_4 rfl (by decide) rfl ?_
  refine z_iconst hC (0 : Int32) dX7_rising_5 (by decide) ?_
  refine z_istore_n hC [(0, .ref p0), (1, .int v1), (2, .int (0 : Int32))] [1, 2, 0] dX7_rising_6 rfl (by decide) rfl ?_
  refine z_lp (S := Int32 × Int32) (Y := Int32) (fun s2 => hp) (fun s2 => [(0, .ref p0), (1, .int s2.1), (2, .int s2.2)]) (fun y3 => hp) (fun y3 => [(1, .int y3)]) 72 [] (fun y3 => ?_) (fun s2 => ?_) rfl rfl
  · refine z_iload_n hC 0 dX7_rising_72 rfl rfl ?_
    exact z_iret hC (fun h => h) dX7_rising_73
  · refine z_iload_n hC 2 dX7_rising_7 rfl rfl ?_
    refine z_bipush hC (10 : Int32) dX7_rising_8 (by decide) ?_
    refine z_icmp_ge hC 72 dX7_rising_10 (by decide) (fun _ => ?_) (fun _ => ?_)
    · refine z_weak [(1, .int s2.1)] [1] rfl ?_
      exact z_leaf (fun h => h)
    · refine z_iconst hC (0 : Int32) dX7_rising_13 (by decide) ?_
      refine z_istore_n hC [(0, .ref p0), (1, .int s2.1), (2, .int s2.2), (3, .int (0 : Int32))] [1, 2, 3, 0] dX7_rising_14 rfl (by decide) rfl ?_
      refine z_lp (S := Int32 × Int32) (Y := Int32) (fun s4 => hp) (fun s4 => [(0, .ref p0), (1, .int s4.1), (2, .int s2.2), (3, .int s4.2)]) (fun y5 => hp) (fun y5 => [(0, .ref p0), (1, .int y5), (2, .int s2.2)]) 66 [] (fun y5 => ?_) (fun s4 => ?_) rfl rfl
      · refine z_iincv hC (1 : Int32) 2 (fun x6 => [(0, .ref p0), (1, .int y5), (2, .int x6)]) [1, 2, 0] dX7_rising_66 rfl (by decide) (by decide) (fun _ => rfl) (fun x6 => ?_)
        refine z_goto hC 7 dX7_rising_69 (by decide) ?_
        exact z_leaf (fun h => h)
      · refine z_iload_n hC 3 dX7_rising_15 rfl rfl ?_
        refine z_bipush hC (16 : Int32) dX7_rising_16 (by decide) ?_
        refine z_icmp_ge hC 66 dX7_rising_18 (by decide) (fun _ => ?_) (fun _ => ?_)
        · refine z_weak [(0, .ref p0), (1, .int s4.1), (2, .int s2.2)] [0, 1, 2] rfl ?_
          exact z_leaf (fun h => h)
        · refine z_aload_n hC 0 dX7_rising_21 rfl rfl ?_
          refine z_iload_n hC 3 dX7_rising_22 rfl rfl ?_
          refine z_lald hC dX7_rising_23 (fun v7 => ?_)
          refine z_aload_n hC 0 dX7_rising_24 rfl rfl ?_
          refine z_iload_n hC 3 dX7_rising_25 rfl rfl ?_
          refine z_iconst hC (1 : Int32) dX7_rising_26 (by decide) ?_
          refine z_iload_n hC 2 dX7_rising_27 rfl rfl ?_
          refine z_ishl hC dX7_rising_28 ?_
          refine z_callSl hC lmRX7_42 (ctX7_changed (vLa V) (vDa V) (vTg V) (vBs V) (vSa V) hp p0 s4.2 ((1 : Int32) <<< (s2.2 &&& 31))) (by decide) hn0 dX7_rising_29 rfl rfl (Nat.le_of_ble_eq_true rfl) (fun v8 => ?_)
          refine z_ldc2 hC (-1 : Int64) lcRX7_15 dX7_rising_32 ?_
          refine z_lxor hC dX7_rising_35 ?_
          refine z_land hC dX7_rising_36 ?_
          refine z_iload_n hC 2 dX7_rising_37 rfl rfl ?_
          refine z_iload_n hC 3 dX7_rising_38 rfl rfl ?_
          refine z_callSl hC lmRX7_23 (ctX7_soWord (vLa V) (vDa V) (vTg V) (vBs V) (vSa V) hp s2.2 s4.2) (by decide) hn0 dX7_rising_39 rfl rfl (Nat.le_of_ble_eq_true rfl) (fun v9 => ?_)
          refine z_ldc2 hC (-1 : Int64) lcRX7_15 dX7_rising_42 ?_
          refine z_lxor hC dX7_rising_45 ?_
          refine z_land hC dX7_rising_46 ?_
          refine z_lconst hC (0 : Int64) dX7_rising_47 (by decide) ?_
          refine z_lcmp hC dX7_rising_48 ?_
          refine z_if_eq hC 60 dX7_rising_49 (by decide) (fun _ => ?_) (fun _ => ?_)
          · refine z_iincv hC (1 : Int32) 3 (fun x10 => [(0, .ref p0), (1, .int s4.1), (2, .int s2.2), (3, .int x10)]) [1, 2, 3, 0] dX7_rising_60 rfl (by decide) (by decide) (fun _ => rfl) (fun x10 => ?_)
            refine z_goto hC 15 dX7_rising_63 (by decide) ?_
            exact z_leaf (fun h => h)
          · refine z_iload_n hC 1 dX7_rising_52 rfl rfl ?_
            refine z_iconst hC (1 : Int32) dX7_rising_53 (by decide) ?_
            refine z_iload_n hC 2 dX7_rising_54 rfl rfl ?_
            refine z_ishl hC dX7_rising_55 ?_
            refine z_iconst hC (-1 : Int32) dX7_rising_56 (by decide) ?_
            refine z_ixor hC dX7_rising_57 ?_
            refine z_iand hC dX7_rising_58 ?_
            refine z_vli (fun x11 => ?_)
            refine z_istore_n hC [(0, .ref p0), (1, .int x11), (2, .int s2.2), (3, .int s4.2)] [1, 0, 2, 3] dX7_rising_59 rfl (by decide) rfl ?_
            refine z_iincv hC (1 : Int32) 3 (fun x12 => [(0, .ref p0), (1, .int x11), (2, .int s2.2), (3, .int x12)]) [1, 2, 3, 0] dX7_rising_60 rfl (by decide) (by decide) (fun _ => rfl) (fun x12 => ?_)
            refine z_goto hC 15 dX7_rising_63 (by decide) ?_
            exact z_leaf (fun h => h)

