theorem dX11_fewestAgainst_0 : decode cX11_fewestAgainst 0 = .ok (.aload_n 1, 1) := by decide +kernel
theorem dX11_fewestAgainst_1 : decode cX11_fewestAgainst 1 = .ok (.aload_n 0, 1) := by decide +kernel
theorem dX11_fewestAgainst_2 : decode cX11_fewestAgainst 2 = .ok (.iload_n 2, 1) := by decide +kernel
theorem dX11_fewestAgainst_3 : decode cX11_fewestAgainst 3 = .ok (.invokevirtual 366, 3) := by decide +kernel
theorem dX11_fewestAgainst_6 : decode cX11_fewestAgainst 6 = .ok (.ifCond .eq 6, 3) := by decide +kernel
theorem dX11_fewestAgainst_9 : decode cX11_fewestAgainst 9 = .ok (.bipush (-2), 2) := by decide +kernel
theorem dX11_fewestAgainst_11 : decode cX11_fewestAgainst 11 = .ok (.ireturn, 1) := by decide +kernel
theorem dX11_fewestAgainst_12 : decode cX11_fewestAgainst 12 = .ok (.iload_n 2, 1) := by decide +kernel
theorem dX11_fewestAgainst_13 : decode cX11_fewestAgainst 13 = .ok (.istore 4, 2) := by decide +kernel
theorem dX11_fewestAgainst_15 : decode cX11_fewestAgainst 15 = .ok (.iload_n 3, 1) := by decide +kernel
theorem dX11_fewestAgainst_16 : decode cX11_fewestAgainst 16 = .ok (.istore 5, 2) := by decide +kernel
theorem dX11_fewestAgainst_18 : decode cX11_fewestAgainst 18 = .ok (.iload 5, 2) := by decide +kernel
theorem dX11_fewestAgainst_20 : decode cX11_fewestAgainst 20 = .ok (.iload_n 2, 1) := by decide +kernel
theorem dX11_fewestAgainst_21 : decode cX11_fewestAgainst 21 = .ok (.if_icmp .ge 57, 3) := by decide +kernel
theorem dX11_fewestAgainst_24 : decode cX11_fewestAgainst 24 = .ok (.iload 5, 2) := by decide +kernel
theorem dX11_fewestAgainst_26 : decode cX11_fewestAgainst 26 = .ok (.invokestatic 214, 3) := by decide +kernel
theorem dX11_fewestAgainst_29 : decode cX11_fewestAgainst 29 = .ok (.iload 4, 2) := by decide +kernel
theorem dX11_fewestAgainst_31 : decode cX11_fewestAgainst 31 = .ok (.invokestatic 214, 3) := by decide +kernel
theorem dX11_fewestAgainst_34 : decode cX11_fewestAgainst 34 = .ok (.if_icmp .ge 7, 3) := by decide +kernel
theorem dX11_fewestAgainst_37 : decode cX11_fewestAgainst 37 = .ok (.iconst 1, 1) := by decide +kernel
theorem dX11_fewestAgainst_38 : decode cX11_fewestAgainst 38 = .ok (.goto 4, 3) := by decide +kernel
theorem dX11_fewestAgainst_41 : decode cX11_fewestAgainst 41 = .ok (.iconst 0, 1) := by decide +kernel
theorem dX11_fewestAgainst_42 : decode cX11_fewestAgainst 42 = .ok (.istore 6, 2) := by decide +kernel
theorem dX11_fewestAgainst_44 : decode cX11_fewestAgainst 44 = .ok (.iload 5, 2) := by decide +kernel
theorem dX11_fewestAgainst_46 : decode cX11_fewestAgainst 46 = .ok (.iload_n 2, 1) := by decide +kernel
theorem dX11_fewestAgainst_47 : decode cX11_fewestAgainst 47 = .ok (.iconst (-1), 1) := by decide +kernel
theorem dX11_fewestAgainst_48 : decode cX11_fewestAgainst 48 = .ok (.ixor, 1) := by decide +kernel
theorem dX11_fewestAgainst_49 : decode cX11_fewestAgainst 49 = .ok (.iand, 1) := by decide +kernel
theorem dX11_fewestAgainst_50 : decode cX11_fewestAgainst 50 = .ok (.ifCond .ne 22, 3) := by decide +kernel
theorem dX11_fewestAgainst_53 : decode cX11_fewestAgainst 53 = .ok (.iload 6, 2) := by decide +kernel
theorem dX11_fewestAgainst_55 : decode cX11_fewestAgainst 55 = .ok (.ifCond .eq 17, 3) := by decide +kernel
theorem dX11_fewestAgainst_58 : decode cX11_fewestAgainst 58 = .ok (.aload_n 1, 1) := by decide +kernel
theorem dX11_fewestAgainst_59 : decode cX11_fewestAgainst 59 = .ok (.aload_n 0, 1) := by decide +kernel
theorem dX11_fewestAgainst_60 : decode cX11_fewestAgainst 60 = .ok (.iload 5, 2) := by decide +kernel
theorem dX11_fewestAgainst_62 : decode cX11_fewestAgainst 62 = .ok (.invokevirtual 366, 3) := by decide +kernel
theorem dX11_fewestAgainst_65 : decode cX11_fewestAgainst 65 = .ok (.ifCond .ne 7, 3) := by decide +kernel
theorem dX11_fewestAgainst_68 : decode cX11_fewestAgainst 68 = .ok (.iload 5, 2) := by decide +kernel
theorem dX11_fewestAgainst_70 : decode cX11_fewestAgainst 70 = .ok (.istore 4, 2) := by decide +kernel
theorem dX11_fewestAgainst_72 : decode cX11_fewestAgainst 72 = .ok (.iinc 5 1, 3) := by decide +kernel
theorem dX11_fewestAgainst_75 : decode cX11_fewestAgainst 75 = .ok (.goto (-57), 3) := by decide +kernel
theorem dX11_fewestAgainst_78 : decode cX11_fewestAgainst 78 = .ok (.iload 4, 2) := by decide +kernel
theorem dX11_fewestAgainst_80 : decode cX11_fewestAgainst 80 = .ok (.ireturn, 1) := by decide +kernel
def FX11_fewestAgainst (hp : HP) (p0 : Nat) (p1 : Nat) (p2 : Int32) (p3 : Int32) : Option (Int32) := (rc [0] hp p1 (FX0_leavesSome hp p1 p0 p2)).bind (fun v1 => if v1 = 0 then (lp (fun (s2 : Int32 × Int32) => if p2 ≤ s2.2 then some (Sum.inl s2.1) else (FJ6_bitCount_0f7a4 s2.2).bind (fun v4 => (FJ6_bitCount_0f7a4 s2.1).bind (fun v5 => jn (A := Int32) (fun a6 => if (s2.2 &&& (p2 ^^^ (-1 : Int32))) = 0 then if a6 = 0 then vl (s2.2 + (1 : Int32)) (fun x8 => some (Sum.inr (s2.1, x8))) else (rc [0] hp p1 (FX0_leavesSome hp p1 p0 s2.2)).bind (fun v9 => if v9 = 0 then vl (s2.2 + (1 : Int32)) (fun x10 => some (Sum.inr (s2.2, x10))) else vl (s2.2 + (1 : Int32)) (fun x11 => some (Sum.inr (s2.1, x11)))) else vl (s2.2 + (1 : Int32)) (fun x12 => some (Sum.inr (s2.1, x12)))) (fun J7 => if v5 ≤ v4 then J7 (0 : Int32) else J7 (1 : Int32))))) FU (p2, p3)).bind (fun (y3 : Int32) => some y3) else some (-2 : Int32))
set_option maxHeartbeats 4000000 in
set_option maxRecDepth 100000 in
theorem ctX11_fewestAgainst (l : Launch) (D : va_G) (tg : Nat → ClassId) (bs : Nat) (sa : Nat → Nat) (hp : HP) (p0 : Nat) (p1 : Nat) (p2 : Int32) (p3 : Int32) : Ct l D tg bs sa yX11_fewestAgainst cX11_fewestAgainst 7 (some .int) 2 [.ref p0, .ref p1, .int p2, .int p3] hp (FX11_fewestAgainst hp p0 p1 p2 p3) (fun r => some (.int r)) (fun _ => hp) := by
  refine Ct.of (by decide) (Nat.le_of_ble_eq_true rfl) ?_
  intro V Q hVl hVd hVt hVb hVs hC
  subst hVl; subst hVd; subst hVt; subst hVb; subst hVs
  unfold FX11_fewestAgainst
  show Zs V Q (0, 0) 7 _ _ hp [(0, .ref p0), (1, .ref p1), (2, .int p2), (3, .int p3)] 0 []
  refine z_aload_n hC 1 dX11_fewestAgainst_0 rfl rfl ?_
  refine z_aload_n hC 0 dX11_fewestAgainst_1 rfl rfl ?_
  refine z_iload_n hC 2 dX11_fewestAgainst_2 rfl rfl ?_
  refine z_callVi hC (ci := 0) rfl lmRX11_366 (ctX0_leavesSome (vLa V) (vDa V) (vTg V) (vBs V) (vSa V) hp p1 p0 p2) (by decide) hn0 dX11_fewestAgainst_3 rfl rfl (Nat.le_of_ble_eq_true rfl) (fun v1 => ?_)
  refine z_if_eq hC 12 dX11_fewestAgainst_6 (by decide) (fun _ => ?_) (fun _ => ?_)
  · refine z_iload_n hC 2 dX11_fewestAgainst_12 rfl rfl ?_
    refine z_istore hC [(0, .ref p0), (1, .ref p1), (2, .int p2), (3, .int p3), (4, .int p2)] [1, 2, 3, 4, 0] dX11_fewestAgainst_13 (by decide) rfl ?_
    refine z_iload_n hC 3 dX11_fewestAgainst_15 rfl rfl ?_
    refine z_istore hC [(0, .ref p0), (1, .ref p1), (2, .int p2), (3, .int p3), (4, .int p2), (5, .int p3)] [1, 2, 3, 4, 5, 0] dX11_fewestAgainst_16 (by decide) rfl ?_
    refine z_weak [(0, .ref p0), (1, .ref p1), (2, .int p2), (4, .int p2), (5, .int p3)] [0, 1, 2, 4, 5] rfl ?_
    refine z_lp (S := Int32 × Int32) (Y := Int32) (fun s2 => hp) (fun s2 => [(0, .ref p0), (1, .ref p1), (2, .int p2), (4, .int s2.1), (5, .int s2.2)]) (fun y3 => hp) (fun y3 => [(4, .int y3)]) 78 [] (fun y3 => ?_) (fun s2 => ?_) rfl rfl
    · refine z_iload hC 0 dX11_fewestAgainst_78 rfl ?_
      exact z_iret hC (fun h => h) dX11_fewestAgainst_80
    · refine z_iload hC 4 dX11_fewestAgainst_18 rfl ?_
      refine z_iload_n hC 2 dX11_fewestAgainst_20 rfl rfl ?_
      refine z_icmp_ge hC 78 dX11_fewestAgainst_21 (by decide) (fun _ => ?_) (fun _ => ?_)
      · refine z_weak [(4, .int s2.1)] [3] rfl ?_
        exact z_leaf (fun h => h)
      · refine z_iload hC 4 dX11_fewestAgainst_24 rfl ?_
        refine z_callSi hC lmRX11_214 (ctJ6_bitCount_0f7a4 (vLa V) (vDa V) (vTg V) (vBs V) (vSa V) hp s2.2) (by decide) hn0 dX11_fewestAgainst_26 rfl rfl (Nat.le_of_ble_eq_true rfl) (fun v4 => ?_)
        refine z_iload hC 3 dX11_fewestAgainst_29 rfl ?_
        refine z_callSi hC lmRX11_214 (ctJ6_bitCount_0f7a4 (vLa V) (vDa V) (vTg V) (vBs V) (vSa V) hp s2.1) (by decide) hn0 dX11_fewestAgainst_31 rfl rfl (Nat.le_of_ble_eq_true rfl) (fun v5 => ?_)
        refine z_jn (A := Int32) (fun a6 => hp) (fun a6 => [(0, .ref p0), (1, .ref p1), (2, .int p2), (4, .int s2.1), (5, .int s2.2)]) 42 (fun a6 => [.int a6]) (fun a6 => ?_) (fun J7 hJ7 => ?_)
        · refine z_istore hC [(0, .ref p0), (1, .ref p1), (2, .int p2), (4, .int s2.1), (5, .int s2.2), (6, .int a6)] [1, 2, 3, 4, 5, 0] dX11_fewestAgainst_42 (by decide) rfl ?_
          refine z_iload hC 4 dX11_fewestAgainst_44 rfl ?_
          refine z_iload_n hC 2 dX11_fewestAgainst_46 rfl rfl ?_
          refine z_iconst hC (-1 : Int32) dX11_fewestAgainst_47 (by decide) ?_
          refine z_ixor hC dX11_fewestAgainst_48 ?_
          refine z_iand hC dX11_fewestAgainst_49 ?_
          refine z_if_ne hC 72 dX11_fewestAgainst_50 (by decide) (fun _ => ?_) (fun _ => ?_)
          · refine z_iload hC 5 dX11_fewestAgainst_53 rfl ?_
            refine z_if_eq hC 72 dX11_fewestAgainst_55 (by decide) (fun _ => ?_) (fun _ => ?_)
            · refine z_iincv hC (1 : Int32) 4 (fun x8 => [(0, .ref p0), (1, .ref p1), (2, .int p2), (4, .int s2.1), (5, .int x8), (6, .int a6)]) [1, 2, 3, 4, 0, 5] dX11_fewestAgainst_72 rfl (by decide) (by decide) (fun _ => rfl) (fun x8 => ?_)
              refine z_goto hC 18 dX11_fewestAgainst_75 (by decide) ?_
              refine z_weak [(0, .ref p0), (1, .ref p1), (2, .int p2), (4, .int s2.1), (5, .int x8)] [0, 1, 2, 3, 4] rfl ?_
              exact z_leaf (fun h => h)
            · refine z_aload_n hC 1 dX11_fewestAgainst_58 rfl rfl ?_
              refine z_aload_n hC 0 dX11_fewestAgainst_59 rfl rfl ?_
              refine z_iload hC 4 dX11_fewestAgainst_60 rfl ?_
              refine z_callVi hC (ci := 0) rfl lmRX11_366 (ctX0_leavesSome (vLa V) (vDa V) (vTg V) (vBs V) (vSa V) hp p1 p0 s2.2) (by decide) hn0 dX11_fewestAgainst_62 rfl rfl (Nat.le_of_ble_eq_true rfl) (fun v9 => ?_)
              refine z_if_ne hC 72 dX11_fewestAgainst_65 (by decide) (fun _ => ?_) (fun _ => ?_)
              · refine z_iload hC 4 dX11_fewestAgainst_68 rfl ?_
                refine z_istore hC [(0, .ref p0), (1, .ref p1), (2, .int p2), (4, .int s2.2), (5, .int s2.2), (6, .int a6)] [1, 2, 3, 0, 4, 5] dX11_fewestAgainst_70 (by decide) rfl ?_
                refine z_iincv hC (1 : Int32) 4 (fun x10 => [(0, .ref p0), (1, .ref p1), (2, .int p2), (4, .int s2.2), (5, .int x10), (6, .int a6)]) [1, 2, 3, 4, 0, 5] dX11_fewestAgainst_72 rfl (by decide) (by decide) (fun _ => rfl) (fun x10 => ?_)
                refine z_goto hC 18 dX11_fewestAgainst_75 (by decide) ?_
                refine z_weak [(0, .ref p0), (1, .ref p1), (2, .int p2), (4, .int s2.2), (5, .int x10)] [0, 1, 2, 3, 4] rfl ?_
                exact z_leaf (fun h => h)
              · refine z_iincv hC (1 : Int32) 4 (fun x11 => [(0, .ref p0), (1, .ref p1), (2, .int p2), (4, .int s2.1), (5, .int x11), (6, .int a6)]) [1, 2, 3, 4, 0, 5] dX11_fewestAgainst_72 rfl (by decide) (by decide) (fun _ => rfl) (fun x11 => ?_)
                refine z_goto hC 18 dX11_fewestAgainst_75 (by decide) ?_
                refine z_weak [(0, .ref p0), (1, .ref p1), (2, .int p2), (4, .int s2.1), (5, .int x11)] [0, 1, 2, 3, 4] rfl ?_
                exact z_leaf (fun h => h)
          · refine z_iincv hC (1 : Int32) 4 (fun x12 => [(0, .ref p0), (1, .ref p1), (2, .int p2), (4, .int s2.1), (5, .int x12), (6, .int a6)]) [1, 2, 3, 4, 0, 5] dX11_fewestAgainst_72 rfl (by decide) (by decide) (fun _ => rfl) (fun x12 => ?_)
            refine z_goto hC 18 dX11_fewestAgainst_75 (by decide) ?_
            refine z_weak [(0, .ref p0), (1, .ref p1), (2, .int p2), (4, .int s2.1), (5, .int x12)] [0, 1, 2, 3, 4] rfl ?_
            exact z_leaf (fun h => h)
        · refine z_icmp_ge hC 41 dX11_fewestAgainst_34 (by decide) (fun _ => ?_) (fun _ => ?_)
          · refine z_iconst hC (0 : Int32) dX11_fewestAgainst_41 (by decide) ?_
            exact hJ7 (0 : Int32)
          · refine z_iconst hC (1 : Int32) dX11_fewestAgainst_37 (by decide) ?_
            refine z_goto hC 42 dX11_fewestAgainst_38 (by decide) ?_
            exact hJ7 (1 : Int32)
  · refine z_bipush hC (-2 : Int32) dX11_fewestAgainst_9 (by decide) ?_
    exact z_iret hC (fun h => h) dX11_fewestAgainst_11

theorem dX11_why_0 : decode cX11_why 0 = .ok (.aload_n 0, 1) := by decide +kernel
theorem dX11_why_1 : decode cX11_why 1 = .ok (.getfield 28, 3) := by decide +kernel
theorem dX11_why_4 : decode cX11_why 4 = .ok (.iload_n 1, 1) := by decide +kernel
theorem dX11_why_5 : decode cX11_why 5 = .ok (.invokevirtual 137, 3) := by decide +kernel
theorem dX11_why_8 : decode cX11_why 8 = .ok (.ifCond .eq 12, 3) := by decide +kernel
theorem dX11_why_11 : decode cX11_why 11 = .ok (.iload_n 2, 1) := by decide +kernel
theorem dX11_why_12 : decode cX11_why 12 = .ok (.ifCond .lt 8, 3) := by decide +kernel
theorem dX11_why_15 : decode cX11_why 15 = .ok (.iload_n 2, 1) := by decide +kernel
theorem dX11_why_16 : decode cX11_why 16 = .ok (.iconst 1, 1) := by decide +kernel
theorem dX11_why_17 : decode cX11_why 17 = .ok (.if_icmp .le 5, 3) := by decide +kernel
theorem dX11_why_20 : decode cX11_why 20 = .ok (.iconst (-1), 1) := by decide +kernel
theorem dX11_why_21 : decode cX11_why 21 = .ok (.ireturn, 1) := by decide +kernel
theorem dX11_why_22 : decode cX11_why 22 = .ok (.aload_n 0, 1) := by decide +kernel
theorem dX11_why_23 : decode cX11_why 23 = .ok (.getfield 28, 3) := by decide +kernel
theorem dX11_why_26 : decode cX11_why 26 = .ok (.getfield 193, 3) := by decide +kernel
theorem dX11_why_29 : decode cX11_why 29 = .ok (.iload_n 1, 1) := by decide +kernel
theorem dX11_why_30 : decode cX11_why 30 = .ok (.aaload, 1) := by decide +kernel
theorem dX11_why_31 : decode cX11_why 31 = .ok (.aload_n 0, 1) := by decide +kernel
theorem dX11_why_32 : decode cX11_why 32 = .ok (.getfield 32, 3) := by decide +kernel
theorem dX11_why_35 : decode cX11_why 35 = .ok (.aload_n 0, 1) := by decide +kernel
theorem dX11_why_36 : decode cX11_why 36 = .ok (.getfield 32, 3) := by decide +kernel
theorem dX11_why_39 : decode cX11_why 39 = .ok (.getfield 207, 3) := by decide +kernel
theorem dX11_why_42 : decode cX11_why 42 = .ok (.iconst 0, 1) := by decide +kernel
theorem dX11_why_43 : decode cX11_why 43 = .ok (.invokestatic 210, 3) := by decide +kernel
theorem dX11_why_46 : decode cX11_why 46 = .ok (.istore_n 3, 1) := by decide +kernel
theorem dX11_why_47 : decode cX11_why 47 = .ok (.iload_n 3, 1) := by decide +kernel
theorem dX11_why_48 : decode cX11_why 48 = .ok (.ifCond .lt 14, 3) := by decide +kernel
theorem dX11_why_51 : decode cX11_why 51 = .ok (.iload_n 2, 1) := by decide +kernel
theorem dX11_why_52 : decode cX11_why 52 = .ok (.ifCond .ne 10, 3) := by decide +kernel
theorem dX11_why_55 : decode cX11_why 55 = .ok (.iload_n 3, 1) := by decide +kernel
theorem dX11_why_56 : decode cX11_why 56 = .ok (.invokestatic 214, 3) := by decide +kernel
theorem dX11_why_59 : decode cX11_why 59 = .ok (.goto 4, 3) := by decide +kernel
theorem dX11_why_62 : decode cX11_why 62 = .ok (.iload_n 3, 1) := by decide +kernel
theorem dX11_why_63 : decode cX11_why 63 = .ok (.ireturn, 1) := by decide +kernel
def FX11_why (hp : HP) (p0 : Nat) (p1 : Int32) (p2 : Int32) : Option (Int32) := (gR [11] 2 hp p0).bind (fun v1 => (rc [0] hp v1 (FX0_has hp v1 p1)).bind (fun v2 => if v2 = 0 then some (-1 : Int32) else if p2 < 0 then some (-1 : Int32) else if p2 ≤ (1 : Int32) then (gR [11] 2 hp p0).bind (fun v3 => (gR [0] 0 hp v3).bind (fun v4 => (rdA 4 hp v4 p1).bind (fun v5 => (gR [11] 3 hp p0).bind (fun v6 => (gR [11] 3 hp p0).bind (fun v7 => (gI [0] 1 hp v7).bind (fun v8 => (FX11_fewestAgainst hp v5 v6 v8 (0 : Int32)).bind (fun v9 => if v9 < 0 then some v9 else if p2 = 0 then (FJ6_bitCount_0f7a4 v9).bind (fun v10 => some v10) else some v9))))))) else some (-1 : Int32)))
set_option maxHeartbeats 4000000 in
set_option maxRecDepth 100000 in
theorem ctX11_why (l : Launch) (D : va_G) (tg : Nat → ClassId) (bs : Nat) (sa : Nat → Nat) (hp : HP) (p0 : Nat) (p1 : Int32) (p2 : Int32) : Ct l D tg bs sa yX11_why cX11_why 4 (some .int) 3 [.ref p0, .int p1, .int p2] hp (FX11_why hp p0 p1 p2) (fun r => some (.int r)) (fun _ => hp) := by
  refine Ct.of (by decide) (Nat.le_of_ble_eq_true rfl) ?_
  intro V Q hVl hVd hVt hVb hVs hC
  subst hVl; subst hVd; subst hVt; subst hVb; subst hVs
  unfold FX11_why
  show Zs V Q (0, 0) 4 _ _ hp [(0, .ref p0), (1, .int p1), (2, .int p2)] 0 []
  refine z_aload_n hC 0 dX11_why_0 rfl rfl ?_
  refine z_getR hC lgRX11_28 dX11_why_1 (fun v1 => ?_)
  refine z_iload_n hC 1 dX11_why_4 rfl rfl ?_
  refine z_callVi hC (ci := 0) rfl lmRX11_137 (ctX0_has (vLa V) (vDa V) (vTg V) (vBs V) (vSa V) hp v1 p1) (by decide) hn0 dX11_why_5 rfl rfl (Nat.le_of_ble_eq_true rfl) (fun v2 => ?_)
  refine z_if_eq hC 20 dX11_why_8 (by decide) (fun _ => ?_) (fun _ => ?_)
  · refine z_iconst hC (-1 : Int32) dX11_why_20 (by decide) ?_
    exact z_iret hC (fun h => h) dX11_why_21
  · refine z_iload_n hC 2 dX11_why_11 rfl rfl ?_
    refine z_if_lt hC 20 dX11_why_12 (by decide) (fun _ => ?_) (fun _ => ?_)
    · refine z_iconst hC (-1 : Int32) dX11_why_20 (by decide) ?_
      exact z_iret hC (fun h => h) dX11_why_21
    · refine z_iload_n hC 2 dX11_why_15 rfl rfl ?_
      refine z_iconst hC (1 : Int32) dX11_why_16 (by decide) ?_
      refine z_icmp_le hC 22 dX11_why_17 (by decide) (fun _ => ?_) (fun _ => ?_)
      · refine z_aload_n hC 0 dX11_why_22 rfl rfl ?_
        refine z_getR hC lgRX11_28 dX11_why_23 (fun v3 => ?_)
        refine z_getR hC lgRX11_193 dX11_why_26 (fun v4 => ?_)
        refine z_iload_n hC 1 dX11_why_29 rfl rfl ?_
        refine z_aald4 hC dX11_why_30 (fun v5 => ?_)
        refine z_aload_n hC 0 dX11_why_31 rfl rfl ?_
        refine z_getR hC lgRX11_32 dX11_why_32 (fun v6 => ?_)
        refine z_aload_n hC 0 dX11_why_35 rfl rfl ?_
        refine z_getR hC lgRX11_32 dX11_why_36 (fun v7 => ?_)
        refine z_getI hC lgRX11_207 dX11_why_39 (fun v8 => ?_)
        refine z_iconst hC (0 : Int32) dX11_why_42 (by decide) ?_
        refine z_callSi hC lmRX11_210 (ctX11_fewestAgainst (vLa V) (vDa V) (vTg V) (vBs V) (vSa V) hp v5 v6 v8 (0 : Int32)) (by decide) hn0 dX11_why_43 rfl rfl (Nat.le_of_ble_eq_true rfl) (fun v9 => ?_)
        refine z_istore_n hC [(0, .ref p0), (1, .int p1), (2, .int p2), (3, .int v9)] [1, 2, 3, 0] dX11_why_46 rfl (by decide) rfl ?_
        refine z_iload_n hC 3 dX11_why_47 rfl rfl ?_
        refine z_if_lt hC 62 dX11_why_48 (by decide) (fun _ => ?_) (fun _ => ?_)
        · refine z_iload_n hC 3 dX11_why_62 rfl rfl ?_
          exact z_iret hC (fun h => h) dX11_why_63
        · refine z_iload_n hC 2 dX11_why_51 rfl rfl ?_
          refine z_if_ne hC 62 dX11_why_52 (by decide) (fun _ => ?_) (fun _ => ?_)
          · refine z_iload_n hC 3 dX11_why_55 rfl rfl ?_
            refine z_callSi hC lmRX11_214 (ctJ6_bitCount_0f7a4 (vLa V) (vDa V) (vTg V) (vBs V) (vSa V) hp v9) (by decide) hn0 dX11_why_56 rfl rfl (Nat.le_of_ble_eq_true rfl) (fun v10 => ?_)
            refine z_goto hC 63 dX11_why_59 (by decide) ?_
            exact z_iret hC (fun h => h) dX11_why_63
          · refine z_iload_n hC 3 dX11_why_62 rfl rfl ?_
            exact z_iret hC (fun h => h) dX11_why_63
      · refine z_iconst hC (-1 : Int32) dX11_why_20 (by decide) ?_
        exact z_iret hC (fun h => h) dX11_why_21

theorem dX11_joke_0 : decode cX11_joke 0 = .ok (.iload_n 1, 1) := by decide +kernel
theorem dX11_joke_1 : decode cX11_joke 1 = .ok (.ifCond .lt 8, 3) := by decide +kernel
theorem dX11_joke_4 : decode cX11_joke 4 = .ok (.iload_n 1, 1) := by decide +kernel
theorem dX11_joke_5 : decode cX11_joke 5 = .ok (.iconst 1, 1) := by decide +kernel
theorem dX11_joke_6 : decode cX11_joke 6 = .ok (.if_icmp .le 5, 3) := by decide +kernel
theorem dX11_joke_9 : decode cX11_joke 9 = .ok (.iconst (-1), 1) := by decide +kernel
theorem dX11_joke_10 : decode cX11_joke 10 = .ok (.ireturn, 1) := by decide +kernel
theorem dX11_joke_11 : decode cX11_joke 11 = .ok (.bipush (-2), 2) := by decide +kernel
theorem dX11_joke_13 : decode cX11_joke 13 = .ok (.istore_n 2, 1) := by decide +kernel
theorem dX11_joke_14 : decode cX11_joke 14 = .ok (.iconst 0, 1) := by decide +kernel
theorem dX11_joke_15 : decode cX11_joke 15 = .ok (.istore_n 3, 1) := by decide +kernel
theorem dX11_joke_16 : decode cX11_joke 16 = .ok (.iconst 0, 1) := by decide +kernel
theorem dX11_joke_17 : decode cX11_joke 17 = .ok (.istore 4, 2) := by decide +kernel
theorem dX11_joke_19 : decode cX11_joke 19 = .ok (.iload 4, 2) := by decide +kernel
theorem dX11_joke_21 : decode cX11_joke 21 = .ok (.bipush 8, 2) := by decide +kernel
theorem dX11_joke_23 : decode cX11_joke 23 = .ok (.if_icmp .ge 81, 3) := by decide +kernel
theorem dX11_joke_26 : decode cX11_joke 26 = .ok (.aload_n 0, 1) := by decide +kernel
theorem dX11_joke_27 : decode cX11_joke 27 = .ok (.getfield 32, 3) := by decide +kernel
theorem dX11_joke_30 : decode cX11_joke 30 = .ok (.iload 4, 2) := by decide +kernel
theorem dX11_joke_32 : decode cX11_joke 32 = .ok (.invokevirtual 137, 3) := by decide +kernel
theorem dX11_joke_35 : decode cX11_joke 35 = .ok (.ifCond .eq 63, 3) := by decide +kernel
theorem dX11_joke_38 : decode cX11_joke 38 = .ok (.aload_n 0, 1) := by decide +kernel
theorem dX11_joke_39 : decode cX11_joke 39 = .ok (.getfield 32, 3) := by decide +kernel
theorem dX11_joke_42 : decode cX11_joke 42 = .ok (.aload_n 0, 1) := by decide +kernel
theorem dX11_joke_43 : decode cX11_joke 43 = .ok (.getfield 32, 3) := by decide +kernel
theorem dX11_joke_46 : decode cX11_joke 46 = .ok (.getfield 207, 3) := by decide +kernel
theorem dX11_joke_49 : decode cX11_joke 49 = .ok (.iconst 1, 1) := by decide +kernel
theorem dX11_joke_50 : decode cX11_joke 50 = .ok (.iload 4, 2) := by decide +kernel
theorem dX11_joke_52 : decode cX11_joke 52 = .ok (.ishl, 1) := by decide +kernel
theorem dX11_joke_53 : decode cX11_joke 53 = .ok (.iconst (-1), 1) := by decide +kernel
theorem dX11_joke_54 : decode cX11_joke 54 = .ok (.ixor, 1) := by decide +kernel
theorem dX11_joke_55 : decode cX11_joke 55 = .ok (.iand, 1) := by decide +kernel
theorem dX11_joke_56 : decode cX11_joke 56 = .ok (.aload_n 0, 1) := by decide +kernel
theorem dX11_joke_57 : decode cX11_joke 57 = .ok (.getfield 49, 3) := by decide +kernel
theorem dX11_joke_60 : decode cX11_joke 60 = .ok (.invokevirtual 219, 3) := by decide +kernel
theorem dX11_joke_63 : decode cX11_joke 63 = .ok (.aload_n 0, 1) := by decide +kernel
theorem dX11_joke_64 : decode cX11_joke 64 = .ok (.getfield 49, 3) := by decide +kernel
theorem dX11_joke_67 : decode cX11_joke 67 = .ok (.invokestatic 173, 3) := by decide +kernel
theorem dX11_joke_70 : decode cX11_joke 70 = .ok (.aload_n 0, 1) := by decide +kernel
theorem dX11_joke_71 : decode cX11_joke 71 = .ok (.getfield 42, 3) := by decide +kernel
theorem dX11_joke_74 : decode cX11_joke 74 = .ok (.invokestatic 173, 3) := by decide +kernel
theorem dX11_joke_77 : decode cX11_joke 77 = .ok (.isub, 1) := by decide +kernel
theorem dX11_joke_78 : decode cX11_joke 78 = .ok (.istore 5, 2) := by decide +kernel
theorem dX11_joke_80 : decode cX11_joke 80 = .ok (.iload_n 2, 1) := by decide +kernel
theorem dX11_joke_81 : decode cX11_joke 81 = .ok (.bipush (-2), 2) := by decide +kernel
theorem dX11_joke_83 : decode cX11_joke 83 = .ok (.if_icmp .eq 9, 3) := by decide +kernel
theorem dX11_joke_86 : decode cX11_joke 86 = .ok (.iload 5, 2) := by decide +kernel
theorem dX11_joke_88 : decode cX11_joke 88 = .ok (.iload_n 3, 1) := by decide +kernel
theorem dX11_joke_89 : decode cX11_joke 89 = .ok (.if_icmp .le 9, 3) := by decide +kernel
theorem dX11_joke_92 : decode cX11_joke 92 = .ok (.iload 4, 2) := by decide +kernel
theorem dX11_joke_94 : decode cX11_joke 94 = .ok (.istore_n 2, 1) := by decide +kernel
theorem dX11_joke_95 : decode cX11_joke 95 = .ok (.iload 5, 2) := by decide +kernel
theorem dX11_joke_97 : decode cX11_joke 97 = .ok (.istore_n 3, 1) := by decide +kernel
theorem dX11_joke_98 : decode cX11_joke 98 = .ok (.iinc 4 1, 3) := by decide +kernel
theorem dX11_joke_101 : decode cX11_joke 101 = .ok (.goto (-82), 3) := by decide +kernel
theorem dX11_joke_104 : decode cX11_joke 104 = .ok (.iload_n 1, 1) := by decide +kernel
theorem dX11_joke_105 : decode cX11_joke 105 = .ok (.ifCond .ne 7, 3) := by decide +kernel
theorem dX11_joke_108 : decode cX11_joke 108 = .ok (.iload_n 2, 1) := by decide +kernel
theorem dX11_joke_109 : decode cX11_joke 109 = .ok (.goto 4, 3) := by decide +kernel
theorem dX11_joke_112 : decode cX11_joke 112 = .ok (.iload_n 3, 1) := by decide +kernel
theorem dX11_joke_113 : decode cX11_joke 113 = .ok (.ireturn, 1) := by decide +kernel
def FX11_joke (hp : HP) (p0 : Nat) (p1 : Int32) : Option (Int32 × HP) := if p1 < 0 then some ((-1 : Int32), hp) else if p1 ≤ (1 : Int32) then (lp (fun (s1 : Int32 × Int32 × Int32 × HP) => if (8 : Int32) ≤ s1.2.2.1 then some (Sum.inl (s1.1, s1.2.1, s1.2.2.2)) else (gR [11] 3 s1.2.2.2 p0).bind (fun v3 => (rc [0] s1.2.2.2 v3 (FX0_has s1.2.2.2 v3 s1.2.2.1)).bind (fun v4 => if v4 = 0 then vl (s1.2.2.1 + (1 : Int32)) (fun x5 => some (Sum.inr (s1.1, s1.2.1, x5, s1.2.2.2))) else (gR [11] 3 s1.2.2.2 p0).bind (fun v6 => (gR [11] 3 s1.2.2.2 p0).bind (fun v7 => (gI [0] 1 s1.2.2.2 v7).bind (fun v8 => (gR [11] 7 s1.2.2.2 p0).bind (fun v9 => (rc [0] s1.2.2.2 v6 (FX0_meet s1.2.2.2 v6 (v8 &&& (((1 : Int32) <<< (s1.2.2.1 &&& 31)) ^^^ (-1 : Int32))) v9)).bind (fun w10 => (gR [11] 7 w10 p0).bind (fun v11 => (FX7_size w10 v11).bind (fun v12 => (gR [11] 5 w10 p0).bind (fun v13 => (FX7_size w10 v13).bind (fun v14 => vl (v12 - v14) (fun x15 => if s1.1 = (-2 : Int32) then vl (s1.2.2.1 + (1 : Int32)) (fun x16 => some (Sum.inr (s1.2.2.1, x15, x16, w10))) else if x15 ≤ s1.2.1 then vl (s1.2.2.1 + (1 : Int32)) (fun x17 => some (Sum.inr (s1.1, s1.2.1, x17, w10))) else vl (s1.2.2.1 + (1 : Int32)) (fun x18 => some (Sum.inr (s1.2.2.1, x15, x18, w10)))))))))))))))) FU ((-2 : Int32), (0 : Int32), (0 : Int32), hp)).bind (fun (y2 : Int32 × Int32 × HP) => if p1 = 0 then some (y2.1, y2.2.2) else some (y2.2.1, y2.2.2)) else some ((-1 : Int32), hp)
set_option maxHeartbeats 4000000 in
set_option maxRecDepth 100000 in
theorem ctX11_joke (l : Launch) (D : va_G) (tg : Nat → ClassId) (bs : Nat) (sa : Nat → Nat) (hp : HP) (p0 : Nat) (p1 : Int32) : Ct l D tg bs sa yX11_joke cX11_joke 6 (some .int) 2 [.ref p0, .int p1] hp (FX11_joke hp p0 p1) (fun r => some (.int r.1)) (fun r => r.2) := by
  refine Ct.of (by decide) (Nat.le_of_ble_eq_true rfl) ?_
  intro V Q hVl hVd hVt hVb hVs hC
  subst hVl; subst hVd; subst hVt; subst hVb; subst hVs
  unfold FX11_joke
  show Zs V Q (0, 0) 6 _ _ hp [(0, .ref p0), (1, .int p1)] 0 []
  refine z_iload_n hC 1 dX11_joke_0 rfl rfl ?_
  refine z_if_lt hC 9 dX11_joke_1 (by decide) (fun _ => ?_) (fun _ => ?_)
  · refine z_iconst hC (-1 : Int32) dX11_joke_9 (by decide) ?_
    exact z_iret hC (fun h => h) dX11_joke_10
  · refine z_iload_n hC 1 dX11_joke_4 rfl rfl ?_
    refine z_iconst hC (1 : Int32) dX11_joke_5 (by decide) ?_
    refine z_icmp_le hC 11 dX11_joke_6 (by decide) (fun _ => ?_) (fun _ => ?_)
    · refine z_bipush hC (-2 : Int32) dX11_joke_11 (by decide) ?_
      refine z_istore_n hC [(0, .ref p0), (1, .int p1), (2, .int (-2 : Int32))] [1, 2, 0] dX11_joke_13 rfl (by decide) rfl ?_
      refine z_iconst hC (0 : Int32) dX11_joke_14 (by decide) ?_
      refine z_istore_n hC [(0, .ref p0), (1, .int p1), (2, .int (-2 : Int32)), (3, .int (0 : Int32))] [1, 2, 3, 0] dX11_joke_15 rfl (by decide) rfl ?_
      refine z_iconst hC (0 : Int32) dX11_joke_16 (by decide) ?_
      refine z_istore hC [(0, .ref p0), (1, .int p1), (2, .int (-2 : Int32)), (3, .int (0 : Int32)), (4, .int (0 : Int32))] [1, 2, 3, 4, 0] dX11_joke_17 (by decide) rfl ?_
      refine z_lp (S := Int32 × Int32 × Int32 × HP) (Y := Int32 × Int32 × HP) (fun s1 => s1.2.2.2) (fun s1 => [(0, .ref p0), (1, .int p1), (2, .int s1.1), (3, .int s1.2.1), (4, .int s1.2.2.1)]) (fun y2 => y2.2.2) (fun y2 => [(1, .int p1), (2, .int y2.1), (3, .int y2.2.1)]) 104 [] (fun y2 => ?_) (fun s1 => ?_) rfl rfl
      · refine z_iload_n hC 0 dX11_joke_104 rfl rfl ?_
        refine z_if_ne hC 112 dX11_joke_105 (by decide) (fun _ => ?_) (fun _ => ?_)
        · refine z_iload_n hC 1 dX11_joke_108 rfl rfl ?_
          refine z_goto hC 113 dX11_joke_109 (by decide) ?_
          exact z_iret hC (fun h => h) dX11_joke_113
        · refine z_iload_n hC 2 dX11_joke_112 rfl rfl ?_
          exact z_iret hC (fun h => h) dX11_joke_113
      · refine z_iload hC 4 dX11_joke_19 rfl ?_
        refine z_bipush hC (8 : Int32) dX11_joke_21 (by decide) ?_
        refine z_icmp_ge hC 104 dX11_joke_23 (by decide) (fun _ => ?_) (fun _ => ?_)
        · refine z_weak [(1, .int p1), (2, .int s1.1), (3, .int s1.2.1)] [1, 2, 3] rfl ?_
          exact z_leaf (fun h => h)
        · refine z_aload_n hC 0 dX11_joke_26 rfl rfl ?_
          refine z_getR hC lgRX11_32 dX11_joke_27 (fun v3 => ?_)
          refine z_iload hC 4 dX11_joke_30 rfl ?_
          refine z_callVi hC (ci := 0) rfl lmRX11_137 (ctX0_has (vLa V) (vDa V) (vTg V) (vBs V) (vSa V) s1.2.2.2 v3 s1.2.2.1) (by decide) hn0 dX11_joke_32 rfl rfl (Nat.le_of_ble_eq_true rfl) (fun v4 => ?_)
          refine z_if_eq hC 98 dX11_joke_35 (by decide) (fun _ => ?_) (fun _ => ?_)
          · refine z_iincv hC (1 : Int32) 4 (fun x5 => [(0, .ref p0), (1, .int p1), (2, .int s1.1), (3, .int s1.2.1), (4, .int x5)]) [1, 2, 3, 4, 0] dX11_joke_98 rfl (by decide) (by decide) (fun _ => rfl) (fun x5 => ?_)
            refine z_goto hC 19 dX11_joke_101 (by decide) ?_
            exact z_leaf (fun h => h)
          · refine z_aload_n hC 0 dX11_joke_38 rfl rfl ?_
            refine z_getR hC lgRX11_32 dX11_joke_39 (fun v6 => ?_)
            refine z_aload_n hC 0 dX11_joke_42 rfl rfl ?_
            refine z_getR hC lgRX11_32 dX11_joke_43 (fun v7 => ?_)
            refine z_getI hC lgRX11_207 dX11_joke_46 (fun v8 => ?_)
            refine z_iconst hC (1 : Int32) dX11_joke_49 (by decide) ?_
            refine z_iload hC 4 dX11_joke_50 rfl ?_
            refine z_ishl hC dX11_joke_52 ?_
            refine z_iconst hC (-1 : Int32) dX11_joke_53 (by decide) ?_
            refine z_ixor hC dX11_joke_54 ?_
            refine z_iand hC dX11_joke_55 ?_
            refine z_aload_n hC 0 dX11_joke_56 rfl rfl ?_
            refine z_getR hC lgRX11_49 dX11_joke_57 (fun v9 => ?_)
            refine z_callVv hC (ci := 0) rfl lmRX11_219 (ctX0_meet (vLa V) (vDa V) (vTg V) (vBs V) (vSa V) s1.2.2.2 v6 (v8 &&& (((1 : Int32) <<< (s1.2.2.1 &&& 31)) ^^^ (-1 : Int32))) v9) (by decide) hn0 dX11_joke_60 rfl rfl (Nat.le_of_ble_eq_true rfl) (fun w10 => ?_)
            refine z_aload_n hC 0 dX11_joke_63 rfl rfl ?_
            refine z_getR hC lgRX11_49 dX11_joke_64 (fun v11 => ?_)
            refine z_callSi hC lmRX11_173 (ctX7_size (vLa V) (vDa V) (vTg V) (vBs V) (vSa V) w10 v11) (by decide) hn0 dX11_joke_67 rfl rfl (Nat.le_of_ble_eq_true rfl) (fun v12 => ?_)
            refine z_aload_n hC 0 dX11_joke_70 rfl rfl ?_
            refine z_getR hC lgRX11_42 dX11_joke_71 (fun v13 => ?_)
            refine z_callSi hC lmRX11_173 (ctX7_size (vLa V) (vDa V) (vTg V) (vBs V) (vSa V) w10 v13) (by decide) hn0 dX11_joke_74 rfl rfl (Nat.le_of_ble_eq_true rfl) (fun v14 => ?_)
            refine z_isub hC dX11_joke_77 ?_
            refine z_vli (fun x15 => ?_)
            refine z_istore hC [(0, .ref p0), (1, .int p1), (2, .int s1.1), (3, .int s1.2.1), (4, .int s1.2.2.1), (5, .int x15)] [1, 2, 3, 4, 5, 0] dX11_joke_78 (by decide) rfl ?_
            refine z_iload_n hC 2 dX11_joke_80 rfl rfl ?_
            refine z_bipush hC (-2 : Int32) dX11_joke_81 (by decide) ?_
            refine z_icmp_eq hC 92 dX11_joke_83 (by decide) (fun _ => ?_) (fun _ => ?_)
            · refine z_iload hC 4 dX11_joke_92 rfl ?_
              refine z_istore_n hC [(0, .ref p0), (1, .int p1), (2, .int s1.2.2.1), (3, .int s1.2.1), (4, .int s1.2.2.1), (5, .int x15)] [1, 2, 0, 3, 4, 5] dX11_joke_94 rfl (by decide) rfl ?_
              refine z_iload hC 5 dX11_joke_95 rfl ?_
              refine z_istore_n hC [(0, .ref p0), (1, .int p1), (2, .int s1.2.2.1), (3, .int x15), (4, .int s1.2.2.1), (5, .int x15)] [1, 2, 3, 0, 4, 5] dX11_joke_97 rfl (by decide) rfl ?_
              refine z_iincv hC (1 : Int32) 4 (fun x16 => [(0, .ref p0), (1, .int p1), (2, .int s1.2.2.1), (3, .int x15), (4, .int x16), (5, .int x15)]) [1, 2, 3, 4, 0, 5] dX11_joke_98 rfl (by decide) (by decide) (fun _ => rfl) (fun x16 => ?_)
              refine z_goto hC 19 dX11_joke_101 (by decide) ?_
              refine z_weak [(0, .ref p0), (1, .int p1), (2, .int s1.2.2.1), (3, .int x15), (4, .int x16)] [0, 1, 2, 3, 4] rfl ?_
              exact z_leaf (fun h => h)
            · refine z_iload hC 5 dX11_joke_86 rfl ?_
              refine z_iload_n hC 3 dX11_joke_88 rfl rfl ?_
              refine z_icmp_le hC 98 dX11_joke_89 (by decide) (fun _ => ?_) (fun _ => ?_)
              · refine z_iincv hC (1 : Int32) 4 (fun x17 => [(0, .ref p0), (1, .int p1), (2, .int s1.1), (3, .int s1.2.1), (4, .int x17), (5, .int x15)]) [1, 2, 3, 4, 0, 5] dX11_joke_98 rfl (by decide) (by decide) (fun _ => rfl) (fun x17 => ?_)
                refine z_goto hC 19 dX11_joke_101 (by decide) ?_
                refine z_weak [(0, .ref p0), (1, .int p1), (2, .int s1.1), (3, .int s1.2.1), (4, .int x17)] [0, 1, 2, 3, 4] rfl ?_
                exact z_leaf (fun h => h)
              · refine z_iload hC 4 dX11_joke_92 rfl ?_
                refine z_istore_n hC [(0, .ref p0), (1, .int p1), (2, .int s1.2.2.1), (3, .int s1.2.1), (4, .int s1.2.2.1), (5, .int x15)] [1, 2, 0, 3, 4, 5] dX11_joke_94 rfl (by decide) rfl ?_
                refine z_iload hC 5 dX11_joke_95 rfl ?_
                refine z_istore_n hC [(0, .ref p0), (1, .int p1), (2, .int s1.2.2.1), (3, .int x15), (4, .int s1.2.2.1), (5, .int x15)] [1, 2, 3, 0, 4, 5] dX11_joke_97 rfl (by decide) rfl ?_
                refine z_iincv hC (1 : Int32) 4 (fun x18 => [(0, .ref p0), (1, .int p1), (2, .int s1.2.2.1), (3, .int x15), (4, .int x18), (5, .int x15)]) [1, 2, 3, 4, 0, 5] dX11_joke_98 rfl (by decide) (by decide) (fun _ => rfl) (fun x18 => ?_)
                refine z_goto hC 19 dX11_joke_101 (by decide) ?_
                refine z_weak [(0, .ref p0), (1, .int p1), (2, .int s1.2.2.1), (3, .int x15), (4, .int x18)] [0, 1, 2, 3, 4] rfl ?_
                exact z_leaf (fun h => h)
    · refine z_iconst hC (-1 : Int32) dX11_joke_9 (by decide) ?_
      exact z_iret hC (fun h => h) dX11_joke_10

theorem dX11_freeing_0 : decode cX11_freeing 0 = .ok (.iconst 0, 1) := by decide +kernel
theorem dX11_freeing_1 : decode cX11_freeing 1 = .ok (.istore_n 1, 1) := by decide +kernel
theorem dX11_freeing_2 : decode cX11_freeing 2 = .ok (.iconst 0, 1) := by decide +kernel
theorem dX11_freeing_3 : decode cX11_freeing 3 = .ok (.istore_n 2, 1) := by decide +kernel
theorem dX11_freeing_4 : decode cX11_freeing 4 = .ok (.iload_n 2, 1) := by decide +kernel
theorem dX11_freeing_5 : decode cX11_freeing 5 = .ok (.bipush 8, 2) := by decide +kernel
theorem dX11_freeing_7 : decode cX11_freeing 7 = .ok (.if_icmp .ge 45, 3) := by decide +kernel
theorem dX11_freeing_10 : decode cX11_freeing 10 = .ok (.aload_n 0, 1) := by decide +kernel
theorem dX11_freeing_11 : decode cX11_freeing 11 = .ok (.getfield 28, 3) := by decide +kernel
theorem dX11_freeing_14 : decode cX11_freeing 14 = .ok (.iload_n 2, 1) := by decide +kernel
theorem dX11_freeing_15 : decode cX11_freeing 15 = .ok (.invokevirtual 137, 3) := by decide +kernel
theorem dX11_freeing_18 : decode cX11_freeing 18 = .ok (.ifCond .eq 28, 3) := by decide +kernel
theorem dX11_freeing_21 : decode cX11_freeing 21 = .ok (.aload_n 0, 1) := by decide +kernel
theorem dX11_freeing_22 : decode cX11_freeing 22 = .ok (.getfield 42, 3) := by decide +kernel
theorem dX11_freeing_25 : decode cX11_freeing 25 = .ok (.aload_n 0, 1) := by decide +kernel
theorem dX11_freeing_26 : decode cX11_freeing 26 = .ok (.getfield 28, 3) := by decide +kernel
theorem dX11_freeing_29 : decode cX11_freeing 29 = .ok (.getfield 193, 3) := by decide +kernel
theorem dX11_freeing_32 : decode cX11_freeing 32 = .ok (.iload_n 2, 1) := by decide +kernel
theorem dX11_freeing_33 : decode cX11_freeing 33 = .ok (.aaload, 1) := by decide +kernel
theorem dX11_freeing_34 : decode cX11_freeing 34 = .ok (.invokestatic 197, 3) := by decide +kernel
theorem dX11_freeing_37 : decode cX11_freeing 37 = .ok (.ifCond .ne 9, 3) := by decide +kernel
theorem dX11_freeing_40 : decode cX11_freeing 40 = .ok (.iload_n 1, 1) := by decide +kernel
theorem dX11_freeing_41 : decode cX11_freeing 41 = .ok (.iconst 1, 1) := by decide +kernel
theorem dX11_freeing_42 : decode cX11_freeing 42 = .ok (.iload_n 2, 1) := by decide +kernel
theorem dX11_freeing_43 : decode cX11_freeing 43 = .ok (.ishl, 1) := by decide +kernel
theorem dX11_freeing_44 : decode cX11_freeing 44 = .ok (.ior, 1) := by decide +kernel
theorem dX11_freeing_45 : decode cX11_freeing 45 = .ok (.istore_n 1, 1) := by decide +kernel
theorem dX11_freeing_46 : decode cX11_freeing 46 = .ok (.iinc 2 1, 3) := by decide +kernel
theorem dX11_freeing_49 : decode cX11_freeing 49 = .ok (.goto (-45), 3) := by decide +kernel
theorem dX11_freeing_52 : decode cX11_freeing 52 = .ok (.iload_n 1, 1) := by decide +kernel
theorem dX11_freeing_53 : decode cX11_freeing 53 = .ok (.ireturn, 1) := by decide +kernel
def FX11_freeing (hp : HP) (p0 : Nat) : Option (Int32) := (lp (fun (s1 : Int32 × Int32) => if (8 : Int32) ≤ s1.2 then some (Sum.inl s1.1) else (gR [11] 2 hp p0).bind (fun v3 => (rc [0] hp v3 (FX0_has hp v3 s1.2)).bind (fun v4 => if v4 = 0 then vl (s1.2 + (1 : Int32)) (fun x5 => some (Sum.inr (s1.1, x5))) else (gR [11] 5 hp p0).bind (fun v6 => (gR [11] 2 hp p0).bind (fun v7 => (gR [0] 0 hp v7).bind (fun v8 => (rdA 4 hp v8 s1.2).bind (fun v9 => (FX7_sharedSize hp v6 v9).bind (fun v10 => if v10 = 0 then vl (s1.1 ||| ((1 : Int32) <<< (s1.2 &&& 31))) (fun x11 => vl (s1.2 + (1 : Int32)) (fun x12 => some (Sum.inr (x11, x12)))) else vl (s1.2 + (1 : Int32)) (fun x13 => some (Sum.inr (s1.1, x13))))))))))) FU ((0 : Int32), (0 : Int32))).bind (fun (y2 : Int32) => some y2)
set_option maxHeartbeats 4000000 in
set_option maxRecDepth 100000 in
theorem ctX11_freeing (l : Launch) (D : va_G) (tg : Nat → ClassId) (bs : Nat) (sa : Nat → Nat) (hp : HP) (p0 : Nat) : Ct l D tg bs sa yX11_freeing cX11_freeing 3 (some .int) 2 [.ref p0] hp (FX11_freeing hp p0) (fun r => some (.int r)) (fun _ => hp) := by
  refine Ct.of (by decide) (Nat.le_of_ble_eq_true rfl) ?_
  intro V Q hVl hVd hVt hVb hVs hC
  subst hVl; subst hVd; subst hVt; subst hVb; subst hVs
  unfold FX11_freeing
  show Zs V Q (0, 0) 3 _ _ hp [(0, .ref p0)] 0 []
  refine z_iconst hC (0 : Int32) dX11_freeing_0 (by decide) ?_
  refine z_istore_n hC [(0, .ref p0), (1, .int (0 : Int32))] [1, 0] dX11_freeing_1 rfl (by decide) rfl ?_
  refine z_iconst hC (0 : Int32) dX11_freeing_2 (by decide) ?_
  refine z_istore_n hC [(0, .ref p0), (1, .int (0 : Int32)), (2, .int (0 : Int32))] [1, 2, 0] dX11_freeing_3 rfl (by decide) rfl ?_
  refine z_lp (S := Int32 × Int32) (Y := Int32) (fun s1 => hp) (fun s1 => [(0, .ref p0), (1, .int s1.1), (2, .int s1.2)]) (fun y2 => hp) (fun y2 => [(1, .int y2)]) 52 [] (fun y2 => ?_) (fun s1 => ?_) rfl rfl
  · refine z_iload_n hC 0 dX11_freeing_52 rfl rfl ?_
    exact z_iret hC (fun h => h) dX11_freeing_53
  · refine z_iload_n hC 2 dX11_freeing_4 rfl rfl ?_
    refine z_bipush hC (8 : Int32) dX11_freeing_5 (by decide) ?_
    refine z_icmp_ge hC 52 dX11_freeing_7 (by decide) (fun _ => ?_) (fun _ => ?_)
    · refine z_weak [(1, .int s1.1)] [1] rfl ?_
      exact z_leaf (fun h => h)
    · refine z_aload_n hC 0 dX11_freeing_10 rfl rfl ?_
      refine z_getR hC lgRX11_28 dX11_freeing_11 (fun v3 => ?_)
      refine z_iload_n hC 2 dX11_freeing_14 rfl rfl ?_
      refine z_callVi hC (ci := 0) rfl lmRX11_137 (ctX0_has (vLa V) (vDa V) (vTg V) (vBs V) (vSa V) hp v3 s1.2) (by decide) hn0 dX11_freeing_15 rfl rfl (Nat.le_of_ble_eq_true rfl) (fun v4 => ?_)
      refine z_if_eq hC 46 dX11_freeing_18 (by decide) (fun _ => ?_) (fun _ => ?_)
      · refine z_iincv hC (1 : Int32) 2 (fun x5 => [(0, .ref p0), (1, .int s1.1), (2, .int x5)]) [1, 2, 0] dX11_freeing_46 rfl (by decide) (by decide) (fun _ => rfl) (fun x5 => ?_)
        refine z_goto hC 4 dX11_freeing_49 (by decide) ?_
        exact z_leaf (fun h => h)
      · refine z_aload_n hC 0 dX11_freeing_21 rfl rfl ?_
        refine z_getR hC lgRX11_42 dX11_freeing_22 (fun v6 => ?_)
        refine z_aload_n hC 0 dX11_freeing_25 rfl rfl ?_
        refine z_getR hC lgRX11_28 dX11_freeing_26 (fun v7 => ?_)
        refine z_getR hC lgRX11_193 dX11_freeing_29 (fun v8 => ?_)
        refine z_iload_n hC 2 dX11_freeing_32 rfl rfl ?_
        refine z_aald4 hC dX11_freeing_33 (fun v9 => ?_)
        refine z_callSi hC lmRX11_197 (ctX7_sharedSize (vLa V) (vDa V) (vTg V) (vBs V) (vSa V) hp v6 v9) (by decide) hn0 dX11_freeing_34 rfl rfl (Nat.le_of_ble_eq_true rfl) (fun v10 => ?_)
        refine z_if_ne hC 46 dX11_freeing_37 (by decide) (fun _ => ?_) (fun _ => ?_)
        · refine z_iload_n hC 1 dX11_freeing_40 rfl rfl ?_
          refine z_iconst hC (1 : Int32) dX11_freeing_41 (by decide) ?_
          refine z_iload_n hC 2 dX11_freeing_42 rfl rfl ?_
          refine z_ishl hC dX11_freeing_43 ?_
          refine z_ior hC dX11_freeing_44 ?_
          refine z_vli (fun x11 => ?_)
          refine z_istore_n hC [(0, .ref p0), (1, .int x11), (2, .int s1.2)] [1, 0, 2] dX11_freeing_45 rfl (by decide) rfl ?_
          refine z_iincv hC (1 : Int32) 2 (fun x12 => [(0, .ref p0), (1, .int x11), (2, .int x12)]) [1, 2, 0] dX11_freeing_46 rfl (by decide) (by decide) (fun _ => rfl) (fun x12 => ?_)
          refine z_goto hC 4 dX11_freeing_49 (by decide) ?_
          exact z_leaf (fun h => h)
        · refine z_iincv hC (1 : Int32) 2 (fun x13 => [(0, .ref p0), (1, .int s1.1), (2, .int x13)]) [1, 2, 0] dX11_freeing_46 rfl (by decide) (by decide) (fun _ => rfl) (fun x13 => ?_)
          refine z_goto hC 4 dX11_freeing_49 (by decide) ?_
          exact z_leaf (fun h => h)

theorem dX11_inOrder_0 : decode cX11_inOrder 0 = .ok (.aload_n 0, 1) := by decide +kernel
theorem dX11_inOrder_1 : decode cX11_inOrder 1 = .ok (.getfield 28, 3) := by decide +kernel
theorem dX11_inOrder_4 : decode cX11_inOrder 4 = .ok (.iload_n 1, 1) := by decide +kernel
theorem dX11_inOrder_5 : decode cX11_inOrder 5 = .ok (.invokevirtual 223, 3) := by decide +kernel
theorem dX11_inOrder_8 : decode cX11_inOrder 8 = .ok (.istore_n 3, 1) := by decide +kernel
theorem dX11_inOrder_9 : decode cX11_inOrder 9 = .ok (.iload_n 3, 1) := by decide +kernel
theorem dX11_inOrder_10 : decode cX11_inOrder 10 = .ok (.iconst 1, 1) := by decide +kernel
theorem dX11_inOrder_11 : decode cX11_inOrder 11 = .ok (.if_icmp .lt 23, 3) := by decide +kernel
theorem dX11_inOrder_14 : decode cX11_inOrder 14 = .ok (.iload_n 3, 1) := by decide +kernel
theorem dX11_inOrder_15 : decode cX11_inOrder 15 = .ok (.iconst 5, 1) := by decide +kernel
theorem dX11_inOrder_16 : decode cX11_inOrder 16 = .ok (.if_icmp .gt 18, 3) := by decide +kernel
theorem dX11_inOrder_19 : decode cX11_inOrder 19 = .ok (.iload_n 2, 1) := by decide +kernel
theorem dX11_inOrder_20 : decode cX11_inOrder 20 = .ok (.bipush 20, 2) := by decide +kernel
theorem dX11_inOrder_22 : decode cX11_inOrder 22 = .ok (.if_icmp .eq 14, 3) := by decide +kernel
theorem dX11_inOrder_25 : decode cX11_inOrder 25 = .ok (.iload_n 2, 1) := by decide +kernel
theorem dX11_inOrder_26 : decode cX11_inOrder 26 = .ok (.ifCond .lt 8, 3) := by decide +kernel
theorem dX11_inOrder_29 : decode cX11_inOrder 29 = .ok (.iload_n 2, 1) := by decide +kernel
theorem dX11_inOrder_30 : decode cX11_inOrder 30 = .ok (.iload_n 3, 1) := by decide +kernel
theorem dX11_inOrder_31 : decode cX11_inOrder 31 = .ok (.if_icmp .lt 5, 3) := by decide +kernel
theorem dX11_inOrder_34 : decode cX11_inOrder 34 = .ok (.iconst (-1), 1) := by decide +kernel
theorem dX11_inOrder_35 : decode cX11_inOrder 35 = .ok (.ireturn, 1) := by decide +kernel
theorem dX11_inOrder_36 : decode cX11_inOrder 36 = .ok (.aload_n 0, 1) := by decide +kernel
theorem dX11_inOrder_37 : decode cX11_inOrder 37 = .ok (.getfield 63, 3) := by decide +kernel
theorem dX11_inOrder_40 : decode cX11_inOrder 40 = .ok (.aload_n 0, 1) := by decide +kernel
theorem dX11_inOrder_41 : decode cX11_inOrder 41 = .ok (.getfield 84, 3) := by decide +kernel
theorem dX11_inOrder_44 : decode cX11_inOrder 44 = .ok (.iload_n 1, 1) := by decide +kernel
theorem dX11_inOrder_45 : decode cX11_inOrder 45 = .ok (.invokevirtual 226, 3) := by decide +kernel
theorem dX11_inOrder_48 : decode cX11_inOrder 48 = .ok (.ifCond .ne 6, 3) := by decide +kernel
theorem dX11_inOrder_51 : decode cX11_inOrder 51 = .ok (.bipush (-2), 2) := by decide +kernel
theorem dX11_inOrder_53 : decode cX11_inOrder 53 = .ok (.ireturn, 1) := by decide +kernel
theorem dX11_inOrder_54 : decode cX11_inOrder 54 = .ok (.iload_n 2, 1) := by decide +kernel
theorem dX11_inOrder_55 : decode cX11_inOrder 55 = .ok (.bipush 20, 2) := by decide +kernel
theorem dX11_inOrder_57 : decode cX11_inOrder 57 = .ok (.if_icmp .ne 13, 3) := by decide +kernel
theorem dX11_inOrder_60 : decode cX11_inOrder 60 = .ok (.aload_n 0, 1) := by decide +kernel
theorem dX11_inOrder_61 : decode cX11_inOrder 61 = .ok (.getfield 63, 3) := by decide +kernel
theorem dX11_inOrder_64 : decode cX11_inOrder 64 = .ok (.getfield 230, 3) := by decide +kernel
theorem dX11_inOrder_67 : decode cX11_inOrder 67 = .ok (.goto 12, 3) := by decide +kernel
theorem dX11_inOrder_70 : decode cX11_inOrder 70 = .ok (.aload_n 0, 1) := by decide +kernel
theorem dX11_inOrder_71 : decode cX11_inOrder 71 = .ok (.getfield 63, 3) := by decide +kernel
theorem dX11_inOrder_74 : decode cX11_inOrder 74 = .ok (.getfield 233, 3) := by decide +kernel
theorem dX11_inOrder_77 : decode cX11_inOrder 77 = .ok (.iload_n 2, 1) := by decide +kernel
theorem dX11_inOrder_78 : decode cX11_inOrder 78 = .ok (.iaload, 1) := by decide +kernel
theorem dX11_inOrder_79 : decode cX11_inOrder 79 = .ok (.ireturn, 1) := by decide +kernel
def FX11_inOrder (hp : HP) (p0 : Nat) (p1 : Int32) (p2 : Int32) : Option (Int32 × HP) := (gR [11] 2 hp p0).bind (fun v1 => (rc [0] hp v1 (FX0_howMany hp v1 p1)).bind (fun v2 => if v2 < (1 : Int32) then some ((-1 : Int32), hp) else if (5 : Int32) < v2 then some ((-1 : Int32), hp) else jn (A := Unit) (fun a3 => (gR [11] 9 hp p0).bind (fun v5 => (gR [11] 12 hp p0).bind (fun v6 => (rc [5] hp v5 (FX5_order hp v5 v6 p1)).bind (fun w7 => if w7.1 = 0 then some ((-2 : Int32), w7.2) else if p2 = (20 : Int32) then (gR [11] 9 w7.2 p0).bind (fun v8 => (gI [5] 6 w7.2 v8).bind (fun v9 => some (v9, w7.2))) else (gR [11] 9 w7.2 p0).bind (fun v10 => (gR [5] 8 w7.2 v10).bind (fun v11 => (rdN 0 w7.2 v11 p2).bind (fun v12 => some (v12, w7.2)))))))) (fun J4 => if p2 = (20 : Int32) then J4 () else if p2 < 0 then some ((-1 : Int32), hp) else if p2 < v2 then J4 () else some ((-1 : Int32), hp))))
set_option maxHeartbeats 4000000 in
set_option maxRecDepth 100000 in
theorem ctX11_inOrder (l : Launch) (D : va_G) (tg : Nat → ClassId) (bs : Nat) (sa : Nat → Nat) (hp : HP) (p0 : Nat) (p1 : Int32) (p2 : Int32) : Ct l D tg bs sa yX11_inOrder cX11_inOrder 4 (some .int) 14 [.ref p0, .int p1, .int p2] hp (FX11_inOrder hp p0 p1 p2) (fun r => some (.int r.1)) (fun r => r.2) := by
  refine Ct.of (by decide) (Nat.le_of_ble_eq_true rfl) ?_
  intro V Q hVl hVd hVt hVb hVs hC
  subst hVl; subst hVd; subst hVt; subst hVb; subst hVs
  unfold FX11_inOrder
  show Zs V Q (0, 0) 4 _ _ hp [(0, .ref p0), (1, .int p1), (2, .int p2)] 0 []
  refine z_aload_n hC 0 dX11_inOrder_0 rfl rfl ?_
  refine z_getR hC lgRX11_28 dX11_inOrder_1 (fun v1 => ?_)
  refine z_iload_n hC 1 dX11_inOrder_4 rfl rfl ?_
  refine z_callVi hC (ci := 0) rfl lmRX11_223 (ctX0_howMany (vLa V) (vDa V) (vTg V) (vBs V) (vSa V) hp v1 p1) (by decide) hn0 dX11_inOrder_5 rfl rfl (Nat.le_of_ble_eq_true rfl) (fun v2 => ?_)
  refine z_istore_n hC [(0, .ref p0), (1, .int p1), (2, .int p2), (3, .int v2)] [1, 2, 3, 0] dX11_inOrder_8 rfl (by decide) rfl ?_
  refine z_iload_n hC 3 dX11_inOrder_9 rfl rfl ?_
  refine z_iconst hC (1 : Int32) dX11_inOrder_10 (by decide) ?_
  refine z_icmp_lt hC 34 dX11_inOrder_11 (by decide) (fun _ => ?_) (fun _ => ?_)
  · refine z_iconst hC (-1 : Int32) dX11_inOrder_34 (by decide) ?_
    exact z_iret hC (fun h => h) dX11_inOrder_35
  · refine z_iload_n hC 3 dX11_inOrder_14 rfl rfl ?_
    refine z_iconst hC (5 : Int32) dX11_inOrder_15 (by decide) ?_
    refine z_icmp_gt hC 34 dX11_inOrder_16 (by decide) (fun _ => ?_) (fun _ => ?_)
    · refine z_iconst hC (-1 : Int32) dX11_inOrder_34 (by decide) ?_
      exact z_iret hC (fun h => h) dX11_inOrder_35
    · refine z_iload_n hC 2 dX11_inOrder_19 rfl rfl ?_
      refine z_bipush hC (20 : Int32) dX11_inOrder_20 (by decide) ?_
      refine z_jn (A := Unit) (fun a3 => hp) (fun a3 => [(0, .ref p0), (1, .int p1), (2, .int p2)]) 36 (fun a3 => []) (fun a3 => ?_) (fun J4 hJ4 => ?_)
      · refine z_aload_n hC 0 dX11_inOrder_36 rfl rfl ?_
        refine z_getR hC lgRX11_63 dX11_inOrder_37 (fun v5 => ?_)
        refine z_aload_n hC 0 dX11_inOrder_40 rfl rfl ?_
        refine z_getR hC lgRX11_84 dX11_inOrder_41 (fun v6 => ?_)
        refine z_iload_n hC 1 dX11_inOrder_44 rfl rfl ?_
        refine z_callVi hC (ci := 5) rfl lmRX11_226 (ctX5_order (vLa V) (vDa V) (vTg V) (vBs V) (vSa V) hp v5 v6 p1) (by decide) hn0 dX11_inOrder_45 rfl rfl (Nat.le_of_ble_eq_true rfl) (fun w7 => ?_)
        refine z_if_ne hC 54 dX11_inOrder_48 (by decide) (fun _ => ?_) (fun _ => ?_)
        · refine z_bipush hC (-2 : Int32) dX11_inOrder_51 (by decide) ?_
          exact z_iret hC (fun h => h) dX11_inOrder_53
        · refine z_iload_n hC 2 dX11_inOrder_54 rfl rfl ?_
          refine z_bipush hC (20 : Int32) dX11_inOrder_55 (by decide) ?_
          refine z_icmp_ne hC 70 dX11_inOrder_57 (by decide) (fun _ => ?_) (fun _ => ?_)
          · refine z_aload_n hC 0 dX11_inOrder_60 rfl rfl ?_
            refine z_getR hC lgRX11_63 dX11_inOrder_61 (fun v8 => ?_)
            refine z_getI hC lgRX11_230 dX11_inOrder_64 (fun v9 => ?_)
            refine z_goto hC 79 dX11_inOrder_67 (by decide) ?_
            exact z_iret hC (fun h => h) dX11_inOrder_79
          · refine z_aload_n hC 0 dX11_inOrder_70 rfl rfl ?_
            refine z_getR hC lgRX11_63 dX11_inOrder_71 (fun v10 => ?_)
            refine z_getR hC lgRX11_233 dX11_inOrder_74 (fun v11 => ?_)
            refine z_iload_n hC 2 dX11_inOrder_77 rfl rfl ?_
            refine z_iald hC dX11_inOrder_78 (fun v12 => ?_)
            exact z_iret hC (fun h => h) dX11_inOrder_79
      · refine z_icmp_eq hC 36 dX11_inOrder_22 (by decide) (fun _ => ?_) (fun _ => ?_)
        · refine z_weak [(0, .ref p0), (1, .int p1), (2, .int p2)] [0, 1, 2] rfl ?_
          exact hJ4 ()
        · refine z_iload_n hC 2 dX11_inOrder_25 rfl rfl ?_
          refine z_if_lt hC 34 dX11_inOrder_26 (by decide) (fun _ => ?_) (fun _ => ?_)
          · refine z_iconst hC (-1 : Int32) dX11_inOrder_34 (by decide) ?_
            exact z_iret hC (fun h => h) dX11_inOrder_35
          · refine z_iload_n hC 2 dX11_inOrder_29 rfl rfl ?_
            refine z_iload_n hC 3 dX11_inOrder_30 rfl rfl ?_
            refine z_icmp_lt hC 36 dX11_inOrder_31 (by decide) (fun _ => ?_) (fun _ => ?_)
            · refine z_weak [(0, .ref p0), (1, .int p1), (2, .int p2)] [0, 1, 2] rfl ?_
              exact hJ4 ()
            · refine z_iconst hC (-1 : Int32) dX11_inOrder_34 (by decide) ?_
              exact z_iret hC (fun h => h) dX11_inOrder_35

theorem dX11_byWishes_0 : decode cX11_byWishes 0 = .ok (.aload_n 0, 1) := by decide +kernel
theorem dX11_byWishes_1 : decode cX11_byWishes 1 = .ok (.getfield 28, 3) := by decide +kernel
theorem dX11_byWishes_4 : decode cX11_byWishes 4 = .ok (.iload_n 1, 1) := by decide +kernel
theorem dX11_byWishes_5 : decode cX11_byWishes 5 = .ok (.invokevirtual 137, 3) := by decide +kernel
theorem dX11_byWishes_8 : decode cX11_byWishes 8 = .ok (.ifCond .eq 18, 3) := by decide +kernel
theorem dX11_byWishes_11 : decode cX11_byWishes 11 = .ok (.iload_n 2, 1) := by decide +kernel
theorem dX11_byWishes_12 : decode cX11_byWishes 12 = .ok (.bipush 20, 2) := by decide +kernel
theorem dX11_byWishes_14 : decode cX11_byWishes 14 = .ok (.if_icmp .eq 14, 3) := by decide +kernel
theorem dX11_byWishes_17 : decode cX11_byWishes 17 = .ok (.iload_n 2, 1) := by decide +kernel
theorem dX11_byWishes_18 : decode cX11_byWishes 18 = .ok (.ifCond .lt 8, 3) := by decide +kernel
theorem dX11_byWishes_21 : decode cX11_byWishes 21 = .ok (.iload_n 2, 1) := by decide +kernel
theorem dX11_byWishes_22 : decode cX11_byWishes 22 = .ok (.iconst 4, 1) := by decide +kernel
theorem dX11_byWishes_23 : decode cX11_byWishes 23 = .ok (.if_icmp .lt 5, 3) := by decide +kernel
theorem dX11_byWishes_26 : decode cX11_byWishes 26 = .ok (.iconst (-1), 1) := by decide +kernel
theorem dX11_byWishes_27 : decode cX11_byWishes 27 = .ok (.ireturn, 1) := by decide +kernel
theorem dX11_byWishes_28 : decode cX11_byWishes 28 = .ok (.aload_n 0, 1) := by decide +kernel
theorem dX11_byWishes_29 : decode cX11_byWishes 29 = .ok (.getfield 63, 3) := by decide +kernel
theorem dX11_byWishes_32 : decode cX11_byWishes 32 = .ok (.aload_n 0, 1) := by decide +kernel
theorem dX11_byWishes_33 : decode cX11_byWishes 33 = .ok (.getfield 84, 3) := by decide +kernel
theorem dX11_byWishes_36 : decode cX11_byWishes 36 = .ok (.iload_n 1, 1) := by decide +kernel
theorem dX11_byWishes_37 : decode cX11_byWishes 37 = .ok (.invokevirtual 237, 3) := by decide +kernel
theorem dX11_byWishes_40 : decode cX11_byWishes 40 = .ok (.istore_n 3, 1) := by decide +kernel
theorem dX11_byWishes_41 : decode cX11_byWishes 41 = .ok (.iload_n 3, 1) := by decide +kernel
theorem dX11_byWishes_42 : decode cX11_byWishes 42 = .ok (.ifCond .ge 6, 3) := by decide +kernel
theorem dX11_byWishes_45 : decode cX11_byWishes 45 = .ok (.bipush (-2), 2) := by decide +kernel
theorem dX11_byWishes_47 : decode cX11_byWishes 47 = .ok (.ireturn, 1) := by decide +kernel
theorem dX11_byWishes_48 : decode cX11_byWishes 48 = .ok (.iload_n 2, 1) := by decide +kernel
theorem dX11_byWishes_49 : decode cX11_byWishes 49 = .ok (.bipush 20, 2) := by decide +kernel
theorem dX11_byWishes_51 : decode cX11_byWishes 51 = .ok (.if_icmp .ne 5, 3) := by decide +kernel
theorem dX11_byWishes_54 : decode cX11_byWishes 54 = .ok (.iload_n 3, 1) := by decide +kernel
theorem dX11_byWishes_55 : decode cX11_byWishes 55 = .ok (.ireturn, 1) := by decide +kernel
theorem dX11_byWishes_56 : decode cX11_byWishes 56 = .ok (.iload_n 2, 1) := by decide +kernel
theorem dX11_byWishes_57 : decode cX11_byWishes 57 = .ok (.iload_n 3, 1) := by decide +kernel
theorem dX11_byWishes_58 : decode cX11_byWishes 58 = .ok (.if_icmp .ge 15, 3) := by decide +kernel
theorem dX11_byWishes_61 : decode cX11_byWishes 61 = .ok (.aload_n 0, 1) := by decide +kernel
theorem dX11_byWishes_62 : decode cX11_byWishes 62 = .ok (.getfield 63, 3) := by decide +kernel
theorem dX11_byWishes_65 : decode cX11_byWishes 65 = .ok (.getfield 241, 3) := by decide +kernel
theorem dX11_byWishes_68 : decode cX11_byWishes 68 = .ok (.iload_n 2, 1) := by decide +kernel
theorem dX11_byWishes_69 : decode cX11_byWishes 69 = .ok (.iaload, 1) := by decide +kernel
theorem dX11_byWishes_70 : decode cX11_byWishes 70 = .ok (.goto 5, 3) := by decide +kernel
theorem dX11_byWishes_73 : decode cX11_byWishes 73 = .ok (.bipush (-4), 2) := by decide +kernel
theorem dX11_byWishes_75 : decode cX11_byWishes 75 = .ok (.ireturn, 1) := by decide +kernel
def FX11_byWishes (hp : HP) (p0 : Nat) (p1 : Int32) (p2 : Int32) : Option (Int32 × HP) := (gR [11] 2 hp p0).bind (fun v1 => (rc [0] hp v1 (FX0_has hp v1 p1)).bind (fun v2 => if v2 = 0 then some ((-1 : Int32), hp) else jn (A := Unit) (fun a3 => (gR [11] 9 hp p0).bind (fun v5 => (gR [11] 12 hp p0).bind (fun v6 => (rc [5] hp v5 (FX5_reach hp v5 v6 p1)).bind (fun w7 => if 0 ≤ w7.1 then if p2 = (20 : Int32) then some (w7.1, w7.2) else if w7.1 ≤ p2 then some ((-4 : Int32), w7.2) else (gR [11] 9 w7.2 p0).bind (fun v8 => (gR [5] 7 w7.2 v8).bind (fun v9 => (rdN 0 w7.2 v9 p2).bind (fun v10 => some (v10, w7.2)))) else some ((-2 : Int32), w7.2))))) (fun J4 => if p2 = (20 : Int32) then J4 () else if p2 < 0 then some ((-1 : Int32), hp) else if p2 < (4 : Int32) then J4 () else some ((-1 : Int32), hp))))
set_option maxHeartbeats 4000000 in
set_option maxRecDepth 100000 in
theorem ctX11_byWishes (l : Launch) (D : va_G) (tg : Nat → ClassId) (bs : Nat) (sa : Nat → Nat) (hp : HP) (p0 : Nat) (p1 : Int32) (p2 : Int32) : Ct l D tg bs sa yX11_byWishes cX11_byWishes 4 (some .int) 14 [.ref p0, .int p1, .int p2] hp (FX11_byWishes hp p0 p1 p2) (fun r => some (.int r.1)) (fun r => r.2) := by
  refine Ct.of (by decide) (Nat.le_of_ble_eq_true rfl) ?_
  intro V Q hVl hVd hVt hVb hVs hC
  subst hVl; subst hVd; subst hVt; subst hVb; subst hVs
  unfold FX11_byWishes
  show Zs V Q (0, 0) 4 _ _ hp [(0, .ref p0), (1, .int p1), (2, .int p2)] 0 []
  refine z_aload_n hC 0 dX11_byWishes_0 rfl rfl ?_
  refine z_getR hC lgRX11_28 dX11_byWishes_1 (fun v1 => ?_)
  refine z_iload_n hC 1 dX11_byWishes_4 rfl rfl ?_
  refine z_callVi hC (ci := 0) rfl lmRX11_137 (ctX0_has (vLa V) (vDa V) (vTg V) (vBs V) (vSa V) hp v1 p1) (by decide) hn0 dX11_byWishes_5 rfl rfl (Nat.le_of_ble_eq_true rfl) (fun v2 => ?_)
  refine z_if_eq hC 26 dX11_byWishes_8 (by decide) (fun _ => ?_) (fun _ => ?_)
  · refine z_iconst hC (-1 : Int32) dX11_byWishes_26 (by decide) ?_
    exact z_iret hC (fun h => h) dX11_byWishes_27
  · refine z_iload_n hC 2 dX11_byWishes_11 rfl rfl ?_
    refine z_bipush hC (20 : Int32) dX11_byWishes_12 (by decide) ?_
    refine z_jn (A := Unit) (fun a3 => hp) (fun a3 => [(0, .ref p0), (1, .int p1), (2, .int p2)]) 28 (fun a3 => []) (fun a3 => ?_) (fun J4 hJ4 => ?_)
    · refine z_aload_n hC 0 dX11_byWishes_28 rfl rfl ?_
      refine z_getR hC lgRX11_63 dX11_byWishes_29 (fun v5 => ?_)
      refine z_aload_n hC 0 dX11_byWishes_32 rfl rfl ?_
      refine z_getR hC lgRX11_84 dX11_byWishes_33 (fun v6 => ?_)
      refine z_iload_n hC 1 dX11_byWishes_36 rfl rfl ?_
      refine z_callVi hC (ci := 5) rfl lmRX11_237 (ctX5_reach (vLa V) (vDa V) (vTg V) (vBs V) (vSa V) hp v5 v6 p1) (by decide) hn0 dX11_byWishes_37 rfl rfl (Nat.le_of_ble_eq_true rfl) (fun w7 => ?_)
      refine z_istore_n hC [(0, .ref p0), (1, .int p1), (2, .int p2), (3, .int w7.1)] [1, 2, 3, 0] dX11_byWishes_40 rfl (by decide) rfl ?_
      refine z_iload_n hC 3 dX11_byWishes_41 rfl rfl ?_
      refine z_if_ge hC 48 dX11_byWishes_42 (by decide) (fun _ => ?_) (fun _ => ?_)
      · refine z_iload_n hC 2 dX11_byWishes_48 rfl rfl ?_
        refine z_bipush hC (20 : Int32) dX11_byWishes_49 (by decide) ?_
        refine z_icmp_ne hC 56 dX11_byWishes_51 (by decide) (fun _ => ?_) (fun _ => ?_)
        · refine z_iload_n hC 3 dX11_byWishes_54 rfl rfl ?_
          exact z_iret hC (fun h => h) dX11_byWishes_55
        · refine z_iload_n hC 2 dX11_byWishes_56 rfl rfl ?_
          refine z_iload_n hC 3 dX11_byWishes_57 rfl rfl ?_
          refine z_icmp_ge hC 73 dX11_byWishes_58 (by decide) (fun _ => ?_) (fun _ => ?_)
          · refine z_bipush hC (-4 : Int32) dX11_byWishes_73 (by decide) ?_
            exact z_iret hC (fun h => h) dX11_byWishes_75
          · refine z_aload_n hC 0 dX11_byWishes_61 rfl rfl ?_
            refine z_getR hC lgRX11_63 dX11_byWishes_62 (fun v8 => ?_)
            refine z_getR hC lgRX11_241 dX11_byWishes_65 (fun v9 => ?_)
            refine z_iload_n hC 2 dX11_byWishes_68 rfl rfl ?_
            refine z_iald hC dX11_byWishes_69 (fun v10 => ?_)
            refine z_goto hC 75 dX11_byWishes_70 (by decide) ?_
            exact z_iret hC (fun h => h) dX11_byWishes_75
      · refine z_bipush hC (-2 : Int32) dX11_byWishes_45 (by decide) ?_
        exact z_iret hC (fun h => h) dX11_byWishes_47
    · refine z_icmp_eq hC 28 dX11_byWishes_14 (by decide) (fun _ => ?_) (fun _ => ?_)
      · exact hJ4 ()
      · refine z_iload_n hC 2 dX11_byWishes_17 rfl rfl ?_
        refine z_if_lt hC 26 dX11_byWishes_18 (by decide) (fun _ => ?_) (fun _ => ?_)
        · refine z_iconst hC (-1 : Int32) dX11_byWishes_26 (by decide) ?_
          exact z_iret hC (fun h => h) dX11_byWishes_27
        · refine z_iload_n hC 2 dX11_byWishes_21 rfl rfl ?_
          refine z_iconst hC (4 : Int32) dX11_byWishes_22 (by decide) ?_
          refine z_icmp_lt hC 28 dX11_byWishes_23 (by decide) (fun _ => ?_) (fun _ => ?_)
          · exact hJ4 ()
          · refine z_iconst hC (-1 : Int32) dX11_byWishes_26 (by decide) ?_
            exact z_iret hC (fun h => h) dX11_byWishes_27

theorem dX11_follows_0 : decode cX11_follows 0 = .ok (.aload_n 0, 1) := by decide +kernel
theorem dX11_follows_1 : decode cX11_follows 1 = .ok (.getfield 28, 3) := by decide +kernel
theorem dX11_follows_4 : decode cX11_follows 4 = .ok (.iload_n 1, 1) := by decide +kernel
theorem dX11_follows_5 : decode cX11_follows 5 = .ok (.invokevirtual 137, 3) := by decide +kernel
theorem dX11_follows_8 : decode cX11_follows 8 = .ok (.ifCond .eq 23, 3) := by decide +kernel
theorem dX11_follows_11 : decode cX11_follows 11 = .ok (.aload_n 0, 1) := by decide +kernel
theorem dX11_follows_12 : decode cX11_follows 12 = .ok (.getfield 28, 3) := by decide +kernel
theorem dX11_follows_15 : decode cX11_follows 15 = .ok (.iload_n 2, 1) := by decide +kernel
theorem dX11_follows_16 : decode cX11_follows 16 = .ok (.invokevirtual 137, 3) := by decide +kernel
theorem dX11_follows_19 : decode cX11_follows 19 = .ok (.ifCond .eq 12, 3) := by decide +kernel
theorem dX11_follows_22 : decode cX11_follows 22 = .ok (.iload_n 3, 1) := by decide +kernel
theorem dX11_follows_23 : decode cX11_follows 23 = .ok (.ifCond .lt 8, 3) := by decide +kernel
theorem dX11_follows_26 : decode cX11_follows 26 = .ok (.iload_n 3, 1) := by decide +kernel
theorem dX11_follows_27 : decode cX11_follows 27 = .ok (.iconst 2, 1) := by decide +kernel
theorem dX11_follows_28 : decode cX11_follows 28 = .ok (.if_icmp .le 5, 3) := by decide +kernel
theorem dX11_follows_31 : decode cX11_follows 31 = .ok (.iconst (-1), 1) := by decide +kernel
theorem dX11_follows_32 : decode cX11_follows 32 = .ok (.ireturn, 1) := by decide +kernel
theorem dX11_follows_33 : decode cX11_follows 33 = .ok (.aload_n 0, 1) := by decide +kernel
theorem dX11_follows_34 : decode cX11_follows 34 = .ok (.getfield 42, 3) := by decide +kernel
theorem dX11_follows_37 : decode cX11_follows 37 = .ok (.aload_n 0, 1) := by decide +kernel
theorem dX11_follows_38 : decode cX11_follows 38 = .ok (.getfield 28, 3) := by decide +kernel
theorem dX11_follows_41 : decode cX11_follows 41 = .ok (.getfield 193, 3) := by decide +kernel
theorem dX11_follows_44 : decode cX11_follows 44 = .ok (.iload_n 1, 1) := by decide +kernel
theorem dX11_follows_45 : decode cX11_follows 45 = .ok (.aaload, 1) := by decide +kernel
theorem dX11_follows_46 : decode cX11_follows 46 = .ok (.aload_n 0, 1) := by decide +kernel
theorem dX11_follows_47 : decode cX11_follows 47 = .ok (.getfield 28, 3) := by decide +kernel
theorem dX11_follows_50 : decode cX11_follows 50 = .ok (.getfield 193, 3) := by decide +kernel
theorem dX11_follows_53 : decode cX11_follows 53 = .ok (.iload_n 2, 1) := by decide +kernel
theorem dX11_follows_54 : decode cX11_follows 54 = .ok (.aaload, 1) := by decide +kernel
theorem dX11_follows_55 : decode cX11_follows 55 = .ok (.invokestatic 244, 3) := by decide +kernel
theorem dX11_follows_58 : decode cX11_follows 58 = .ok (.istore 4, 2) := by decide +kernel
theorem dX11_follows_60 : decode cX11_follows 60 = .ok (.aload_n 0, 1) := by decide +kernel
theorem dX11_follows_61 : decode cX11_follows 61 = .ok (.getfield 42, 3) := by decide +kernel
theorem dX11_follows_64 : decode cX11_follows 64 = .ok (.aload_n 0, 1) := by decide +kernel
theorem dX11_follows_65 : decode cX11_follows 65 = .ok (.getfield 28, 3) := by decide +kernel
theorem dX11_follows_68 : decode cX11_follows 68 = .ok (.getfield 193, 3) := by decide +kernel
theorem dX11_follows_71 : decode cX11_follows 71 = .ok (.iload_n 2, 1) := by decide +kernel
theorem dX11_follows_72 : decode cX11_follows 72 = .ok (.aaload, 1) := by decide +kernel
theorem dX11_follows_73 : decode cX11_follows 73 = .ok (.aload_n 0, 1) := by decide +kernel
theorem dX11_follows_74 : decode cX11_follows 74 = .ok (.getfield 28, 3) := by decide +kernel
theorem dX11_follows_77 : decode cX11_follows 77 = .ok (.getfield 193, 3) := by decide +kernel
theorem dX11_follows_80 : decode cX11_follows 80 = .ok (.iload_n 1, 1) := by decide +kernel
theorem dX11_follows_81 : decode cX11_follows 81 = .ok (.aaload, 1) := by decide +kernel
theorem dX11_follows_82 : decode cX11_follows 82 = .ok (.invokestatic 244, 3) := by decide +kernel
theorem dX11_follows_85 : decode cX11_follows 85 = .ok (.istore 5, 2) := by decide +kernel
theorem dX11_follows_87 : decode cX11_follows 87 = .ok (.iload_n 3, 1) := by decide +kernel
theorem dX11_follows_88 : decode cX11_follows 88 = .ok (.lookupswitch 53 #[(0, 28), (1, 39)], 28) := by decide +kernel
theorem dX11_follows_116 : decode cX11_follows 116 = .ok (.iload 4, 2) := by decide +kernel
theorem dX11_follows_118 : decode cX11_follows 118 = .ok (.ifCond .ne 7, 3) := by decide +kernel
theorem dX11_follows_121 : decode cX11_follows 121 = .ok (.iconst 1, 1) := by decide +kernel
theorem dX11_follows_122 : decode cX11_follows 122 = .ok (.goto 4, 3) := by decide +kernel
theorem dX11_follows_125 : decode cX11_follows 125 = .ok (.iconst 0, 1) := by decide +kernel
theorem dX11_follows_126 : decode cX11_follows 126 = .ok (.ireturn, 1) := by decide +kernel
theorem dX11_follows_127 : decode cX11_follows 127 = .ok (.iload 4, 2) := by decide +kernel
theorem dX11_follows_129 : decode cX11_follows 129 = .ok (.iload 5, 2) := by decide +kernel
theorem dX11_follows_131 : decode cX11_follows 131 = .ok (.iadd, 1) := by decide +kernel
theorem dX11_follows_132 : decode cX11_follows 132 = .ok (.ifCond .ne 7, 3) := by decide +kernel
theorem dX11_follows_135 : decode cX11_follows 135 = .ok (.iconst 1, 1) := by decide +kernel
theorem dX11_follows_136 : decode cX11_follows 136 = .ok (.goto 4, 3) := by decide +kernel
theorem dX11_follows_139 : decode cX11_follows 139 = .ok (.iconst 0, 1) := by decide +kernel
theorem dX11_follows_140 : decode cX11_follows 140 = .ok (.ireturn, 1) := by decide +kernel
theorem dX11_follows_141 : decode cX11_follows 141 = .ok (.iload 4, 2) := by decide +kernel
theorem dX11_follows_143 : decode cX11_follows 143 = .ok (.iload 5, 2) := by decide +kernel
theorem dX11_follows_145 : decode cX11_follows 145 = .ok (.iadd, 1) := by decide +kernel
theorem dX11_follows_146 : decode cX11_follows 146 = .ok (.ireturn, 1) := by decide +kernel
def FX11_follows (hp : HP) (p0 : Nat) (p1 : Int32) (p2 : Int32) (p3 : Int32) : Option (Int32) := (gR [11] 2 hp p0).bind (fun v1 => (rc [0] hp v1 (FX0_has hp v1 p1)).bind (fun v2 => if v2 = 0 then some (-1 : Int32) else (gR [11] 2 hp p0).bind (fun v3 => (rc [0] hp v3 (FX0_has hp v3 p2)).bind (fun v4 => if v4 = 0 then some (-1 : Int32) else if p3 < 0 then some (-1 : Int32) else if p3 ≤ (2 : Int32) then (gR [11] 5 hp p0).bind (fun v5 => (gR [11] 2 hp p0).bind (fun v6 => (gR [0] 0 hp v6).bind (fun v7 => (rdA 4 hp v7 p1).bind (fun v8 => (gR [11] 2 hp p0).bind (fun v9 => (gR [0] 0 hp v9).bind (fun v10 => (rdA 4 hp v10 p2).bind (fun v11 => (FX7_loneSize hp v5 v8 v11).bind (fun v12 => (gR [11] 5 hp p0).bind (fun v13 => (gR [11] 2 hp p0).bind (fun v14 => (gR [0] 0 hp v14).bind (fun v15 => (rdA 4 hp v15 p2).bind (fun v16 => (gR [11] 2 hp p0).bind (fun v17 => (gR [0] 0 hp v17).bind (fun v18 => (rdA 4 hp v18 p1).bind (fun v19 => (FX7_loneSize hp v13 v16 v19).bind (fun v20 => if p3 = (0 : Int32) then if v12 = 0 then some (1 : Int32) else some (0 : Int32) else if p3 = (1 : Int32) then if (v12 + v20) = 0 then some (1 : Int32) else some (0 : Int32) else some (v12 + v20))))))))))))))))) else some (-1 : Int32)))))
set_option maxHeartbeats 4000000 in
set_option maxRecDepth 100000 in
theorem ctX11_follows (l : Launch) (D : va_G) (tg : Nat → ClassId) (bs : Nat) (sa : Nat → Nat) (hp : HP) (p0 : Nat) (p1 : Int32) (p2 : Int32) (p3 : Int32) : Ct l D tg bs sa yX11_follows cX11_follows 6 (some .int) 2 [.ref p0, .int p1, .int p2, .int p3] hp (FX11_follows hp p0 p1 p2 p3) (fun r => some (.int r)) (fun _ => hp) := by
  refine Ct.of (by decide) (Nat.le_of_ble_eq_true rfl) ?_
  intro V Q hVl hVd hVt hVb hVs hC
  subst hVl; subst hVd; subst hVt; subst hVb; subst hVs
  unfold FX11_follows
  show Zs V Q (0, 0) 6 _ _ hp [(0, .ref p0), (1, .int p1), (2, .int p2), (3, .int p3)] 0 []
  refine z_aload_n hC 0 dX11_follows_0 rfl rfl ?_
  refine z_getR hC lgRX11_28 dX11_follows_1 (fun v1 => ?_)
  refine z_iload_n hC 1 dX11_follows_4 rfl rfl ?_
  refine z_callVi hC (ci := 0) rfl lmRX11_137 (ctX0_has (vLa V) (vDa V) (vTg V) (vBs V) (vSa V) hp v1 p1) (by decide) hn0 dX11_follows_5 rfl rfl (Nat.le_of_ble_eq_true rfl) (fun v2 => ?_)
  refine z_if_eq hC 31 dX11_follows_8 (by decide) (fun _ => ?_) (fun _ => ?_)
  · refine z_iconst hC (-1 : Int32) dX11_follows_31 (by decide) ?_
    exact z_iret hC (fun h => h) dX11_follows_32
  · refine z_aload_n hC 0 dX11_follows_11 rfl rfl ?_
    refine z_getR hC lgRX11_28 dX11_follows_12 (fun v3 => ?_)
    refine z_iload_n hC 2 dX11_follows_15 rfl rfl ?_
    refine z_callVi hC (ci := 0) rfl lmRX11_137 (ctX0_has (vLa V) (vDa V) (vTg V) (vBs V) (vSa V) hp v3 p2) (by decide) hn0 dX11_follows_16 rfl rfl (Nat.le_of_ble_eq_true rfl) (fun v4 => ?_)
    refine z_if_eq hC 31 dX11_follows_19 (by decide) (fun _ => ?_) (fun _ => ?_)
    · refine z_iconst hC (-1 : Int32) dX11_follows_31 (by decide) ?_
      exact z_iret hC (fun h => h) dX11_follows_32
    · refine z_iload_n hC 3 dX11_follows_22 rfl rfl ?_
      refine z_if_lt hC 31 dX11_follows_23 (by decide) (fun _ => ?_) (fun _ => ?_)
      · refine z_iconst hC (-1 : Int32) dX11_follows_31 (by decide) ?_
        exact z_iret hC (fun h => h) dX11_follows_32
      · refine z_iload_n hC 3 dX11_follows_26 rfl rfl ?_
        refine z_iconst hC (2 : Int32) dX11_follows_27 (by decide) ?_
        refine z_icmp_le hC 33 dX11_follows_28 (by decide) (fun _ => ?_) (fun _ => ?_)
        · refine z_aload_n hC 0 dX11_follows_33 rfl rfl ?_
          refine z_getR hC lgRX11_42 dX11_follows_34 (fun v5 => ?_)
          refine z_aload_n hC 0 dX11_follows_37 rfl rfl ?_
          refine z_getR hC lgRX11_28 dX11_follows_38 (fun v6 => ?_)
          refine z_getR hC lgRX11_193 dX11_follows_41 (fun v7 => ?_)
          refine z_iload_n hC 1 dX11_follows_44 rfl rfl ?_
          refine z_aald4 hC dX11_follows_45 (fun v8 => ?_)
          refine z_aload_n hC 0 dX11_follows_46 rfl rfl ?_
          refine z_getR hC lgRX11_28 dX11_follows_47 (fun v9 => ?_)
          refine z_getR hC lgRX11_193 dX11_follows_50 (fun v10 => ?_)
          refine z_iload_n hC 2 dX11_follows_53 rfl rfl ?_
          refine z_aald4 hC dX11_follows_54 (fun v11 => ?_)
          refine z_callSi hC lmRX11_244 (ctX7_loneSize (vLa V) (vDa V) (vTg V) (vBs V) (vSa V) hp v5 v8 v11) (by decide) hn0 dX11_follows_55 rfl rfl (Nat.le_of_ble_eq_true rfl) (fun v12 => ?_)
          refine z_istore hC [(0, .ref p0), (1, .int p1), (2, .int p2), (3, .int p3), (4, .int v12)] [1, 2, 3, 4, 0] dX11_follows_58 (by decide) rfl ?_
          refine z_aload_n hC 0 dX11_follows_60 rfl rfl ?_
          refine z_getR hC lgRX11_42 dX11_follows_61 (fun v13 => ?_)
          refine z_aload_n hC 0 dX11_follows_64 rfl rfl ?_
          refine z_getR hC lgRX11_28 dX11_follows_65 (fun v14 => ?_)
          refine z_getR hC lgRX11_193 dX11_follows_68 (fun v15 => ?_)
          refine z_iload_n hC 2 dX11_follows_71 rfl rfl ?_
          refine z_aald4 hC dX11_follows_72 (fun v16 => ?_)
          refine z_aload_n hC 0 dX11_follows_73 rfl rfl ?_
          refine z_getR hC lgRX11_28 dX11_follows_74 (fun v17 => ?_)
          refine z_getR hC lgRX11_193 dX11_follows_77 (fun v18 => ?_)
          refine z_iload_n hC 1 dX11_follows_80 rfl rfl ?_
          refine z_aald4 hC dX11_follows_81 (fun v19 => ?_)
          refine z_callSi hC lmRX11_244 (ctX7_loneSize (vLa V) (vDa V) (vTg V) (vBs V) (vSa V) hp v13 v16 v19) (by decide) hn0 dX11_follows_82 rfl rfl (Nat.le_of_ble_eq_true rfl) (fun v20 => ?_)
          refine z_istore hC [(0, .ref p0), (1, .int p1), (2, .int p2), (3, .int p3), (4, .int v12), (5, .int v20)] [1, 2, 3, 4, 5, 0] dX11_follows_85 (by decide) rfl ?_
          refine z_iload_n hC 3 dX11_follows_87 rfl rfl ?_
          refine z_lsw hC (0 : Int32) 116 (28) dX11_follows_88 (by decide) (by decide) (by decide) (fun _ => ?_) (fun q21 => ?_)
          · refine z_iload hC 4 dX11_follows_116 rfl ?_
            refine z_if_ne hC 125 dX11_follows_118 (by decide) (fun _ => ?_) (fun _ => ?_)
            · refine z_iconst hC (1 : Int32) dX11_follows_121 (by decide) ?_
              refine z_goto hC 126 dX11_follows_122 (by decide) ?_
              exact z_iret hC (fun h => h) dX11_follows_126
            · refine z_iconst hC (0 : Int32) dX11_follows_125 (by decide) ?_
              exact z_iret hC (fun h => h) dX11_follows_126
          refine z_lsw hC (1 : Int32) 127 (39) dX11_follows_88 (by decide) (by decide) (by decide) (fun _ => ?_) (fun q22 => ?_)
          · refine z_iload hC 4 dX11_follows_127 rfl ?_
            refine z_iload hC 5 dX11_follows_129 rfl ?_
            refine z_iadd hC dX11_follows_131 ?_
            refine z_if_ne hC 139 dX11_follows_132 (by decide) (fun _ => ?_) (fun _ => ?_)
            · refine z_iconst hC (1 : Int32) dX11_follows_135 (by decide) ?_
              refine z_goto hC 140 dX11_follows_136 (by decide) ?_
              exact z_iret hC (fun h => h) dX11_follows_140
            · refine z_iconst hC (0 : Int32) dX11_follows_139 (by decide) ?_
              exact z_iret hC (fun h => h) dX11_follows_140
          refine z_lswd hC 141 (53) dX11_follows_88 (by decide) (by show Op.lookupswitch.offset [(0, 28), (1, 39)] (53) _ = _; rw [lv_osw q21 (by decide), lv_osw q22 (by decide)]; rfl) (by decide) ?_
          refine z_iload hC 4 dX11_follows_141 rfl ?_
          refine z_iload hC 5 dX11_follows_143 rfl ?_
          refine z_iadd hC dX11_follows_145 ?_
          exact z_iret hC (fun h => h) dX11_follows_146
        · refine z_iconst hC (-1 : Int32) dX11_follows_31 (by decide) ?_
          exact z_iret hC (fun h => h) dX11_follows_32

theorem dX11_word_0 : decode cX11_word 0 = .ok (.aload_n 0, 1) := by decide +kernel
theorem dX11_word_1 : decode cX11_word 1 = .ok (.getfield 28, 3) := by decide +kernel
theorem dX11_word_4 : decode cX11_word 4 = .ok (.iload_n 1, 1) := by decide +kernel
theorem dX11_word_5 : decode cX11_word 5 = .ok (.invokevirtual 137, 3) := by decide +kernel
theorem dX11_word_8 : decode cX11_word 8 = .ok (.ifCond .eq 12, 3) := by decide +kernel
theorem dX11_word_11 : decode cX11_word 11 = .ok (.iload_n 2, 1) := by decide +kernel
theorem dX11_word_12 : decode cX11_word 12 = .ok (.ifCond .lt 8, 3) := by decide +kernel
theorem dX11_word_15 : decode cX11_word 15 = .ok (.iload_n 2, 1) := by decide +kernel
theorem dX11_word_16 : decode cX11_word 16 = .ok (.iconst 2, 1) := by decide +kernel
theorem dX11_word_17 : decode cX11_word 17 = .ok (.if_icmp .le 5, 3) := by decide +kernel
theorem dX11_word_20 : decode cX11_word 20 = .ok (.iconst (-1), 1) := by decide +kernel
theorem dX11_word_21 : decode cX11_word 21 = .ok (.ireturn, 1) := by decide +kernel
theorem dX11_word_22 : decode cX11_word 22 = .ok (.aload_n 0, 1) := by decide +kernel
theorem dX11_word_23 : decode cX11_word 23 = .ok (.getfield 70, 3) := by decide +kernel
theorem dX11_word_26 : decode cX11_word 26 = .ok (.aload_n 0, 1) := by decide +kernel
theorem dX11_word_27 : decode cX11_word 27 = .ok (.getfield 28, 3) := by decide +kernel
theorem dX11_word_30 : decode cX11_word 30 = .ok (.getfield 193, 3) := by decide +kernel
theorem dX11_word_33 : decode cX11_word 33 = .ok (.iload_n 1, 1) := by decide +kernel
theorem dX11_word_34 : decode cX11_word 34 = .ok (.aaload, 1) := by decide +kernel
theorem dX11_word_35 : decode cX11_word 35 = .ok (.invokevirtual 248, 3) := by decide +kernel
theorem dX11_word_38 : decode cX11_word 38 = .ok (.ifCond .ne 6, 3) := by decide +kernel
theorem dX11_word_41 : decode cX11_word 41 = .ok (.bipush (-2), 2) := by decide +kernel
theorem dX11_word_43 : decode cX11_word 43 = .ok (.ireturn, 1) := by decide +kernel
theorem dX11_word_44 : decode cX11_word 44 = .ok (.iload_n 2, 1) := by decide +kernel
theorem dX11_word_45 : decode cX11_word 45 = .ok (.lookupswitch 46 #[(0, 27), (1, 38)], 27) := by decide +kernel
theorem dX11_word_72 : decode cX11_word 72 = .ok (.aload_n 0, 1) := by decide +kernel
theorem dX11_word_73 : decode cX11_word 73 = .ok (.getfield 70, 3) := by decide +kernel
theorem dX11_word_76 : decode cX11_word 76 = .ok (.getfield 251, 3) := by decide +kernel
theorem dX11_word_79 : decode cX11_word 79 = .ok (.invokestatic 214, 3) := by decide +kernel
theorem dX11_word_82 : decode cX11_word 82 = .ok (.ireturn, 1) := by decide +kernel
theorem dX11_word_83 : decode cX11_word 83 = .ok (.aload_n 0, 1) := by decide +kernel
theorem dX11_word_84 : decode cX11_word 84 = .ok (.getfield 70, 3) := by decide +kernel
theorem dX11_word_87 : decode cX11_word 87 = .ok (.getfield 251, 3) := by decide +kernel
theorem dX11_word_90 : decode cX11_word 90 = .ok (.ireturn, 1) := by decide +kernel
theorem dX11_word_91 : decode cX11_word 91 = .ok (.aload_n 0, 1) := by decide +kernel
theorem dX11_word_92 : decode cX11_word 92 = .ok (.getfield 70, 3) := by decide +kernel
theorem dX11_word_95 : decode cX11_word 95 = .ok (.getfield 254, 3) := by decide +kernel
theorem dX11_word_98 : decode cX11_word 98 = .ok (.ireturn, 1) := by decide +kernel
def FX11_word (hp : HP) (p0 : Nat) (p1 : Int32) (p2 : Int32) : Option (Int32 × HP) := (gR [11] 2 hp p0).bind (fun v1 => (rc [0] hp v1 (FX0_has hp v1 p1)).bind (fun v2 => if v2 = 0 then some ((-1 : Int32), hp) else if p2 < 0 then some ((-1 : Int32), hp) else if p2 ≤ (2 : Int32) then (gR [11] 10 hp p0).bind (fun v3 => (gR [11] 2 hp p0).bind (fun v4 => (gR [0] 0 hp v4).bind (fun v5 => (rdA 4 hp v5 p1).bind (fun v6 => (rc [10] hp v3 (FX10_find hp v3 v6)).bind (fun w7 => if w7.1 = 0 then some ((-2 : Int32), w7.2) else if p2 = (0 : Int32) then (gR [11] 10 w7.2 p0).bind (fun v9 => (gI [10] 0 w7.2 v9).bind (fun v10 => (FJ6_bitCount_0f7a4 v10).bind (fun v11 => some (v11, w7.2)))) else if p2 = (1 : Int32) then (gR [11] 10 w7.2 p0).bind (fun v13 => (gI [10] 0 w7.2 v13).bind (fun v14 => some (v14, w7.2))) else (gR [11] 10 w7.2 p0).bind (fun v15 => (gI [10] 1 w7.2 v15).bind (fun v16 => some (v16, w7.2)))))))) else some ((-1 : Int32), hp)))
set_option maxHeartbeats 4000000 in
set_option maxRecDepth 100000 in
theorem ctX11_word (l : Launch) (D : va_G) (tg : Nat → ClassId) (bs : Nat) (sa : Nat → Nat) (hp : HP) (p0 : Nat) (p1 : Int32) (p2 : Int32) : Ct l D tg bs sa yX11_word cX11_word 3 (some .int) 18 [.ref p0, .int p1, .int p2] hp (FX11_word hp p0 p1 p2) (fun r => some (.int r.1)) (fun r => r.2) := by
  refine Ct.of (by decide) (Nat.le_of_ble_eq_true rfl) ?_
  intro V Q hVl hVd hVt hVb hVs hC
  subst hVl; subst hVd; subst hVt; subst hVb; subst hVs
  unfold FX11_word
  show Zs V Q (0, 0) 3 _ _ hp [(0, .ref p0), (1, .int p1), (2, .int p2)] 0 []
  refine z_aload_n hC 0 dX11_word_0 rfl rfl ?_
  refine z_getR hC lgRX11_28 dX11_word_1 (fun v1 => ?_)
  refine z_iload_n hC 1 dX11_word_4 rfl rfl ?_
  refine z_callVi hC (ci := 0) rfl lmRX11_137 (ctX0_has (vLa V) (vDa V) (vTg V) (vBs V) (vSa V) hp v1 p1) (by decide) hn0 dX11_word_5 rfl rfl (Nat.le_of_ble_eq_true rfl) (fun v2 => ?_)
  refine z_if_eq hC 20 dX11_word_8 (by decide) (fun _ => ?_) (fun _ => ?_)
  · refine z_iconst hC (-1 : Int32) dX11_word_20 (by decide) ?_
    exact z_iret hC (fun h => h) dX11_word_21
  · refine z_iload_n hC 2 dX11_word_11 rfl rfl ?_
    refine z_if_lt hC 20 dX11_word_12 (by decide) (fun _ => ?_) (fun _ => ?_)
    · refine z_iconst hC (-1 : Int32) dX11_word_20 (by decide) ?_
      exact z_iret hC (fun h => h) dX11_word_21
    · refine z_iload_n hC 2 dX11_word_15 rfl rfl ?_
      refine z_iconst hC (2 : Int32) dX11_word_16 (by decide) ?_
      refine z_icmp_le hC 22 dX11_word_17 (by decide) (fun _ => ?_) (fun _ => ?_)
      · refine z_aload_n hC 0 dX11_word_22 rfl rfl ?_
        refine z_getR hC lgRX11_70 dX11_word_23 (fun v3 => ?_)
        refine z_aload_n hC 0 dX11_word_26 rfl rfl ?_
        refine z_getR hC lgRX11_28 dX11_word_27 (fun v4 => ?_)
        refine z_getR hC lgRX11_193 dX11_word_30 (fun v5 => ?_)
        refine z_iload_n hC 1 dX11_word_33 rfl rfl ?_
        refine z_aald4 hC dX11_word_34 (fun v6 => ?_)
        refine z_callVi hC (ci := 10) rfl lmRX11_248 (ctX10_find (vLa V) (vDa V) (vTg V) (vBs V) (vSa V) hp v3 v6) (by decide) hn0 dX11_word_35 rfl rfl (Nat.le_of_ble_eq_true rfl) (fun w7 => ?_)
        refine z_if_ne hC 44 dX11_word_38 (by decide) (fun _ => ?_) (fun _ => ?_)
        · refine z_bipush hC (-2 : Int32) dX11_word_41 (by decide) ?_
          exact z_iret hC (fun h => h) dX11_word_43
        · refine z_iload_n hC 2 dX11_word_44 rfl rfl ?_
          refine z_lsw hC (0 : Int32) 72 (27) dX11_word_45 (by decide) (by decide) (by decide) (fun _ => ?_) (fun q8 => ?_)
          · refine z_aload_n hC 0 dX11_word_72 rfl rfl ?_
            refine z_getR hC lgRX11_70 dX11_word_73 (fun v9 => ?_)
            refine z_getI hC lgRX11_251 dX11_word_76 (fun v10 => ?_)
            refine z_callSi hC lmRX11_214 (ctJ6_bitCount_0f7a4 (vLa V) (vDa V) (vTg V) (vBs V) (vSa V) w7.2 v10) (by decide) hn0 dX11_word_79 rfl rfl (Nat.le_of_ble_eq_true rfl) (fun v11 => ?_)
            exact z_iret hC (fun h => h) dX11_word_82
          refine z_lsw hC (1 : Int32) 83 (38) dX11_word_45 (by decide) (by decide) (by decide) (fun _ => ?_) (fun q12 => ?_)
          · refine z_aload_n hC 0 dX11_word_83 rfl rfl ?_
            refine z_getR hC lgRX11_70 dX11_word_84 (fun v13 => ?_)
            refine z_getI hC lgRX11_251 dX11_word_87 (fun v14 => ?_)
            exact z_iret hC (fun h => h) dX11_word_90
          refine z_lswd hC 91 (46) dX11_word_45 (by decide) (by show Op.lookupswitch.offset [(0, 27), (1, 38)] (46) _ = _; rw [lv_osw q8 (by decide), lv_osw q12 (by decide)]; rfl) (by decide) ?_
          refine z_aload_n hC 0 dX11_word_91 rfl rfl ?_
          refine z_getR hC lgRX11_70 dX11_word_92 (fun v15 => ?_)
          refine z_getI hC lgRX11_254 dX11_word_95 (fun v16 => ?_)
          exact z_iret hC (fun h => h) dX11_word_98
      · refine z_iconst hC (-1 : Int32) dX11_word_20 (by decide) ?_
        exact z_iret hC (fun h => h) dX11_word_21

theorem dX11_power_0 : decode cX11_power 0 = .ok (.aload_n 0, 1) := by decide +kernel
theorem dX11_power_1 : decode cX11_power 1 = .ok (.getfield 28, 3) := by decide +kernel
theorem dX11_power_4 : decode cX11_power 4 = .ok (.iload_n 1, 1) := by decide +kernel
theorem dX11_power_5 : decode cX11_power 5 = .ok (.invokevirtual 137, 3) := by decide +kernel
theorem dX11_power_8 : decode cX11_power 8 = .ok (.ifCond .eq 26, 3) := by decide +kernel
theorem dX11_power_11 : decode cX11_power 11 = .ok (.iload_n 2, 1) := by decide +kernel
theorem dX11_power_12 : decode cX11_power 12 = .ok (.invokestatic 101, 3) := by decide +kernel
theorem dX11_power_15 : decode cX11_power 15 = .ok (.ifCond .eq 19, 3) := by decide +kernel
theorem dX11_power_18 : decode cX11_power 18 = .ok (.aload_n 0, 1) := by decide +kernel
theorem dX11_power_19 : decode cX11_power 19 = .ok (.getfield 28, 3) := by decide +kernel
theorem dX11_power_22 : decode cX11_power 22 = .ok (.getfield 193, 3) := by decide +kernel
theorem dX11_power_25 : decode cX11_power 25 = .ok (.iload_n 1, 1) := by decide +kernel
theorem dX11_power_26 : decode cX11_power 26 = .ok (.aaload, 1) := by decide +kernel
theorem dX11_power_27 : decode cX11_power 27 = .ok (.iload_n 2, 1) := by decide +kernel
theorem dX11_power_28 : decode cX11_power 28 = .ok (.invokestatic 257, 3) := by decide +kernel
theorem dX11_power_31 : decode cX11_power 31 = .ok (.goto 4, 3) := by decide +kernel
theorem dX11_power_34 : decode cX11_power 34 = .ok (.iconst (-1), 1) := by decide +kernel
theorem dX11_power_35 : decode cX11_power 35 = .ok (.ireturn, 1) := by decide +kernel
def FX11_power (hp : HP) (p0 : Nat) (p1 : Int32) (p2 : Int32) : Option (Int32) := (gR [11] 2 hp p0).bind (fun v1 => (rc [0] hp v1 (FX0_has hp v1 p1)).bind (fun v2 => if v2 = 0 then some (-1 : Int32) else (FX11_isFact p2).bind (fun v3 => if v3 = 0 then some (-1 : Int32) else (gR [11] 2 hp p0).bind (fun v4 => (gR [0] 0 hp v4).bind (fun v5 => (rdA 4 hp v5 p1).bind (fun v6 => (FX7_swing hp v6 p2).bind (fun v7 => some v7)))))))
set_option maxHeartbeats 4000000 in
set_option maxRecDepth 100000 in
theorem ctX11_power (l : Launch) (D : va_G) (tg : Nat → ClassId) (bs : Nat) (sa : Nat → Nat) (hp : HP) (p0 : Nat) (p1 : Int32) (p2 : Int32) : Ct l D tg bs sa yX11_power cX11_power 3 (some .int) 2 [.ref p0, .int p1, .int p2] hp (FX11_power hp p0 p1 p2) (fun r => some (.int r)) (fun _ => hp) := by
  refine Ct.of (by decide) (Nat.le_of_ble_eq_true rfl) ?_
  intro V Q hVl hVd hVt hVb hVs hC
  subst hVl; subst hVd; subst hVt; subst hVb; subst hVs
  unfold FX11_power
  show Zs V Q (0, 0) 3 _ _ hp [(0, .ref p0), (1, .int p1), (2, .int p2)] 0 []
  refine z_aload_n hC 0 dX11_power_0 rfl rfl ?_
  refine z_getR hC lgRX11_28 dX11_power_1 (fun v1 => ?_)
  refine z_iload_n hC 1 dX11_power_4 rfl rfl ?_
  refine z_callVi hC (ci := 0) rfl lmRX11_137 (ctX0_has (vLa V) (vDa V) (vTg V) (vBs V) (vSa V) hp v1 p1) (by decide) hn0 dX11_power_5 rfl rfl (Nat.le_of_ble_eq_true rfl) (fun v2 => ?_)
  refine z_if_eq hC 34 dX11_power_8 (by decide) (fun _ => ?_) (fun _ => ?_)
  · refine z_iconst hC (-1 : Int32) dX11_power_34 (by decide) ?_
    exact z_iret hC (fun h => h) dX11_power_35
  · refine z_iload_n hC 2 dX11_power_11 rfl rfl ?_
    refine z_callSi hC lmRX11_101 (ctX11_isFact (vLa V) (vDa V) (vTg V) (vBs V) (vSa V) hp p2) (by decide) hn0 dX11_power_12 rfl rfl (Nat.le_of_ble_eq_true rfl) (fun v3 => ?_)
    refine z_if_eq hC 34 dX11_power_15 (by decide) (fun _ => ?_) (fun _ => ?_)
    · refine z_iconst hC (-1 : Int32) dX11_power_34 (by decide) ?_
      exact z_iret hC (fun h => h) dX11_power_35
    · refine z_aload_n hC 0 dX11_power_18 rfl rfl ?_
      refine z_getR hC lgRX11_28 dX11_power_19 (fun v4 => ?_)
      refine z_getR hC lgRX11_193 dX11_power_22 (fun v5 => ?_)
      refine z_iload_n hC 1 dX11_power_25 rfl rfl ?_
      refine z_aald4 hC dX11_power_26 (fun v6 => ?_)
      refine z_iload_n hC 2 dX11_power_27 rfl rfl ?_
      refine z_callSi hC lmRX11_257 (ctX7_swing (vLa V) (vDa V) (vTg V) (vBs V) (vSa V) hp v6 p2) (by decide) hn0 dX11_power_28 rfl rfl (Nat.le_of_ble_eq_true rfl) (fun v7 => ?_)
      refine z_goto hC 35 dX11_power_31 (by decide) ?_
      exact z_iret hC (fun h => h) dX11_power_35

theorem dX11_like_0 : decode cX11_like 0 = .ok (.aload_n 0, 1) := by decide +kernel
theorem dX11_like_1 : decode cX11_like 1 = .ok (.getfield 28, 3) := by decide +kernel
theorem dX11_like_4 : decode cX11_like 4 = .ok (.iload_n 1, 1) := by decide +kernel
theorem dX11_like_5 : decode cX11_like 5 = .ok (.invokevirtual 137, 3) := by decide +kernel
theorem dX11_like_8 : decode cX11_like 8 = .ok (.ifCond .eq 10, 3) := by decide +kernel
theorem dX11_like_11 : decode cX11_like 11 = .ok (.iload_n 2, 1) := by decide +kernel
theorem dX11_like_12 : decode cX11_like 12 = .ok (.invokestatic 101, 3) := by decide +kernel
theorem dX11_like_15 : decode cX11_like 15 = .ok (.ifCond .ne 5, 3) := by decide +kernel
theorem dX11_like_18 : decode cX11_like 18 = .ok (.iconst (-1), 1) := by decide +kernel
theorem dX11_like_19 : decode cX11_like 19 = .ok (.ireturn, 1) := by decide +kernel
theorem dX11_like_20 : decode cX11_like 20 = .ok (.iconst 0, 1) := by decide +kernel
theorem dX11_like_21 : decode cX11_like 21 = .ok (.istore_n 3, 1) := by decide +kernel
theorem dX11_like_22 : decode cX11_like 22 = .ok (.iconst 0, 1) := by decide +kernel
theorem dX11_like_23 : decode cX11_like 23 = .ok (.istore 4, 2) := by decide +kernel
theorem dX11_like_25 : decode cX11_like 25 = .ok (.iload 4, 2) := by decide +kernel
theorem dX11_like_27 : decode cX11_like 27 = .ok (.bipush 10, 2) := by decide +kernel
theorem dX11_like_29 : decode cX11_like 29 = .ok (.if_icmp .ge 40, 3) := by decide +kernel
theorem dX11_like_32 : decode cX11_like 32 = .ok (.iload 4, 2) := by decide +kernel
theorem dX11_like_34 : decode cX11_like 34 = .ok (.iload_n 2, 1) := by decide +kernel
theorem dX11_like_35 : decode cX11_like 35 = .ok (.if_icmp .eq 28, 3) := by decide +kernel
theorem dX11_like_38 : decode cX11_like 38 = .ok (.aload_n 0, 1) := by decide +kernel
theorem dX11_like_39 : decode cX11_like 39 = .ok (.getfield 28, 3) := by decide +kernel
theorem dX11_like_42 : decode cX11_like 42 = .ok (.getfield 193, 3) := by decide +kernel
theorem dX11_like_45 : decode cX11_like 45 = .ok (.iload_n 1, 1) := by decide +kernel
theorem dX11_like_46 : decode cX11_like 46 = .ok (.aaload, 1) := by decide +kernel
theorem dX11_like_47 : decode cX11_like 47 = .ok (.iload_n 2, 1) := by decide +kernel
theorem dX11_like_48 : decode cX11_like 48 = .ok (.iload 4, 2) := by decide +kernel
theorem dX11_like_50 : decode cX11_like 50 = .ok (.invokestatic 261, 3) := by decide +kernel
theorem dX11_like_53 : decode cX11_like 53 = .ok (.ifCond .eq 10, 3) := by decide +kernel
theorem dX11_like_56 : decode cX11_like 56 = .ok (.iload_n 3, 1) := by decide +kernel
theorem dX11_like_57 : decode cX11_like 57 = .ok (.iconst 1, 1) := by decide +kernel
theorem dX11_like_58 : decode cX11_like 58 = .ok (.iload 4, 2) := by decide +kernel
theorem dX11_like_60 : decode cX11_like 60 = .ok (.ishl, 1) := by decide +kernel
theorem dX11_like_61 : decode cX11_like 61 = .ok (.ior, 1) := by decide +kernel
theorem dX11_like_62 : decode cX11_like 62 = .ok (.istore_n 3, 1) := by decide +kernel
theorem dX11_like_63 : decode cX11_like 63 = .ok (.iinc 4 1, 3) := by decide +kernel
theorem dX11_like_66 : decode cX11_like 66 = .ok (.goto (-41), 3) := by decide +kernel
theorem dX11_like_69 : decode cX11_like 69 = .ok (.iload_n 3, 1) := by decide +kernel
theorem dX11_like_70 : decode cX11_like 70 = .ok (.ireturn, 1) := by decide +kernel
def FX11_like (hp : HP) (p0 : Nat) (p1 : Int32) (p2 : Int32) : Option (Int32) := (gR [11] 2 hp p0).bind (fun v1 => (rc [0] hp v1 (FX0_has hp v1 p1)).bind (fun v2 => if v2 = 0 then some (-1 : Int32) else (FX11_isFact p2).bind (fun v3 => if v3 = 0 then some (-1 : Int32) else (lp (fun (s4 : Int32 × Int32) => if (10 : Int32) ≤ s4.2 then some (Sum.inl s4.1) else if s4.2 = p2 then vl (s4.2 + (1 : Int32)) (fun x6 => some (Sum.inr (s4.1, x6))) else (gR [11] 2 hp p0).bind (fun v7 => (gR [0] 0 hp v7).bind (fun v8 => (rdA 4 hp v8 p1).bind (fun v9 => (FX7_mayChangePlaces hp v9 p2 s4.2).bind (fun v10 => if v10 = 0 then vl (s4.2 + (1 : Int32)) (fun x11 => some (Sum.inr (s4.1, x11))) else vl (s4.1 ||| ((1 : Int32) <<< (s4.2 &&& 31))) (fun x12 => vl (s4.2 + (1 : Int32)) (fun x13 => some (Sum.inr (x12, x13))))))))) FU ((0 : Int32), (0 : Int32))).bind (fun (y5 : Int32) => some y5))))
set_option maxHeartbeats 4000000 in
set_option maxRecDepth 100000 in
theorem ctX11_like (l : Launch) (D : va_G) (tg : Nat → ClassId) (bs : Nat) (sa : Nat → Nat) (hp : HP) (p0 : Nat) (p1 : Int32) (p2 : Int32) : Ct l D tg bs sa yX11_like cX11_like 5 (some .int) 2 [.ref p0, .int p1, .int p2] hp (FX11_like hp p0 p1 p2) (fun r => some (.int r)) (fun _ => hp) := by
  refine Ct.of (by decide) (Nat.le_of_ble_eq_true rfl) ?_
  intro V Q hVl hVd hVt hVb hVs hC
  subst hVl; subst hVd; subst hVt; subst hVb; subst hVs
  unfold FX11_like
  show Zs V Q (0, 0) 5 _ _ hp [(0, .ref p0), (1, .int p1), (2, .int p2)] 0 []
  refine z_aload_n hC 0 dX11_like_0 rfl rfl ?_
  refine z_getR hC lgRX11_28 dX11_like_1 (fun v1 => ?_)
  refine z_iload_n hC 1 dX11_like_4 rfl rfl ?_
  refine z_callVi hC (ci := 0) rfl lmRX11_137 (ctX0_has (vLa V) (vDa V) (vTg V) (vBs V) (vSa V) hp v1 p1) (by decide) hn0 dX11_like_5 rfl rfl (Nat.le_of_ble_eq_true rfl) (fun v2 => ?_)
  refine z_if_eq hC 18 dX11_like_8 (by decide) (fun _ => ?_) (fun _ => ?_)
  · refine z_iconst hC (-1 : Int32) dX11_like_18 (by decide) ?_
    exact z_iret hC (fun h => h) dX11_like_19
  · refine z_iload_n hC 2 dX11_like_11 rfl rfl ?_
    refine z_callSi hC lmRX11_101 (ctX11_isFact (vLa V) (vDa V) (vTg V) (vBs V) (vSa V) hp p2) (by decide) hn0 dX11_like_12 rfl rfl (Nat.le_of_ble_eq_true rfl) (fun v3 => ?_)
    refine z_if_ne hC 20 dX11_like_15 (by decide) (fun _ => ?_) (fun _ => ?_)
    · refine z_iconst hC (-1 : Int32) dX11_like_18 (by decide) ?_
      exact z_iret hC (fun h => h) dX11_like_19
    · refine z_iconst hC (0 : Int32) dX11_like_20 (by decide) ?_
      refine z_istore_n hC [(0, .ref p0), (1, .int p1), (2, .int p2), (3, .int (0 : Int32))] [1, 2, 3, 0] dX11_like_21 rfl (by decide) rfl ?_
      refine z_iconst hC (0 : Int32) dX11_like_22 (by decide) ?_
      refine z_istore hC [(0, .ref p0), (1, .int p1), (2, .int p2), (3, .int (0 : Int32)), (4, .int (0 : Int32))] [1, 2, 3, 4, 0] dX11_like_23 (by decide) rfl ?_
      refine z_lp (S := Int32 × Int32) (Y := Int32) (fun s4 => hp) (fun s4 => [(0, .ref p0), (1, .int p1), (2, .int p2), (3, .int s4.1), (4, .int s4.2)]) (fun y5 => hp) (fun y5 => [(3, .int y5)]) 69 [] (fun y5 => ?_) (fun s4 => ?_) rfl rfl
      · refine z_iload_n hC 0 dX11_like_69 rfl rfl ?_
        exact z_iret hC (fun h => h) dX11_like_70
      · refine z_iload hC 4 dX11_like_25 rfl ?_
        refine z_bipush hC (10 : Int32) dX11_like_27 (by decide) ?_
        refine z_icmp_ge hC 69 dX11_like_29 (by decide) (fun _ => ?_) (fun _ => ?_)
        · refine z_weak [(3, .int s4.1)] [3] rfl ?_
          exact z_leaf (fun h => h)
        · refine z_iload hC 4 dX11_like_32 rfl ?_
          refine z_iload_n hC 2 dX11_like_34 rfl rfl ?_
          refine z_icmp_eq hC 63 dX11_like_35 (by decide) (fun _ => ?_) (fun _ => ?_)
          · refine z_iincv hC (1 : Int32) 4 (fun x6 => [(0, .ref p0), (1, .int p1), (2, .int p2), (3, .int s4.1), (4, .int x6)]) [1, 2, 3, 4, 0] dX11_like_63 rfl (by decide) (by decide) (fun _ => rfl) (fun x6 => ?_)
            refine z_goto hC 25 dX11_like_66 (by decide) ?_
            exact z_leaf (fun h => h)
          · refine z_aload_n hC 0 dX11_like_38 rfl rfl ?_
            refine z_getR hC lgRX11_28 dX11_like_39 (fun v7 => ?_)
            refine z_getR hC lgRX11_193 dX11_like_42 (fun v8 => ?_)
            refine z_iload_n hC 1 dX11_like_45 rfl rfl ?_
            refine z_aald4 hC dX11_like_46 (fun v9 => ?_)
            refine z_iload_n hC 2 dX11_like_47 rfl rfl ?_
            refine z_iload hC 4 dX11_like_48 rfl ?_
            refine z_callSi hC lmRX11_261 (ctX7_mayChangePlaces (vLa V) (vDa V) (vTg V) (vBs V) (vSa V) hp v9 p2 s4.2) (by decide) hn0 dX11_like_50 rfl rfl (Nat.le_of_ble_eq_true rfl) (fun v10 => ?_)
            refine z_if_eq hC 63 dX11_like_53 (by decide) (fun _ => ?_) (fun _ => ?_)
            · refine z_iincv hC (1 : Int32) 4 (fun x11 => [(0, .ref p0), (1, .int p1), (2, .int p2), (3, .int s4.1), (4, .int x11)]) [1, 2, 3, 4, 0] dX11_like_63 rfl (by decide) (by decide) (fun _ => rfl) (fun x11 => ?_)
              refine z_goto hC 25 dX11_like_66 (by decide) ?_
              exact z_leaf (fun h => h)
            · refine z_iload_n hC 3 dX11_like_56 rfl rfl ?_
              refine z_iconst hC (1 : Int32) dX11_like_57 (by decide) ?_
              refine z_iload hC 4 dX11_like_58 rfl ?_
              refine z_ishl hC dX11_like_60 ?_
              refine z_ior hC dX11_like_61 ?_
              refine z_vli (fun x12 => ?_)
              refine z_istore_n hC [(0, .ref p0), (1, .int p1), (2, .int p2), (3, .int x12), (4, .int s4.2)] [1, 2, 3, 0, 4] dX11_like_62 rfl (by decide) rfl ?_
              refine z_iincv hC (1 : Int32) 4 (fun x13 => [(0, .ref p0), (1, .int p1), (2, .int p2), (3, .int x12), (4, .int x13)]) [1, 2, 3, 4, 0] dX11_like_63 rfl (by decide) (by decide) (fun _ => rfl) (fun x13 => ?_)
              refine z_goto hC 25 dX11_like_66 (by decide) ?_
              exact z_leaf (fun h => h)

theorem dX11_lowestFactInto_0 : decode cX11_lowestFactInto 0 = .ok (.iconst 0, 1) := by decide +kernel
theorem dX11_lowestFactInto_1 : decode cX11_lowestFactInto 1 = .ok (.istore_n 2, 1) := by decide +kernel
theorem dX11_lowestFactInto_2 : decode cX11_lowestFactInto 2 = .ok (.iload_n 2, 1) := by decide +kernel
theorem dX11_lowestFactInto_3 : decode cX11_lowestFactInto 3 = .ok (.bipush 10, 2) := by decide +kernel
theorem dX11_lowestFactInto_5 : decode cX11_lowestFactInto 5 = .ok (.if_icmp .ge 26, 3) := by decide +kernel
theorem dX11_lowestFactInto_8 : decode cX11_lowestFactInto 8 = .ok (.aload_n 0, 1) := by decide +kernel
theorem dX11_lowestFactInto_9 : decode cX11_lowestFactInto 9 = .ok (.getfield 49, 3) := by decide +kernel
theorem dX11_lowestFactInto_12 : decode cX11_lowestFactInto 12 = .ok (.iload_n 1, 1) := by decide +kernel
theorem dX11_lowestFactInto_13 : decode cX11_lowestFactInto 13 = .ok (.iconst 1, 1) := by decide +kernel
theorem dX11_lowestFactInto_14 : decode cX11_lowestFactInto 14 = .ok (.iload_n 2, 1) := by decide +kernel
theorem dX11_lowestFactInto_15 : decode cX11_lowestFactInto 15 = .ok (.ishl, 1) := by decide +kernel
theorem dX11_lowestFactInto_16 : decode cX11_lowestFactInto 16 = .ok (.ixor, 1) := by decide +kernel
theorem dX11_lowestFactInto_17 : decode cX11_lowestFactInto 17 = .ok (.invokestatic 176, 3) := by decide +kernel
theorem dX11_lowestFactInto_20 : decode cX11_lowestFactInto 20 = .ok (.ifCond .eq 5, 3) := by decide +kernel
theorem dX11_lowestFactInto_23 : decode cX11_lowestFactInto 23 = .ok (.iload_n 2, 1) := by decide +kernel
theorem dX11_lowestFactInto_24 : decode cX11_lowestFactInto 24 = .ok (.ireturn, 1) := by decide +kernel
theorem dX11_lowestFactInto_25 : decode cX11_lowestFactInto 25 = .ok (.iinc 2 1, 3) := by decide +kernel
theorem dX11_lowestFactInto_28 : decode cX11_lowestFactInto 28 = .ok (.goto (-26), 3) := by decide +kernel
theorem dX11_lowestFactInto_31 : decode cX11_lowestFactInto 31 = .ok (.iconst (-1), 1) := by decide +kernel
theorem dX11_lowestFactInto_32 : decode cX11_lowestFactInto 32 = .ok (.ireturn, 1) := by decide +kernel
def FX11_lowestFactInto (hp : HP) (p0 : Nat) (p1 : Int32) : Option (Int32) := (lp (fun (s1 : Int32) => if (10 : Int32) ≤ s1 then some (Sum.inl (Sum.inr ())) else (gR [11] 7 hp p0).bind (fun v3 => (FX7_has hp v3 (p1 ^^^ ((1 : Int32) <<< (s1 &&& 31)))).bind (fun v4 => if v4 = 0 then vl (s1 + (1 : Int32)) (fun x5 => some (Sum.inr x5)) else some (Sum.inl (Sum.inl s1))))) FU (0 : Int32)).bind (lk (P := Int32) (fun r => r) (fun (y2 : Unit) => some (-1 : Int32)))
set_option maxHeartbeats 4000000 in
set_option maxRecDepth 100000 in
theorem ctX11_lowestFactInto (l : Launch) (D : va_G) (tg : Nat → ClassId) (bs : Nat) (sa : Nat → Nat) (hp : HP) (p0 : Nat) (p1 : Int32) : Ct l D tg bs sa yX11_lowestFactInto cX11_lowestFactInto 3 (some .int) 1 [.ref p0, .int p1] hp (FX11_lowestFactInto hp p0 p1) (fun r => some (.int r)) (fun _ => hp) := by
  refine Ct.of (by decide) (Nat.le_of_ble_eq_true rfl) ?_
  intro V Q hVl hVd hVt hVb hVs hC
  subst hVl; subst hVd; subst hVt; subst hVb; subst hVs
  unfold FX11_lowestFactInto
  show Zs V Q (0, 0) 3 _ _ hp [(0, .ref p0), (1, .int p1)] 0 []
  refine z_iconst hC (0 : Int32) dX11_lowestFactInto_0 (by decide) ?_
  refine z_istore_n hC [(0, .ref p0), (1, .int p1), (2, .int (0 : Int32))] [1, 2, 0] dX11_lowestFactInto_1 rfl (by decide) rfl ?_
  refine z_lpR (S := Int32) (Y := Unit) (fun s1 => hp) (fun s1 => [(0, .ref p0), (1, .int p1), (2, .int s1)]) (fun y2 => hp) (fun y2 => []) 31 [] (fun y2 => ?_) (fun s1 => ?_) rfl rfl
  · refine z_iconst hC (-1 : Int32) dX11_lowestFactInto_31 (by decide) ?_
    exact z_iret hC (fun h => h) dX11_lowestFactInto_32
  · refine z_iload_n hC 2 dX11_lowestFactInto_2 rfl rfl ?_
    refine z_bipush hC (10 : Int32) dX11_lowestFactInto_3 (by decide) ?_
    refine z_icmp_ge hC 31 dX11_lowestFactInto_5 (by decide) (fun _ => ?_) (fun _ => ?_)
    · refine z_weak [] [] rfl ?_
      exact z_leaf (fun h => h)
    · refine z_aload_n hC 0 dX11_lowestFactInto_8 rfl rfl ?_
      refine z_getR hC lgRX11_49 dX11_lowestFactInto_9 (fun v3 => ?_)
      refine z_iload_n hC 1 dX11_lowestFactInto_12 rfl rfl ?_
      refine z_iconst hC (1 : Int32) dX11_lowestFactInto_13 (by decide) ?_
      refine z_iload_n hC 2 dX11_lowestFactInto_14 rfl rfl ?_
      refine z_ishl hC dX11_lowestFactInto_15 ?_
      refine z_ixor hC dX11_lowestFactInto_16 ?_
      refine z_callSi hC lmRX11_176 (ctX7_has (vLa V) (vDa V) (vTg V) (vBs V) (vSa V) hp v3 (p1 ^^^ ((1 : Int32) <<< (s1 &&& 31)))) (by decide) hn0 dX11_lowestFactInto_17 rfl rfl (Nat.le_of_ble_eq_true rfl) (fun v4 => ?_)
      refine z_if_eq hC 25 dX11_lowestFactInto_20 (by decide) (fun _ => ?_) (fun _ => ?_)
      · refine z_iincv hC (1 : Int32) 2 (fun x5 => [(0, .ref p0), (1, .int p1), (2, .int x5)]) [1, 2, 0] dX11_lowestFactInto_25 rfl (by decide) (by decide) (fun _ => rfl) (fun x5 => ?_)
        refine z_goto hC 2 dX11_lowestFactInto_28 (by decide) ?_
        exact z_leaf (fun h => h)
      · refine z_iload_n hC 2 dX11_lowestFactInto_23 rfl rfl ?_
        exact z_iret hC (fun h => h) dX11_lowestFactInto_24

