theorem dX12_byWishes_0 : decode cX12_byWishes 0 = .ok (.aload_n 0, 1) := by decide +kernel
theorem dX12_byWishes_1 : decode cX12_byWishes 1 = .ok (.iload_n 1, 1) := by decide +kernel
theorem dX12_byWishes_2 : decode cX12_byWishes 2 = .ok (.invokevirtual 343, 3) := by decide +kernel
theorem dX12_byWishes_5 : decode cX12_byWishes 5 = .ok (.ifCond .eq 18, 3) := by decide +kernel
theorem dX12_byWishes_8 : decode cX12_byWishes 8 = .ok (.iload_n 2, 1) := by decide +kernel
theorem dX12_byWishes_9 : decode cX12_byWishes 9 = .ok (.bipush 20, 2) := by decide +kernel
theorem dX12_byWishes_11 : decode cX12_byWishes 11 = .ok (.if_icmp .eq 14, 3) := by decide +kernel
theorem dX12_byWishes_14 : decode cX12_byWishes 14 = .ok (.iload_n 2, 1) := by decide +kernel
theorem dX12_byWishes_15 : decode cX12_byWishes 15 = .ok (.iconst 0, 1) := by decide +kernel
theorem dX12_byWishes_16 : decode cX12_byWishes 16 = .ok (.iconst 3, 1) := by decide +kernel
theorem dX12_byWishes_17 : decode cX12_byWishes 17 = .ok (.invokestatic 99, 3) := by decide +kernel
theorem dX12_byWishes_20 : decode cX12_byWishes 20 = .ok (.ifCond .ne 5, 3) := by decide +kernel
theorem dX12_byWishes_23 : decode cX12_byWishes 23 = .ok (.iconst (-1), 1) := by decide +kernel
theorem dX12_byWishes_24 : decode cX12_byWishes 24 = .ok (.ireturn, 1) := by decide +kernel
theorem dX12_byWishes_25 : decode cX12_byWishes 25 = .ok (.aload_n 0, 1) := by decide +kernel
theorem dX12_byWishes_26 : decode cX12_byWishes 26 = .ok (.aload_n 0, 1) := by decide +kernel
theorem dX12_byWishes_27 : decode cX12_byWishes 27 = .ok (.getfield 103, 3) := by decide +kernel
theorem dX12_byWishes_30 : decode cX12_byWishes 30 = .ok (.aload_n 0, 1) := by decide +kernel
theorem dX12_byWishes_31 : decode cX12_byWishes 31 = .ok (.getfield 302, 3) := by decide +kernel
theorem dX12_byWishes_34 : decode cX12_byWishes 34 = .ok (.iconst (-1), 1) := by decide +kernel
theorem dX12_byWishes_35 : decode cX12_byWishes 35 = .ok (.ixor, 1) := by decide +kernel
theorem dX12_byWishes_36 : decode cX12_byWishes 36 = .ok (.iand, 1) := by decide +kernel
theorem dX12_byWishes_37 : decode cX12_byWishes 37 = .ok (.iconst 1, 1) := by decide +kernel
theorem dX12_byWishes_38 : decode cX12_byWishes 38 = .ok (.iload_n 1, 1) := by decide +kernel
theorem dX12_byWishes_39 : decode cX12_byWishes 39 = .ok (.ishl, 1) := by decide +kernel
theorem dX12_byWishes_40 : decode cX12_byWishes 40 = .ok (.iconst (-1), 1) := by decide +kernel
theorem dX12_byWishes_41 : decode cX12_byWishes 41 = .ok (.ixor, 1) := by decide +kernel
theorem dX12_byWishes_42 : decode cX12_byWishes 42 = .ok (.iand, 1) := by decide +kernel
theorem dX12_byWishes_43 : decode cX12_byWishes 43 = .ok (.invokevirtual 385, 3) := by decide +kernel
theorem dX12_byWishes_46 : decode cX12_byWishes 46 = .ok (.istore_n 3, 1) := by decide +kernel
theorem dX12_byWishes_47 : decode cX12_byWishes 47 = .ok (.aload_n 0, 1) := by decide +kernel
theorem dX12_byWishes_48 : decode cX12_byWishes 48 = .ok (.invokevirtual 388, 3) := by decide +kernel
theorem dX12_byWishes_51 : decode cX12_byWishes 51 = .ok (.iconst 0, 1) := by decide +kernel
theorem dX12_byWishes_52 : decode cX12_byWishes 52 = .ok (.istore 4, 2) := by decide +kernel
theorem dX12_byWishes_54 : decode cX12_byWishes 54 = .ok (.iload 4, 2) := by decide +kernel
theorem dX12_byWishes_56 : decode cX12_byWishes 56 = .ok (.iconst 4, 1) := by decide +kernel
theorem dX12_byWishes_57 : decode cX12_byWishes 57 = .ok (.iload_n 3, 1) := by decide +kernel
theorem dX12_byWishes_58 : decode cX12_byWishes 58 = .ok (.invokestatic 340, 3) := by decide +kernel
theorem dX12_byWishes_61 : decode cX12_byWishes 61 = .ok (.if_icmp .gt 81, 3) := by decide +kernel
theorem dX12_byWishes_64 : decode cX12_byWishes 64 = .ok (.iconst 0, 1) := by decide +kernel
theorem dX12_byWishes_65 : decode cX12_byWishes 65 = .ok (.istore 5, 2) := by decide +kernel
theorem dX12_byWishes_67 : decode cX12_byWishes 67 = .ok (.iload 5, 2) := by decide +kernel
theorem dX12_byWishes_69 : decode cX12_byWishes 69 = .ok (.iload_n 3, 1) := by decide +kernel
theorem dX12_byWishes_70 : decode cX12_byWishes 70 = .ok (.iload 4, 2) := by decide +kernel
theorem dX12_byWishes_72 : decode cX12_byWishes 72 = .ok (.invokestatic 391, 3) := by decide +kernel
theorem dX12_byWishes_75 : decode cX12_byWishes 75 = .ok (.if_icmp .ge 61, 3) := by decide +kernel
theorem dX12_byWishes_78 : decode cX12_byWishes 78 = .ok (.aload_n 0, 1) := by decide +kernel
theorem dX12_byWishes_79 : decode cX12_byWishes 79 = .ok (.iload 5, 2) := by decide +kernel
theorem dX12_byWishes_81 : decode cX12_byWishes 81 = .ok (.iload_n 3, 1) := by decide +kernel
theorem dX12_byWishes_82 : decode cX12_byWishes 82 = .ok (.iload 4, 2) := by decide +kernel
theorem dX12_byWishes_84 : decode cX12_byWishes 84 = .ok (.invokevirtual 394, 3) := by decide +kernel
theorem dX12_byWishes_87 : decode cX12_byWishes 87 = .ok (.ifCond .eq 43, 3) := by decide +kernel
theorem dX12_byWishes_90 : decode cX12_byWishes 90 = .ok (.aload_n 0, 1) := by decide +kernel
theorem dX12_byWishes_91 : decode cX12_byWishes 91 = .ok (.iload_n 1, 1) := by decide +kernel
theorem dX12_byWishes_92 : decode cX12_byWishes 92 = .ok (.iload 4, 2) := by decide +kernel
theorem dX12_byWishes_94 : decode cX12_byWishes 94 = .ok (.invokevirtual 403, 3) := by decide +kernel
theorem dX12_byWishes_97 : decode cX12_byWishes 97 = .ok (.ifCond .ne 6, 3) := by decide +kernel
theorem dX12_byWishes_100 : decode cX12_byWishes 100 = .ok (.goto 30, 3) := by decide +kernel
theorem dX12_byWishes_103 : decode cX12_byWishes 103 = .ok (.iload_n 2, 1) := by decide +kernel
theorem dX12_byWishes_104 : decode cX12_byWishes 104 = .ok (.bipush 20, 2) := by decide +kernel
theorem dX12_byWishes_106 : decode cX12_byWishes 106 = .ok (.if_icmp .ne 6, 3) := by decide +kernel
theorem dX12_byWishes_109 : decode cX12_byWishes 109 = .ok (.iload 4, 2) := by decide +kernel
theorem dX12_byWishes_111 : decode cX12_byWishes 111 = .ok (.ireturn, 1) := by decide +kernel
theorem dX12_byWishes_112 : decode cX12_byWishes 112 = .ok (.iload_n 2, 1) := by decide +kernel
theorem dX12_byWishes_113 : decode cX12_byWishes 113 = .ok (.iload 4, 2) := by decide +kernel
theorem dX12_byWishes_115 : decode cX12_byWishes 115 = .ok (.if_icmp .ge 12, 3) := by decide +kernel
theorem dX12_byWishes_118 : decode cX12_byWishes 118 = .ok (.aload_n 0, 1) := by decide +kernel
theorem dX12_byWishes_119 : decode cX12_byWishes 119 = .ok (.getfield 81, 3) := by decide +kernel
theorem dX12_byWishes_122 : decode cX12_byWishes 122 = .ok (.iload_n 2, 1) := by decide +kernel
theorem dX12_byWishes_123 : decode cX12_byWishes 123 = .ok (.iaload, 1) := by decide +kernel
theorem dX12_byWishes_124 : decode cX12_byWishes 124 = .ok (.goto 5, 3) := by decide +kernel
theorem dX12_byWishes_127 : decode cX12_byWishes 127 = .ok (.bipush (-4), 2) := by decide +kernel
theorem dX12_byWishes_129 : decode cX12_byWishes 129 = .ok (.ireturn, 1) := by decide +kernel
theorem dX12_byWishes_130 : decode cX12_byWishes 130 = .ok (.iinc 5 1, 3) := by decide +kernel
theorem dX12_byWishes_133 : decode cX12_byWishes 133 = .ok (.goto (-66), 3) := by decide +kernel
theorem dX12_byWishes_136 : decode cX12_byWishes 136 = .ok (.iinc 4 1, 3) := by decide +kernel
theorem dX12_byWishes_139 : decode cX12_byWishes 139 = .ok (.goto (-85), 3) := by decide +kernel
theorem dX12_byWishes_142 : decode cX12_byWishes 142 = .ok (.bipush (-2), 2) := by decide +kernel
theorem dX12_byWishes_144 : decode cX12_byWishes 144 = .ok (.ireturn, 1) := by decide +kernel
def FX12_byWishes (hp : HP) (p0 : Nat) (p1 : Int32) (p2 : Int32) : Option (Int32 × HP) := (rc [12] hp p0 (FX12_isWish hp p0 p1)).bind (fun v1 => if v1 = 0 then some ((-1 : Int32), hp) else jn (A := Unit) (fun a2 => (gI [12] 5 hp p0).bind (fun v4 => (gI [12] 11 hp p0).bind (fun v5 => (rc [12] hp p0 (FX12_laysWho hp p0 ((v4 &&& (v5 ^^^ (-1 : Int32))) &&& (((1 : Int32) <<< (p1 &&& 31)) ^^^ (-1 : Int32))))).bind (fun w6 => (rc [12] w6.2 p0 (FX12_putsAside w6.2 p0)).bind (fun w7 => (lp (fun (s8 : Int32 × HP) => (FX12_min (4 : Int32) w6.1).bind (fun v10 => if v10 < s8.1 then some (Sum.inl (Sum.inr s8.2)) else (lp (fun (s11 : Int32 × HP) => (FX12_codesFor w6.1 s8.1).bind (fun v14 => if v14 ≤ s11.1 then some (Sum.inl (Sum.inr s11.2)) else (rc [12] s11.2 p0 (FX12_readsRow s11.2 p0 s11.1 w6.1 s8.1)).bind (fun w15 => if w15.1 = 0 then vl (s11.1 + (1 : Int32)) (fun x16 => some (Sum.inr (x16, w15.2))) else (rc [12] w15.2 p0 (FX12_leadsRow w15.2 p0 p1 s8.1)).bind (fun w17 => if w17.1 = 0 then vl (s11.1 + (1 : Int32)) (fun x18 => some (Sum.inr (x18, w17.2))) else if p2 = (20 : Int32) then some (Sum.inl (Sum.inl (s8.1, w17.2))) else if s8.1 ≤ p2 then some (Sum.inl (Sum.inl ((-4 : Int32), w17.2))) else (gR [12] 54 w17.2 p0).bind (fun v19 => (rdN 0 w17.2 v19 p2).bind (fun v20 => some (Sum.inl (Sum.inl (v20, w17.2))))))))) FU ((0 : Int32), s8.2)).bind (lk (P := Int32 × HP) (fun r => (Sum.inl (Sum.inl r))) (fun (y12 : HP) => vl (s8.1 + (1 : Int32)) (fun x13 => some (Sum.inr (x13, y12))))))) FU ((0 : Int32), w7)).bind (lk (P := Int32 × HP) (fun r => r) (fun (y9 : HP) => some ((-2 : Int32), y9)))))))) (fun J3 => if p2 = (20 : Int32) then J3 () else (FX12_in p2 (0 : Int32) (3 : Int32)).bind (fun v21 => if v21 = 0 then some ((-1 : Int32), hp) else J3 ())))
set_option maxHeartbeats 4000000 in
set_option maxRecDepth 100000 in
theorem ctX12_byWishes (l : Launch) (D : va_G) (tg : Nat → ClassId) (bs : Nat) (sa : Nat → Nat) (hp : HP) (p0 : Nat) (p1 : Int32) (p2 : Int32) : Ct l D tg bs sa yX12_byWishes cX12_byWishes 6 (some .int) 7 [.ref p0, .int p1, .int p2] hp (FX12_byWishes hp p0 p1 p2) (fun r => some (.int r.1)) (fun r => r.2) := by
  refine Ct.of (by decide) (Nat.le_of_ble_eq_true rfl) ?_
  intro V Q hVl hVd hVt hVb hVs hC
  subst hVl; subst hVd; subst hVt; subst hVb; subst hVs
  unfold FX12_byWishes
  show Zs V Q (0, 0) 6 _ _ hp [(0, .ref p0), (1, .int p1), (2, .int p2)] 0 []
  refine z_aload_n hC 0 dX12_byWishes_0 rfl rfl ?_
  refine z_iload_n hC 1 dX12_byWishes_1 rfl rfl ?_
  refine z_callVi hC (ci := 12) rfl lmRX12_343 (ctX12_isWish (vLa V) (vDa V) (vTg V) (vBs V) (vSa V) hp p0 p1) (by decide) hn0 dX12_byWishes_2 rfl rfl (Nat.le_of_ble_eq_true rfl) (fun v1 => ?_)
  refine z_if_eq hC 23 dX12_byWishes_5 (by decide) (fun _ => ?_) (fun _ => ?_)
  · refine z_iconst hC (-1 : Int32) dX12_byWishes_23 (by decide) ?_
    exact z_iret hC (fun h => h) dX12_byWishes_24
  · refine z_iload_n hC 2 dX12_byWishes_8 rfl rfl ?_
    refine z_bipush hC (20 : Int32) dX12_byWishes_9 (by decide) ?_
    refine z_jn (A := Unit) (fun a2 => hp) (fun a2 => [(0, .ref p0), (1, .int p1), (2, .int p2)]) 25 (fun a2 => []) (fun a2 => ?_) (fun J3 hJ3 => ?_)
    · refine z_aload_n hC 0 dX12_byWishes_25 rfl rfl ?_
      refine z_aload_n hC 0 dX12_byWishes_26 rfl rfl ?_
      refine z_getI hC lgRX12_103 dX12_byWishes_27 (fun v4 => ?_)
      refine z_aload_n hC 0 dX12_byWishes_30 rfl rfl ?_
      refine z_getI hC lgRX12_302 dX12_byWishes_31 (fun v5 => ?_)
      refine z_iconst hC (-1 : Int32) dX12_byWishes_34 (by decide) ?_
      refine z_ixor hC dX12_byWishes_35 ?_
      refine z_iand hC dX12_byWishes_36 ?_
      refine z_iconst hC (1 : Int32) dX12_byWishes_37 (by decide) ?_
      refine z_iload_n hC 1 dX12_byWishes_38 rfl rfl ?_
      refine z_ishl hC dX12_byWishes_39 ?_
      refine z_iconst hC (-1 : Int32) dX12_byWishes_40 (by decide) ?_
      refine z_ixor hC dX12_byWishes_41 ?_
      refine z_iand hC dX12_byWishes_42 ?_
      refine z_callVi hC (ci := 12) rfl lmRX12_385 (ctX12_laysWho (vLa V) (vDa V) (vTg V) (vBs V) (vSa V) hp p0 ((v4 &&& (v5 ^^^ (-1 : Int32))) &&& (((1 : Int32) <<< (p1 &&& 31)) ^^^ (-1 : Int32)))) (by decide) hn0 dX12_byWishes_43 rfl rfl (Nat.le_of_ble_eq_true rfl) (fun w6 => ?_)
      refine z_istore_n hC [(0, .ref p0), (1, .int p1), (2, .int p2), (3, .int w6.1)] [1, 2, 3, 0] dX12_byWishes_46 rfl (by decide) rfl ?_
      refine z_aload_n hC 0 dX12_byWishes_47 rfl rfl ?_
      refine z_callVv hC (ci := 12) rfl lmRX12_388 (ctX12_putsAside (vLa V) (vDa V) (vTg V) (vBs V) (vSa V) w6.2 p0) (by decide) hn0 dX12_byWishes_48 rfl rfl (Nat.le_of_ble_eq_true rfl) (fun w7 => ?_)
      refine z_iconst hC (0 : Int32) dX12_byWishes_51 (by decide) ?_
      refine z_istore hC [(0, .ref p0), (1, .int p1), (2, .int p2), (3, .int w6.1), (4, .int (0 : Int32))] [1, 2, 3, 4, 0] dX12_byWishes_52 (by decide) rfl ?_
      refine z_lpR (S := Int32 × HP) (Y := HP) (fun s8 => s8.2) (fun s8 => [(0, .ref p0), (1, .int p1), (2, .int p2), (3, .int w6.1), (4, .int s8.1)]) (fun y9 => y9) (fun y9 => []) 142 [] (fun y9 => ?_) (fun s8 => ?_) rfl rfl
      · refine z_bipush hC (-2 : Int32) dX12_byWishes_142 (by decide) ?_
        exact z_iret hC (fun h => h) dX12_byWishes_144
      · refine z_iload hC 4 dX12_byWishes_54 rfl ?_
        refine z_iconst hC (4 : Int32) dX12_byWishes_56 (by decide) ?_
        refine z_iload_n hC 3 dX12_byWishes_57 rfl rfl ?_
        refine z_callSi hC lmRX12_340 (ctX12_min (vLa V) (vDa V) (vTg V) (vBs V) (vSa V) s8.2 (4 : Int32) w6.1) (by decide) hn0 dX12_byWishes_58 rfl rfl (Nat.le_of_ble_eq_true rfl) (fun v10 => ?_)
        refine z_icmp_gt hC 142 dX12_byWishes_61 (by decide) (fun _ => ?_) (fun _ => ?_)
        · refine z_weak [] [] rfl ?_
          exact z_leaf (fun h => h)
        · refine z_iconst hC (0 : Int32) dX12_byWishes_64 (by decide) ?_
          refine z_istore hC [(0, .ref p0), (1, .int p1), (2, .int p2), (3, .int w6.1), (4, .int s8.1), (5, .int (0 : Int32))] [1, 2, 3, 4, 5, 0] dX12_byWishes_65 (by decide) rfl ?_
          refine z_lpR (S := Int32 × HP) (Y := HP) (fun s11 => s11.2) (fun s11 => [(0, .ref p0), (1, .int p1), (2, .int p2), (3, .int w6.1), (4, .int s8.1), (5, .int s11.1)]) (fun y12 => y12) (fun y12 => [(0, .ref p0), (1, .int p1), (2, .int p2), (3, .int w6.1), (4, .int s8.1)]) 136 [] (fun y12 => ?_) (fun s11 => ?_) rfl rfl
          · refine z_iincv hC (1 : Int32) 4 (fun x13 => [(0, .ref p0), (1, .int p1), (2, .int p2), (3, .int w6.1), (4, .int x13)]) [1, 2, 3, 4, 0] dX12_byWishes_136 rfl (by decide) (by decide) (fun _ => rfl) (fun x13 => ?_)
            refine z_goto hC 54 dX12_byWishes_139 (by decide) ?_
            exact z_leaf (fun h => h)
          · refine z_iload hC 5 dX12_byWishes_67 rfl ?_
            refine z_iload_n hC 3 dX12_byWishes_69 rfl rfl ?_
            refine z_iload hC 4 dX12_byWishes_70 rfl ?_
            refine z_callSi hC lmRX12_391 (ctX12_codesFor (vLa V) (vDa V) (vTg V) (vBs V) (vSa V) s11.2 w6.1 s8.1) (by decide) hn0 dX12_byWishes_72 rfl rfl (Nat.le_of_ble_eq_true rfl) (fun v14 => ?_)
            refine z_icmp_ge hC 136 dX12_byWishes_75 (by decide) (fun _ => ?_) (fun _ => ?_)
            · refine z_weak [(0, .ref p0), (1, .int p1), (2, .int p2), (3, .int w6.1), (4, .int s8.1)] [0, 1, 2, 3, 4] rfl ?_
              exact z_leaf (fun h => h)
            · refine z_aload_n hC 0 dX12_byWishes_78 rfl rfl ?_
              refine z_iload hC 5 dX12_byWishes_79 rfl ?_
              refine z_iload_n hC 3 dX12_byWishes_81 rfl rfl ?_
              refine z_iload hC 4 dX12_byWishes_82 rfl ?_
              refine z_callVi hC (ci := 12) rfl lmRX12_394 (ctX12_readsRow (vLa V) (vDa V) (vTg V) (vBs V) (vSa V) s11.2 p0 s11.1 w6.1 s8.1) (by decide) hn0 dX12_byWishes_84 rfl rfl (Nat.le_of_ble_eq_true rfl) (fun w15 => ?_)
              refine z_if_eq hC 130 dX12_byWishes_87 (by decide) (fun _ => ?_) (fun _ => ?_)
              · refine z_iincv hC (1 : Int32) 5 (fun x16 => [(0, .ref p0), (1, .int p1), (2, .int p2), (3, .int w6.1), (4, .int s8.1), (5, .int x16)]) [1, 2, 3, 4, 5, 0] dX12_byWishes_130 rfl (by decide) (by decide) (fun _ => rfl) (fun x16 => ?_)
                refine z_goto hC 67 dX12_byWishes_133 (by decide) ?_
                exact z_leaf (fun h => h)
              · refine z_aload_n hC 0 dX12_byWishes_90 rfl rfl ?_
                refine z_iload_n hC 1 dX12_byWishes_91 rfl rfl ?_
                refine z_iload hC 4 dX12_byWishes_92 rfl ?_
                refine z_callVi hC (ci := 12) rfl lmRX12_403 (ctX12_leadsRow (vLa V) (vDa V) (vTg V) (vBs V) (vSa V) w15.2 p0 p1 s8.1) (by decide) hn0 dX12_byWishes_94 rfl rfl (Nat.le_of_ble_eq_true rfl) (fun w17 => ?_)
                refine z_if_ne hC 103 dX12_byWishes_97 (by decide) (fun _ => ?_) (fun _ => ?_)
                · refine z_goto hC 130 dX12_byWishes_100 (by decide) ?_
                  refine z_iincv hC (1 : Int32) 5 (fun x18 => [(0, .ref p0), (1, .int p1), (2, .int p2), (3, .int w6.1), (4, .int s8.1), (5, .int x18)]) [1, 2, 3, 4, 5, 0] dX12_byWishes_130 rfl (by decide) (by decide) (fun _ => rfl) (fun x18 => ?_)
                  refine z_goto hC 67 dX12_byWishes_133 (by decide) ?_
                  exact z_leaf (fun h => h)
                · refine z_iload_n hC 2 dX12_byWishes_103 rfl rfl ?_
                  refine z_bipush hC (20 : Int32) dX12_byWishes_104 (by decide) ?_
                  refine z_icmp_ne hC 112 dX12_byWishes_106 (by decide) (fun _ => ?_) (fun _ => ?_)
                  · refine z_iload hC 4 dX12_byWishes_109 rfl ?_
                    exact z_iret hC (fun h => h) dX12_byWishes_111
                  · refine z_iload_n hC 2 dX12_byWishes_112 rfl rfl ?_
                    refine z_iload hC 4 dX12_byWishes_113 rfl ?_
                    refine z_icmp_ge hC 127 dX12_byWishes_115 (by decide) (fun _ => ?_) (fun _ => ?_)
                    · refine z_bipush hC (-4 : Int32) dX12_byWishes_127 (by decide) ?_
                      exact z_iret hC (fun h => h) dX12_byWishes_129
                    · refine z_aload_n hC 0 dX12_byWishes_118 rfl rfl ?_
                      refine z_getR hC lgRX12_81 dX12_byWishes_119 (fun v19 => ?_)
                      refine z_iload_n hC 2 dX12_byWishes_122 rfl rfl ?_
                      refine z_iald hC dX12_byWishes_123 (fun v20 => ?_)
                      refine z_goto hC 129 dX12_byWishes_124 (by decide) ?_
                      exact z_iret hC (fun h => h) dX12_byWishes_129
    · refine z_icmp_eq hC 25 dX12_byWishes_11 (by decide) (fun _ => ?_) (fun _ => ?_)
      · exact hJ3 ()
      · refine z_iload_n hC 2 dX12_byWishes_14 rfl rfl ?_
        refine z_iconst hC (0 : Int32) dX12_byWishes_15 (by decide) ?_
        refine z_iconst hC (3 : Int32) dX12_byWishes_16 (by decide) ?_
        refine z_callSi hC lmRX12_99 (ctX12_in (vLa V) (vDa V) (vTg V) (vBs V) (vSa V) hp p2 (0 : Int32) (3 : Int32)) (by decide) hn0 dX12_byWishes_17 rfl rfl (Nat.le_of_ble_eq_true rfl) (fun v21 => ?_)
        refine z_if_ne hC 25 dX12_byWishes_20 (by decide) (fun _ => ?_) (fun _ => ?_)
        · refine z_iconst hC (-1 : Int32) dX12_byWishes_23 (by decide) ?_
          exact z_iret hC (fun h => h) dX12_byWishes_24
        · exact hJ3 ()

theorem dX12_follows_0 : decode cX12_follows 0 = .ok (.aload_n 0, 1) := by decide +kernel
theorem dX12_follows_1 : decode cX12_follows 1 = .ok (.iload_n 1, 1) := by decide +kernel
theorem dX12_follows_2 : decode cX12_follows 2 = .ok (.invokevirtual 343, 3) := by decide +kernel
theorem dX12_follows_5 : decode cX12_follows 5 = .ok (.ifCond .eq 20, 3) := by decide +kernel
theorem dX12_follows_8 : decode cX12_follows 8 = .ok (.aload_n 0, 1) := by decide +kernel
theorem dX12_follows_9 : decode cX12_follows 9 = .ok (.iload_n 2, 1) := by decide +kernel
theorem dX12_follows_10 : decode cX12_follows 10 = .ok (.invokevirtual 343, 3) := by decide +kernel
theorem dX12_follows_13 : decode cX12_follows 13 = .ok (.ifCond .eq 12, 3) := by decide +kernel
theorem dX12_follows_16 : decode cX12_follows 16 = .ok (.iload_n 3, 1) := by decide +kernel
theorem dX12_follows_17 : decode cX12_follows 17 = .ok (.iconst 0, 1) := by decide +kernel
theorem dX12_follows_18 : decode cX12_follows 18 = .ok (.iconst 2, 1) := by decide +kernel
theorem dX12_follows_19 : decode cX12_follows 19 = .ok (.invokestatic 99, 3) := by decide +kernel
theorem dX12_follows_22 : decode cX12_follows 22 = .ok (.ifCond .ne 5, 3) := by decide +kernel
theorem dX12_follows_25 : decode cX12_follows 25 = .ok (.iconst (-1), 1) := by decide +kernel
theorem dX12_follows_26 : decode cX12_follows 26 = .ok (.ireturn, 1) := by decide +kernel
theorem dX12_follows_27 : decode cX12_follows 27 = .ok (.iconst 0, 1) := by decide +kernel
theorem dX12_follows_28 : decode cX12_follows 28 = .ok (.istore 4, 2) := by decide +kernel
theorem dX12_follows_30 : decode cX12_follows 30 = .ok (.iconst 0, 1) := by decide +kernel
theorem dX12_follows_31 : decode cX12_follows 31 = .ok (.istore 5, 2) := by decide +kernel
theorem dX12_follows_33 : decode cX12_follows 33 = .ok (.iconst 0, 1) := by decide +kernel
theorem dX12_follows_34 : decode cX12_follows 34 = .ok (.istore 6, 2) := by decide +kernel
theorem dX12_follows_36 : decode cX12_follows 36 = .ok (.iload 6, 2) := by decide +kernel
theorem dX12_follows_38 : decode cX12_follows 38 = .ok (.sipush 1024, 3) := by decide +kernel
theorem dX12_follows_41 : decode cX12_follows 41 = .ok (.if_icmp .ge 89, 3) := by decide +kernel
theorem dX12_follows_44 : decode cX12_follows 44 = .ok (.iload 4, 2) := by decide +kernel
theorem dX12_follows_46 : decode cX12_follows 46 = .ok (.aload_n 0, 1) := by decide +kernel
theorem dX12_follows_47 : decode cX12_follows 47 = .ok (.getfield 20, 3) := by decide +kernel
theorem dX12_follows_50 : decode cX12_follows 50 = .ok (.iload 6, 2) := by decide +kernel
theorem dX12_follows_52 : decode cX12_follows 52 = .ok (.baload, 1) := by decide +kernel
theorem dX12_follows_53 : decode cX12_follows 53 = .ok (.ifCond .eq 27, 3) := by decide +kernel
theorem dX12_follows_56 : decode cX12_follows 56 = .ok (.aload_n 0, 1) := by decide +kernel
theorem dX12_follows_57 : decode cX12_follows 57 = .ok (.iload_n 1, 1) := by decide +kernel
theorem dX12_follows_58 : decode cX12_follows 58 = .ok (.iload 6, 2) := by decide +kernel
theorem dX12_follows_60 : decode cX12_follows 60 = .ok (.invokevirtual 310, 3) := by decide +kernel
theorem dX12_follows_63 : decode cX12_follows 63 = .ok (.ifCond .eq 17, 3) := by decide +kernel
theorem dX12_follows_66 : decode cX12_follows 66 = .ok (.aload_n 0, 1) := by decide +kernel
theorem dX12_follows_67 : decode cX12_follows 67 = .ok (.iload_n 2, 1) := by decide +kernel
theorem dX12_follows_68 : decode cX12_follows 68 = .ok (.iload 6, 2) := by decide +kernel
theorem dX12_follows_70 : decode cX12_follows 70 = .ok (.invokevirtual 310, 3) := by decide +kernel
theorem dX12_follows_73 : decode cX12_follows 73 = .ok (.ifCond .ne 7, 3) := by decide +kernel
theorem dX12_follows_76 : decode cX12_follows 76 = .ok (.iconst 1, 1) := by decide +kernel
theorem dX12_follows_77 : decode cX12_follows 77 = .ok (.goto 4, 3) := by decide +kernel
theorem dX12_follows_80 : decode cX12_follows 80 = .ok (.iconst 0, 1) := by decide +kernel
theorem dX12_follows_81 : decode cX12_follows 81 = .ok (.iadd, 1) := by decide +kernel
theorem dX12_follows_82 : decode cX12_follows 82 = .ok (.istore 4, 2) := by decide +kernel
theorem dX12_follows_84 : decode cX12_follows 84 = .ok (.iload 5, 2) := by decide +kernel
theorem dX12_follows_86 : decode cX12_follows 86 = .ok (.aload_n 0, 1) := by decide +kernel
theorem dX12_follows_87 : decode cX12_follows 87 = .ok (.getfield 20, 3) := by decide +kernel
theorem dX12_follows_90 : decode cX12_follows 90 = .ok (.iload 6, 2) := by decide +kernel
theorem dX12_follows_92 : decode cX12_follows 92 = .ok (.baload, 1) := by decide +kernel
theorem dX12_follows_93 : decode cX12_follows 93 = .ok (.ifCond .eq 27, 3) := by decide +kernel
theorem dX12_follows_96 : decode cX12_follows 96 = .ok (.aload_n 0, 1) := by decide +kernel
theorem dX12_follows_97 : decode cX12_follows 97 = .ok (.iload_n 2, 1) := by decide +kernel
theorem dX12_follows_98 : decode cX12_follows 98 = .ok (.iload 6, 2) := by decide +kernel
theorem dX12_follows_100 : decode cX12_follows 100 = .ok (.invokevirtual 310, 3) := by decide +kernel
theorem dX12_follows_103 : decode cX12_follows 103 = .ok (.ifCond .eq 17, 3) := by decide +kernel
theorem dX12_follows_106 : decode cX12_follows 106 = .ok (.aload_n 0, 1) := by decide +kernel
theorem dX12_follows_107 : decode cX12_follows 107 = .ok (.iload_n 1, 1) := by decide +kernel
theorem dX12_follows_108 : decode cX12_follows 108 = .ok (.iload 6, 2) := by decide +kernel
theorem dX12_follows_110 : decode cX12_follows 110 = .ok (.invokevirtual 310, 3) := by decide +kernel
theorem dX12_follows_113 : decode cX12_follows 113 = .ok (.ifCond .ne 7, 3) := by decide +kernel
theorem dX12_follows_116 : decode cX12_follows 116 = .ok (.iconst 1, 1) := by decide +kernel
theorem dX12_follows_117 : decode cX12_follows 117 = .ok (.goto 4, 3) := by decide +kernel
theorem dX12_follows_120 : decode cX12_follows 120 = .ok (.iconst 0, 1) := by decide +kernel
theorem dX12_follows_121 : decode cX12_follows 121 = .ok (.iadd, 1) := by decide +kernel
theorem dX12_follows_122 : decode cX12_follows 122 = .ok (.istore 5, 2) := by decide +kernel
theorem dX12_follows_124 : decode cX12_follows 124 = .ok (.iinc 6 1, 3) := by decide +kernel
theorem dX12_follows_127 : decode cX12_follows 127 = .ok (.goto (-91), 3) := by decide +kernel
theorem dX12_follows_130 : decode cX12_follows 130 = .ok (.iload_n 3, 1) := by decide +kernel
theorem dX12_follows_131 : decode cX12_follows 131 = .ok (.iconst 2, 1) := by decide +kernel
theorem dX12_follows_132 : decode cX12_follows 132 = .ok (.if_icmp .ne 9, 3) := by decide +kernel
theorem dX12_follows_135 : decode cX12_follows 135 = .ok (.iload 4, 2) := by decide +kernel
theorem dX12_follows_137 : decode cX12_follows 137 = .ok (.iload 5, 2) := by decide +kernel
theorem dX12_follows_139 : decode cX12_follows 139 = .ok (.iadd, 1) := by decide +kernel
theorem dX12_follows_140 : decode cX12_follows 140 = .ok (.ireturn, 1) := by decide +kernel
theorem dX12_follows_141 : decode cX12_follows 141 = .ok (.iload 4, 2) := by decide +kernel
theorem dX12_follows_143 : decode cX12_follows 143 = .ok (.ifCond .ne 16, 3) := by decide +kernel
theorem dX12_follows_146 : decode cX12_follows 146 = .ok (.iload_n 3, 1) := by decide +kernel
theorem dX12_follows_147 : decode cX12_follows 147 = .ok (.ifCond .eq 8, 3) := by decide +kernel
theorem dX12_follows_150 : decode cX12_follows 150 = .ok (.iload 5, 2) := by decide +kernel
theorem dX12_follows_152 : decode cX12_follows 152 = .ok (.ifCond .ne 7, 3) := by decide +kernel
theorem dX12_follows_155 : decode cX12_follows 155 = .ok (.iconst 1, 1) := by decide +kernel
theorem dX12_follows_156 : decode cX12_follows 156 = .ok (.goto 4, 3) := by decide +kernel
theorem dX12_follows_159 : decode cX12_follows 159 = .ok (.iconst 0, 1) := by decide +kernel
theorem dX12_follows_160 : decode cX12_follows 160 = .ok (.ireturn, 1) := by decide +kernel
def FX12_follows (hp : HP) (p0 : Nat) (p1 : Int32) (p2 : Int32) (p3 : Int32) : Option (Int32) := (rc [12] hp p0 (FX12_isWish hp p0 p1)).bind (fun v1 => if v1 = 0 then some (-1 : Int32) else (rc [12] hp p0 (FX12_isWish hp p0 p2)).bind (fun v2 => if v2 = 0 then some (-1 : Int32) else (FX12_in p3 (0 : Int32) (2 : Int32)).bind (fun v3 => if v3 = 0 then some (-1 : Int32) else (lp (fun (s4 : Int32 × Int32 × Int32) => if (1024 : Int32) ≤ s4.2.2 then some (Sum.inl (s4.1, s4.2.1)) else (gR [12] 3 hp p0).bind (fun v6 => (rdN 2 hp v6 s4.2.2).bind (fun v7 => jn (A := Int32) (fun a8 => vl (s4.1 + a8) (fun x10 => (gR [12] 3 hp p0).bind (fun v11 => (rdN 2 hp v11 s4.2.2).bind (fun v12 => if v12 = 0 then vl (s4.2.1 + (0 : Int32)) (fun x13 => vl (s4.2.2 + (1 : Int32)) (fun x14 => some (Sum.inr (x10, x13, x14)))) else (rc [12] hp p0 (FX12_holdsIn hp p0 p2 s4.2.2)).bind (fun v15 => if v15 = 0 then vl (s4.2.1 + (0 : Int32)) (fun x16 => vl (s4.2.2 + (1 : Int32)) (fun x17 => some (Sum.inr (x10, x16, x17)))) else (rc [12] hp p0 (FX12_holdsIn hp p0 p1 s4.2.2)).bind (fun v18 => if v18 = 0 then vl (s4.2.1 + (1 : Int32)) (fun x19 => vl (s4.2.2 + (1 : Int32)) (fun x20 => some (Sum.inr (x10, x19, x20)))) else vl (s4.2.1 + (0 : Int32)) (fun x21 => vl (s4.2.2 + (1 : Int32)) (fun x22 => some (Sum.inr (x10, x21, x22)))))))))) (fun J9 => if v7 = 0 then J9 (0 : Int32) else (rc [12] hp p0 (FX12_holdsIn hp p0 p1 s4.2.2)).bind (fun v23 => if v23 = 0 then J9 (0 : Int32) else (rc [12] hp p0 (FX12_holdsIn hp p0 p2 s4.2.2)).bind (fun v24 => if v24 = 0 then J9 (1 : Int32) else J9 (0 : Int32))))))) FU ((0 : Int32), (0 : Int32), (0 : Int32))).bind (fun (y5 : Int32 × Int32) => if p3 = (2 : Int32) then some (y5.1 + y5.2) else if y5.1 = 0 then if p3 = 0 then some (1 : Int32) else if y5.2 = 0 then some (1 : Int32) else some (0 : Int32) else some (0 : Int32)))))
set_option maxHeartbeats 4000000 in
set_option maxRecDepth 100000 in
theorem ctX12_follows (l : Launch) (D : va_G) (tg : Nat → ClassId) (bs : Nat) (sa : Nat → Nat) (hp : HP) (p0 : Nat) (p1 : Int32) (p2 : Int32) (p3 : Int32) : Ct l D tg bs sa yX12_follows cX12_follows 7 (some .int) 2 [.ref p0, .int p1, .int p2, .int p3] hp (FX12_follows hp p0 p1 p2 p3) (fun r => some (.int r)) (fun _ => hp) := by
  refine Ct.of (by decide) (Nat.le_of_ble_eq_true rfl) ?_
  intro V Q hVl hVd hVt hVb hVs hC
  subst hVl; subst hVd; subst hVt; subst hVb; subst hVs
  unfold FX12_follows
  show Zs V Q (0, 0) 7 _ _ hp [(0, .ref p0), (1, .int p1), (2, .int p2), (3, .int p3)] 0 []
  refine z_aload_n hC 0 dX12_follows_0 rfl rfl ?_
  refine z_iload_n hC 1 dX12_follows_1 rfl rfl ?_
  refine z_callVi hC (ci := 12) rfl lmRX12_343 (ctX12_isWish (vLa V) (vDa V) (vTg V) (vBs V) (vSa V) hp p0 p1) (by decide) hn0 dX12_follows_2 rfl rfl (Nat.le_of_ble_eq_true rfl) (fun v1 => ?_)
  refine z_if_eq hC 25 dX12_follows_5 (by decide) (fun _ => ?_) (fun _ => ?_)
  · refine z_iconst hC (-1 : Int32) dX12_follows_25 (by decide) ?_
    exact z_iret hC (fun h => h) dX12_follows_26
  · refine z_aload_n hC 0 dX12_follows_8 rfl rfl ?_
    refine z_iload_n hC 2 dX12_follows_9 rfl rfl ?_
    refine z_callVi hC (ci := 12) rfl lmRX12_343 (ctX12_isWish (vLa V) (vDa V) (vTg V) (vBs V) (vSa V) hp p0 p2) (by decide) hn0 dX12_follows_10 rfl rfl (Nat.le_of_ble_eq_true rfl) (fun v2 => ?_)
    refine z_if_eq hC 25 dX12_follows_13 (by decide) (fun _ => ?_) (fun _ => ?_)
    · refine z_iconst hC (-1 : Int32) dX12_follows_25 (by decide) ?_
      exact z_iret hC (fun h => h) dX12_follows_26
    · refine z_iload_n hC 3 dX12_follows_16 rfl rfl ?_
      refine z_iconst hC (0 : Int32) dX12_follows_17 (by decide) ?_
      refine z_iconst hC (2 : Int32) dX12_follows_18 (by decide) ?_
      refine z_callSi hC lmRX12_99 (ctX12_in (vLa V) (vDa V) (vTg V) (vBs V) (vSa V) hp p3 (0 : Int32) (2 : Int32)) (by decide) hn0 dX12_follows_19 rfl rfl (Nat.le_of_ble_eq_true rfl) (fun v3 => ?_)
      refine z_if_ne hC 27 dX12_follows_22 (by decide) (fun _ => ?_) (fun _ => ?_)
      · refine z_iconst hC (-1 : Int32) dX12_follows_25 (by decide) ?_
        exact z_iret hC (fun h => h) dX12_follows_26
      · refine z_iconst hC (0 : Int32) dX12_follows_27 (by decide) ?_
        refine z_istore hC [(0, .ref p0), (1, .int p1), (2, .int p2), (3, .int p3), (4, .int (0 : Int32))] [1, 2, 3, 4, 0] dX12_follows_28 (by decide) rfl ?_
        refine z_iconst hC (0 : Int32) dX12_follows_30 (by decide) ?_
        refine z_istore hC [(0, .ref p0), (1, .int p1), (2, .int p2), (3, .int p3), (4, .int (0 : Int32)), (5, .int (0 : Int32))] [1, 2, 3, 4, 5, 0] dX12_follows_31 (by decide) rfl ?_
        refine z_iconst hC (0 : Int32) dX12_follows_33 (by decide) ?_
        refine z_istore hC [(0, .ref p0), (1, .int p1), (2, .int p2), (3, .int p3), (4, .int (0 : Int32)), (5, .int (0 : Int32)), (6, .int (0 : Int32))] [1, 2, 3, 4, 5, 6, 0] dX12_follows_34 (by decide) rfl ?_
        refine z_lp (S := Int32 × Int32 × Int32) (Y := Int32 × Int32) (fun s4 => hp) (fun s4 => [(0, .ref p0), (1, .int p1), (2, .int p2), (3, .int p3), (4, .int s4.1), (5, .int s4.2.1), (6, .int s4.2.2)]) (fun y5 => hp) (fun y5 => [(3, .int p3), (4, .int y5.1), (5, .int y5.2)]) 130 [] (fun y5 => ?_) (fun s4 => ?_) rfl rfl
        · refine z_iload_n hC 0 dX12_follows_130 rfl rfl ?_
          refine z_iconst hC (2 : Int32) dX12_follows_131 (by decide) ?_
          refine z_icmp_ne hC 141 dX12_follows_132 (by decide) (fun _ => ?_) (fun _ => ?_)
          · refine z_iload hC 1 dX12_follows_135 rfl ?_
            refine z_iload hC 2 dX12_follows_137 rfl ?_
            refine z_iadd hC dX12_follows_139 ?_
            exact z_iret hC (fun h => h) dX12_follows_140
          · refine z_iload hC 1 dX12_follows_141 rfl ?_
            refine z_if_ne hC 159 dX12_follows_143 (by decide) (fun _ => ?_) (fun _ => ?_)
            · refine z_iload_n hC 0 dX12_follows_146 rfl rfl ?_
              refine z_if_eq hC 155 dX12_follows_147 (by decide) (fun _ => ?_) (fun _ => ?_)
              · refine z_iconst hC (1 : Int32) dX12_follows_155 (by decide) ?_
                refine z_goto hC 160 dX12_follows_156 (by decide) ?_
                exact z_iret hC (fun h => h) dX12_follows_160
              · refine z_iload hC 2 dX12_follows_150 rfl ?_
                refine z_if_ne hC 159 dX12_follows_152 (by decide) (fun _ => ?_) (fun _ => ?_)
                · refine z_iconst hC (1 : Int32) dX12_follows_155 (by decide) ?_
                  refine z_goto hC 160 dX12_follows_156 (by decide) ?_
                  exact z_iret hC (fun h => h) dX12_follows_160
                · refine z_iconst hC (0 : Int32) dX12_follows_159 (by decide) ?_
                  exact z_iret hC (fun h => h) dX12_follows_160
            · refine z_iconst hC (0 : Int32) dX12_follows_159 (by decide) ?_
              exact z_iret hC (fun h => h) dX12_follows_160
        · refine z_iload hC 6 dX12_follows_36 rfl ?_
          refine z_sipush hC (1024 : Int32) dX12_follows_38 (by decide) ?_
          refine z_icmp_ge hC 130 dX12_follows_41 (by decide) (fun _ => ?_) (fun _ => ?_)
          · refine z_weak [(3, .int p3), (4, .int s4.1), (5, .int s4.2.1)] [3, 4, 5] rfl ?_
            exact z_leaf (fun h => h)
          · refine z_iload hC 4 dX12_follows_44 rfl ?_
            refine z_aload_n hC 0 dX12_follows_46 rfl rfl ?_
            refine z_getR hC lgRX12_20 dX12_follows_47 (fun v6 => ?_)
            refine z_iload hC 6 dX12_follows_50 rfl ?_
            refine z_zald hC dX12_follows_52 (fun v7 => ?_)
            refine z_jn (A := Int32) (fun a8 => hp) (fun a8 => [(0, .ref p0), (1, .int p1), (2, .int p2), (3, .int p3), (5, .int s4.2.1), (6, .int s4.2.2)]) 81 (fun a8 => [.int a8, .int s4.1]) (fun a8 => ?_) (fun J9 hJ9 => ?_)
            · refine z_iadd hC dX12_follows_81 ?_
              refine z_vli (fun x10 => ?_)
              refine z_istore hC [(0, .ref p0), (1, .int p1), (2, .int p2), (3, .int p3), (4, .int x10), (5, .int s4.2.1), (6, .int s4.2.2)] [1, 2, 3, 4, 0, 5, 6] dX12_follows_82 (by decide) rfl ?_
              refine z_iload hC 5 dX12_follows_84 rfl ?_
              refine z_aload_n hC 0 dX12_follows_86 rfl rfl ?_
              refine z_getR hC lgRX12_20 dX12_follows_87 (fun v11 => ?_)
              refine z_iload hC 6 dX12_follows_90 rfl ?_
              refine z_zald hC dX12_follows_92 (fun v12 => ?_)
              refine z_if_eq hC 120 dX12_follows_93 (by decide) (fun _ => ?_) (fun _ => ?_)
              · refine z_iconst hC (0 : Int32) dX12_follows_120 (by decide) ?_
                refine z_iadd hC dX12_follows_121 ?_
                refine z_vli (fun x13 => ?_)
                refine z_istore hC [(0, .ref p0), (1, .int p1), (2, .int p2), (3, .int p3), (4, .int x10), (5, .int x13), (6, .int s4.2.2)] [1, 2, 3, 4, 5, 0, 6] dX12_follows_122 (by decide) rfl ?_
                refine z_iincv hC (1 : Int32) 6 (fun x14 => [(0, .ref p0), (1, .int p1), (2, .int p2), (3, .int p3), (4, .int x10), (5, .int x13), (6, .int x14)]) [1, 2, 3, 4, 5, 6, 0] dX12_follows_124 rfl (by decide) (by decide) (fun _ => rfl) (fun x14 => ?_)
                refine z_goto hC 36 dX12_follows_127 (by decide) ?_
                exact z_leaf (fun h => h)
              · refine z_aload_n hC 0 dX12_follows_96 rfl rfl ?_
                refine z_iload_n hC 2 dX12_follows_97 rfl rfl ?_
                refine z_iload hC 6 dX12_follows_98 rfl ?_
                refine z_callVi hC (ci := 12) rfl lmRX12_310 (ctX12_holdsIn (vLa V) (vDa V) (vTg V) (vBs V) (vSa V) hp p0 p2 s4.2.2) (by decide) hn0 dX12_follows_100 rfl rfl (Nat.le_of_ble_eq_true rfl) (fun v15 => ?_)
                refine z_if_eq hC 120 dX12_follows_103 (by decide) (fun _ => ?_) (fun _ => ?_)
                · refine z_iconst hC (0 : Int32) dX12_follows_120 (by decide) ?_
                  refine z_iadd hC dX12_follows_121 ?_
                  refine z_vli (fun x16 => ?_)
                  refine z_istore hC [(0, .ref p0), (1, .int p1), (2, .int p2), (3, .int p3), (4, .int x10), (5, .int x16), (6, .int s4.2.2)] [1, 2, 3, 4, 5, 0, 6] dX12_follows_122 (by decide) rfl ?_
                  refine z_iincv hC (1 : Int32) 6 (fun x17 => [(0, .ref p0), (1, .int p1), (2, .int p2), (3, .int p3), (4, .int x10), (5, .int x16), (6, .int x17)]) [1, 2, 3, 4, 5, 6, 0] dX12_follows_124 rfl (by decide) (by decide) (fun _ => rfl) (fun x17 => ?_)
                  refine z_goto hC 36 dX12_follows_127 (by decide) ?_
                  exact z_leaf (fun h => h)
                · refine z_aload_n hC 0 dX12_follows_106 rfl rfl ?_
                  refine z_iload_n hC 1 dX12_follows_107 rfl rfl ?_
                  refine z_iload hC 6 dX12_follows_108 rfl ?_
                  refine z_callVi hC (ci := 12) rfl lmRX12_310 (ctX12_holdsIn (vLa V) (vDa V) (vTg V) (vBs V) (vSa V) hp p0 p1 s4.2.2) (by decide) hn0 dX12_follows_110 rfl rfl (Nat.le_of_ble_eq_true rfl) (fun v18 => ?_)
                  refine z_if_ne hC 120 dX12_follows_113 (by decide) (fun _ => ?_) (fun _ => ?_)
                  · refine z_iconst hC (1 : Int32) dX12_follows_116 (by decide) ?_
                    refine z_goto hC 121 dX12_follows_117 (by decide) ?_
                    refine z_iadd hC dX12_follows_121 ?_
                    refine z_vli (fun x19 => ?_)
                    refine z_istore hC [(0, .ref p0), (1, .int p1), (2, .int p2), (3, .int p3), (4, .int x10), (5, .int x19), (6, .int s4.2.2)] [1, 2, 3, 4, 5, 0, 6] dX12_follows_122 (by decide) rfl ?_
                    refine z_iincv hC (1 : Int32) 6 (fun x20 => [(0, .ref p0), (1, .int p1), (2, .int p2), (3, .int p3), (4, .int x10), (5, .int x19), (6, .int x20)]) [1, 2, 3, 4, 5, 6, 0] dX12_follows_124 rfl (by decide) (by decide) (fun _ => rfl) (fun x20 => ?_)
                    refine z_goto hC 36 dX12_follows_127 (by decide) ?_
                    exact z_leaf (fun h => h)
                  · refine z_iconst hC (0 : Int32) dX12_follows_120 (by decide) ?_
                    refine z_iadd hC dX12_follows_121 ?_
                    refine z_vli (fun x21 => ?_)
                    refine z_istore hC [(0, .ref p0), (1, .int p1), (2, .int p2), (3, .int p3), (4, .int x10), (5, .int x21), (6, .int s4.2.2)] [1, 2, 3, 4, 5, 0, 6] dX12_follows_122 (by decide) rfl ?_
                    refine z_iincv hC (1 : Int32) 6 (fun x22 => [(0, .ref p0), (1, .int p1), (2, .int p2), (3, .int p3), (4, .int x10), (5, .int x21), (6, .int x22)]) [1, 2, 3, 4, 5, 6, 0] dX12_follows_124 rfl (by decide) (by decide) (fun _ => rfl) (fun x22 => ?_)
                    refine z_goto hC 36 dX12_follows_127 (by decide) ?_
                    exact z_leaf (fun h => h)
            · refine z_if_eq hC 80 dX12_follows_53 (by decide) (fun _ => ?_) (fun _ => ?_)
              · refine z_iconst hC (0 : Int32) dX12_follows_80 (by decide) ?_
                refine z_weak [(0, .ref p0), (1, .int p1), (2, .int p2), (3, .int p3), (5, .int s4.2.1), (6, .int s4.2.2)] [0, 1, 2, 3, 5, 6] rfl ?_
                exact hJ9 (0 : Int32)
              · refine z_aload_n hC 0 dX12_follows_56 rfl rfl ?_
                refine z_iload_n hC 1 dX12_follows_57 rfl rfl ?_
                refine z_iload hC 6 dX12_follows_58 rfl ?_
                refine z_callVi hC (ci := 12) rfl lmRX12_310 (ctX12_holdsIn (vLa V) (vDa V) (vTg V) (vBs V) (vSa V) hp p0 p1 s4.2.2) (by decide) hn0 dX12_follows_60 rfl rfl (Nat.le_of_ble_eq_true rfl) (fun v23 => ?_)
                refine z_if_eq hC 80 dX12_follows_63 (by decide) (fun _ => ?_) (fun _ => ?_)
                · refine z_iconst hC (0 : Int32) dX12_follows_80 (by decide) ?_
                  refine z_weak [(0, .ref p0), (1, .int p1), (2, .int p2), (3, .int p3), (5, .int s4.2.1), (6, .int s4.2.2)] [0, 1, 2, 3, 5, 6] rfl ?_
                  exact hJ9 (0 : Int32)
                · refine z_aload_n hC 0 dX12_follows_66 rfl rfl ?_
                  refine z_iload_n hC 2 dX12_follows_67 rfl rfl ?_
                  refine z_iload hC 6 dX12_follows_68 rfl ?_
                  refine z_callVi hC (ci := 12) rfl lmRX12_310 (ctX12_holdsIn (vLa V) (vDa V) (vTg V) (vBs V) (vSa V) hp p0 p2 s4.2.2) (by decide) hn0 dX12_follows_70 rfl rfl (Nat.le_of_ble_eq_true rfl) (fun v24 => ?_)
                  refine z_if_ne hC 80 dX12_follows_73 (by decide) (fun _ => ?_) (fun _ => ?_)
                  · refine z_iconst hC (1 : Int32) dX12_follows_76 (by decide) ?_
                    refine z_goto hC 81 dX12_follows_77 (by decide) ?_
                    refine z_weak [(0, .ref p0), (1, .int p1), (2, .int p2), (3, .int p3), (5, .int s4.2.1), (6, .int s4.2.2)] [0, 1, 2, 3, 5, 6] rfl ?_
                    exact hJ9 (1 : Int32)
                  · refine z_iconst hC (0 : Int32) dX12_follows_80 (by decide) ?_
                    refine z_weak [(0, .ref p0), (1, .int p1), (2, .int p2), (3, .int p3), (5, .int s4.2.1), (6, .int s4.2.2)] [0, 1, 2, 3, 5, 6] rfl ?_
                    exact hJ9 (0 : Int32)

theorem dX12_power_0 : decode cX12_power 0 = .ok (.aload_n 0, 1) := by decide +kernel
theorem dX12_power_1 : decode cX12_power 1 = .ok (.iload_n 1, 1) := by decide +kernel
theorem dX12_power_2 : decode cX12_power 2 = .ok (.invokevirtual 343, 3) := by decide +kernel
theorem dX12_power_5 : decode cX12_power 5 = .ok (.ifCond .eq 13, 3) := by decide +kernel
theorem dX12_power_8 : decode cX12_power 8 = .ok (.iload_n 2, 1) := by decide +kernel
theorem dX12_power_9 : decode cX12_power 9 = .ok (.iconst 0, 1) := by decide +kernel
theorem dX12_power_10 : decode cX12_power 10 = .ok (.bipush 9, 2) := by decide +kernel
theorem dX12_power_12 : decode cX12_power 12 = .ok (.invokestatic 99, 3) := by decide +kernel
theorem dX12_power_15 : decode cX12_power 15 = .ok (.ifCond .ne 5, 3) := by decide +kernel
theorem dX12_power_18 : decode cX12_power 18 = .ok (.iconst (-1), 1) := by decide +kernel
theorem dX12_power_19 : decode cX12_power 19 = .ok (.ireturn, 1) := by decide +kernel
theorem dX12_power_20 : decode cX12_power 20 = .ok (.iconst 0, 1) := by decide +kernel
theorem dX12_power_21 : decode cX12_power 21 = .ok (.istore_n 3, 1) := by decide +kernel
theorem dX12_power_22 : decode cX12_power 22 = .ok (.iconst 0, 1) := by decide +kernel
theorem dX12_power_23 : decode cX12_power 23 = .ok (.istore 4, 2) := by decide +kernel
theorem dX12_power_25 : decode cX12_power 25 = .ok (.iload 4, 2) := by decide +kernel
theorem dX12_power_27 : decode cX12_power 27 = .ok (.sipush 1024, 3) := by decide +kernel
theorem dX12_power_30 : decode cX12_power 30 = .ok (.if_icmp .ge 38, 3) := by decide +kernel
theorem dX12_power_33 : decode cX12_power 33 = .ok (.iload_n 3, 1) := by decide +kernel
theorem dX12_power_34 : decode cX12_power 34 = .ok (.aload_n 0, 1) := by decide +kernel
theorem dX12_power_35 : decode cX12_power 35 = .ok (.iload_n 1, 1) := by decide +kernel
theorem dX12_power_36 : decode cX12_power 36 = .ok (.iload 4, 2) := by decide +kernel
theorem dX12_power_38 : decode cX12_power 38 = .ok (.invokevirtual 310, 3) := by decide +kernel
theorem dX12_power_41 : decode cX12_power 41 = .ok (.aload_n 0, 1) := by decide +kernel
theorem dX12_power_42 : decode cX12_power 42 = .ok (.iload_n 1, 1) := by decide +kernel
theorem dX12_power_43 : decode cX12_power 43 = .ok (.iload 4, 2) := by decide +kernel
theorem dX12_power_45 : decode cX12_power 45 = .ok (.iconst 1, 1) := by decide +kernel
theorem dX12_power_46 : decode cX12_power 46 = .ok (.iload_n 2, 1) := by decide +kernel
theorem dX12_power_47 : decode cX12_power 47 = .ok (.ishl, 1) := by decide +kernel
theorem dX12_power_48 : decode cX12_power 48 = .ok (.ixor, 1) := by decide +kernel
theorem dX12_power_49 : decode cX12_power 49 = .ok (.invokevirtual 310, 3) := by decide +kernel
theorem dX12_power_52 : decode cX12_power 52 = .ok (.if_icmp .eq 7, 3) := by decide +kernel
theorem dX12_power_55 : decode cX12_power 55 = .ok (.iconst 1, 1) := by decide +kernel
theorem dX12_power_56 : decode cX12_power 56 = .ok (.goto 4, 3) := by decide +kernel
theorem dX12_power_59 : decode cX12_power 59 = .ok (.iconst 0, 1) := by decide +kernel
theorem dX12_power_60 : decode cX12_power 60 = .ok (.iadd, 1) := by decide +kernel
theorem dX12_power_61 : decode cX12_power 61 = .ok (.istore_n 3, 1) := by decide +kernel
theorem dX12_power_62 : decode cX12_power 62 = .ok (.iinc 4 1, 3) := by decide +kernel
theorem dX12_power_65 : decode cX12_power 65 = .ok (.goto (-40), 3) := by decide +kernel
theorem dX12_power_68 : decode cX12_power 68 = .ok (.iload_n 3, 1) := by decide +kernel
theorem dX12_power_69 : decode cX12_power 69 = .ok (.ireturn, 1) := by decide +kernel
def FX12_power (hp : HP) (p0 : Nat) (p1 : Int32) (p2 : Int32) : Option (Int32) := (rc [12] hp p0 (FX12_isWish hp p0 p1)).bind (fun v1 => if v1 = 0 then some (-1 : Int32) else (FX12_in p2 (0 : Int32) (9 : Int32)).bind (fun v2 => if v2 = 0 then some (-1 : Int32) else (lp (fun (s3 : Int32 × Int32) => if (1024 : Int32) ≤ s3.2 then some (Sum.inl s3.1) else (rc [12] hp p0 (FX12_holdsIn hp p0 p1 s3.2)).bind (fun v5 => (rc [12] hp p0 (FX12_holdsIn hp p0 p1 (s3.2 ^^^ ((1 : Int32) <<< (p2 &&& 31))))).bind (fun v6 => if v5 = v6 then vl (s3.1 + (0 : Int32)) (fun x7 => vl (s3.2 + (1 : Int32)) (fun x8 => some (Sum.inr (x7, x8)))) else vl (s3.1 + (1 : Int32)) (fun x9 => vl (s3.2 + (1 : Int32)) (fun x10 => some (Sum.inr (x9, x10))))))) FU ((0 : Int32), (0 : Int32))).bind (fun (y4 : Int32) => some y4)))
set_option maxHeartbeats 4000000 in
set_option maxRecDepth 100000 in
theorem ctX12_power (l : Launch) (D : va_G) (tg : Nat → ClassId) (bs : Nat) (sa : Nat → Nat) (hp : HP) (p0 : Nat) (p1 : Int32) (p2 : Int32) : Ct l D tg bs sa yX12_power cX12_power 5 (some .int) 2 [.ref p0, .int p1, .int p2] hp (FX12_power hp p0 p1 p2) (fun r => some (.int r)) (fun _ => hp) := by
  refine Ct.of (by decide) (Nat.le_of_ble_eq_true rfl) ?_
  intro V Q hVl hVd hVt hVb hVs hC
  subst hVl; subst hVd; subst hVt; subst hVb; subst hVs
  unfold FX12_power
  show Zs V Q (0, 0) 5 _ _ hp [(0, .ref p0), (1, .int p1), (2, .int p2)] 0 []
  refine z_aload_n hC 0 dX12_power_0 rfl rfl ?_
  refine z_iload_n hC 1 dX12_power_1 rfl rfl ?_
  refine z_callVi hC (ci := 12) rfl lmRX12_343 (ctX12_isWish (vLa V) (vDa V) (vTg V) (vBs V) (vSa V) hp p0 p1) (by decide) hn0 dX12_power_2 rfl rfl (Nat.le_of_ble_eq_true rfl) (fun v1 => ?_)
  refine z_if_eq hC 18 dX12_power_5 (by decide) (fun _ => ?_) (fun _ => ?_)
  · refine z_iconst hC (-1 : Int32) dX12_power_18 (by decide) ?_
    exact z_iret hC (fun h => h) dX12_power_19
  · refine z_iload_n hC 2 dX12_power_8 rfl rfl ?_
    refine z_iconst hC (0 : Int32) dX12_power_9 (by decide) ?_
    refine z_bipush hC (9 : Int32) dX12_power_10 (by decide) ?_
    refine z_callSi hC lmRX12_99 (ctX12_in (vLa V) (vDa V) (vTg V) (vBs V) (vSa V) hp p2 (0 : Int32) (9 : Int32)) (by decide) hn0 dX12_power_12 rfl rfl (Nat.le_of_ble_eq_true rfl) (fun v2 => ?_)
    refine z_if_ne hC 20 dX12_power_15 (by decide) (fun _ => ?_) (fun _ => ?_)
    · refine z_iconst hC (-1 : Int32) dX12_power_18 (by decide) ?_
      exact z_iret hC (fun h => h) dX12_power_19
    · refine z_iconst hC (0 : Int32) dX12_power_20 (by decide) ?_
      refine z_istore_n hC [(0, .ref p0), (1, .int p1), (2, .int p2), (3, .int (0 : Int32))] [1, 2, 3, 0] dX12_power_21 rfl (by decide) rfl ?_
      refine z_iconst hC (0 : Int32) dX12_power_22 (by decide) ?_
      refine z_istore hC [(0, .ref p0), (1, .int p1), (2, .int p2), (3, .int (0 : Int32)), (4, .int (0 : Int32))] [1, 2, 3, 4, 0] dX12_power_23 (by decide) rfl ?_
      refine z_lp (S := Int32 × Int32) (Y := Int32) (fun s3 => hp) (fun s3 => [(0, .ref p0), (1, .int p1), (2, .int p2), (3, .int s3.1), (4, .int s3.2)]) (fun y4 => hp) (fun y4 => [(3, .int y4)]) 68 [] (fun y4 => ?_) (fun s3 => ?_) rfl rfl
      · refine z_iload_n hC 0 dX12_power_68 rfl rfl ?_
        exact z_iret hC (fun h => h) dX12_power_69
      · refine z_iload hC 4 dX12_power_25 rfl ?_
        refine z_sipush hC (1024 : Int32) dX12_power_27 (by decide) ?_
        refine z_icmp_ge hC 68 dX12_power_30 (by decide) (fun _ => ?_) (fun _ => ?_)
        · refine z_weak [(3, .int s3.1)] [3] rfl ?_
          exact z_leaf (fun h => h)
        · refine z_iload_n hC 3 dX12_power_33 rfl rfl ?_
          refine z_aload_n hC 0 dX12_power_34 rfl rfl ?_
          refine z_iload_n hC 1 dX12_power_35 rfl rfl ?_
          refine z_iload hC 4 dX12_power_36 rfl ?_
          refine z_callVi hC (ci := 12) rfl lmRX12_310 (ctX12_holdsIn (vLa V) (vDa V) (vTg V) (vBs V) (vSa V) hp p0 p1 s3.2) (by decide) hn0 dX12_power_38 rfl rfl (Nat.le_of_ble_eq_true rfl) (fun v5 => ?_)
          refine z_aload_n hC 0 dX12_power_41 rfl rfl ?_
          refine z_iload_n hC 1 dX12_power_42 rfl rfl ?_
          refine z_iload hC 4 dX12_power_43 rfl ?_
          refine z_iconst hC (1 : Int32) dX12_power_45 (by decide) ?_
          refine z_iload_n hC 2 dX12_power_46 rfl rfl ?_
          refine z_ishl hC dX12_power_47 ?_
          refine z_ixor hC dX12_power_48 ?_
          refine z_callVi hC (ci := 12) rfl lmRX12_310 (ctX12_holdsIn (vLa V) (vDa V) (vTg V) (vBs V) (vSa V) hp p0 p1 (s3.2 ^^^ ((1 : Int32) <<< (p2 &&& 31)))) (by decide) hn0 dX12_power_49 rfl rfl (Nat.le_of_ble_eq_true rfl) (fun v6 => ?_)
          refine z_icmp_eq hC 59 dX12_power_52 (by decide) (fun _ => ?_) (fun _ => ?_)
          · refine z_iconst hC (0 : Int32) dX12_power_59 (by decide) ?_
            refine z_iadd hC dX12_power_60 ?_
            refine z_vli (fun x7 => ?_)
            refine z_istore_n hC [(0, .ref p0), (1, .int p1), (2, .int p2), (3, .int x7), (4, .int s3.2)] [1, 2, 3, 0, 4] dX12_power_61 rfl (by decide) rfl ?_
            refine z_iincv hC (1 : Int32) 4 (fun x8 => [(0, .ref p0), (1, .int p1), (2, .int p2), (3, .int x7), (4, .int x8)]) [1, 2, 3, 4, 0] dX12_power_62 rfl (by decide) (by decide) (fun _ => rfl) (fun x8 => ?_)
            refine z_goto hC 25 dX12_power_65 (by decide) ?_
            exact z_leaf (fun h => h)
          · refine z_iconst hC (1 : Int32) dX12_power_55 (by decide) ?_
            refine z_goto hC 60 dX12_power_56 (by decide) ?_
            refine z_iadd hC dX12_power_60 ?_
            refine z_vli (fun x9 => ?_)
            refine z_istore_n hC [(0, .ref p0), (1, .int p1), (2, .int p2), (3, .int x9), (4, .int s3.2)] [1, 2, 3, 0, 4] dX12_power_61 rfl (by decide) rfl ?_
            refine z_iincv hC (1 : Int32) 4 (fun x10 => [(0, .ref p0), (1, .int p1), (2, .int p2), (3, .int x9), (4, .int x10)]) [1, 2, 3, 4, 0] dX12_power_62 rfl (by decide) (by decide) (fun _ => rfl) (fun x10 => ?_)
            refine z_goto hC 25 dX12_power_65 (by decide) ?_
            exact z_leaf (fun h => h)

theorem dX12_areLike_0 : decode cX12_areLike 0 = .ok (.iconst 0, 1) := by decide +kernel
theorem dX12_areLike_1 : decode cX12_areLike 1 = .ok (.istore 4, 2) := by decide +kernel
theorem dX12_areLike_3 : decode cX12_areLike 3 = .ok (.iload 4, 2) := by decide +kernel
theorem dX12_areLike_5 : decode cX12_areLike 5 = .ok (.sipush 1024, 3) := by decide +kernel
theorem dX12_areLike_8 : decode cX12_areLike 8 = .ok (.if_icmp .ge 55, 3) := by decide +kernel
theorem dX12_areLike_11 : decode cX12_areLike 11 = .ok (.iconst 1, 1) := by decide +kernel
theorem dX12_areLike_12 : decode cX12_areLike 12 = .ok (.iload_n 2, 1) := by decide +kernel
theorem dX12_areLike_13 : decode cX12_areLike 13 = .ok (.ishl, 1) := by decide +kernel
theorem dX12_areLike_14 : decode cX12_areLike 14 = .ok (.iconst 1, 1) := by decide +kernel
theorem dX12_areLike_15 : decode cX12_areLike 15 = .ok (.iload_n 3, 1) := by decide +kernel
theorem dX12_areLike_16 : decode cX12_areLike 16 = .ok (.ishl, 1) := by decide +kernel
theorem dX12_areLike_17 : decode cX12_areLike 17 = .ok (.ior, 1) := by decide +kernel
theorem dX12_areLike_18 : decode cX12_areLike 18 = .ok (.istore 5, 2) := by decide +kernel
theorem dX12_areLike_20 : decode cX12_areLike 20 = .ok (.iload 4, 2) := by decide +kernel
theorem dX12_areLike_22 : decode cX12_areLike 22 = .ok (.iload_n 2, 1) := by decide +kernel
theorem dX12_areLike_23 : decode cX12_areLike 23 = .ok (.invokestatic 107, 3) := by decide +kernel
theorem dX12_areLike_26 : decode cX12_areLike 26 = .ok (.iload 4, 2) := by decide +kernel
theorem dX12_areLike_28 : decode cX12_areLike 28 = .ok (.iload_n 3, 1) := by decide +kernel
theorem dX12_areLike_29 : decode cX12_areLike 29 = .ok (.invokestatic 107, 3) := by decide +kernel
theorem dX12_areLike_32 : decode cX12_areLike 32 = .ok (.if_icmp .eq 25, 3) := by decide +kernel
theorem dX12_areLike_35 : decode cX12_areLike 35 = .ok (.aload_n 0, 1) := by decide +kernel
theorem dX12_areLike_36 : decode cX12_areLike 36 = .ok (.iload_n 1, 1) := by decide +kernel
theorem dX12_areLike_37 : decode cX12_areLike 37 = .ok (.iload 4, 2) := by decide +kernel
theorem dX12_areLike_39 : decode cX12_areLike 39 = .ok (.invokevirtual 310, 3) := by decide +kernel
theorem dX12_areLike_42 : decode cX12_areLike 42 = .ok (.aload_n 0, 1) := by decide +kernel
theorem dX12_areLike_43 : decode cX12_areLike 43 = .ok (.iload_n 1, 1) := by decide +kernel
theorem dX12_areLike_44 : decode cX12_areLike 44 = .ok (.iload 4, 2) := by decide +kernel
theorem dX12_areLike_46 : decode cX12_areLike 46 = .ok (.iload 5, 2) := by decide +kernel
theorem dX12_areLike_48 : decode cX12_areLike 48 = .ok (.ixor, 1) := by decide +kernel
theorem dX12_areLike_49 : decode cX12_areLike 49 = .ok (.invokevirtual 310, 3) := by decide +kernel
theorem dX12_areLike_52 : decode cX12_areLike 52 = .ok (.if_icmp .eq 5, 3) := by decide +kernel
theorem dX12_areLike_55 : decode cX12_areLike 55 = .ok (.iconst 0, 1) := by decide +kernel
theorem dX12_areLike_56 : decode cX12_areLike 56 = .ok (.ireturn, 1) := by decide +kernel
theorem dX12_areLike_57 : decode cX12_areLike 57 = .ok (.iinc 4 1, 3) := by decide +kernel
theorem dX12_areLike_60 : decode cX12_areLike 60 = .ok (.goto (-57), 3) := by decide +kernel
theorem dX12_areLike_63 : decode cX12_areLike 63 = .ok (.iconst 1, 1) := by decide +kernel
theorem dX12_areLike_64 : decode cX12_areLike 64 = .ok (.ireturn, 1) := by decide +kernel
def FX12_areLike (hp : HP) (p0 : Nat) (p1 : Int32) (p2 : Int32) (p3 : Int32) : Option (Int32) := (lp (fun (s1 : Int32) => if (1024 : Int32) ≤ s1 then some (Sum.inl (Sum.inr ())) else vl (((1 : Int32) <<< (p2 &&& 31)) ||| ((1 : Int32) <<< (p3 &&& 31))) (fun x3 => (FX12_has s1 p2).bind (fun v4 => (FX12_has s1 p3).bind (fun v5 => if v4 = v5 then vl (s1 + (1 : Int32)) (fun x6 => some (Sum.inr x6)) else (rc [12] hp p0 (FX12_holdsIn hp p0 p1 s1)).bind (fun v7 => (rc [12] hp p0 (FX12_holdsIn hp p0 p1 (s1 ^^^ x3))).bind (fun v8 => if v7 = v8 then vl (s1 + (1 : Int32)) (fun x9 => some (Sum.inr x9)) else some (Sum.inl (Sum.inl (0 : Int32))))))))) FU (0 : Int32)).bind (lk (P := Int32) (fun r => r) (fun (y2 : Unit) => some (1 : Int32)))
set_option maxHeartbeats 4000000 in
set_option maxRecDepth 100000 in
theorem ctX12_areLike (l : Launch) (D : va_G) (tg : Nat → ClassId) (bs : Nat) (sa : Nat → Nat) (hp : HP) (p0 : Nat) (p1 : Int32) (p2 : Int32) (p3 : Int32) : Ct l D tg bs sa yX12_areLike cX12_areLike 6 (some .boolean) 1 [.ref p0, .int p1, .int p2, .int p3] hp (FX12_areLike hp p0 p1 p2 p3) (fun r => some (.int r)) (fun _ => hp) := by
  refine Ct.of (by decide) (Nat.le_of_ble_eq_true rfl) ?_
  intro V Q hVl hVd hVt hVb hVs hC
  subst hVl; subst hVd; subst hVt; subst hVb; subst hVs
  unfold FX12_areLike
  show Zs V Q (0, 0) 6 _ _ hp [(0, .ref p0), (1, .int p1), (2, .int p2), (3, .int p3)] 0 []
  refine z_iconst hC (0 : Int32) dX12_areLike_0 (by decide) ?_
  refine z_istore hC [(0, .ref p0), (1, .int p1), (2, .int p2), (3, .int p3), (4, .int (0 : Int32))] [1, 2, 3, 4, 0] dX12_areLike_1 (by decide) rfl ?_
  refine z_lpR (S := Int32) (Y := Unit) (fun s1 => hp) (fun s1 => [(0, .ref p0), (1, .int p1), (2, .int p2), (3, .int p3), (4, .int s1)]) (fun y2 => hp) (fun y2 => []) 63 [] (fun y2 => ?_) (fun s1 => ?_) rfl rfl
  · refine z_iconst hC (1 : Int32) dX12_areLike_63 (by decide) ?_
    exact z_zret hC (by decide) (fun h => h) dX12_areLike_64
  · refine z_iload hC 4 dX12_areLike_3 rfl ?_
    refine z_sipush hC (1024 : Int32) dX12_areLike_5 (by decide) ?_
    refine z_icmp_ge hC 63 dX12_areLike_8 (by decide) (fun _ => ?_) (fun _ => ?_)
    · refine z_weak [] [] rfl ?_
      exact z_leaf (fun h => h)
    · refine z_iconst hC (1 : Int32) dX12_areLike_11 (by decide) ?_
      refine z_iload_n hC 2 dX12_areLike_12 rfl rfl ?_
      refine z_ishl hC dX12_areLike_13 ?_
      refine z_iconst hC (1 : Int32) dX12_areLike_14 (by decide) ?_
      refine z_iload_n hC 3 dX12_areLike_15 rfl rfl ?_
      refine z_ishl hC dX12_areLike_16 ?_
      refine z_ior hC dX12_areLike_17 ?_
      refine z_vli (fun x3 => ?_)
      refine z_istore hC [(0, .ref p0), (1, .int p1), (2, .int p2), (3, .int p3), (4, .int s1), (5, .int x3)] [1, 2, 3, 4, 5, 0] dX12_areLike_18 (by decide) rfl ?_
      refine z_iload hC 4 dX12_areLike_20 rfl ?_
      refine z_iload_n hC 2 dX12_areLike_22 rfl rfl ?_
      refine z_callSi hC lmRX12_107 (ctX12_has (vLa V) (vDa V) (vTg V) (vBs V) (vSa V) hp s1 p2) (by decide) hn0 dX12_areLike_23 rfl rfl (Nat.le_of_ble_eq_true rfl) (fun v4 => ?_)
      refine z_iload hC 4 dX12_areLike_26 rfl ?_
      refine z_iload_n hC 3 dX12_areLike_28 rfl rfl ?_
      refine z_callSi hC lmRX12_107 (ctX12_has (vLa V) (vDa V) (vTg V) (vBs V) (vSa V) hp s1 p3) (by decide) hn0 dX12_areLike_29 rfl rfl (Nat.le_of_ble_eq_true rfl) (fun v5 => ?_)
      refine z_icmp_eq hC 57 dX12_areLike_32 (by decide) (fun _ => ?_) (fun _ => ?_)
      · refine z_iincv hC (1 : Int32) 4 (fun x6 => [(0, .ref p0), (1, .int p1), (2, .int p2), (3, .int p3), (4, .int x6), (5, .int x3)]) [1, 2, 3, 4, 0, 5] dX12_areLike_57 rfl (by decide) (by decide) (fun _ => rfl) (fun x6 => ?_)
        refine z_goto hC 3 dX12_areLike_60 (by decide) ?_
        refine z_weak [(0, .ref p0), (1, .int p1), (2, .int p2), (3, .int p3), (4, .int x6)] [0, 1, 2, 3, 4] rfl ?_
        exact z_leaf (fun h => h)
      · refine z_aload_n hC 0 dX12_areLike_35 rfl rfl ?_
        refine z_iload_n hC 1 dX12_areLike_36 rfl rfl ?_
        refine z_iload hC 4 dX12_areLike_37 rfl ?_
        refine z_callVi hC (ci := 12) rfl lmRX12_310 (ctX12_holdsIn (vLa V) (vDa V) (vTg V) (vBs V) (vSa V) hp p0 p1 s1) (by decide) hn0 dX12_areLike_39 rfl rfl (Nat.le_of_ble_eq_true rfl) (fun v7 => ?_)
        refine z_aload_n hC 0 dX12_areLike_42 rfl rfl ?_
        refine z_iload_n hC 1 dX12_areLike_43 rfl rfl ?_
        refine z_iload hC 4 dX12_areLike_44 rfl ?_
        refine z_iload hC 5 dX12_areLike_46 rfl ?_
        refine z_ixor hC dX12_areLike_48 ?_
        refine z_callVi hC (ci := 12) rfl lmRX12_310 (ctX12_holdsIn (vLa V) (vDa V) (vTg V) (vBs V) (vSa V) hp p0 p1 (s1 ^^^ x3)) (by decide) hn0 dX12_areLike_49 rfl rfl (Nat.le_of_ble_eq_true rfl) (fun v8 => ?_)
        refine z_icmp_eq hC 57 dX12_areLike_52 (by decide) (fun _ => ?_) (fun _ => ?_)
        · refine z_iincv hC (1 : Int32) 4 (fun x9 => [(0, .ref p0), (1, .int p1), (2, .int p2), (3, .int p3), (4, .int x9), (5, .int x3)]) [1, 2, 3, 4, 0, 5] dX12_areLike_57 rfl (by decide) (by decide) (fun _ => rfl) (fun x9 => ?_)
          refine z_goto hC 3 dX12_areLike_60 (by decide) ?_
          refine z_weak [(0, .ref p0), (1, .int p1), (2, .int p2), (3, .int p3), (4, .int x9)] [0, 1, 2, 3, 4] rfl ?_
          exact z_leaf (fun h => h)
        · refine z_iconst hC (0 : Int32) dX12_areLike_55 (by decide) ?_
          exact z_zret hC (by decide) (fun h => h) dX12_areLike_56

theorem dX12_like_0 : decode cX12_like 0 = .ok (.aload_n 0, 1) := by decide +kernel
theorem dX12_like_1 : decode cX12_like 1 = .ok (.iload_n 1, 1) := by decide +kernel
theorem dX12_like_2 : decode cX12_like 2 = .ok (.invokevirtual 343, 3) := by decide +kernel
theorem dX12_like_5 : decode cX12_like 5 = .ok (.ifCond .eq 13, 3) := by decide +kernel
theorem dX12_like_8 : decode cX12_like 8 = .ok (.iload_n 2, 1) := by decide +kernel
theorem dX12_like_9 : decode cX12_like 9 = .ok (.iconst 0, 1) := by decide +kernel
theorem dX12_like_10 : decode cX12_like 10 = .ok (.bipush 9, 2) := by decide +kernel
theorem dX12_like_12 : decode cX12_like 12 = .ok (.invokestatic 99, 3) := by decide +kernel
theorem dX12_like_15 : decode cX12_like 15 = .ok (.ifCond .ne 5, 3) := by decide +kernel
theorem dX12_like_18 : decode cX12_like 18 = .ok (.iconst (-1), 1) := by decide +kernel
theorem dX12_like_19 : decode cX12_like 19 = .ok (.ireturn, 1) := by decide +kernel
theorem dX12_like_20 : decode cX12_like 20 = .ok (.iconst 0, 1) := by decide +kernel
theorem dX12_like_21 : decode cX12_like 21 = .ok (.istore_n 3, 1) := by decide +kernel
theorem dX12_like_22 : decode cX12_like 22 = .ok (.iconst 0, 1) := by decide +kernel
theorem dX12_like_23 : decode cX12_like 23 = .ok (.istore 4, 2) := by decide +kernel
theorem dX12_like_25 : decode cX12_like 25 = .ok (.iload 4, 2) := by decide +kernel
theorem dX12_like_27 : decode cX12_like 27 = .ok (.bipush 10, 2) := by decide +kernel
theorem dX12_like_29 : decode cX12_like 29 = .ok (.if_icmp .ge 33, 3) := by decide +kernel
theorem dX12_like_32 : decode cX12_like 32 = .ok (.iload 4, 2) := by decide +kernel
theorem dX12_like_34 : decode cX12_like 34 = .ok (.iload_n 2, 1) := by decide +kernel
theorem dX12_like_35 : decode cX12_like 35 = .ok (.if_icmp .eq 21, 3) := by decide +kernel
theorem dX12_like_38 : decode cX12_like 38 = .ok (.aload_n 0, 1) := by decide +kernel
theorem dX12_like_39 : decode cX12_like 39 = .ok (.iload_n 1, 1) := by decide +kernel
theorem dX12_like_40 : decode cX12_like 40 = .ok (.iload_n 2, 1) := by decide +kernel
theorem dX12_like_41 : decode cX12_like 41 = .ok (.iload 4, 2) := by decide +kernel
theorem dX12_like_43 : decode cX12_like 43 = .ok (.invokevirtual 406, 3) := by decide +kernel
theorem dX12_like_46 : decode cX12_like 46 = .ok (.ifCond .eq 10, 3) := by decide +kernel
theorem dX12_like_49 : decode cX12_like 49 = .ok (.iload_n 3, 1) := by decide +kernel
theorem dX12_like_50 : decode cX12_like 50 = .ok (.iconst 1, 1) := by decide +kernel
theorem dX12_like_51 : decode cX12_like 51 = .ok (.iload 4, 2) := by decide +kernel
theorem dX12_like_53 : decode cX12_like 53 = .ok (.ishl, 1) := by decide +kernel
theorem dX12_like_54 : decode cX12_like 54 = .ok (.ior, 1) := by decide +kernel
theorem dX12_like_55 : decode cX12_like 55 = .ok (.istore_n 3, 1) := by decide +kernel
theorem dX12_like_56 : decode cX12_like 56 = .ok (.iinc 4 1, 3) := by decide +kernel
theorem dX12_like_59 : decode cX12_like 59 = .ok (.goto (-34), 3) := by decide +kernel
theorem dX12_like_62 : decode cX12_like 62 = .ok (.iload_n 3, 1) := by decide +kernel
theorem dX12_like_63 : decode cX12_like 63 = .ok (.ireturn, 1) := by decide +kernel
def FX12_like (hp : HP) (p0 : Nat) (p1 : Int32) (p2 : Int32) : Option (Int32) := (rc [12] hp p0 (FX12_isWish hp p0 p1)).bind (fun v1 => if v1 = 0 then some (-1 : Int32) else (FX12_in p2 (0 : Int32) (9 : Int32)).bind (fun v2 => if v2 = 0 then some (-1 : Int32) else (lp (fun (s3 : Int32 × Int32) => if (10 : Int32) ≤ s3.2 then some (Sum.inl s3.1) else if s3.2 = p2 then vl (s3.2 + (1 : Int32)) (fun x5 => some (Sum.inr (s3.1, x5))) else (rc [12] hp p0 (FX12_areLike hp p0 p1 p2 s3.2)).bind (fun v6 => if v6 = 0 then vl (s3.2 + (1 : Int32)) (fun x7 => some (Sum.inr (s3.1, x7))) else vl (s3.1 ||| ((1 : Int32) <<< (s3.2 &&& 31))) (fun x8 => vl (s3.2 + (1 : Int32)) (fun x9 => some (Sum.inr (x8, x9)))))) FU ((0 : Int32), (0 : Int32))).bind (fun (y4 : Int32) => some y4)))
set_option maxHeartbeats 4000000 in
set_option maxRecDepth 100000 in
theorem ctX12_like (l : Launch) (D : va_G) (tg : Nat → ClassId) (bs : Nat) (sa : Nat → Nat) (hp : HP) (p0 : Nat) (p1 : Int32) (p2 : Int32) : Ct l D tg bs sa yX12_like cX12_like 5 (some .int) 2 [.ref p0, .int p1, .int p2] hp (FX12_like hp p0 p1 p2) (fun r => some (.int r)) (fun _ => hp) := by
  refine Ct.of (by decide) (Nat.le_of_ble_eq_true rfl) ?_
  intro V Q hVl hVd hVt hVb hVs hC
  subst hVl; subst hVd; subst hVt; subst hVb; subst hVs
  unfold FX12_like
  show Zs V Q (0, 0) 5 _ _ hp [(0, .ref p0), (1, .int p1), (2, .int p2)] 0 []
  refine z_aload_n hC 0 dX12_like_0 rfl rfl ?_
  refine z_iload_n hC 1 dX12_like_1 rfl rfl ?_
  refine z_callVi hC (ci := 12) rfl lmRX12_343 (ctX12_isWish (vLa V) (vDa V) (vTg V) (vBs V) (vSa V) hp p0 p1) (by decide) hn0 dX12_like_2 rfl rfl (Nat.le_of_ble_eq_true rfl) (fun v1 => ?_)
  refine z_if_eq hC 18 dX12_like_5 (by decide) (fun _ => ?_) (fun _ => ?_)
  · refine z_iconst hC (-1 : Int32) dX12_like_18 (by decide) ?_
    exact z_iret hC (fun h => h) dX12_like_19
  · refine z_iload_n hC 2 dX12_like_8 rfl rfl ?_
    refine z_iconst hC (0 : Int32) dX12_like_9 (by decide) ?_
    refine z_bipush hC (9 : Int32) dX12_like_10 (by decide) ?_
    refine z_callSi hC lmRX12_99 (ctX12_in (vLa V) (vDa V) (vTg V) (vBs V) (vSa V) hp p2 (0 : Int32) (9 : Int32)) (by decide) hn0 dX12_like_12 rfl rfl (Nat.le_of_ble_eq_true rfl) (fun v2 => ?_)
    refine z_if_ne hC 20 dX12_like_15 (by decide) (fun _ => ?_) (fun _ => ?_)
    · refine z_iconst hC (-1 : Int32) dX12_like_18 (by decide) ?_
      exact z_iret hC (fun h => h) dX12_like_19
    · refine z_iconst hC (0 : Int32) dX12_like_20 (by decide) ?_
      refine z_istore_n hC [(0, .ref p0), (1, .int p1), (2, .int p2), (3, .int (0 : Int32))] [1, 2, 3, 0] dX12_like_21 rfl (by decide) rfl ?_
      refine z_iconst hC (0 : Int32) dX12_like_22 (by decide) ?_
      refine z_istore hC [(0, .ref p0), (1, .int p1), (2, .int p2), (3, .int (0 : Int32)), (4, .int (0 : Int32))] [1, 2, 3, 4, 0] dX12_like_23 (by decide) rfl ?_
      refine z_lp (S := Int32 × Int32) (Y := Int32) (fun s3 => hp) (fun s3 => [(0, .ref p0), (1, .int p1), (2, .int p2), (3, .int s3.1), (4, .int s3.2)]) (fun y4 => hp) (fun y4 => [(3, .int y4)]) 62 [] (fun y4 => ?_) (fun s3 => ?_) rfl rfl
      · refine z_iload_n hC 0 dX12_like_62 rfl rfl ?_
        exact z_iret hC (fun h => h) dX12_like_63
      · refine z_iload hC 4 dX12_like_25 rfl ?_
        refine z_bipush hC (10 : Int32) dX12_like_27 (by decide) ?_
        refine z_icmp_ge hC 62 dX12_like_29 (by decide) (fun _ => ?_) (fun _ => ?_)
        · refine z_weak [(3, .int s3.1)] [3] rfl ?_
          exact z_leaf (fun h => h)
        · refine z_iload hC 4 dX12_like_32 rfl ?_
          refine z_iload_n hC 2 dX12_like_34 rfl rfl ?_
          refine z_icmp_eq hC 56 dX12_like_35 (by decide) (fun _ => ?_) (fun _ => ?_)
          · refine z_iincv hC (1 : Int32) 4 (fun x5 => [(0, .ref p0), (1, .int p1), (2, .int p2), (3, .int s3.1), (4, .int x5)]) [1, 2, 3, 4, 0] dX12_like_56 rfl (by decide) (by decide) (fun _ => rfl) (fun x5 => ?_)
            refine z_goto hC 25 dX12_like_59 (by decide) ?_
            exact z_leaf (fun h => h)
          · refine z_aload_n hC 0 dX12_like_38 rfl rfl ?_
            refine z_iload_n hC 1 dX12_like_39 rfl rfl ?_
            refine z_iload_n hC 2 dX12_like_40 rfl rfl ?_
            refine z_iload hC 4 dX12_like_41 rfl ?_
            refine z_callVi hC (ci := 12) rfl lmRX12_406 (ctX12_areLike (vLa V) (vDa V) (vTg V) (vBs V) (vSa V) hp p0 p1 p2 s3.2) (by decide) hn0 dX12_like_43 rfl rfl (Nat.le_of_ble_eq_true rfl) (fun v6 => ?_)
            refine z_if_eq hC 56 dX12_like_46 (by decide) (fun _ => ?_) (fun _ => ?_)
            · refine z_iincv hC (1 : Int32) 4 (fun x7 => [(0, .ref p0), (1, .int p1), (2, .int p2), (3, .int s3.1), (4, .int x7)]) [1, 2, 3, 4, 0] dX12_like_56 rfl (by decide) (by decide) (fun _ => rfl) (fun x7 => ?_)
              refine z_goto hC 25 dX12_like_59 (by decide) ?_
              exact z_leaf (fun h => h)
            · refine z_iload_n hC 3 dX12_like_49 rfl rfl ?_
              refine z_iconst hC (1 : Int32) dX12_like_50 (by decide) ?_
              refine z_iload hC 4 dX12_like_51 rfl ?_
              refine z_ishl hC dX12_like_53 ?_
              refine z_ior hC dX12_like_54 ?_
              refine z_vli (fun x8 => ?_)
              refine z_istore_n hC [(0, .ref p0), (1, .int p1), (2, .int p2), (3, .int x8), (4, .int s3.2)] [1, 2, 3, 0, 4] dX12_like_55 rfl (by decide) rfl ?_
              refine z_iincv hC (1 : Int32) 4 (fun x9 => [(0, .ref p0), (1, .int p1), (2, .int p2), (3, .int x8), (4, .int x9)]) [1, 2, 3, 4, 0] dX12_like_56 rfl (by decide) (by decide) (fun _ => rfl) (fun x9 => ?_)
              refine z_goto hC 25 dX12_like_59 (by decide) ?_
              exact z_leaf (fun h => h)

theorem dX12_lessens_0 : decode cX12_lessens 0 = .ok (.iconst 0, 1) := by decide +kernel
theorem dX12_lessens_1 : decode cX12_lessens 1 = .ok (.istore_n 3, 1) := by decide +kernel
theorem dX12_lessens_2 : decode cX12_lessens 2 = .ok (.iconst 0, 1) := by decide +kernel
theorem dX12_lessens_3 : decode cX12_lessens 3 = .ok (.istore 4, 2) := by decide +kernel
theorem dX12_lessens_5 : decode cX12_lessens 5 = .ok (.iload 4, 2) := by decide +kernel
theorem dX12_lessens_7 : decode cX12_lessens 7 = .ok (.bipush 10, 2) := by decide +kernel
theorem dX12_lessens_9 : decode cX12_lessens 9 = .ok (.if_icmp .ge 51, 3) := by decide +kernel
theorem dX12_lessens_12 : decode cX12_lessens 12 = .ok (.iload_n 1, 1) := by decide +kernel
theorem dX12_lessens_13 : decode cX12_lessens 13 = .ok (.iconst 1, 1) := by decide +kernel
theorem dX12_lessens_14 : decode cX12_lessens 14 = .ok (.iload 4, 2) := by decide +kernel
theorem dX12_lessens_16 : decode cX12_lessens 16 = .ok (.ishl, 1) := by decide +kernel
theorem dX12_lessens_17 : decode cX12_lessens 17 = .ok (.ixor, 1) := by decide +kernel
theorem dX12_lessens_18 : decode cX12_lessens 18 = .ok (.istore 5, 2) := by decide +kernel
theorem dX12_lessens_20 : decode cX12_lessens 20 = .ok (.aload_n 0, 1) := by decide +kernel
theorem dX12_lessens_21 : decode cX12_lessens 21 = .ok (.getfield 20, 3) := by decide +kernel
theorem dX12_lessens_24 : decode cX12_lessens 24 = .ok (.iload 5, 2) := by decide +kernel
theorem dX12_lessens_26 : decode cX12_lessens 26 = .ok (.baload, 1) := by decide +kernel
theorem dX12_lessens_27 : decode cX12_lessens 27 = .ok (.ifCond .eq 27, 3) := by decide +kernel
theorem dX12_lessens_30 : decode cX12_lessens 30 = .ok (.aload_n 0, 1) := by decide +kernel
theorem dX12_lessens_31 : decode cX12_lessens 31 = .ok (.getfield 90, 3) := by decide +kernel
theorem dX12_lessens_34 : decode cX12_lessens 34 = .ok (.iload 5, 2) := by decide +kernel
theorem dX12_lessens_36 : decode cX12_lessens 36 = .ok (.iaload, 1) := by decide +kernel
theorem dX12_lessens_37 : decode cX12_lessens 37 = .ok (.iload_n 2, 1) := by decide +kernel
theorem dX12_lessens_38 : decode cX12_lessens 38 = .ok (.if_icmp .gt 6, 3) := by decide +kernel
theorem dX12_lessens_41 : decode cX12_lessens 41 = .ok (.goto 13, 3) := by decide +kernel
theorem dX12_lessens_44 : decode cX12_lessens 44 = .ok (.aload_n 0, 1) := by decide +kernel
theorem dX12_lessens_45 : decode cX12_lessens 45 = .ok (.getfield 90, 3) := by decide +kernel
theorem dX12_lessens_48 : decode cX12_lessens 48 = .ok (.iload 5, 2) := by decide +kernel
theorem dX12_lessens_50 : decode cX12_lessens 50 = .ok (.iload_n 2, 1) := by decide +kernel
theorem dX12_lessens_51 : decode cX12_lessens 51 = .ok (.iastore, 1) := by decide +kernel
theorem dX12_lessens_52 : decode cX12_lessens 52 = .ok (.iconst 1, 1) := by decide +kernel
theorem dX12_lessens_53 : decode cX12_lessens 53 = .ok (.istore_n 3, 1) := by decide +kernel
theorem dX12_lessens_54 : decode cX12_lessens 54 = .ok (.iinc 4 1, 3) := by decide +kernel
theorem dX12_lessens_57 : decode cX12_lessens 57 = .ok (.goto (-52), 3) := by decide +kernel
theorem dX12_lessens_60 : decode cX12_lessens 60 = .ok (.iload_n 3, 1) := by decide +kernel
theorem dX12_lessens_61 : decode cX12_lessens 61 = .ok (.ireturn, 1) := by decide +kernel
def FX12_lessens (hp : HP) (p0 : Nat) (p1 : Int32) (p2 : Int32) : Option (Int32 × HP) := (lp (fun (s1 : Int32 × Int32 × HP) => if (10 : Int32) ≤ s1.2.1 then some (Sum.inl (s1.1, s1.2.2)) else vl (p1 ^^^ ((1 : Int32) <<< (s1.2.1 &&& 31))) (fun x3 => (gR [12] 3 s1.2.2 p0).bind (fun v4 => (rdN 2 s1.2.2 v4 x3).bind (fun v5 => if v5 = 0 then vl (s1.2.1 + (1 : Int32)) (fun x6 => some (Sum.inr (s1.1, x6, s1.2.2))) else (gR [12] 57 s1.2.2 p0).bind (fun v7 => (rdN 0 s1.2.2 v7 x3).bind (fun v8 => if p2 < v8 then (gR [12] 57 s1.2.2 p0).bind (fun v9 => (wrI s1.2.2 v9 x3 p2).bind (fun hp10 => vl (s1.2.1 + (1 : Int32)) (fun x11 => some (Sum.inr ((1 : Int32), x11, hp10))))) else vl (s1.2.1 + (1 : Int32)) (fun x12 => some (Sum.inr (s1.1, x12, s1.2.2))))))))) FU ((0 : Int32), (0 : Int32), hp)).bind (fun (y2 : Int32 × HP) => bz y2.1 (some (y2.1, y2.2)))
set_option maxHeartbeats 4000000 in
set_option maxRecDepth 100000 in
theorem ctX12_lessens (l : Launch) (D : va_G) (tg : Nat → ClassId) (bs : Nat) (sa : Nat → Nat) (hp : HP) (p0 : Nat) (p1 : Int32) (p2 : Int32) : Ct l D tg bs sa yX12_lessens cX12_lessens 6 (some .boolean) 0 [.ref p0, .int p1, .int p2] hp (FX12_lessens hp p0 p1 p2) (fun r => some (.int r.1)) (fun r => r.2) := by
  refine Ct.of (by decide) (Nat.le_of_ble_eq_true rfl) ?_
  intro V Q hVl hVd hVt hVb hVs hC
  subst hVl; subst hVd; subst hVt; subst hVb; subst hVs
  unfold FX12_lessens
  show Zs V Q (0, 0) 6 _ _ hp [(0, .ref p0), (1, .int p1), (2, .int p2)] 0 []
  refine z_iconst hC (0 : Int32) dX12_lessens_0 (by decide) ?_
  refine z_istore_n hC [(0, .ref p0), (1, .int p1), (2, .int p2), (3, .int (0 : Int32))] [1, 2, 3, 0] dX12_lessens_1 rfl (by decide) rfl ?_
  refine z_iconst hC (0 : Int32) dX12_lessens_2 (by decide) ?_
  refine z_istore hC [(0, .ref p0), (1, .int p1), (2, .int p2), (3, .int (0 : Int32)), (4, .int (0 : Int32))] [1, 2, 3, 4, 0] dX12_lessens_3 (by decide) rfl ?_
  refine z_lp (S := Int32 × Int32 × HP) (Y := Int32 × HP) (fun s1 => s1.2.2) (fun s1 => [(0, .ref p0), (1, .int p1), (2, .int p2), (3, .int s1.1), (4, .int s1.2.1)]) (fun y2 => y2.2) (fun y2 => [(3, .int y2.1)]) 60 [] (fun y2 => ?_) (fun s1 => ?_) rfl rfl
  · refine z_iload_n hC 0 dX12_lessens_60 rfl rfl ?_
    exact z_bz (fun hv => z_zret hC hv (fun h => h) dX12_lessens_61)
  · refine z_iload hC 4 dX12_lessens_5 rfl ?_
    refine z_bipush hC (10 : Int32) dX12_lessens_7 (by decide) ?_
    refine z_icmp_ge hC 60 dX12_lessens_9 (by decide) (fun _ => ?_) (fun _ => ?_)
    · refine z_weak [(3, .int s1.1)] [3] rfl ?_
      exact z_leaf (fun h => h)
    · refine z_iload_n hC 1 dX12_lessens_12 rfl rfl ?_
      refine z_iconst hC (1 : Int32) dX12_lessens_13 (by decide) ?_
      refine z_iload hC 4 dX12_lessens_14 rfl ?_
      refine z_ishl hC dX12_lessens_16 ?_
      refine z_ixor hC dX12_lessens_17 ?_
      refine z_vli (fun x3 => ?_)
      refine z_istore hC [(0, .ref p0), (1, .int p1), (2, .int p2), (3, .int s1.1), (4, .int s1.2.1), (5, .int x3)] [1, 2, 3, 4, 5, 0] dX12_lessens_18 (by decide) rfl ?_
      refine z_aload_n hC 0 dX12_lessens_20 rfl rfl ?_
      refine z_getR hC lgRX12_20 dX12_lessens_21 (fun v4 => ?_)
      refine z_iload hC 5 dX12_lessens_24 rfl ?_
      refine z_zald hC dX12_lessens_26 (fun v5 => ?_)
      refine z_if_eq hC 54 dX12_lessens_27 (by decide) (fun _ => ?_) (fun _ => ?_)
      · refine z_iincv hC (1 : Int32) 4 (fun x6 => [(0, .ref p0), (1, .int p1), (2, .int p2), (3, .int s1.1), (4, .int x6), (5, .int x3)]) [1, 2, 3, 4, 0, 5] dX12_lessens_54 rfl (by decide) (by decide) (fun _ => rfl) (fun x6 => ?_)
        refine z_goto hC 5 dX12_lessens_57 (by decide) ?_
        refine z_weak [(0, .ref p0), (1, .int p1), (2, .int p2), (3, .int s1.1), (4, .int x6)] [0, 1, 2, 3, 4] rfl ?_
        exact z_leaf (fun h => h)
      · refine z_aload_n hC 0 dX12_lessens_30 rfl rfl ?_
        refine z_getR hC lgRX12_90 dX12_lessens_31 (fun v7 => ?_)
        refine z_iload hC 5 dX12_lessens_34 rfl ?_
        refine z_iald hC dX12_lessens_36 (fun v8 => ?_)
        refine z_iload_n hC 2 dX12_lessens_37 rfl rfl ?_
        refine z_icmp_gt hC 44 dX12_lessens_38 (by decide) (fun _ => ?_) (fun _ => ?_)
        · refine z_aload_n hC 0 dX12_lessens_44 rfl rfl ?_
          refine z_getR hC lgRX12_90 dX12_lessens_45 (fun v9 => ?_)
          refine z_iload hC 5 dX12_lessens_48 rfl ?_
          refine z_iload_n hC 2 dX12_lessens_50 rfl rfl ?_
          refine z_iast hC dX12_lessens_51 (fun hp10 => ?_)
          refine z_iconst hC (1 : Int32) dX12_lessens_52 (by decide) ?_
          refine z_istore_n hC [(0, .ref p0), (1, .int p1), (2, .int p2), (3, .int (1 : Int32)), (4, .int s1.2.1), (5, .int x3)] [1, 2, 3, 0, 4, 5] dX12_lessens_53 rfl (by decide) rfl ?_
          refine z_iincv hC (1 : Int32) 4 (fun x11 => [(0, .ref p0), (1, .int p1), (2, .int p2), (3, .int (1 : Int32)), (4, .int x11), (5, .int x3)]) [1, 2, 3, 4, 0, 5] dX12_lessens_54 rfl (by decide) (by decide) (fun _ => rfl) (fun x11 => ?_)
          refine z_goto hC 5 dX12_lessens_57 (by decide) ?_
          refine z_weak [(0, .ref p0), (1, .int p1), (2, .int p2), (3, .int (1 : Int32)), (4, .int x11)] [0, 1, 2, 3, 4] rfl ?_
          exact z_leaf (fun h => h)
        · refine z_goto hC 54 dX12_lessens_41 (by decide) ?_
          refine z_iincv hC (1 : Int32) 4 (fun x12 => [(0, .ref p0), (1, .int p1), (2, .int p2), (3, .int s1.1), (4, .int x12), (5, .int x3)]) [1, 2, 3, 4, 0, 5] dX12_lessens_54 rfl (by decide) (by decide) (fun _ => rfl) (fun x12 => ?_)
          refine z_goto hC 5 dX12_lessens_57 (by decide) ?_
          refine z_weak [(0, .ref p0), (1, .int p1), (2, .int p2), (3, .int s1.1), (4, .int x12)] [0, 1, 2, 3, 4] rfl ?_
          exact z_leaf (fun h => h)

theorem dX12_laysSteps_0 : decode cX12_laysSteps 0 = .ok (.iconst 0, 1) := by decide +kernel
theorem dX12_laysSteps_1 : decode cX12_laysSteps 1 = .ok (.istore_n 2, 1) := by decide +kernel
theorem dX12_laysSteps_2 : decode cX12_laysSteps 2 = .ok (.iload_n 2, 1) := by decide +kernel
theorem dX12_laysSteps_3 : decode cX12_laysSteps 3 = .ok (.sipush 1024, 3) := by decide +kernel
theorem dX12_laysSteps_6 : decode cX12_laysSteps 6 = .ok (.if_icmp .ge 40, 3) := by decide +kernel
theorem dX12_laysSteps_9 : decode cX12_laysSteps 9 = .ok (.aload_n 0, 1) := by decide +kernel
theorem dX12_laysSteps_10 : decode cX12_laysSteps 10 = .ok (.getfield 90, 3) := by decide +kernel
theorem dX12_laysSteps_13 : decode cX12_laysSteps 13 = .ok (.iload_n 2, 1) := by decide +kernel
theorem dX12_laysSteps_14 : decode cX12_laysSteps 14 = .ok (.aload_n 0, 1) := by decide +kernel
theorem dX12_laysSteps_15 : decode cX12_laysSteps 15 = .ok (.getfield 20, 3) := by decide +kernel
theorem dX12_laysSteps_18 : decode cX12_laysSteps 18 = .ok (.iload_n 2, 1) := by decide +kernel
theorem dX12_laysSteps_19 : decode cX12_laysSteps 19 = .ok (.baload, 1) := by decide +kernel
theorem dX12_laysSteps_20 : decode cX12_laysSteps 20 = .ok (.ifCond .eq 16, 3) := by decide +kernel
theorem dX12_laysSteps_23 : decode cX12_laysSteps 23 = .ok (.aload_n 0, 1) := by decide +kernel
theorem dX12_laysSteps_24 : decode cX12_laysSteps 24 = .ok (.iload_n 1, 1) := by decide +kernel
theorem dX12_laysSteps_25 : decode cX12_laysSteps 25 = .ok (.iload_n 2, 1) := by decide +kernel
theorem dX12_laysSteps_26 : decode cX12_laysSteps 26 = .ok (.invokevirtual 310, 3) := by decide +kernel
theorem dX12_laysSteps_29 : decode cX12_laysSteps 29 = .ok (.ifCond .eq 7, 3) := by decide +kernel
theorem dX12_laysSteps_32 : decode cX12_laysSteps 32 = .ok (.iconst 0, 1) := by decide +kernel
theorem dX12_laysSteps_33 : decode cX12_laysSteps 33 = .ok (.goto 6, 3) := by decide +kernel
theorem dX12_laysSteps_36 : decode cX12_laysSteps 36 = .ok (.ldc_w 309, 3) := by decide +kernel
theorem dX12_laysSteps_39 : decode cX12_laysSteps 39 = .ok (.iastore, 1) := by decide +kernel
theorem dX12_laysSteps_40 : decode cX12_laysSteps 40 = .ok (.iinc 2 1, 3) := by decide +kernel
theorem dX12_laysSteps_43 : decode cX12_laysSteps 43 = .ok (.goto (-41), 3) := by decide +kernel
theorem dX12_laysSteps_46 : decode cX12_laysSteps 46 = .ok (.iconst 1, 1) := by decide +kernel
theorem dX12_laysSteps_47 : decode cX12_laysSteps 47 = .ok (.istore_n 2, 1) := by decide +kernel
theorem dX12_laysSteps_48 : decode cX12_laysSteps 48 = .ok (.iconst 0, 1) := by decide +kernel
theorem dX12_laysSteps_49 : decode cX12_laysSteps 49 = .ok (.istore_n 3, 1) := by decide +kernel
theorem dX12_laysSteps_50 : decode cX12_laysSteps 50 = .ok (.iload_n 2, 1) := by decide +kernel
theorem dX12_laysSteps_51 : decode cX12_laysSteps 51 = .ok (.ifCond .eq 53, 3) := by decide +kernel
theorem dX12_laysSteps_54 : decode cX12_laysSteps 54 = .ok (.iconst 0, 1) := by decide +kernel
theorem dX12_laysSteps_55 : decode cX12_laysSteps 55 = .ok (.istore_n 2, 1) := by decide +kernel
theorem dX12_laysSteps_56 : decode cX12_laysSteps 56 = .ok (.iconst 0, 1) := by decide +kernel
theorem dX12_laysSteps_57 : decode cX12_laysSteps 57 = .ok (.istore 4, 2) := by decide +kernel
theorem dX12_laysSteps_59 : decode cX12_laysSteps 59 = .ok (.iload 4, 2) := by decide +kernel
theorem dX12_laysSteps_61 : decode cX12_laysSteps 61 = .ok (.sipush 1024, 3) := by decide +kernel
theorem dX12_laysSteps_64 : decode cX12_laysSteps 64 = .ok (.if_icmp .ge 34, 3) := by decide +kernel
theorem dX12_laysSteps_67 : decode cX12_laysSteps 67 = .ok (.aload_n 0, 1) := by decide +kernel
theorem dX12_laysSteps_68 : decode cX12_laysSteps 68 = .ok (.getfield 90, 3) := by decide +kernel
theorem dX12_laysSteps_71 : decode cX12_laysSteps 71 = .ok (.iload 4, 2) := by decide +kernel
theorem dX12_laysSteps_73 : decode cX12_laysSteps 73 = .ok (.iaload, 1) := by decide +kernel
theorem dX12_laysSteps_74 : decode cX12_laysSteps 74 = .ok (.iload_n 3, 1) := by decide +kernel
theorem dX12_laysSteps_75 : decode cX12_laysSteps 75 = .ok (.if_icmp .ne 17, 3) := by decide +kernel
theorem dX12_laysSteps_78 : decode cX12_laysSteps 78 = .ok (.aload_n 0, 1) := by decide +kernel
theorem dX12_laysSteps_79 : decode cX12_laysSteps 79 = .ok (.iload 4, 2) := by decide +kernel
theorem dX12_laysSteps_81 : decode cX12_laysSteps 81 = .ok (.iload_n 3, 1) := by decide +kernel
theorem dX12_laysSteps_82 : decode cX12_laysSteps 82 = .ok (.iconst 1, 1) := by decide +kernel
theorem dX12_laysSteps_83 : decode cX12_laysSteps 83 = .ok (.iadd, 1) := by decide +kernel
theorem dX12_laysSteps_84 : decode cX12_laysSteps 84 = .ok (.invokevirtual 409, 3) := by decide +kernel
theorem dX12_laysSteps_87 : decode cX12_laysSteps 87 = .ok (.ifCond .eq 5, 3) := by decide +kernel
theorem dX12_laysSteps_90 : decode cX12_laysSteps 90 = .ok (.iconst 1, 1) := by decide +kernel
theorem dX12_laysSteps_91 : decode cX12_laysSteps 91 = .ok (.istore_n 2, 1) := by decide +kernel
theorem dX12_laysSteps_92 : decode cX12_laysSteps 92 = .ok (.iinc 4 1, 3) := by decide +kernel
theorem dX12_laysSteps_95 : decode cX12_laysSteps 95 = .ok (.goto (-36), 3) := by decide +kernel
theorem dX12_laysSteps_98 : decode cX12_laysSteps 98 = .ok (.iinc 3 1, 3) := by decide +kernel
theorem dX12_laysSteps_101 : decode cX12_laysSteps 101 = .ok (.goto (-51), 3) := by decide +kernel
theorem dX12_laysSteps_104 : decode cX12_laysSteps 104 = .ok (.return_, 1) := by decide +kernel
def FX12_laysSteps (hp : HP) (p0 : Nat) (p1 : Int32) : Option (HP) := (lp (fun (s1 : Int32 × HP) => if (1024 : Int32) ≤ s1.1 then some (Sum.inl s1.2) else (gR [12] 57 s1.2 p0).bind (fun v14 => (gR [12] 3 s1.2 p0).bind (fun v15 => (rdN 2 s1.2 v15 s1.1).bind (fun v16 => jn (A := Int32) (fun a17 => (wrI s1.2 v14 s1.1 a17).bind (fun hp19 => vl (s1.1 + (1 : Int32)) (fun x20 => some (Sum.inr (x20, hp19))))) (fun J18 => if v16 = 0 then J18 (1000000 : Int32) else (rc [12] s1.2 p0 (FX12_holdsIn s1.2 p0 p1 s1.1)).bind (fun v21 => if v21 = 0 then J18 (1000000 : Int32) else J18 (0 : Int32))))))) FU ((0 : Int32), hp)).bind (fun (y2 : HP) => (lp (fun (s3 : Int32 × Int32 × HP) => if s3.1 = 0 then some (Sum.inl s3.2.2) else (lp (fun (s5 : Int32 × Int32 × HP) => if (1024 : Int32) ≤ s5.2.1 then some (Sum.inl (s5.1, s5.2.2)) else (gR [12] 57 s5.2.2 p0).bind (fun v8 => (rdN 0 s5.2.2 v8 s5.2.1).bind (fun v9 => if v9 = s3.2.1 then (rc [12] s5.2.2 p0 (FX12_lessens s5.2.2 p0 s5.2.1 (s3.2.1 + (1 : Int32)))).bind (fun w10 => if w10.1 = 0 then vl (s5.2.1 + (1 : Int32)) (fun x11 => some (Sum.inr (s5.1, x11, w10.2))) else vl (s5.2.1 + (1 : Int32)) (fun x12 => some (Sum.inr ((1 : Int32), x12, w10.2)))) else vl (s5.2.1 + (1 : Int32)) (fun x13 => some (Sum.inr (s5.1, x13, s5.2.2)))))) FU ((0 : Int32), (0 : Int32), s3.2.2)).bind (fun (y6 : Int32 × HP) => vl (s3.2.1 + (1 : Int32)) (fun x7 => some (Sum.inr (y6.1, x7, y6.2))))) FU ((1 : Int32), (0 : Int32), y2)).bind (fun (y4 : HP) => some y4))
set_option maxHeartbeats 4000000 in
set_option maxRecDepth 100000 in
theorem ctX12_laysSteps (l : Launch) (D : va_G) (tg : Nat → ClassId) (bs : Nat) (sa : Nat → Nat) (hp : HP) (p0 : Nat) (p1 : Int32) : Ct l D tg bs sa yX12_laysSteps cX12_laysSteps 5 none 1 [.ref p0, .int p1] hp (FX12_laysSteps hp p0 p1) (fun _ => none) (fun r => r) := by
  refine Ct.of (by decide) (Nat.le_of_ble_eq_true rfl) ?_
  intro V Q hVl hVd hVt hVb hVs hC
  subst hVl; subst hVd; subst hVt; subst hVb; subst hVs
  unfold FX12_laysSteps
  show Zs V Q (0, 0) 5 _ _ hp [(0, .ref p0), (1, .int p1)] 0 []
  refine z_iconst hC (0 : Int32) dX12_laysSteps_0 (by decide) ?_
  refine z_istore_n hC [(0, .ref p0), (1, .int p1), (2, .int (0 : Int32))] [1, 2, 0] dX12_laysSteps_1 rfl (by decide) rfl ?_
  refine z_lp (S := Int32 × HP) (Y := HP) (fun s1 => s1.2) (fun s1 => [(0, .ref p0), (1, .int p1), (2, .int s1.1)]) (fun y2 => y2) (fun y2 => [(0, .ref p0)]) 46 [] (fun y2 => ?_) (fun s1 => ?_) rfl rfl
  · refine z_iconst hC (1 : Int32) dX12_laysSteps_46 (by decide) ?_
    refine z_istore_n hC [(0, .ref p0), (2, .int (1 : Int32))] [1, 0] dX12_laysSteps_47 rfl (by decide) rfl ?_
    refine z_iconst hC (0 : Int32) dX12_laysSteps_48 (by decide) ?_
    refine z_istore_n hC [(0, .ref p0), (2, .int (1 : Int32)), (3, .int (0 : Int32))] [1, 2, 0] dX12_laysSteps_49 rfl (by decide) rfl ?_
    refine z_lp (S := Int32 × Int32 × HP) (Y := HP) (fun s3 => s3.2.2) (fun s3 => [(0, .ref p0), (2, .int s3.1), (3, .int s3.2.1)]) (fun y4 => y4) (fun y4 => []) 104 [] (fun y4 => ?_) (fun s3 => ?_) rfl rfl
    · exact z_vret hC (fun h => h) dX12_laysSteps_104
    · refine z_iload_n hC 1 dX12_laysSteps_50 rfl rfl ?_
      refine z_if_eq hC 104 dX12_laysSteps_51 (by decide) (fun _ => ?_) (fun _ => ?_)
      · refine z_weak [] [] rfl ?_
        exact z_leaf (fun h => h)
      · refine z_iconst hC (0 : Int32) dX12_laysSteps_54 (by decide) ?_
        refine z_istore_n hC [(0, .ref p0), (2, .int (0 : Int32)), (3, .int s3.2.1)] [1, 0, 2] dX12_laysSteps_55 rfl (by decide) rfl ?_
        refine z_iconst hC (0 : Int32) dX12_laysSteps_56 (by decide) ?_
        refine z_istore hC [(0, .ref p0), (2, .int (0 : Int32)), (3, .int s3.2.1), (4, .int (0 : Int32))] [1, 2, 3, 0] dX12_laysSteps_57 (by decide) rfl ?_
        refine z_lp (S := Int32 × Int32 × HP) (Y := Int32 × HP) (fun s5 => s5.2.2) (fun s5 => [(0, .ref p0), (2, .int s5.1), (3, .int s3.2.1), (4, .int s5.2.1)]) (fun y6 => y6.2) (fun y6 => [(0, .ref p0), (2, .int y6.1), (3, .int s3.2.1)]) 98 [] (fun y6 => ?_) (fun s5 => ?_) rfl rfl
        · refine z_iincv hC (1 : Int32) 2 (fun x7 => [(0, .ref p0), (2, .int y6.1), (3, .int x7)]) [1, 2, 0] dX12_laysSteps_98 rfl (by decide) (by decide) (fun _ => rfl) (fun x7 => ?_)
          refine z_goto hC 50 dX12_laysSteps_101 (by decide) ?_
          exact z_leaf (fun h => h)
        · refine z_iload hC 3 dX12_laysSteps_59 rfl ?_
          refine z_sipush hC (1024 : Int32) dX12_laysSteps_61 (by decide) ?_
          refine z_icmp_ge hC 98 dX12_laysSteps_64 (by decide) (fun _ => ?_) (fun _ => ?_)
          · refine z_weak [(0, .ref p0), (2, .int s5.1), (3, .int s3.2.1)] [0, 1, 2] rfl ?_
            exact z_leaf (fun h => h)
          · refine z_aload_n hC 0 dX12_laysSteps_67 rfl rfl ?_
            refine z_getR hC lgRX12_90 dX12_laysSteps_68 (fun v8 => ?_)
            refine z_iload hC 3 dX12_laysSteps_71 rfl ?_
            refine z_iald hC dX12_laysSteps_73 (fun v9 => ?_)
            refine z_iload_n hC 2 dX12_laysSteps_74 rfl rfl ?_
            refine z_icmp_ne hC 92 dX12_laysSteps_75 (by decide) (fun _ => ?_) (fun _ => ?_)
            · refine z_aload_n hC 0 dX12_laysSteps_78 rfl rfl ?_
              refine z_iload hC 3 dX12_laysSteps_79 rfl ?_
              refine z_iload_n hC 2 dX12_laysSteps_81 rfl rfl ?_
              refine z_iconst hC (1 : Int32) dX12_laysSteps_82 (by decide) ?_
              refine z_iadd hC dX12_laysSteps_83 ?_
              refine z_callVi hC (ci := 12) rfl lmRX12_409 (ctX12_lessens (vLa V) (vDa V) (vTg V) (vBs V) (vSa V) s5.2.2 p0 s5.2.1 (s3.2.1 + (1 : Int32))) (by decide) hn0 dX12_laysSteps_84 rfl rfl (Nat.le_of_ble_eq_true rfl) (fun w10 => ?_)
              refine z_if_eq hC 92 dX12_laysSteps_87 (by decide) (fun _ => ?_) (fun _ => ?_)
              · refine z_iincv hC (1 : Int32) 3 (fun x11 => [(0, .ref p0), (2, .int s5.1), (3, .int s3.2.1), (4, .int x11)]) [1, 2, 3, 0] dX12_laysSteps_92 rfl (by decide) (by decide) (fun _ => rfl) (fun x11 => ?_)
                refine z_goto hC 59 dX12_laysSteps_95 (by decide) ?_
                exact z_leaf (fun h => h)
              · refine z_iconst hC (1 : Int32) dX12_laysSteps_90 (by decide) ?_
                refine z_istore_n hC [(0, .ref p0), (2, .int (1 : Int32)), (3, .int s3.2.1), (4, .int s5.2.1)] [1, 0, 2, 3] dX12_laysSteps_91 rfl (by decide) rfl ?_
                refine z_iincv hC (1 : Int32) 3 (fun x12 => [(0, .ref p0), (2, .int (1 : Int32)), (3, .int s3.2.1), (4, .int x12)]) [1, 2, 3, 0] dX12_laysSteps_92 rfl (by decide) (by decide) (fun _ => rfl) (fun x12 => ?_)
                refine z_goto hC 59 dX12_laysSteps_95 (by decide) ?_
                exact z_leaf (fun h => h)
            · refine z_iincv hC (1 : Int32) 3 (fun x13 => [(0, .ref p0), (2, .int s5.1), (3, .int s3.2.1), (4, .int x13)]) [1, 2, 3, 0] dX12_laysSteps_92 rfl (by decide) (by decide) (fun _ => rfl) (fun x13 => ?_)
              refine z_goto hC 59 dX12_laysSteps_95 (by decide) ?_
              exact z_leaf (fun h => h)
  · refine z_iload_n hC 2 dX12_laysSteps_2 rfl rfl ?_
    refine z_sipush hC (1024 : Int32) dX12_laysSteps_3 (by decide) ?_
    refine z_icmp_ge hC 46 dX12_laysSteps_6 (by decide) (fun _ => ?_) (fun _ => ?_)
    · refine z_weak [(0, .ref p0)] [0] rfl ?_
      exact z_leaf (fun h => h)
    · refine z_aload_n hC 0 dX12_laysSteps_9 rfl rfl ?_
      refine z_getR hC lgRX12_90 dX12_laysSteps_10 (fun v14 => ?_)
      refine z_iload_n hC 2 dX12_laysSteps_13 rfl rfl ?_
      refine z_aload_n hC 0 dX12_laysSteps_14 rfl rfl ?_
      refine z_getR hC lgRX12_20 dX12_laysSteps_15 (fun v15 => ?_)
      refine z_iload_n hC 2 dX12_laysSteps_18 rfl rfl ?_
      refine z_zald hC dX12_laysSteps_19 (fun v16 => ?_)
      refine z_jn (A := Int32) (fun a17 => s1.2) (fun a17 => [(0, .ref p0), (1, .int p1), (2, .int s1.1)]) 39 (fun a17 => [.int a17, .int s1.1, .ref v14]) (fun a17 => ?_) (fun J18 hJ18 => ?_)
      · refine z_iast hC dX12_laysSteps_39 (fun hp19 => ?_)
        refine z_iincv hC (1 : Int32) 2 (fun x20 => [(0, .ref p0), (1, .int p1), (2, .int x20)]) [1, 2, 0] dX12_laysSteps_40 rfl (by decide) (by decide) (fun _ => rfl) (fun x20 => ?_)
        refine z_goto hC 2 dX12_laysSteps_43 (by decide) ?_
        exact z_leaf (fun h => h)
      · refine z_if_eq hC 36 dX12_laysSteps_20 (by decide) (fun _ => ?_) (fun _ => ?_)
        · refine z_ldcw hC (1000000 : Int32) lcRX12_309 dX12_laysSteps_36 ?_
          exact hJ18 (1000000 : Int32)
        · refine z_aload_n hC 0 dX12_laysSteps_23 rfl rfl ?_
          refine z_iload_n hC 1 dX12_laysSteps_24 rfl rfl ?_
          refine z_iload_n hC 2 dX12_laysSteps_25 rfl rfl ?_
          refine z_callVi hC (ci := 12) rfl lmRX12_310 (ctX12_holdsIn (vLa V) (vDa V) (vTg V) (vBs V) (vSa V) s1.2 p0 p1 s1.1) (by decide) hn0 dX12_laysSteps_26 rfl rfl (Nat.le_of_ble_eq_true rfl) (fun v21 => ?_)
          refine z_if_eq hC 36 dX12_laysSteps_29 (by decide) (fun _ => ?_) (fun _ => ?_)
          · refine z_ldcw hC (1000000 : Int32) lcRX12_309 dX12_laysSteps_36 ?_
            exact hJ18 (1000000 : Int32)
          · refine z_iconst hC (0 : Int32) dX12_laysSteps_32 (by decide) ?_
            refine z_goto hC 39 dX12_laysSteps_33 (by decide) ?_
            exact hJ18 (0 : Int32)

theorem dX12_ladder_0 : decode cX12_ladder 0 = .ok (.aload_n 0, 1) := by decide +kernel
theorem dX12_ladder_1 : decode cX12_ladder 1 = .ok (.iload_n 1, 1) := by decide +kernel
theorem dX12_ladder_2 : decode cX12_ladder 2 = .ok (.invokevirtual 343, 3) := by decide +kernel
theorem dX12_ladder_5 : decode cX12_ladder 5 = .ok (.ifCond .eq 12, 3) := by decide +kernel
theorem dX12_ladder_8 : decode cX12_ladder 8 = .ok (.iload_n 2, 1) := by decide +kernel
theorem dX12_ladder_9 : decode cX12_ladder 9 = .ok (.iconst 0, 1) := by decide +kernel
theorem dX12_ladder_10 : decode cX12_ladder 10 = .ok (.iconst 1, 1) := by decide +kernel
theorem dX12_ladder_11 : decode cX12_ladder 11 = .ok (.invokestatic 99, 3) := by decide +kernel
theorem dX12_ladder_14 : decode cX12_ladder 14 = .ok (.ifCond .ne 5, 3) := by decide +kernel
theorem dX12_ladder_17 : decode cX12_ladder 17 = .ok (.iconst (-1), 1) := by decide +kernel
theorem dX12_ladder_18 : decode cX12_ladder 18 = .ok (.ireturn, 1) := by decide +kernel
theorem dX12_ladder_19 : decode cX12_ladder 19 = .ok (.aload_n 0, 1) := by decide +kernel
theorem dX12_ladder_20 : decode cX12_ladder 20 = .ok (.getfield 20, 3) := by decide +kernel
theorem dX12_ladder_23 : decode cX12_ladder 23 = .ok (.aload_n 0, 1) := by decide +kernel
theorem dX12_ladder_24 : decode cX12_ladder 24 = .ok (.getfield 121, 3) := by decide +kernel
theorem dX12_ladder_27 : decode cX12_ladder 27 = .ok (.baload, 1) := by decide +kernel
theorem dX12_ladder_28 : decode cX12_ladder 28 = .ok (.ifCond .ne 6, 3) := by decide +kernel
theorem dX12_ladder_31 : decode cX12_ladder 31 = .ok (.bipush (-2), 2) := by decide +kernel
theorem dX12_ladder_33 : decode cX12_ladder 33 = .ok (.ireturn, 1) := by decide +kernel
theorem dX12_ladder_34 : decode cX12_ladder 34 = .ok (.aload_n 0, 1) := by decide +kernel
theorem dX12_ladder_35 : decode cX12_ladder 35 = .ok (.iload_n 1, 1) := by decide +kernel
theorem dX12_ladder_36 : decode cX12_ladder 36 = .ok (.invokevirtual 412, 3) := by decide +kernel
theorem dX12_ladder_39 : decode cX12_ladder 39 = .ok (.aload_n 0, 1) := by decide +kernel
theorem dX12_ladder_40 : decode cX12_ladder 40 = .ok (.getfield 90, 3) := by decide +kernel
theorem dX12_ladder_43 : decode cX12_ladder 43 = .ok (.aload_n 0, 1) := by decide +kernel
theorem dX12_ladder_44 : decode cX12_ladder 44 = .ok (.getfield 121, 3) := by decide +kernel
theorem dX12_ladder_47 : decode cX12_ladder 47 = .ok (.iaload, 1) := by decide +kernel
theorem dX12_ladder_48 : decode cX12_ladder 48 = .ok (.istore_n 3, 1) := by decide +kernel
theorem dX12_ladder_49 : decode cX12_ladder 49 = .ok (.iload_n 3, 1) := by decide +kernel
theorem dX12_ladder_50 : decode cX12_ladder 50 = .ok (.ldc_w 309, 3) := by decide +kernel
theorem dX12_ladder_53 : decode cX12_ladder 53 = .ok (.if_icmp .ne 6, 3) := by decide +kernel
theorem dX12_ladder_56 : decode cX12_ladder 56 = .ok (.bipush (-2), 2) := by decide +kernel
theorem dX12_ladder_58 : decode cX12_ladder 58 = .ok (.ireturn, 1) := by decide +kernel
theorem dX12_ladder_59 : decode cX12_ladder 59 = .ok (.iload_n 2, 1) := by decide +kernel
theorem dX12_ladder_60 : decode cX12_ladder 60 = .ok (.ifCond .ne 5, 3) := by decide +kernel
theorem dX12_ladder_63 : decode cX12_ladder 63 = .ok (.iload_n 3, 1) := by decide +kernel
theorem dX12_ladder_64 : decode cX12_ladder 64 = .ok (.ireturn, 1) := by decide +kernel
theorem dX12_ladder_65 : decode cX12_ladder 65 = .ok (.iconst 0, 1) := by decide +kernel
theorem dX12_ladder_66 : decode cX12_ladder 66 = .ok (.istore 4, 2) := by decide +kernel
theorem dX12_ladder_68 : decode cX12_ladder 68 = .ok (.iload 4, 2) := by decide +kernel
theorem dX12_ladder_70 : decode cX12_ladder 70 = .ok (.bipush 10, 2) := by decide +kernel
theorem dX12_ladder_72 : decode cX12_ladder 72 = .ok (.if_icmp .ge 36, 3) := by decide +kernel
theorem dX12_ladder_75 : decode cX12_ladder 75 = .ok (.iload_n 3, 1) := by decide +kernel
theorem dX12_ladder_76 : decode cX12_ladder 76 = .ok (.ifCond .le 26, 3) := by decide +kernel
theorem dX12_ladder_79 : decode cX12_ladder 79 = .ok (.aload_n 0, 1) := by decide +kernel
theorem dX12_ladder_80 : decode cX12_ladder 80 = .ok (.getfield 90, 3) := by decide +kernel
theorem dX12_ladder_83 : decode cX12_ladder 83 = .ok (.aload_n 0, 1) := by decide +kernel
theorem dX12_ladder_84 : decode cX12_ladder 84 = .ok (.getfield 121, 3) := by decide +kernel
theorem dX12_ladder_87 : decode cX12_ladder 87 = .ok (.iconst 1, 1) := by decide +kernel
theorem dX12_ladder_88 : decode cX12_ladder 88 = .ok (.iload 4, 2) := by decide +kernel
theorem dX12_ladder_90 : decode cX12_ladder 90 = .ok (.ishl, 1) := by decide +kernel
theorem dX12_ladder_91 : decode cX12_ladder 91 = .ok (.ixor, 1) := by decide +kernel
theorem dX12_ladder_92 : decode cX12_ladder 92 = .ok (.iaload, 1) := by decide +kernel
theorem dX12_ladder_93 : decode cX12_ladder 93 = .ok (.iload_n 3, 1) := by decide +kernel
theorem dX12_ladder_94 : decode cX12_ladder 94 = .ok (.iconst 1, 1) := by decide +kernel
theorem dX12_ladder_95 : decode cX12_ladder 95 = .ok (.isub, 1) := by decide +kernel
theorem dX12_ladder_96 : decode cX12_ladder 96 = .ok (.if_icmp .ne 6, 3) := by decide +kernel
theorem dX12_ladder_99 : decode cX12_ladder 99 = .ok (.iload 4, 2) := by decide +kernel
theorem dX12_ladder_101 : decode cX12_ladder 101 = .ok (.ireturn, 1) := by decide +kernel
theorem dX12_ladder_102 : decode cX12_ladder 102 = .ok (.iinc 4 1, 3) := by decide +kernel
theorem dX12_ladder_105 : decode cX12_ladder 105 = .ok (.goto (-37), 3) := by decide +kernel
theorem dX12_ladder_108 : decode cX12_ladder 108 = .ok (.bipush (-3), 2) := by decide +kernel
theorem dX12_ladder_110 : decode cX12_ladder 110 = .ok (.ireturn, 1) := by decide +kernel
def FX12_ladder (hp : HP) (p0 : Nat) (p1 : Int32) (p2 : Int32) : Option (Int32 × HP) := (rc [12] hp p0 (FX12_isWish hp p0 p1)).bind (fun v1 => if v1 = 0 then some ((-1 : Int32), hp) else (FX12_in p2 (0 : Int32) (1 : Int32)).bind (fun v2 => if v2 = 0 then some ((-1 : Int32), hp) else (gR [12] 3 hp p0).bind (fun v3 => (gI [12] 7 hp p0).bind (fun v4 => (rdN 2 hp v3 v4).bind (fun v5 => if v5 = 0 then some ((-2 : Int32), hp) else (rc [12] hp p0 (FX12_laysSteps hp p0 p1)).bind (fun w6 => (gR [12] 57 w6 p0).bind (fun v7 => (gI [12] 7 w6 p0).bind (fun v8 => (rdN 0 w6 v7 v8).bind (fun v9 => if v9 = (1000000 : Int32) then some ((-2 : Int32), w6) else if p2 = 0 then some (v9, w6) else (lp (fun (s10 : Int32) => if (10 : Int32) ≤ s10 then some (Sum.inl (Sum.inr ())) else if v9 ≤ 0 then vl (s10 + (1 : Int32)) (fun x12 => some (Sum.inr x12)) else (gR [12] 57 w6 p0).bind (fun v13 => (gI [12] 7 w6 p0).bind (fun v14 => (rdN 0 w6 v13 (v14 ^^^ ((1 : Int32) <<< (s10 &&& 31)))).bind (fun v15 => if v15 = (v9 - (1 : Int32)) then some (Sum.inl (Sum.inl (s10, w6))) else vl (s10 + (1 : Int32)) (fun x16 => some (Sum.inr x16)))))) FU (0 : Int32)).bind (lk (P := Int32 × HP) (fun r => r) (fun (y11 : Unit) => some ((-3 : Int32), w6))))))))))))
set_option maxHeartbeats 4000000 in
set_option maxRecDepth 100000 in
theorem ctX12_ladder (l : Launch) (D : va_G) (tg : Nat → ClassId) (bs : Nat) (sa : Nat → Nat) (hp : HP) (p0 : Nat) (p1 : Int32) (p2 : Int32) : Ct l D tg bs sa yX12_ladder cX12_ladder 5 (some .int) 2 [.ref p0, .int p1, .int p2] hp (FX12_ladder hp p0 p1 p2) (fun r => some (.int r.1)) (fun r => r.2) := by
  refine Ct.of (by decide) (Nat.le_of_ble_eq_true rfl) ?_
  intro V Q hVl hVd hVt hVb hVs hC
  subst hVl; subst hVd; subst hVt; subst hVb; subst hVs
  unfold FX12_ladder
  show Zs V Q (0, 0) 5 _ _ hp [(0, .ref p0), (1, .int p1), (2, .int p2)] 0 []
  refine z_aload_n hC 0 dX12_ladder_0 rfl rfl ?_
  refine z_iload_n hC 1 dX12_ladder_1 rfl rfl ?_
  refine z_callVi hC (ci := 12) rfl lmRX12_343 (ctX12_isWish (vLa V) (vDa V) (vTg V) (vBs V) (vSa V) hp p0 p1) (by decide) hn0 dX12_ladder_2 rfl rfl (Nat.le_of_ble_eq_true rfl) (fun v1 => ?_)
  refine z_if_eq hC 17 dX12_ladder_5 (by decide) (fun _ => ?_) (fun _ => ?_)
  · refine z_iconst hC (-1 : Int32) dX12_ladder_17 (by decide) ?_
    exact z_iret hC (fun h => h) dX12_ladder_18
  · refine z_iload_n hC 2 dX12_ladder_8 rfl rfl ?_
    refine z_iconst hC (0 : Int32) dX12_ladder_9 (by decide) ?_
    refine z_iconst hC (1 : Int32) dX12_ladder_10 (by decide) ?_
    refine z_callSi hC lmRX12_99 (ctX12_in (vLa V) (vDa V) (vTg V) (vBs V) (vSa V) hp p2 (0 : Int32) (1 : Int32)) (by decide) hn0 dX12_ladder_11 rfl rfl (Nat.le_of_ble_eq_true rfl) (fun v2 => ?_)
    refine z_if_ne hC 19 dX12_ladder_14 (by decide) (fun _ => ?_) (fun _ => ?_)
    · refine z_iconst hC (-1 : Int32) dX12_ladder_17 (by decide) ?_
      exact z_iret hC (fun h => h) dX12_ladder_18
    · refine z_aload_n hC 0 dX12_ladder_19 rfl rfl ?_
      refine z_getR hC lgRX12_20 dX12_ladder_20 (fun v3 => ?_)
      refine z_aload_n hC 0 dX12_ladder_23 rfl rfl ?_
      refine z_getI hC lgRX12_121 dX12_ladder_24 (fun v4 => ?_)
      refine z_zald hC dX12_ladder_27 (fun v5 => ?_)
      refine z_if_ne hC 34 dX12_ladder_28 (by decide) (fun _ => ?_) (fun _ => ?_)
      · refine z_bipush hC (-2 : Int32) dX12_ladder_31 (by decide) ?_
        exact z_iret hC (fun h => h) dX12_ladder_33
      · refine z_aload_n hC 0 dX12_ladder_34 rfl rfl ?_
        refine z_iload_n hC 1 dX12_ladder_35 rfl rfl ?_
        refine z_callVv hC (ci := 12) rfl lmRX12_412 (ctX12_laysSteps (vLa V) (vDa V) (vTg V) (vBs V) (vSa V) hp p0 p1) (by decide) hn0 dX12_ladder_36 rfl rfl (Nat.le_of_ble_eq_true rfl) (fun w6 => ?_)
        refine z_aload_n hC 0 dX12_ladder_39 rfl rfl ?_
        refine z_getR hC lgRX12_90 dX12_ladder_40 (fun v7 => ?_)
        refine z_aload_n hC 0 dX12_ladder_43 rfl rfl ?_
        refine z_getI hC lgRX12_121 dX12_ladder_44 (fun v8 => ?_)
        refine z_iald hC dX12_ladder_47 (fun v9 => ?_)
        refine z_istore_n hC [(0, .ref p0), (1, .int p1), (2, .int p2), (3, .int v9)] [1, 2, 3, 0] dX12_ladder_48 rfl (by decide) rfl ?_
        refine z_iload_n hC 3 dX12_ladder_49 rfl rfl ?_
        refine z_ldcw hC (1000000 : Int32) lcRX12_309 dX12_ladder_50 ?_
        refine z_icmp_ne hC 59 dX12_ladder_53 (by decide) (fun _ => ?_) (fun _ => ?_)
        · refine z_bipush hC (-2 : Int32) dX12_ladder_56 (by decide) ?_
          exact z_iret hC (fun h => h) dX12_ladder_58
        · refine z_iload_n hC 2 dX12_ladder_59 rfl rfl ?_
          refine z_if_ne hC 65 dX12_ladder_60 (by decide) (fun _ => ?_) (fun _ => ?_)
          · refine z_iload_n hC 3 dX12_ladder_63 rfl rfl ?_
            exact z_iret hC (fun h => h) dX12_ladder_64
          · refine z_iconst hC (0 : Int32) dX12_ladder_65 (by decide) ?_
            refine z_istore hC [(0, .ref p0), (1, .int p1), (2, .int p2), (3, .int v9), (4, .int (0 : Int32))] [1, 2, 3, 4, 0] dX12_ladder_66 (by decide) rfl ?_
            refine z_weak [(0, .ref p0), (3, .int v9), (4, .int (0 : Int32))] [0, 3, 4] rfl ?_
            refine z_lpR (S := Int32) (Y := Unit) (fun s10 => w6) (fun s10 => [(0, .ref p0), (3, .int v9), (4, .int s10)]) (fun y11 => w6) (fun y11 => []) 108 [] (fun y11 => ?_) (fun s10 => ?_) rfl rfl
            · refine z_bipush hC (-3 : Int32) dX12_ladder_108 (by decide) ?_
              exact z_iret hC (fun h => h) dX12_ladder_110
            · refine z_iload hC 2 dX12_ladder_68 rfl ?_
              refine z_bipush hC (10 : Int32) dX12_ladder_70 (by decide) ?_
              refine z_icmp_ge hC 108 dX12_ladder_72 (by decide) (fun _ => ?_) (fun _ => ?_)
              · refine z_weak [] [] rfl ?_
                exact z_leaf (fun h => h)
              · refine z_iload_n hC 1 dX12_ladder_75 rfl rfl ?_
                refine z_if_le hC 102 dX12_ladder_76 (by decide) (fun _ => ?_) (fun _ => ?_)
                · refine z_iincv hC (1 : Int32) 2 (fun x12 => [(0, .ref p0), (3, .int v9), (4, .int x12)]) [1, 2, 0] dX12_ladder_102 rfl (by decide) (by decide) (fun _ => rfl) (fun x12 => ?_)
                  refine z_goto hC 68 dX12_ladder_105 (by decide) ?_
                  exact z_leaf (fun h => h)
                · refine z_aload_n hC 0 dX12_ladder_79 rfl rfl ?_
                  refine z_getR hC lgRX12_90 dX12_ladder_80 (fun v13 => ?_)
                  refine z_aload_n hC 0 dX12_ladder_83 rfl rfl ?_
                  refine z_getI hC lgRX12_121 dX12_ladder_84 (fun v14 => ?_)
                  refine z_iconst hC (1 : Int32) dX12_ladder_87 (by decide) ?_
                  refine z_iload hC 2 dX12_ladder_88 rfl ?_
                  refine z_ishl hC dX12_ladder_90 ?_
                  refine z_ixor hC dX12_ladder_91 ?_
                  refine z_iald hC dX12_ladder_92 (fun v15 => ?_)
                  refine z_iload_n hC 1 dX12_ladder_93 rfl rfl ?_
                  refine z_iconst hC (1 : Int32) dX12_ladder_94 (by decide) ?_
                  refine z_isub hC dX12_ladder_95 ?_
                  refine z_icmp_ne hC 102 dX12_ladder_96 (by decide) (fun _ => ?_) (fun _ => ?_)
                  · refine z_iload hC 2 dX12_ladder_99 rfl ?_
                    exact z_iret hC (fun h => h) dX12_ladder_101
                  · refine z_iincv hC (1 : Int32) 2 (fun x16 => [(0, .ref p0), (3, .int v9), (4, .int x16)]) [1, 2, 0] dX12_ladder_102 rfl (by decide) (by decide) (fun _ => rfl) (fun x16 => ?_)
                    refine z_goto hC 68 dX12_ladder_105 (by decide) ?_
                    exact z_leaf (fun h => h)

