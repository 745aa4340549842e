theorem dX12_why_0 : decode cX12_why 0 = .ok (.aload_n 0, 1) := by decide +kernel
theorem dX12_why_1 : decode cX12_why 1 = .ok (.iload_n 1, 1) := by decide +kernel
theorem dX12_why_2 : decode cX12_why 2 = .ok (.invokevirtual 343, 3) := by decide +kernel
theorem dX12_why_5 : decode cX12_why 5 = .ok (.ifCond .eq 12, 3) := by decide +kernel
theorem dX12_why_8 : decode cX12_why 8 = .ok (.iload_n 2, 1) := by decide +kernel
theorem dX12_why_9 : decode cX12_why 9 = .ok (.iconst 0, 1) := by decide +kernel
theorem dX12_why_10 : decode cX12_why 10 = .ok (.iconst 1, 1) := by decide +kernel
theorem dX12_why_11 : decode cX12_why 11 = .ok (.invokestatic 99, 3) := by decide +kernel
theorem dX12_why_14 : decode cX12_why 14 = .ok (.ifCond .ne 5, 3) := by decide +kernel
theorem dX12_why_17 : decode cX12_why 17 = .ok (.iconst (-1), 1) := by decide +kernel
theorem dX12_why_18 : decode cX12_why 18 = .ok (.ireturn, 1) := by decide +kernel
theorem dX12_why_19 : decode cX12_why 19 = .ok (.bipush (-2), 2) := by decide +kernel
theorem dX12_why_21 : decode cX12_why 21 = .ok (.istore_n 3, 1) := by decide +kernel
theorem dX12_why_22 : decode cX12_why 22 = .ok (.iconst 0, 1) := by decide +kernel
theorem dX12_why_23 : decode cX12_why 23 = .ok (.istore 4, 2) := by decide +kernel
theorem dX12_why_25 : decode cX12_why 25 = .ok (.iload 4, 2) := by decide +kernel
theorem dX12_why_27 : decode cX12_why 27 = .ok (.aload_n 0, 1) := by decide +kernel
theorem dX12_why_28 : decode cX12_why 28 = .ok (.getfield 115, 3) := by decide +kernel
theorem dX12_why_31 : decode cX12_why 31 = .ok (.if_icmp .gt 55, 3) := by decide +kernel
theorem dX12_why_34 : decode cX12_why 34 = .ok (.iload 4, 2) := by decide +kernel
theorem dX12_why_36 : decode cX12_why 36 = .ok (.aload_n 0, 1) := by decide +kernel
theorem dX12_why_37 : decode cX12_why 37 = .ok (.getfield 115, 3) := by decide +kernel
theorem dX12_why_40 : decode cX12_why 40 = .ok (.iconst (-1), 1) := by decide +kernel
theorem dX12_why_41 : decode cX12_why 41 = .ok (.ixor, 1) := by decide +kernel
theorem dX12_why_42 : decode cX12_why 42 = .ok (.iand, 1) := by decide +kernel
theorem dX12_why_43 : decode cX12_why 43 = .ok (.ifCond .ne 37, 3) := by decide +kernel
theorem dX12_why_46 : decode cX12_why 46 = .ok (.iload_n 3, 1) := by decide +kernel
theorem dX12_why_47 : decode cX12_why 47 = .ok (.bipush (-2), 2) := by decide +kernel
theorem dX12_why_49 : decode cX12_why 49 = .ok (.if_icmp .eq 15, 3) := by decide +kernel
theorem dX12_why_52 : decode cX12_why 52 = .ok (.iload 4, 2) := by decide +kernel
theorem dX12_why_54 : decode cX12_why 54 = .ok (.invokestatic 111, 3) := by decide +kernel
theorem dX12_why_57 : decode cX12_why 57 = .ok (.iload_n 3, 1) := by decide +kernel
theorem dX12_why_58 : decode cX12_why 58 = .ok (.invokestatic 111, 3) := by decide +kernel
theorem dX12_why_61 : decode cX12_why 61 = .ok (.if_icmp .ge 19, 3) := by decide +kernel
theorem dX12_why_64 : decode cX12_why 64 = .ok (.aload_n 0, 1) := by decide +kernel
theorem dX12_why_65 : decode cX12_why 65 = .ok (.iload_n 1, 1) := by decide +kernel
theorem dX12_why_66 : decode cX12_why 66 = .ok (.iload 4, 2) := by decide +kernel
theorem dX12_why_68 : decode cX12_why 68 = .ok (.invokevirtual 361, 3) := by decide +kernel
theorem dX12_why_71 : decode cX12_why 71 = .ok (.ifCond .eq 6, 3) := by decide +kernel
theorem dX12_why_74 : decode cX12_why 74 = .ok (.goto 6, 3) := by decide +kernel
theorem dX12_why_77 : decode cX12_why 77 = .ok (.iload 4, 2) := by decide +kernel
theorem dX12_why_79 : decode cX12_why 79 = .ok (.istore_n 3, 1) := by decide +kernel
theorem dX12_why_80 : decode cX12_why 80 = .ok (.iinc 4 1, 3) := by decide +kernel
theorem dX12_why_83 : decode cX12_why 83 = .ok (.goto (-58), 3) := by decide +kernel
theorem dX12_why_86 : decode cX12_why 86 = .ok (.iload_n 2, 1) := by decide +kernel
theorem dX12_why_87 : decode cX12_why 87 = .ok (.iconst 1, 1) := by decide +kernel
theorem dX12_why_88 : decode cX12_why 88 = .ok (.if_icmp .eq 9, 3) := by decide +kernel
theorem dX12_why_91 : decode cX12_why 91 = .ok (.iload_n 3, 1) := by decide +kernel
theorem dX12_why_92 : decode cX12_why 92 = .ok (.bipush (-2), 2) := by decide +kernel
theorem dX12_why_94 : decode cX12_why 94 = .ok (.if_icmp .ne 7, 3) := by decide +kernel
theorem dX12_why_97 : decode cX12_why 97 = .ok (.iload_n 3, 1) := by decide +kernel
theorem dX12_why_98 : decode cX12_why 98 = .ok (.goto 7, 3) := by decide +kernel
theorem dX12_why_101 : decode cX12_why 101 = .ok (.iload_n 3, 1) := by decide +kernel
theorem dX12_why_102 : decode cX12_why 102 = .ok (.invokestatic 111, 3) := by decide +kernel
theorem dX12_why_105 : decode cX12_why 105 = .ok (.ireturn, 1) := by decide +kernel
def FX12_why (hp : HP) (p0 : Nat) (p1 : Int32) (p2 : Int32) : Option (Int32) := (rc [12] hp p0 (FX12_isWish hp p0 p1)).bind (fun v1 => if v1 = 0 then some (-1 : Int32) else (FX12_in p2 (0 : Int32) (1 : Int32)).bind (fun v2 => if v2 = 0 then some (-1 : Int32) else (lp (fun (s3 : Int32 × Int32) => (gI [12] 6 hp p0).bind (fun v6 => if v6 < s3.2 then some (Sum.inl s3.1) else (gI [12] 6 hp p0).bind (fun v7 => if (s3.2 &&& (v7 ^^^ (-1 : Int32))) = 0 then jn (A := Unit) (fun a8 => (rc [12] hp p0 (FX12_canBeBy hp p0 p1 s3.2)).bind (fun v10 => if v10 = 0 then vl (s3.2 + (1 : Int32)) (fun x11 => some (Sum.inr (s3.2, x11))) else vl (s3.2 + (1 : Int32)) (fun x12 => some (Sum.inr (s3.1, x12))))) (fun J9 => if s3.1 = (-2 : Int32) then J9 () else (FX12_bits s3.2).bind (fun v13 => (FX12_bits s3.1).bind (fun v14 => if v14 ≤ v13 then vl (s3.2 + (1 : Int32)) (fun x15 => some (Sum.inr (s3.1, x15))) else J9 ()))) else vl (s3.2 + (1 : Int32)) (fun x16 => some (Sum.inr (s3.1, x16)))))) FU ((-2 : Int32), (0 : Int32))).bind (fun (y4 : Int32) => if p2 = (1 : Int32) then some y4 else if y4 = (-2 : Int32) then some y4 else (FX12_bits y4).bind (fun v5 => some v5))))
set_option maxHeartbeats 4000000 in
set_option maxRecDepth 100000 in
theorem ctX12_why (l : Launch) (D : va_G) (tg : Nat → ClassId) (bs : Nat) (sa : Nat → Nat) (hp : HP) (p0 : Nat) (p1 : Int32) (p2 : Int32) : Ct l D tg bs sa yX12_why cX12_why 5 (some .int) 3 [.ref p0, .int p1, .int p2] hp (FX12_why hp p0 p1 p2) (fun r => some (.int r)) (fun _ => hp) := by
  refine Ct.of (by decide) (Nat.le_of_ble_eq_true rfl) ?_
  intro V Q hVl hVd hVt hVb hVs hC
  subst hVl; subst hVd; subst hVt; subst hVb; subst hVs
  unfold FX12_why
  show Zs V Q (0, 0) 5 _ _ hp [(0, .ref p0), (1, .int p1), (2, .int p2)] 0 []
  refine z_aload_n hC 0 dX12_why_0 rfl rfl ?_
  refine z_iload_n hC 1 dX12_why_1 rfl rfl ?_
  refine z_callVi hC (ci := 12) rfl lmRX12_343 (ctX12_isWish (vLa V) (vDa V) (vTg V) (vBs V) (vSa V) hp p0 p1) (by decide) hn0 dX12_why_2 rfl rfl (Nat.le_of_ble_eq_true rfl) (fun v1 => ?_)
  refine z_if_eq hC 17 dX12_why_5 (by decide) (fun _ => ?_) (fun _ => ?_)
  · refine z_iconst hC (-1 : Int32) dX12_why_17 (by decide) ?_
    exact z_iret hC (fun h => h) dX12_why_18
  · refine z_iload_n hC 2 dX12_why_8 rfl rfl ?_
    refine z_iconst hC (0 : Int32) dX12_why_9 (by decide) ?_
    refine z_iconst hC (1 : Int32) dX12_why_10 (by decide) ?_
    refine z_callSi hC lmRX12_99 (ctX12_in (vLa V) (vDa V) (vTg V) (vBs V) (vSa V) hp p2 (0 : Int32) (1 : Int32)) (by decide) hn0 dX12_why_11 rfl rfl (Nat.le_of_ble_eq_true rfl) (fun v2 => ?_)
    refine z_if_ne hC 19 dX12_why_14 (by decide) (fun _ => ?_) (fun _ => ?_)
    · refine z_iconst hC (-1 : Int32) dX12_why_17 (by decide) ?_
      exact z_iret hC (fun h => h) dX12_why_18
    · refine z_bipush hC (-2 : Int32) dX12_why_19 (by decide) ?_
      refine z_istore_n hC [(0, .ref p0), (1, .int p1), (2, .int p2), (3, .int (-2 : Int32))] [1, 2, 3, 0] dX12_why_21 rfl (by decide) rfl ?_
      refine z_iconst hC (0 : Int32) dX12_why_22 (by decide) ?_
      refine z_istore hC [(0, .ref p0), (1, .int p1), (2, .int p2), (3, .int (-2 : Int32)), (4, .int (0 : Int32))] [1, 2, 3, 4, 0] dX12_why_23 (by decide) rfl ?_
      refine z_lp (S := Int32 × Int32) (Y := Int32) (fun s3 => hp) (fun s3 => [(0, .ref p0), (1, .int p1), (2, .int p2), (3, .int s3.1), (4, .int s3.2)]) (fun y4 => hp) (fun y4 => [(2, .int p2), (3, .int y4)]) 86 [] (fun y4 => ?_) (fun s3 => ?_) rfl rfl
      · refine z_iload_n hC 0 dX12_why_86 rfl rfl ?_
        refine z_iconst hC (1 : Int32) dX12_why_87 (by decide) ?_
        refine z_icmp_eq hC 97 dX12_why_88 (by decide) (fun _ => ?_) (fun _ => ?_)
        · refine z_iload_n hC 1 dX12_why_97 rfl rfl ?_
          refine z_goto hC 105 dX12_why_98 (by decide) ?_
          exact z_iret hC (fun h => h) dX12_why_105
        · refine z_iload_n hC 1 dX12_why_91 rfl rfl ?_
          refine z_bipush hC (-2 : Int32) dX12_why_92 (by decide) ?_
          refine z_icmp_ne hC 101 dX12_why_94 (by decide) (fun _ => ?_) (fun _ => ?_)
          · refine z_iload_n hC 1 dX12_why_97 rfl rfl ?_
            refine z_goto hC 105 dX12_why_98 (by decide) ?_
            exact z_iret hC (fun h => h) dX12_why_105
          · refine z_iload_n hC 1 dX12_why_101 rfl rfl ?_
            refine z_callSi hC lmRX12_111 (ctX12_bits (vLa V) (vDa V) (vTg V) (vBs V) (vSa V) hp y4) (by decide) hn0 dX12_why_102 rfl rfl (Nat.le_of_ble_eq_true rfl) (fun v5 => ?_)
            exact z_iret hC (fun h => h) dX12_why_105
      · refine z_iload hC 4 dX12_why_25 rfl ?_
        refine z_aload_n hC 0 dX12_why_27 rfl rfl ?_
        refine z_getI hC lgRX12_115 dX12_why_28 (fun v6 => ?_)
        refine z_icmp_gt hC 86 dX12_why_31 (by decide) (fun _ => ?_) (fun _ => ?_)
        · refine z_weak [(2, .int p2), (3, .int s3.1)] [2, 3] rfl ?_
          exact z_leaf (fun h => h)
        · refine z_iload hC 4 dX12_why_34 rfl ?_
          refine z_aload_n hC 0 dX12_why_36 rfl rfl ?_
          refine z_getI hC lgRX12_115 dX12_why_37 (fun v7 => ?_)
          refine z_iconst hC (-1 : Int32) dX12_why_40 (by decide) ?_
          refine z_ixor hC dX12_why_41 ?_
          refine z_iand hC dX12_why_42 ?_
          refine z_if_ne hC 80 dX12_why_43 (by decide) (fun _ => ?_) (fun _ => ?_)
          · refine z_iload_n hC 3 dX12_why_46 rfl rfl ?_
            refine z_bipush hC (-2 : Int32) dX12_why_47 (by decide) ?_
            refine z_jn (A := Unit) (fun a8 => hp) (fun a8 => [(0, .ref p0), (1, .int p1), (2, .int p2), (3, .int s3.1), (4, .int s3.2)]) 64 (fun a8 => []) (fun a8 => ?_) (fun J9 hJ9 => ?_)
            · refine z_aload_n hC 0 dX12_why_64 rfl rfl ?_
              refine z_iload_n hC 1 dX12_why_65 rfl rfl ?_
              refine z_iload hC 4 dX12_why_66 rfl ?_
              refine z_callVi hC (ci := 12) rfl lmRX12_361 (ctX12_canBeBy (vLa V) (vDa V) (vTg V) (vBs V) (vSa V) hp p0 p1 s3.2) (by decide) hn0 dX12_why_68 rfl rfl (Nat.le_of_ble_eq_true rfl) (fun v10 => ?_)
              refine z_if_eq hC 77 dX12_why_71 (by decide) (fun _ => ?_) (fun _ => ?_)
              · refine z_iload hC 4 dX12_why_77 rfl ?_
                refine z_istore_n hC [(0, .ref p0), (1, .int p1), (2, .int p2), (3, .int s3.2), (4, .int s3.2)] [1, 2, 3, 0, 4] dX12_why_79 rfl (by decide) rfl ?_
                refine z_iincv hC (1 : Int32) 4 (fun x11 => [(0, .ref p0), (1, .int p1), (2, .int p2), (3, .int s3.2), (4, .int x11)]) [1, 2, 3, 4, 0] dX12_why_80 rfl (by decide) (by decide) (fun _ => rfl) (fun x11 => ?_)
                refine z_goto hC 25 dX12_why_83 (by decide) ?_
                exact z_leaf (fun h => h)
              · refine z_goto hC 80 dX12_why_74 (by decide) ?_
                refine z_iincv hC (1 : Int32) 4 (fun x12 => [(0, .ref p0), (1, .int p1), (2, .int p2), (3, .int s3.1), (4, .int x12)]) [1, 2, 3, 4, 0] dX12_why_80 rfl (by decide) (by decide) (fun _ => rfl) (fun x12 => ?_)
                refine z_goto hC 25 dX12_why_83 (by decide) ?_
                exact z_leaf (fun h => h)
            · refine z_icmp_eq hC 64 dX12_why_49 (by decide) (fun _ => ?_) (fun _ => ?_)
              · exact hJ9 ()
              · refine z_iload hC 4 dX12_why_52 rfl ?_
                refine z_callSi hC lmRX12_111 (ctX12_bits (vLa V) (vDa V) (vTg V) (vBs V) (vSa V) hp s3.2) (by decide) hn0 dX12_why_54 rfl rfl (Nat.le_of_ble_eq_true rfl) (fun v13 => ?_)
                refine z_iload_n hC 3 dX12_why_57 rfl rfl ?_
                refine z_callSi hC lmRX12_111 (ctX12_bits (vLa V) (vDa V) (vTg V) (vBs V) (vSa V) hp s3.1) (by decide) hn0 dX12_why_58 rfl rfl (Nat.le_of_ble_eq_true rfl) (fun v14 => ?_)
                refine z_icmp_ge hC 80 dX12_why_61 (by decide) (fun _ => ?_) (fun _ => ?_)
                · refine z_iincv hC (1 : Int32) 4 (fun x15 => [(0, .ref p0), (1, .int p1), (2, .int p2), (3, .int s3.1), (4, .int x15)]) [1, 2, 3, 4, 0] dX12_why_80 rfl (by decide) (by decide) (fun _ => rfl) (fun x15 => ?_)
                  refine z_goto hC 25 dX12_why_83 (by decide) ?_
                  exact z_leaf (fun h => h)
                · exact hJ9 ()
          · refine z_iincv hC (1 : Int32) 4 (fun x16 => [(0, .ref p0), (1, .int p1), (2, .int p2), (3, .int s3.1), (4, .int x16)]) [1, 2, 3, 4, 0] dX12_why_80 rfl (by decide) (by decide) (fun _ => rfl) (fun x16 => ?_)
            refine z_goto hC 25 dX12_why_83 (by decide) ?_
            exact z_leaf (fun h => h)

theorem dX12_joke_0 : decode cX12_joke 0 = .ok (.iload_n 1, 1) := by decide +kernel
theorem dX12_joke_1 : decode cX12_joke 1 = .ok (.iconst 0, 1) := by decide +kernel
theorem dX12_joke_2 : decode cX12_joke 2 = .ok (.iconst 1, 1) := by decide +kernel
theorem dX12_joke_3 : decode cX12_joke 3 = .ok (.invokestatic 99, 3) := by decide +kernel
theorem dX12_joke_6 : decode cX12_joke 6 = .ok (.ifCond .ne 5, 3) := by decide +kernel
theorem dX12_joke_9 : decode cX12_joke 9 = .ok (.iconst (-1), 1) := by decide +kernel
theorem dX12_joke_10 : decode cX12_joke 10 = .ok (.ireturn, 1) := by decide +kernel
theorem dX12_joke_11 : decode cX12_joke 11 = .ok (.bipush (-2), 2) := by decide +kernel
theorem dX12_joke_13 : decode cX12_joke 13 = .ok (.istore_n 2, 1) := by decide +kernel
theorem dX12_joke_14 : decode cX12_joke 14 = .ok (.iconst 0, 1) := by decide +kernel
theorem dX12_joke_15 : decode cX12_joke 15 = .ok (.istore_n 3, 1) := by decide +kernel
theorem dX12_joke_16 : decode cX12_joke 16 = .ok (.iconst 0, 1) := by decide +kernel
theorem dX12_joke_17 : decode cX12_joke 17 = .ok (.istore 4, 2) := by decide +kernel
theorem dX12_joke_19 : decode cX12_joke 19 = .ok (.iload 4, 2) := by decide +kernel
theorem dX12_joke_21 : decode cX12_joke 21 = .ok (.bipush 8, 2) := by decide +kernel
theorem dX12_joke_23 : decode cX12_joke 23 = .ok (.if_icmp .ge 105, 3) := by decide +kernel
theorem dX12_joke_26 : decode cX12_joke 26 = .ok (.aload_n 0, 1) := by decide +kernel
theorem dX12_joke_27 : decode cX12_joke 27 = .ok (.getfield 115, 3) := by decide +kernel
theorem dX12_joke_30 : decode cX12_joke 30 = .ok (.iload 4, 2) := by decide +kernel
theorem dX12_joke_32 : decode cX12_joke 32 = .ok (.invokestatic 107, 3) := by decide +kernel
theorem dX12_joke_35 : decode cX12_joke 35 = .ok (.ifCond .ne 6, 3) := by decide +kernel
theorem dX12_joke_38 : decode cX12_joke 38 = .ok (.goto 84, 3) := by decide +kernel
theorem dX12_joke_41 : decode cX12_joke 41 = .ok (.iconst 0, 1) := by decide +kernel
theorem dX12_joke_42 : decode cX12_joke 42 = .ok (.istore 5, 2) := by decide +kernel
theorem dX12_joke_44 : decode cX12_joke 44 = .ok (.iconst 0, 1) := by decide +kernel
theorem dX12_joke_45 : decode cX12_joke 45 = .ok (.istore 6, 2) := by decide +kernel
theorem dX12_joke_47 : decode cX12_joke 47 = .ok (.iload 6, 2) := by decide +kernel
theorem dX12_joke_49 : decode cX12_joke 49 = .ok (.sipush 1024, 3) := by decide +kernel
theorem dX12_joke_52 : decode cX12_joke 52 = .ok (.if_icmp .ge 49, 3) := by decide +kernel
theorem dX12_joke_55 : decode cX12_joke 55 = .ok (.iload 5, 2) := by decide +kernel
theorem dX12_joke_57 : decode cX12_joke 57 = .ok (.aload_n 0, 1) := by decide +kernel
theorem dX12_joke_58 : decode cX12_joke 58 = .ok (.getfield 20, 3) := by decide +kernel
theorem dX12_joke_61 : decode cX12_joke 61 = .ok (.iload 6, 2) := by decide +kernel
theorem dX12_joke_63 : decode cX12_joke 63 = .ok (.baload, 1) := by decide +kernel
theorem dX12_joke_64 : decode cX12_joke 64 = .ok (.ifCond .ne 27, 3) := by decide +kernel
theorem dX12_joke_67 : decode cX12_joke 67 = .ok (.aload_n 0, 1) := by decide +kernel
theorem dX12_joke_68 : decode cX12_joke 68 = .ok (.aload_n 0, 1) := by decide +kernel
theorem dX12_joke_69 : decode cX12_joke 69 = .ok (.getfield 115, 3) := by decide +kernel
theorem dX12_joke_72 : decode cX12_joke 72 = .ok (.iconst 1, 1) := by decide +kernel
theorem dX12_joke_73 : decode cX12_joke 73 = .ok (.iload 4, 2) := by decide +kernel
theorem dX12_joke_75 : decode cX12_joke 75 = .ok (.ishl, 1) := by decide +kernel
theorem dX12_joke_76 : decode cX12_joke 76 = .ok (.iconst (-1), 1) := by decide +kernel
theorem dX12_joke_77 : decode cX12_joke 77 = .ok (.ixor, 1) := by decide +kernel
theorem dX12_joke_78 : decode cX12_joke 78 = .ok (.iand, 1) := by decide +kernel
theorem dX12_joke_79 : decode cX12_joke 79 = .ok (.iload 6, 2) := by decide +kernel
theorem dX12_joke_81 : decode cX12_joke 81 = .ok (.invokevirtual 118, 3) := by decide +kernel
theorem dX12_joke_84 : decode cX12_joke 84 = .ok (.ifCond .eq 7, 3) := by decide +kernel
theorem dX12_joke_87 : decode cX12_joke 87 = .ok (.iconst 1, 1) := by decide +kernel
theorem dX12_joke_88 : decode cX12_joke 88 = .ok (.goto 4, 3) := by decide +kernel
theorem dX12_joke_91 : decode cX12_joke 91 = .ok (.iconst 0, 1) := by decide +kernel
theorem dX12_joke_92 : decode cX12_joke 92 = .ok (.iadd, 1) := by decide +kernel
theorem dX12_joke_93 : decode cX12_joke 93 = .ok (.istore 5, 2) := by decide +kernel
theorem dX12_joke_95 : decode cX12_joke 95 = .ok (.iinc 6 1, 3) := by decide +kernel
theorem dX12_joke_98 : decode cX12_joke 98 = .ok (.goto (-51), 3) := by decide +kernel
theorem dX12_joke_101 : decode cX12_joke 101 = .ok (.iload_n 2, 1) := by decide +kernel
theorem dX12_joke_102 : decode cX12_joke 102 = .ok (.bipush (-2), 2) := by decide +kernel
theorem dX12_joke_104 : decode cX12_joke 104 = .ok (.if_icmp .eq 12, 3) := by decide +kernel
theorem dX12_joke_107 : decode cX12_joke 107 = .ok (.iload 5, 2) := by decide +kernel
theorem dX12_joke_109 : decode cX12_joke 109 = .ok (.iload_n 3, 1) := by decide +kernel
theorem dX12_joke_110 : decode cX12_joke 110 = .ok (.if_icmp .gt 6, 3) := by decide +kernel
theorem dX12_joke_113 : decode cX12_joke 113 = .ok (.goto 9, 3) := by decide +kernel
theorem dX12_joke_116 : decode cX12_joke 116 = .ok (.iload 4, 2) := by decide +kernel
theorem dX12_joke_118 : decode cX12_joke 118 = .ok (.istore_n 2, 1) := by decide +kernel
theorem dX12_joke_119 : decode cX12_joke 119 = .ok (.iload 5, 2) := by decide +kernel
theorem dX12_joke_121 : decode cX12_joke 121 = .ok (.istore_n 3, 1) := by decide +kernel
theorem dX12_joke_122 : decode cX12_joke 122 = .ok (.iinc 4 1, 3) := by decide +kernel
theorem dX12_joke_125 : decode cX12_joke 125 = .ok (.goto (-106), 3) := by decide +kernel
theorem dX12_joke_128 : decode cX12_joke 128 = .ok (.iload_n 1, 1) := by decide +kernel
theorem dX12_joke_129 : decode cX12_joke 129 = .ok (.ifCond .ne 7, 3) := by decide +kernel
theorem dX12_joke_132 : decode cX12_joke 132 = .ok (.iload_n 2, 1) := by decide +kernel
theorem dX12_joke_133 : decode cX12_joke 133 = .ok (.goto 4, 3) := by decide +kernel
theorem dX12_joke_136 : decode cX12_joke 136 = .ok (.iload_n 3, 1) := by decide +kernel
theorem dX12_joke_137 : decode cX12_joke 137 = .ok (.ireturn, 1) := by decide +kernel
def FX12_joke (hp : HP) (p0 : Nat) (p1 : Int32) : Option (Int32) := (FX12_in p1 (0 : Int32) (1 : Int32)).bind (fun v1 => if v1 = 0 then some (-1 : Int32) else (lp (fun (s2 : Int32 × Int32 × Int32) => if (8 : Int32) ≤ s2.2.2 then some (Sum.inl (s2.1, s2.2.1)) else (gI [12] 6 hp p0).bind (fun v4 => (FX12_has v4 s2.2.2).bind (fun v5 => if v5 = 0 then vl (s2.2.2 + (1 : Int32)) (fun x6 => some (Sum.inr (s2.1, s2.2.1, x6))) else (lp (fun (s7 : Int32 × Int32) => if (1024 : Int32) ≤ s7.2 then some (Sum.inl s7.1) else (gR [12] 3 hp p0).bind (fun v12 => (rdN 2 hp v12 s7.2).bind (fun v13 => if v13 = 0 then (gI [12] 6 hp p0).bind (fun v14 => (rc [12] hp p0 (FX12_allowsBy hp p0 (v14 &&& (((1 : Int32) <<< (s2.2.2 &&& 31)) ^^^ (-1 : Int32))) s7.2)).bind (fun v15 => if v15 = 0 then vl (s7.1 + (0 : Int32)) (fun x16 => vl (s7.2 + (1 : Int32)) (fun x17 => some (Sum.inr (x16, x17)))) else vl (s7.1 + (1 : Int32)) (fun x18 => vl (s7.2 + (1 : Int32)) (fun x19 => some (Sum.inr (x18, x19)))))) else vl (s7.1 + (0 : Int32)) (fun x20 => vl (s7.2 + (1 : Int32)) (fun x21 => some (Sum.inr (x20, x21))))))) FU ((0 : Int32), (0 : Int32))).bind (fun (y8 : Int32) => if s2.1 = (-2 : Int32) then vl (s2.2.2 + (1 : Int32)) (fun x9 => some (Sum.inr (s2.2.2, y8, x9))) else if s2.2.1 < y8 then vl (s2.2.2 + (1 : Int32)) (fun x10 => some (Sum.inr (s2.2.2, y8, x10))) else vl (s2.2.2 + (1 : Int32)) (fun x11 => some (Sum.inr (s2.1, s2.2.1, x11))))))) FU ((-2 : Int32), (0 : Int32), (0 : Int32))).bind (fun (y3 : Int32 × Int32) => if p1 = 0 then some y3.1 else some y3.2))
set_option maxHeartbeats 4000000 in
set_option maxRecDepth 100000 in
theorem ctX12_joke (l : Launch) (D : va_G) (tg : Nat → ClassId) (bs : Nat) (sa : Nat → Nat) (hp : HP) (p0 : Nat) (p1 : Int32) : Ct l D tg bs sa yX12_joke cX12_joke 7 (some .int) 2 [.ref p0, .int p1] hp (FX12_joke hp p0 p1) (fun r => some (.int r)) (fun _ => hp) := by
  refine Ct.of (by decide) (Nat.le_of_ble_eq_true rfl) ?_
  intro V Q hVl hVd hVt hVb hVs hC
  subst hVl; subst hVd; subst hVt; subst hVb; subst hVs
  unfold FX12_joke
  show Zs V Q (0, 0) 7 _ _ hp [(0, .ref p0), (1, .int p1)] 0 []
  refine z_iload_n hC 1 dX12_joke_0 rfl rfl ?_
  refine z_iconst hC (0 : Int32) dX12_joke_1 (by decide) ?_
  refine z_iconst hC (1 : Int32) dX12_joke_2 (by decide) ?_
  refine z_callSi hC lmRX12_99 (ctX12_in (vLa V) (vDa V) (vTg V) (vBs V) (vSa V) hp p1 (0 : Int32) (1 : Int32)) (by decide) hn0 dX12_joke_3 rfl rfl (Nat.le_of_ble_eq_true rfl) (fun v1 => ?_)
  refine z_if_ne hC 11 dX12_joke_6 (by decide) (fun _ => ?_) (fun _ => ?_)
  · refine z_iconst hC (-1 : Int32) dX12_joke_9 (by decide) ?_
    exact z_iret hC (fun h => h) dX12_joke_10
  · refine z_bipush hC (-2 : Int32) dX12_joke_11 (by decide) ?_
    refine z_istore_n hC [(0, .ref p0), (1, .int p1), (2, .int (-2 : Int32))] [1, 2, 0] dX12_joke_13 rfl (by decide) rfl ?_
    refine z_iconst hC (0 : Int32) dX12_joke_14 (by decide) ?_
    refine z_istore_n hC [(0, .ref p0), (1, .int p1), (2, .int (-2 : Int32)), (3, .int (0 : Int32))] [1, 2, 3, 0] dX12_joke_15 rfl (by decide) rfl ?_
    refine z_iconst hC (0 : Int32) dX12_joke_16 (by decide) ?_
    refine z_istore hC [(0, .ref p0), (1, .int p1), (2, .int (-2 : Int32)), (3, .int (0 : Int32)), (4, .int (0 : Int32))] [1, 2, 3, 4, 0] dX12_joke_17 (by decide) rfl ?_
    refine z_lp (S := Int32 × Int32 × Int32) (Y := Int32 × Int32) (fun s2 => hp) (fun s2 => [(0, .ref p0), (1, .int p1), (2, .int s2.1), (3, .int s2.2.1), (4, .int s2.2.2)]) (fun y3 => hp) (fun y3 => [(1, .int p1), (2, .int y3.1), (3, .int y3.2)]) 128 [] (fun y3 => ?_) (fun s2 => ?_) rfl rfl
    · refine z_iload_n hC 0 dX12_joke_128 rfl rfl ?_
      refine z_if_ne hC 136 dX12_joke_129 (by decide) (fun _ => ?_) (fun _ => ?_)
      · refine z_iload_n hC 1 dX12_joke_132 rfl rfl ?_
        refine z_goto hC 137 dX12_joke_133 (by decide) ?_
        exact z_iret hC (fun h => h) dX12_joke_137
      · refine z_iload_n hC 2 dX12_joke_136 rfl rfl ?_
        exact z_iret hC (fun h => h) dX12_joke_137
    · refine z_iload hC 4 dX12_joke_19 rfl ?_
      refine z_bipush hC (8 : Int32) dX12_joke_21 (by decide) ?_
      refine z_icmp_ge hC 128 dX12_joke_23 (by decide) (fun _ => ?_) (fun _ => ?_)
      · refine z_weak [(1, .int p1), (2, .int s2.1), (3, .int s2.2.1)] [1, 2, 3] rfl ?_
        exact z_leaf (fun h => h)
      · refine z_aload_n hC 0 dX12_joke_26 rfl rfl ?_
        refine z_getI hC lgRX12_115 dX12_joke_27 (fun v4 => ?_)
        refine z_iload hC 4 dX12_joke_30 rfl ?_
        refine z_callSi hC lmRX12_107 (ctX12_has (vLa V) (vDa V) (vTg V) (vBs V) (vSa V) hp v4 s2.2.2) (by decide) hn0 dX12_joke_32 rfl rfl (Nat.le_of_ble_eq_true rfl) (fun v5 => ?_)
        refine z_if_ne hC 41 dX12_joke_35 (by decide) (fun _ => ?_) (fun _ => ?_)
        · refine z_goto hC 122 dX12_joke_38 (by decide) ?_
          refine z_iincv hC (1 : Int32) 4 (fun x6 => [(0, .ref p0), (1, .int p1), (2, .int s2.1), (3, .int s2.2.1), (4, .int x6)]) [1, 2, 3, 4, 0] dX12_joke_122 rfl (by decide) (by decide) (fun _ => rfl) (fun x6 => ?_)
          refine z_goto hC 19 dX12_joke_125 (by decide) ?_
          exact z_leaf (fun h => h)
        · refine z_iconst hC (0 : Int32) dX12_joke_41 (by decide) ?_
          refine z_istore hC [(0, .ref p0), (1, .int p1), (2, .int s2.1), (3, .int s2.2.1), (4, .int s2.2.2), (5, .int (0 : Int32))] [1, 2, 3, 4, 5, 0] dX12_joke_42 (by decide) rfl ?_
          refine z_iconst hC (0 : Int32) dX12_joke_44 (by decide) ?_
          refine z_istore hC [(0, .ref p0), (1, .int p1), (2, .int s2.1), (3, .int s2.2.1), (4, .int s2.2.2), (5, .int (0 : Int32)), (6, .int (0 : Int32))] [1, 2, 3, 4, 5, 6, 0] dX12_joke_45 (by decide) rfl ?_
          refine z_lp (S := Int32 × Int32) (Y := Int32) (fun s7 => hp) (fun s7 => [(0, .ref p0), (1, .int p1), (2, .int s2.1), (3, .int s2.2.1), (4, .int s2.2.2), (5, .int s7.1), (6, .int s7.2)]) (fun y8 => hp) (fun y8 => [(0, .ref p0), (1, .int p1), (2, .int s2.1), (3, .int s2.2.1), (4, .int s2.2.2), (5, .int y8)]) 101 [] (fun y8 => ?_) (fun s7 => ?_) rfl rfl
          · refine z_iload_n hC 2 dX12_joke_101 rfl rfl ?_
            refine z_bipush hC (-2 : Int32) dX12_joke_102 (by decide) ?_
            refine z_icmp_eq hC 116 dX12_joke_104 (by decide) (fun _ => ?_) (fun _ => ?_)
            · refine z_iload hC 4 dX12_joke_116 rfl ?_
              refine z_istore_n hC [(0, .ref p0), (1, .int p1), (2, .int s2.2.2), (3, .int s2.2.1), (4, .int s2.2.2), (5, .int y8)] [1, 2, 0, 3, 4, 5] dX12_joke_118 rfl (by decide) rfl ?_
              refine z_iload hC 5 dX12_joke_119 rfl ?_
              refine z_istore_n hC [(0, .ref p0), (1, .int p1), (2, .int s2.2.2), (3, .int y8), (4, .int s2.2.2), (5, .int y8)] [1, 2, 3, 0, 4, 5] dX12_joke_121 rfl (by decide) rfl ?_
              refine z_iincv hC (1 : Int32) 4 (fun x9 => [(0, .ref p0), (1, .int p1), (2, .int s2.2.2), (3, .int y8), (4, .int x9), (5, .int y8)]) [1, 2, 3, 4, 0, 5] dX12_joke_122 rfl (by decide) (by decide) (fun _ => rfl) (fun x9 => ?_)
              refine z_goto hC 19 dX12_joke_125 (by decide) ?_
              refine z_weak [(0, .ref p0), (1, .int p1), (2, .int s2.2.2), (3, .int y8), (4, .int x9)] [0, 1, 2, 3, 4] rfl ?_
              exact z_leaf (fun h => h)
            · refine z_iload hC 5 dX12_joke_107 rfl ?_
              refine z_iload_n hC 3 dX12_joke_109 rfl rfl ?_
              refine z_icmp_gt hC 116 dX12_joke_110 (by decide) (fun _ => ?_) (fun _ => ?_)
              · refine z_iload hC 4 dX12_joke_116 rfl ?_
                refine z_istore_n hC [(0, .ref p0), (1, .int p1), (2, .int s2.2.2), (3, .int s2.2.1), (4, .int s2.2.2), (5, .int y8)] [1, 2, 0, 3, 4, 5] dX12_joke_118 rfl (by decide) rfl ?_
                refine z_iload hC 5 dX12_joke_119 rfl ?_
                refine z_istore_n hC [(0, .ref p0), (1, .int p1), (2, .int s2.2.2), (3, .int y8), (4, .int s2.2.2), (5, .int y8)] [1, 2, 3, 0, 4, 5] dX12_joke_121 rfl (by decide) rfl ?_
                refine z_iincv hC (1 : Int32) 4 (fun x10 => [(0, .ref p0), (1, .int p1), (2, .int s2.2.2), (3, .int y8), (4, .int x10), (5, .int y8)]) [1, 2, 3, 4, 0, 5] dX12_joke_122 rfl (by decide) (by decide) (fun _ => rfl) (fun x10 => ?_)
                refine z_goto hC 19 dX12_joke_125 (by decide) ?_
                refine z_weak [(0, .ref p0), (1, .int p1), (2, .int s2.2.2), (3, .int y8), (4, .int x10)] [0, 1, 2, 3, 4] rfl ?_
                exact z_leaf (fun h => h)
              · refine z_goto hC 122 dX12_joke_113 (by decide) ?_
                refine z_iincv hC (1 : Int32) 4 (fun x11 => [(0, .ref p0), (1, .int p1), (2, .int s2.1), (3, .int s2.2.1), (4, .int x11), (5, .int y8)]) [1, 2, 3, 4, 0, 5] dX12_joke_122 rfl (by decide) (by decide) (fun _ => rfl) (fun x11 => ?_)
                refine z_goto hC 19 dX12_joke_125 (by decide) ?_
                refine z_weak [(0, .ref p0), (1, .int p1), (2, .int s2.1), (3, .int s2.2.1), (4, .int x11)] [0, 1, 2, 3, 4] rfl ?_
                exact z_leaf (fun h => h)
          · refine z_iload hC 6 dX12_joke_47 rfl ?_
            refine z_sipush hC (1024 : Int32) dX12_joke_49 (by decide) ?_
            refine z_icmp_ge hC 101 dX12_joke_52 (by decide) (fun _ => ?_) (fun _ => ?_)
            · refine z_weak [(0, .ref p0), (1, .int p1), (2, .int s2.1), (3, .int s2.2.1), (4, .int s2.2.2), (5, .int s7.1)] [0, 1, 2, 3, 4, 5] rfl ?_
              exact z_leaf (fun h => h)
            · refine z_iload hC 5 dX12_joke_55 rfl ?_
              refine z_aload_n hC 0 dX12_joke_57 rfl rfl ?_
              refine z_getR hC lgRX12_20 dX12_joke_58 (fun v12 => ?_)
              refine z_iload hC 6 dX12_joke_61 rfl ?_
              refine z_zald hC dX12_joke_63 (fun v13 => ?_)
              refine z_if_ne hC 91 dX12_joke_64 (by decide) (fun _ => ?_) (fun _ => ?_)
              · refine z_aload_n hC 0 dX12_joke_67 rfl rfl ?_
                refine z_aload_n hC 0 dX12_joke_68 rfl rfl ?_
                refine z_getI hC lgRX12_115 dX12_joke_69 (fun v14 => ?_)
                refine z_iconst hC (1 : Int32) dX12_joke_72 (by decide) ?_
                refine z_iload hC 4 dX12_joke_73 rfl ?_
                refine z_ishl hC dX12_joke_75 ?_
                refine z_iconst hC (-1 : Int32) dX12_joke_76 (by decide) ?_
                refine z_ixor hC dX12_joke_77 ?_
                refine z_iand hC dX12_joke_78 ?_
                refine z_iload hC 6 dX12_joke_79 rfl ?_
                refine z_callVi hC (ci := 12) rfl lmRX12_118 (ctX12_allowsBy (vLa V) (vDa V) (vTg V) (vBs V) (vSa V) hp p0 (v14 &&& (((1 : Int32) <<< (s2.2.2 &&& 31)) ^^^ (-1 : Int32))) s7.2) (by decide) hn0 dX12_joke_81 rfl rfl (Nat.le_of_ble_eq_true rfl) (fun v15 => ?_)
                refine z_if_eq hC 91 dX12_joke_84 (by decide) (fun _ => ?_) (fun _ => ?_)
                · refine z_iconst hC (0 : Int32) dX12_joke_91 (by decide) ?_
                  refine z_iadd hC dX12_joke_92 ?_
                  refine z_vli (fun x16 => ?_)
                  refine z_istore hC [(0, .ref p0), (1, .int p1), (2, .int s2.1), (3, .int s2.2.1), (4, .int s2.2.2), (5, .int x16), (6, .int s7.2)] [1, 2, 3, 4, 5, 0, 6] dX12_joke_93 (by decide) rfl ?_
                  refine z_iincv hC (1 : Int32) 6 (fun x17 => [(0, .ref p0), (1, .int p1), (2, .int s2.1), (3, .int s2.2.1), (4, .int s2.2.2), (5, .int x16), (6, .int x17)]) [1, 2, 3, 4, 5, 6, 0] dX12_joke_95 rfl (by decide) (by decide) (fun _ => rfl) (fun x17 => ?_)
                  refine z_goto hC 47 dX12_joke_98 (by decide) ?_
                  exact z_leaf (fun h => h)
                · refine z_iconst hC (1 : Int32) dX12_joke_87 (by decide) ?_
                  refine z_goto hC 92 dX12_joke_88 (by decide) ?_
                  refine z_iadd hC dX12_joke_92 ?_
                  refine z_vli (fun x18 => ?_)
                  refine z_istore hC [(0, .ref p0), (1, .int p1), (2, .int s2.1), (3, .int s2.2.1), (4, .int s2.2.2), (5, .int x18), (6, .int s7.2)] [1, 2, 3, 4, 5, 0, 6] dX12_joke_93 (by decide) rfl ?_
                  refine z_iincv hC (1 : Int32) 6 (fun x19 => [(0, .ref p0), (1, .int p1), (2, .int s2.1), (3, .int s2.2.1), (4, .int s2.2.2), (5, .int x18), (6, .int x19)]) [1, 2, 3, 4, 5, 6, 0] dX12_joke_95 rfl (by decide) (by decide) (fun _ => rfl) (fun x19 => ?_)
                  refine z_goto hC 47 dX12_joke_98 (by decide) ?_
                  exact z_leaf (fun h => h)
              · refine z_iconst hC (0 : Int32) dX12_joke_91 (by decide) ?_
                refine z_iadd hC dX12_joke_92 ?_
                refine z_vli (fun x20 => ?_)
                refine z_istore hC [(0, .ref p0), (1, .int p1), (2, .int s2.1), (3, .int s2.2.1), (4, .int s2.2.2), (5, .int x20), (6, .int s7.2)] [1, 2, 3, 4, 5, 0, 6] dX12_joke_93 (by decide) rfl ?_
                refine z_iincv hC (1 : Int32) 6 (fun x21 => [(0, .ref p0), (1, .int p1), (2, .int s2.1), (3, .int s2.2.1), (4, .int s2.2.2), (5, .int x20), (6, .int x21)]) [1, 2, 3, 4, 5, 6, 0] dX12_joke_95 rfl (by decide) (by decide) (fun _ => rfl) (fun x21 => ?_)
                refine z_goto hC 47 dX12_joke_98 (by decide) ?_
                exact z_leaf (fun h => h)

theorem dX12_freeing_0 : decode cX12_freeing 0 = .ok (.iconst 0, 1) := by decide +kernel
theorem dX12_freeing_1 : decode cX12_freeing 1 = .ok (.istore_n 1, 1) := by decide +kernel
theorem dX12_freeing_2 : decode cX12_freeing 2 = .ok (.iconst 0, 1) := by decide +kernel
theorem dX12_freeing_3 : decode cX12_freeing 3 = .ok (.istore_n 2, 1) := by decide +kernel
theorem dX12_freeing_4 : decode cX12_freeing 4 = .ok (.iload_n 2, 1) := by decide +kernel
theorem dX12_freeing_5 : decode cX12_freeing 5 = .ok (.bipush 8, 2) := by decide +kernel
theorem dX12_freeing_7 : decode cX12_freeing 7 = .ok (.if_icmp .ge 31, 3) := by decide +kernel
theorem dX12_freeing_10 : decode cX12_freeing 10 = .ok (.aload_n 0, 1) := by decide +kernel
theorem dX12_freeing_11 : decode cX12_freeing 11 = .ok (.iload_n 2, 1) := by decide +kernel
theorem dX12_freeing_12 : decode cX12_freeing 12 = .ok (.invokevirtual 343, 3) := by decide +kernel
theorem dX12_freeing_15 : decode cX12_freeing 15 = .ok (.ifCond .eq 17, 3) := by decide +kernel
theorem dX12_freeing_18 : decode cX12_freeing 18 = .ok (.aload_n 0, 1) := by decide +kernel
theorem dX12_freeing_19 : decode cX12_freeing 19 = .ok (.iload_n 2, 1) := by decide +kernel
theorem dX12_freeing_20 : decode cX12_freeing 20 = .ok (.invokevirtual 355, 3) := by decide +kernel
theorem dX12_freeing_23 : decode cX12_freeing 23 = .ok (.ifCond .ne 9, 3) := by decide +kernel
theorem dX12_freeing_26 : decode cX12_freeing 26 = .ok (.iload_n 1, 1) := by decide +kernel
theorem dX12_freeing_27 : decode cX12_freeing 27 = .ok (.iconst 1, 1) := by decide +kernel
theorem dX12_freeing_28 : decode cX12_freeing 28 = .ok (.iload_n 2, 1) := by decide +kernel
theorem dX12_freeing_29 : decode cX12_freeing 29 = .ok (.ishl, 1) := by decide +kernel
theorem dX12_freeing_30 : decode cX12_freeing 30 = .ok (.ior, 1) := by decide +kernel
theorem dX12_freeing_31 : decode cX12_freeing 31 = .ok (.istore_n 1, 1) := by decide +kernel
theorem dX12_freeing_32 : decode cX12_freeing 32 = .ok (.iinc 2 1, 3) := by decide +kernel
theorem dX12_freeing_35 : decode cX12_freeing 35 = .ok (.goto (-31), 3) := by decide +kernel
theorem dX12_freeing_38 : decode cX12_freeing 38 = .ok (.iload_n 1, 1) := by decide +kernel
theorem dX12_freeing_39 : decode cX12_freeing 39 = .ok (.ireturn, 1) := by decide +kernel
def FX12_freeing (hp : HP) (p0 : Nat) : Option (Int32) := (lp (fun (s1 : Int32 × Int32) => if (8 : Int32) ≤ s1.2 then some (Sum.inl s1.1) else (rc [12] hp p0 (FX12_isWish hp p0 s1.2)).bind (fun v3 => if v3 = 0 then vl (s1.2 + (1 : Int32)) (fun x4 => some (Sum.inr (s1.1, x4))) else (rc [12] hp p0 (FX12_fitsWith hp p0 s1.2)).bind (fun v5 => if v5 = 0 then vl (s1.1 ||| ((1 : Int32) <<< (s1.2 &&& 31))) (fun x6 => vl (s1.2 + (1 : Int32)) (fun x7 => some (Sum.inr (x6, x7)))) else vl (s1.2 + (1 : Int32)) (fun x8 => some (Sum.inr (s1.1, x8)))))) FU ((0 : Int32), (0 : Int32))).bind (fun (y2 : Int32) => some y2)
set_option maxHeartbeats 4000000 in
set_option maxRecDepth 100000 in
theorem ctX12_freeing (l : Launch) (D : va_G) (tg : Nat → ClassId) (bs : Nat) (sa : Nat → Nat) (hp : HP) (p0 : Nat) : Ct l D tg bs sa yX12_freeing cX12_freeing 3 (some .int) 2 [.ref p0] hp (FX12_freeing hp p0) (fun r => some (.int r)) (fun _ => hp) := by
  refine Ct.of (by decide) (Nat.le_of_ble_eq_true rfl) ?_
  intro V Q hVl hVd hVt hVb hVs hC
  subst hVl; subst hVd; subst hVt; subst hVb; subst hVs
  unfold FX12_freeing
  show Zs V Q (0, 0) 3 _ _ hp [(0, .ref p0)] 0 []
  refine z_iconst hC (0 : Int32) dX12_freeing_0 (by decide) ?_
  refine z_istore_n hC [(0, .ref p0), (1, .int (0 : Int32))] [1, 0] dX12_freeing_1 rfl (by decide) rfl ?_
  refine z_iconst hC (0 : Int32) dX12_freeing_2 (by decide) ?_
  refine z_istore_n hC [(0, .ref p0), (1, .int (0 : Int32)), (2, .int (0 : Int32))] [1, 2, 0] dX12_freeing_3 rfl (by decide) rfl ?_
  refine z_lp (S := Int32 × Int32) (Y := Int32) (fun s1 => hp) (fun s1 => [(0, .ref p0), (1, .int s1.1), (2, .int s1.2)]) (fun y2 => hp) (fun y2 => [(1, .int y2)]) 38 [] (fun y2 => ?_) (fun s1 => ?_) rfl rfl
  · refine z_iload_n hC 0 dX12_freeing_38 rfl rfl ?_
    exact z_iret hC (fun h => h) dX12_freeing_39
  · refine z_iload_n hC 2 dX12_freeing_4 rfl rfl ?_
    refine z_bipush hC (8 : Int32) dX12_freeing_5 (by decide) ?_
    refine z_icmp_ge hC 38 dX12_freeing_7 (by decide) (fun _ => ?_) (fun _ => ?_)
    · refine z_weak [(1, .int s1.1)] [1] rfl ?_
      exact z_leaf (fun h => h)
    · refine z_aload_n hC 0 dX12_freeing_10 rfl rfl ?_
      refine z_iload_n hC 2 dX12_freeing_11 rfl rfl ?_
      refine z_callVi hC (ci := 12) rfl lmRX12_343 (ctX12_isWish (vLa V) (vDa V) (vTg V) (vBs V) (vSa V) hp p0 s1.2) (by decide) hn0 dX12_freeing_12 rfl rfl (Nat.le_of_ble_eq_true rfl) (fun v3 => ?_)
      refine z_if_eq hC 32 dX12_freeing_15 (by decide) (fun _ => ?_) (fun _ => ?_)
      · refine z_iincv hC (1 : Int32) 2 (fun x4 => [(0, .ref p0), (1, .int s1.1), (2, .int x4)]) [1, 2, 0] dX12_freeing_32 rfl (by decide) (by decide) (fun _ => rfl) (fun x4 => ?_)
        refine z_goto hC 4 dX12_freeing_35 (by decide) ?_
        exact z_leaf (fun h => h)
      · refine z_aload_n hC 0 dX12_freeing_18 rfl rfl ?_
        refine z_iload_n hC 2 dX12_freeing_19 rfl rfl ?_
        refine z_callVi hC (ci := 12) rfl lmRX12_355 (ctX12_fitsWith (vLa V) (vDa V) (vTg V) (vBs V) (vSa V) hp p0 s1.2) (by decide) hn0 dX12_freeing_20 rfl rfl (Nat.le_of_ble_eq_true rfl) (fun v5 => ?_)
        refine z_if_ne hC 32 dX12_freeing_23 (by decide) (fun _ => ?_) (fun _ => ?_)
        · refine z_iload_n hC 1 dX12_freeing_26 rfl rfl ?_
          refine z_iconst hC (1 : Int32) dX12_freeing_27 (by decide) ?_
          refine z_iload_n hC 2 dX12_freeing_28 rfl rfl ?_
          refine z_ishl hC dX12_freeing_29 ?_
          refine z_ior hC dX12_freeing_30 ?_
          refine z_vli (fun x6 => ?_)
          refine z_istore_n hC [(0, .ref p0), (1, .int x6), (2, .int s1.2)] [1, 0, 2] dX12_freeing_31 rfl (by decide) rfl ?_
          refine z_iincv hC (1 : Int32) 2 (fun x7 => [(0, .ref p0), (1, .int x6), (2, .int x7)]) [1, 2, 0] dX12_freeing_32 rfl (by decide) (by decide) (fun _ => rfl) (fun x7 => ?_)
          refine z_goto hC 4 dX12_freeing_35 (by decide) ?_
          exact z_leaf (fun h => h)
        · refine z_iincv hC (1 : Int32) 2 (fun x8 => [(0, .ref p0), (1, .int s1.1), (2, .int x8)]) [1, 2, 0] dX12_freeing_32 rfl (by decide) (by decide) (fun _ => rfl) (fun x8 => ?_)
          refine z_goto hC 4 dX12_freeing_35 (by decide) ?_
          exact z_leaf (fun h => h)

theorem dX12_putsAside_0 : decode cX12_putsAside 0 = .ok (.aload_n 0, 1) := by decide +kernel
theorem dX12_putsAside_1 : decode cX12_putsAside 1 = .ok (.aload_n 0, 1) := by decide +kernel
theorem dX12_putsAside_2 : decode cX12_putsAside 2 = .ok (.getfield 121, 3) := by decide +kernel
theorem dX12_putsAside_5 : decode cX12_putsAside 5 = .ok (.putfield 364, 3) := by decide +kernel
theorem dX12_putsAside_8 : decode cX12_putsAside 8 = .ok (.aload_n 0, 1) := by decide +kernel
theorem dX12_putsAside_9 : decode cX12_putsAside 9 = .ok (.aload_n 0, 1) := by decide +kernel
theorem dX12_putsAside_10 : decode cX12_putsAside 10 = .ok (.getfield 238, 3) := by decide +kernel
theorem dX12_putsAside_13 : decode cX12_putsAside 13 = .ok (.putfield 367, 3) := by decide +kernel
theorem dX12_putsAside_16 : decode cX12_putsAside 16 = .ok (.aload_n 0, 1) := by decide +kernel
theorem dX12_putsAside_17 : decode cX12_putsAside 17 = .ok (.aload_n 0, 1) := by decide +kernel
theorem dX12_putsAside_18 : decode cX12_putsAside 18 = .ok (.getfield 241, 3) := by decide +kernel
theorem dX12_putsAside_21 : decode cX12_putsAside 21 = .ok (.putfield 370, 3) := by decide +kernel
theorem dX12_putsAside_24 : decode cX12_putsAside 24 = .ok (.aload_n 0, 1) := by decide +kernel
theorem dX12_putsAside_25 : decode cX12_putsAside 25 = .ok (.aload_n 0, 1) := by decide +kernel
theorem dX12_putsAside_26 : decode cX12_putsAside 26 = .ok (.getfield 235, 3) := by decide +kernel
theorem dX12_putsAside_29 : decode cX12_putsAside 29 = .ok (.putfield 373, 3) := by decide +kernel
theorem dX12_putsAside_32 : decode cX12_putsAside 32 = .ok (.aload_n 0, 1) := by decide +kernel
theorem dX12_putsAside_33 : decode cX12_putsAside 33 = .ok (.aload_n 0, 1) := by decide +kernel
theorem dX12_putsAside_34 : decode cX12_putsAside 34 = .ok (.getfield 302, 3) := by decide +kernel
theorem dX12_putsAside_37 : decode cX12_putsAside 37 = .ok (.putfield 376, 3) := by decide +kernel
theorem dX12_putsAside_40 : decode cX12_putsAside 40 = .ok (.aload_n 0, 1) := by decide +kernel
theorem dX12_putsAside_41 : decode cX12_putsAside 41 = .ok (.aload_n 0, 1) := by decide +kernel
theorem dX12_putsAside_42 : decode cX12_putsAside 42 = .ok (.getfield 319, 3) := by decide +kernel
theorem dX12_putsAside_45 : decode cX12_putsAside 45 = .ok (.putfield 379, 3) := by decide +kernel
theorem dX12_putsAside_48 : decode cX12_putsAside 48 = .ok (.return_, 1) := by decide +kernel
def FX12_putsAside (hp : HP) (p0 : Nat) : Option (HP) := (gI [12] 7 hp p0).bind (fun v1 => (sI [12] 48 hp p0 v1).bind (fun hp2 => (gI [12] 8 hp2 p0).bind (fun v3 => (sI [12] 49 hp2 p0 v3).bind (fun hp4 => (gI [12] 9 hp4 p0).bind (fun v5 => (sI [12] 50 hp4 p0 v5).bind (fun hp6 => (gI [12] 10 hp6 p0).bind (fun v7 => (sI [12] 51 hp6 p0 v7).bind (fun hp8 => (gI [12] 11 hp8 p0).bind (fun v9 => (sI [12] 52 hp8 p0 v9).bind (fun hp10 => (gI [12] 12 hp10 p0).bind (fun v11 => (sI [12] 53 hp10 p0 v11).bind (fun hp12 => some hp12))))))))))))
set_option maxHeartbeats 4000000 in
set_option maxRecDepth 100000 in
theorem ctX12_putsAside (l : Launch) (D : va_G) (tg : Nat → ClassId) (bs : Nat) (sa : Nat → Nat) (hp : HP) (p0 : Nat) : Ct l D tg bs sa yX12_putsAside cX12_putsAside 1 none 0 [.ref p0] hp (FX12_putsAside hp p0) (fun _ => none) (fun r => r) := by
  refine Ct.of (by decide) (Nat.le_of_ble_eq_true rfl) ?_
  intro V Q hVl hVd hVt hVb hVs hC
  subst hVl; subst hVd; subst hVt; subst hVb; subst hVs
  unfold FX12_putsAside
  show Zs V Q (0, 0) 1 _ _ hp [(0, .ref p0)] 0 []
  refine z_aload_n hC 0 dX12_putsAside_0 rfl rfl ?_
  refine z_aload_n hC 0 dX12_putsAside_1 rfl rfl ?_
  refine z_getI hC lgRX12_121 dX12_putsAside_2 (fun v1 => ?_)
  refine z_putI hC lpRX12_364 dX12_putsAside_5 (fun hp2 => ?_)
  refine z_aload_n hC 0 dX12_putsAside_8 rfl rfl ?_
  refine z_aload_n hC 0 dX12_putsAside_9 rfl rfl ?_
  refine z_getI hC lgRX12_238 dX12_putsAside_10 (fun v3 => ?_)
  refine z_putI hC lpRX12_367 dX12_putsAside_13 (fun hp4 => ?_)
  refine z_aload_n hC 0 dX12_putsAside_16 rfl rfl ?_
  refine z_aload_n hC 0 dX12_putsAside_17 rfl rfl ?_
  refine z_getI hC lgRX12_241 dX12_putsAside_18 (fun v5 => ?_)
  refine z_putI hC lpRX12_370 dX12_putsAside_21 (fun hp6 => ?_)
  refine z_aload_n hC 0 dX12_putsAside_24 rfl rfl ?_
  refine z_aload_n hC 0 dX12_putsAside_25 rfl rfl ?_
  refine z_getI hC lgRX12_235 dX12_putsAside_26 (fun v7 => ?_)
  refine z_putI hC lpRX12_373 dX12_putsAside_29 (fun hp8 => ?_)
  refine z_aload_n hC 0 dX12_putsAside_32 rfl rfl ?_
  refine z_aload_n hC 0 dX12_putsAside_33 rfl rfl ?_
  refine z_getI hC lgRX12_302 dX12_putsAside_34 (fun v9 => ?_)
  refine z_putI hC lpRX12_376 dX12_putsAside_37 (fun hp10 => ?_)
  refine z_aload_n hC 0 dX12_putsAside_40 rfl rfl ?_
  refine z_aload_n hC 0 dX12_putsAside_41 rfl rfl ?_
  refine z_getI hC lgRX12_319 dX12_putsAside_42 (fun v11 => ?_)
  refine z_putI hC lpRX12_379 dX12_putsAside_45 (fun hp12 => ?_)
  exact z_vret hC (fun h => h) dX12_putsAside_48

theorem dX12_bringsBack_0 : decode cX12_bringsBack 0 = .ok (.aload_n 0, 1) := by decide +kernel
theorem dX12_bringsBack_1 : decode cX12_bringsBack 1 = .ok (.aload_n 0, 1) := by decide +kernel
theorem dX12_bringsBack_2 : decode cX12_bringsBack 2 = .ok (.getfield 364, 3) := by decide +kernel
theorem dX12_bringsBack_5 : decode cX12_bringsBack 5 = .ok (.putfield 121, 3) := by decide +kernel
theorem dX12_bringsBack_8 : decode cX12_bringsBack 8 = .ok (.aload_n 0, 1) := by decide +kernel
theorem dX12_bringsBack_9 : decode cX12_bringsBack 9 = .ok (.aload_n 0, 1) := by decide +kernel
theorem dX12_bringsBack_10 : decode cX12_bringsBack 10 = .ok (.getfield 367, 3) := by decide +kernel
theorem dX12_bringsBack_13 : decode cX12_bringsBack 13 = .ok (.putfield 238, 3) := by decide +kernel
theorem dX12_bringsBack_16 : decode cX12_bringsBack 16 = .ok (.aload_n 0, 1) := by decide +kernel
theorem dX12_bringsBack_17 : decode cX12_bringsBack 17 = .ok (.aload_n 0, 1) := by decide +kernel
theorem dX12_bringsBack_18 : decode cX12_bringsBack 18 = .ok (.getfield 370, 3) := by decide +kernel
theorem dX12_bringsBack_21 : decode cX12_bringsBack 21 = .ok (.putfield 241, 3) := by decide +kernel
theorem dX12_bringsBack_24 : decode cX12_bringsBack 24 = .ok (.aload_n 0, 1) := by decide +kernel
theorem dX12_bringsBack_25 : decode cX12_bringsBack 25 = .ok (.aload_n 0, 1) := by decide +kernel
theorem dX12_bringsBack_26 : decode cX12_bringsBack 26 = .ok (.getfield 373, 3) := by decide +kernel
theorem dX12_bringsBack_29 : decode cX12_bringsBack 29 = .ok (.putfield 235, 3) := by decide +kernel
theorem dX12_bringsBack_32 : decode cX12_bringsBack 32 = .ok (.aload_n 0, 1) := by decide +kernel
theorem dX12_bringsBack_33 : decode cX12_bringsBack 33 = .ok (.aload_n 0, 1) := by decide +kernel
theorem dX12_bringsBack_34 : decode cX12_bringsBack 34 = .ok (.getfield 376, 3) := by decide +kernel
theorem dX12_bringsBack_37 : decode cX12_bringsBack 37 = .ok (.putfield 302, 3) := by decide +kernel
theorem dX12_bringsBack_40 : decode cX12_bringsBack 40 = .ok (.aload_n 0, 1) := by decide +kernel
theorem dX12_bringsBack_41 : decode cX12_bringsBack 41 = .ok (.aload_n 0, 1) := by decide +kernel
theorem dX12_bringsBack_42 : decode cX12_bringsBack 42 = .ok (.getfield 379, 3) := by decide +kernel
theorem dX12_bringsBack_45 : decode cX12_bringsBack 45 = .ok (.putfield 319, 3) := by decide +kernel
theorem dX12_bringsBack_48 : decode cX12_bringsBack 48 = .ok (.return_, 1) := by decide +kernel
def FX12_bringsBack (hp : HP) (p0 : Nat) : Option (HP) := (gI [12] 48 hp p0).bind (fun v1 => (sI [12] 7 hp p0 v1).bind (fun hp2 => (gI [12] 49 hp2 p0).bind (fun v3 => (sI [12] 8 hp2 p0 v3).bind (fun hp4 => (gI [12] 50 hp4 p0).bind (fun v5 => (sI [12] 9 hp4 p0 v5).bind (fun hp6 => (gI [12] 51 hp6 p0).bind (fun v7 => (sI [12] 10 hp6 p0 v7).bind (fun hp8 => (gI [12] 52 hp8 p0).bind (fun v9 => (sI [12] 11 hp8 p0 v9).bind (fun hp10 => (gI [12] 53 hp10 p0).bind (fun v11 => (sI [12] 12 hp10 p0 v11).bind (fun hp12 => some hp12))))))))))))
set_option maxHeartbeats 4000000 in
set_option maxRecDepth 100000 in
theorem ctX12_bringsBack (l : Launch) (D : va_G) (tg : Nat → ClassId) (bs : Nat) (sa : Nat → Nat) (hp : HP) (p0 : Nat) : Ct l D tg bs sa yX12_bringsBack cX12_bringsBack 1 none 0 [.ref p0] hp (FX12_bringsBack hp p0) (fun _ => none) (fun r => r) := by
  refine Ct.of (by decide) (Nat.le_of_ble_eq_true rfl) ?_
  intro V Q hVl hVd hVt hVb hVs hC
  subst hVl; subst hVd; subst hVt; subst hVb; subst hVs
  unfold FX12_bringsBack
  show Zs V Q (0, 0) 1 _ _ hp [(0, .ref p0)] 0 []
  refine z_aload_n hC 0 dX12_bringsBack_0 rfl rfl ?_
  refine z_aload_n hC 0 dX12_bringsBack_1 rfl rfl ?_
  refine z_getI hC lgRX12_364 dX12_bringsBack_2 (fun v1 => ?_)
  refine z_putI hC lpRX12_121 dX12_bringsBack_5 (fun hp2 => ?_)
  refine z_aload_n hC 0 dX12_bringsBack_8 rfl rfl ?_
  refine z_aload_n hC 0 dX12_bringsBack_9 rfl rfl ?_
  refine z_getI hC lgRX12_367 dX12_bringsBack_10 (fun v3 => ?_)
  refine z_putI hC lpRX12_238 dX12_bringsBack_13 (fun hp4 => ?_)
  refine z_aload_n hC 0 dX12_bringsBack_16 rfl rfl ?_
  refine z_aload_n hC 0 dX12_bringsBack_17 rfl rfl ?_
  refine z_getI hC lgRX12_370 dX12_bringsBack_18 (fun v5 => ?_)
  refine z_putI hC lpRX12_241 dX12_bringsBack_21 (fun hp6 => ?_)
  refine z_aload_n hC 0 dX12_bringsBack_24 rfl rfl ?_
  refine z_aload_n hC 0 dX12_bringsBack_25 rfl rfl ?_
  refine z_getI hC lgRX12_373 dX12_bringsBack_26 (fun v7 => ?_)
  refine z_putI hC lpRX12_235 dX12_bringsBack_29 (fun hp8 => ?_)
  refine z_aload_n hC 0 dX12_bringsBack_32 rfl rfl ?_
  refine z_aload_n hC 0 dX12_bringsBack_33 rfl rfl ?_
  refine z_getI hC lgRX12_376 dX12_bringsBack_34 (fun v9 => ?_)
  refine z_putI hC lpRX12_302 dX12_bringsBack_37 (fun hp10 => ?_)
  refine z_aload_n hC 0 dX12_bringsBack_40 rfl rfl ?_
  refine z_aload_n hC 0 dX12_bringsBack_41 rfl rfl ?_
  refine z_getI hC lgRX12_379 dX12_bringsBack_42 (fun v11 => ?_)
  refine z_putI hC lpRX12_319 dX12_bringsBack_45 (fun hp12 => ?_)
  exact z_vret hC (fun h => h) dX12_bringsBack_48

theorem dX12_laysWho_0 : decode cX12_laysWho 0 = .ok (.iconst 0, 1) := by decide +kernel
theorem dX12_laysWho_1 : decode cX12_laysWho 1 = .ok (.istore_n 2, 1) := by decide +kernel
theorem dX12_laysWho_2 : decode cX12_laysWho 2 = .ok (.iconst 0, 1) := by decide +kernel
theorem dX12_laysWho_3 : decode cX12_laysWho 3 = .ok (.istore_n 3, 1) := by decide +kernel
theorem dX12_laysWho_4 : decode cX12_laysWho 4 = .ok (.iload_n 3, 1) := by decide +kernel
theorem dX12_laysWho_5 : decode cX12_laysWho 5 = .ok (.bipush 8, 2) := by decide +kernel
theorem dX12_laysWho_7 : decode cX12_laysWho 7 = .ok (.if_icmp .ge 31, 3) := by decide +kernel
theorem dX12_laysWho_10 : decode cX12_laysWho 10 = .ok (.iload_n 1, 1) := by decide +kernel
theorem dX12_laysWho_11 : decode cX12_laysWho 11 = .ok (.iload_n 3, 1) := by decide +kernel
theorem dX12_laysWho_12 : decode cX12_laysWho 12 = .ok (.invokestatic 107, 3) := by decide +kernel
theorem dX12_laysWho_15 : decode cX12_laysWho 15 = .ok (.ifCond .ne 6, 3) := by decide +kernel
theorem dX12_laysWho_18 : decode cX12_laysWho 18 = .ok (.goto 14, 3) := by decide +kernel
theorem dX12_laysWho_21 : decode cX12_laysWho 21 = .ok (.aload_n 0, 1) := by decide +kernel
theorem dX12_laysWho_22 : decode cX12_laysWho 22 = .ok (.getfield 87, 3) := by decide +kernel
theorem dX12_laysWho_25 : decode cX12_laysWho 25 = .ok (.iload_n 2, 1) := by decide +kernel
theorem dX12_laysWho_26 : decode cX12_laysWho 26 = .ok (.iload_n 3, 1) := by decide +kernel
theorem dX12_laysWho_27 : decode cX12_laysWho 27 = .ok (.iastore, 1) := by decide +kernel
theorem dX12_laysWho_28 : decode cX12_laysWho 28 = .ok (.iload_n 2, 1) := by decide +kernel
theorem dX12_laysWho_29 : decode cX12_laysWho 29 = .ok (.iconst 1, 1) := by decide +kernel
theorem dX12_laysWho_30 : decode cX12_laysWho 30 = .ok (.iadd, 1) := by decide +kernel
theorem dX12_laysWho_31 : decode cX12_laysWho 31 = .ok (.istore_n 2, 1) := by decide +kernel
theorem dX12_laysWho_32 : decode cX12_laysWho 32 = .ok (.iinc 3 1, 3) := by decide +kernel
theorem dX12_laysWho_35 : decode cX12_laysWho 35 = .ok (.goto (-31), 3) := by decide +kernel
theorem dX12_laysWho_38 : decode cX12_laysWho 38 = .ok (.iload_n 2, 1) := by decide +kernel
theorem dX12_laysWho_39 : decode cX12_laysWho 39 = .ok (.ireturn, 1) := by decide +kernel
def FX12_laysWho (hp : HP) (p0 : Nat) (p1 : Int32) : Option (Int32 × HP) := (lp (fun (s1 : Int32 × Int32 × HP) => if (8 : Int32) ≤ s1.2.1 then some (Sum.inl (s1.1, s1.2.2)) else (FX12_has p1 s1.2.1).bind (fun v3 => if v3 = 0 then vl (s1.2.1 + (1 : Int32)) (fun x4 => some (Sum.inr (s1.1, x4, s1.2.2))) else (gR [12] 56 s1.2.2 p0).bind (fun v5 => (wrI s1.2.2 v5 s1.1 s1.2.1).bind (fun hp6 => vl (s1.1 + (1 : Int32)) (fun x7 => vl (s1.2.1 + (1 : Int32)) (fun x8 => some (Sum.inr (x7, x8, hp6)))))))) FU ((0 : Int32), (0 : Int32), hp)).bind (fun (y2 : Int32 × HP) => some (y2.1, y2.2))
set_option maxHeartbeats 4000000 in
set_option maxRecDepth 100000 in
theorem ctX12_laysWho (l : Launch) (D : va_G) (tg : Nat → ClassId) (bs : Nat) (sa : Nat → Nat) (hp : HP) (p0 : Nat) (p1 : Int32) : Ct l D tg bs sa yX12_laysWho cX12_laysWho 4 (some .int) 1 [.ref p0, .int p1] hp (FX12_laysWho hp p0 p1) (fun r => some (.int r.1)) (fun r => r.2) := by
  refine Ct.of (by decide) (Nat.le_of_ble_eq_true rfl) ?_
  intro V Q hVl hVd hVt hVb hVs hC
  subst hVl; subst hVd; subst hVt; subst hVb; subst hVs
  unfold FX12_laysWho
  show Zs V Q (0, 0) 4 _ _ hp [(0, .ref p0), (1, .int p1)] 0 []
  refine z_iconst hC (0 : Int32) dX12_laysWho_0 (by decide) ?_
  refine z_istore_n hC [(0, .ref p0), (1, .int p1), (2, .int (0 : Int32))] [1, 2, 0] dX12_laysWho_1 rfl (by decide) rfl ?_
  refine z_iconst hC (0 : Int32) dX12_laysWho_2 (by decide) ?_
  refine z_istore_n hC [(0, .ref p0), (1, .int p1), (2, .int (0 : Int32)), (3, .int (0 : Int32))] [1, 2, 3, 0] dX12_laysWho_3 rfl (by decide) rfl ?_
  refine z_lp (S := Int32 × Int32 × HP) (Y := Int32 × HP) (fun s1 => s1.2.2) (fun s1 => [(0, .ref p0), (1, .int p1), (2, .int s1.1), (3, .int s1.2.1)]) (fun y2 => y2.2) (fun y2 => [(2, .int y2.1)]) 38 [] (fun y2 => ?_) (fun s1 => ?_) rfl rfl
  · refine z_iload_n hC 0 dX12_laysWho_38 rfl rfl ?_
    exact z_iret hC (fun h => h) dX12_laysWho_39
  · refine z_iload_n hC 3 dX12_laysWho_4 rfl rfl ?_
    refine z_bipush hC (8 : Int32) dX12_laysWho_5 (by decide) ?_
    refine z_icmp_ge hC 38 dX12_laysWho_7 (by decide) (fun _ => ?_) (fun _ => ?_)
    · refine z_weak [(2, .int s1.1)] [2] rfl ?_
      exact z_leaf (fun h => h)
    · refine z_iload_n hC 1 dX12_laysWho_10 rfl rfl ?_
      refine z_iload_n hC 3 dX12_laysWho_11 rfl rfl ?_
      refine z_callSi hC lmRX12_107 (ctX12_has (vLa V) (vDa V) (vTg V) (vBs V) (vSa V) s1.2.2 p1 s1.2.1) (by decide) hn0 dX12_laysWho_12 rfl rfl (Nat.le_of_ble_eq_true rfl) (fun v3 => ?_)
      refine z_if_ne hC 21 dX12_laysWho_15 (by decide) (fun _ => ?_) (fun _ => ?_)
      · refine z_goto hC 32 dX12_laysWho_18 (by decide) ?_
        refine z_iincv hC (1 : Int32) 3 (fun x4 => [(0, .ref p0), (1, .int p1), (2, .int s1.1), (3, .int x4)]) [1, 2, 3, 0] dX12_laysWho_32 rfl (by decide) (by decide) (fun _ => rfl) (fun x4 => ?_)
        refine z_goto hC 4 dX12_laysWho_35 (by decide) ?_
        exact z_leaf (fun h => h)
      · refine z_aload_n hC 0 dX12_laysWho_21 rfl rfl ?_
        refine z_getR hC lgRX12_87 dX12_laysWho_22 (fun v5 => ?_)
        refine z_iload_n hC 2 dX12_laysWho_25 rfl rfl ?_
        refine z_iload_n hC 3 dX12_laysWho_26 rfl rfl ?_
        refine z_iast hC dX12_laysWho_27 (fun hp6 => ?_)
        refine z_iload_n hC 2 dX12_laysWho_28 rfl rfl ?_
        refine z_iconst hC (1 : Int32) dX12_laysWho_29 (by decide) ?_
        refine z_iadd hC dX12_laysWho_30 ?_
        refine z_vli (fun x7 => ?_)
        refine z_istore_n hC [(0, .ref p0), (1, .int p1), (2, .int x7), (3, .int s1.2.1)] [1, 2, 0, 3] dX12_laysWho_31 rfl (by decide) rfl ?_
        refine z_iincv hC (1 : Int32) 3 (fun x8 => [(0, .ref p0), (1, .int p1), (2, .int x7), (3, .int x8)]) [1, 2, 3, 0] dX12_laysWho_32 rfl (by decide) (by decide) (fun _ => rfl) (fun x8 => ?_)
        refine z_goto hC 4 dX12_laysWho_35 (by decide) ?_
        exact z_leaf (fun h => h)

theorem dX12_codesFor_0 : decode cX12_codesFor 0 = .ok (.iconst 1, 1) := by decide +kernel
theorem dX12_codesFor_1 : decode cX12_codesFor 1 = .ok (.istore_n 2, 1) := by decide +kernel
theorem dX12_codesFor_2 : decode cX12_codesFor 2 = .ok (.iconst 0, 1) := by decide +kernel
theorem dX12_codesFor_3 : decode cX12_codesFor 3 = .ok (.istore_n 3, 1) := by decide +kernel
theorem dX12_codesFor_4 : decode cX12_codesFor 4 = .ok (.iload_n 3, 1) := by decide +kernel
theorem dX12_codesFor_5 : decode cX12_codesFor 5 = .ok (.iload_n 1, 1) := by decide +kernel
theorem dX12_codesFor_6 : decode cX12_codesFor 6 = .ok (.if_icmp .ge 13, 3) := by decide +kernel
theorem dX12_codesFor_9 : decode cX12_codesFor 9 = .ok (.iload_n 2, 1) := by decide +kernel
theorem dX12_codesFor_10 : decode cX12_codesFor 10 = .ok (.iload_n 0, 1) := by decide +kernel
theorem dX12_codesFor_11 : decode cX12_codesFor 11 = .ok (.imul, 1) := by decide +kernel
theorem dX12_codesFor_12 : decode cX12_codesFor 12 = .ok (.istore_n 2, 1) := by decide +kernel
theorem dX12_codesFor_13 : decode cX12_codesFor 13 = .ok (.iinc 3 1, 3) := by decide +kernel
theorem dX12_codesFor_16 : decode cX12_codesFor 16 = .ok (.goto (-12), 3) := by decide +kernel
theorem dX12_codesFor_19 : decode cX12_codesFor 19 = .ok (.iload_n 2, 1) := by decide +kernel
theorem dX12_codesFor_20 : decode cX12_codesFor 20 = .ok (.ireturn, 1) := by decide +kernel
def FX12_codesFor (p0 : Int32) (p1 : Int32) : Option (Int32) := (lp (fun (s1 : Int32 × Int32) => if p1 ≤ s1.2 then some (Sum.inl s1.1) else vl (s1.1 * p0) (fun x3 => vl (s1.2 + (1 : Int32)) (fun x4 => some (Sum.inr (x3, x4))))) FU ((1 : Int32), (0 : Int32))).bind (fun (y2 : Int32) => some y2)
set_option maxHeartbeats 4000000 in
set_option maxRecDepth 100000 in
theorem ctX12_codesFor (l : Launch) (D : va_G) (tg : Nat → ClassId) (bs : Nat) (sa : Nat → Nat) (hp : HP) (p0 : Int32) (p1 : Int32) : Ct l D tg bs sa yX12_codesFor cX12_codesFor 4 (some .int) 0 [.int p0, .int p1] hp (FX12_codesFor p0 p1) (fun r => some (.int r)) (fun _ => hp) := by
  refine Ct.of (by decide) (Nat.le_of_ble_eq_true rfl) ?_
  intro V Q hVl hVd hVt hVb hVs hC
  subst hVl; subst hVd; subst hVt; subst hVb; subst hVs
  unfold FX12_codesFor
  show Zs V Q (0, 0) 4 _ _ hp [(0, .int p0), (1, .int p1)] 0 []
  refine z_iconst hC (1 : Int32) dX12_codesFor_0 (by decide) ?_
  refine z_istore_n hC [(0, .int p0), (1, .int p1), (2, .int (1 : Int32))] [1, 2, 0] dX12_codesFor_1 rfl (by decide) rfl ?_
  refine z_iconst hC (0 : Int32) dX12_codesFor_2 (by decide) ?_
  refine z_istore_n hC [(0, .int p0), (1, .int p1), (2, .int (1 : Int32)), (3, .int (0 : Int32))] [1, 2, 3, 0] dX12_codesFor_3 rfl (by decide) rfl ?_
  refine z_lp (S := Int32 × Int32) (Y := Int32) (fun s1 => hp) (fun s1 => [(0, .int p0), (1, .int p1), (2, .int s1.1), (3, .int s1.2)]) (fun y2 => hp) (fun y2 => [(2, .int y2)]) 19 [] (fun y2 => ?_) (fun s1 => ?_) rfl rfl
  · refine z_iload_n hC 0 dX12_codesFor_19 rfl rfl ?_
    exact z_iret hC (fun h => h) dX12_codesFor_20
  · refine z_iload_n hC 3 dX12_codesFor_4 rfl rfl ?_
    refine z_iload_n hC 1 dX12_codesFor_5 rfl rfl ?_
    refine z_icmp_ge hC 19 dX12_codesFor_6 (by decide) (fun _ => ?_) (fun _ => ?_)
    · refine z_weak [(2, .int s1.1)] [2] rfl ?_
      exact z_leaf (fun h => h)
    · refine z_iload_n hC 2 dX12_codesFor_9 rfl rfl ?_
      refine z_iload_n hC 0 dX12_codesFor_10 rfl rfl ?_
      refine z_imul hC dX12_codesFor_11 ?_
      refine z_vli (fun x3 => ?_)
      refine z_istore_n hC [(0, .int p0), (1, .int p1), (2, .int x3), (3, .int s1.2)] [1, 2, 0, 3] dX12_codesFor_12 rfl (by decide) rfl ?_
      refine z_iincv hC (1 : Int32) 3 (fun x4 => [(0, .int p0), (1, .int p1), (2, .int x3), (3, .int x4)]) [1, 2, 3, 0] dX12_codesFor_13 rfl (by decide) (by decide) (fun _ => rfl) (fun x4 => ?_)
      refine z_goto hC 4 dX12_codesFor_16 (by decide) ?_
      exact z_leaf (fun h => h)

theorem dX12_readsRow_0 : decode cX12_readsRow 0 = .ok (.iload_n 1, 1) := by decide +kernel
theorem dX12_readsRow_1 : decode cX12_readsRow 1 = .ok (.istore 4, 2) := by decide +kernel
theorem dX12_readsRow_3 : decode cX12_readsRow 3 = .ok (.iconst 0, 1) := by decide +kernel
theorem dX12_readsRow_4 : decode cX12_readsRow 4 = .ok (.istore 5, 2) := by decide +kernel
theorem dX12_readsRow_6 : decode cX12_readsRow 6 = .ok (.iload_n 3, 1) := by decide +kernel
theorem dX12_readsRow_7 : decode cX12_readsRow 7 = .ok (.iconst 1, 1) := by decide +kernel
theorem dX12_readsRow_8 : decode cX12_readsRow 8 = .ok (.isub, 1) := by decide +kernel
theorem dX12_readsRow_9 : decode cX12_readsRow 9 = .ok (.istore 6, 2) := by decide +kernel
theorem dX12_readsRow_11 : decode cX12_readsRow 11 = .ok (.iload 6, 2) := by decide +kernel
theorem dX12_readsRow_13 : decode cX12_readsRow 13 = .ok (.ifCond .lt 62, 3) := by decide +kernel
theorem dX12_readsRow_16 : decode cX12_readsRow 16 = .ok (.aload_n 0, 1) := by decide +kernel
theorem dX12_readsRow_17 : decode cX12_readsRow 17 = .ok (.getfield 81, 3) := by decide +kernel
theorem dX12_readsRow_20 : decode cX12_readsRow 20 = .ok (.iload 6, 2) := by decide +kernel
theorem dX12_readsRow_22 : decode cX12_readsRow 22 = .ok (.aload_n 0, 1) := by decide +kernel
theorem dX12_readsRow_23 : decode cX12_readsRow 23 = .ok (.getfield 87, 3) := by decide +kernel
theorem dX12_readsRow_26 : decode cX12_readsRow 26 = .ok (.iload 4, 2) := by decide +kernel
theorem dX12_readsRow_28 : decode cX12_readsRow 28 = .ok (.iload_n 2, 1) := by decide +kernel
theorem dX12_readsRow_29 : decode cX12_readsRow 29 = .ok (.irem, 1) := by decide +kernel
theorem dX12_readsRow_30 : decode cX12_readsRow 30 = .ok (.iaload, 1) := by decide +kernel
theorem dX12_readsRow_31 : decode cX12_readsRow 31 = .ok (.iastore, 1) := by decide +kernel
theorem dX12_readsRow_32 : decode cX12_readsRow 32 = .ok (.iload 4, 2) := by decide +kernel
theorem dX12_readsRow_34 : decode cX12_readsRow 34 = .ok (.iload_n 2, 1) := by decide +kernel
theorem dX12_readsRow_35 : decode cX12_readsRow 35 = .ok (.idiv, 1) := by decide +kernel
theorem dX12_readsRow_36 : decode cX12_readsRow 36 = .ok (.istore 4, 2) := by decide +kernel
theorem dX12_readsRow_38 : decode cX12_readsRow 38 = .ok (.iload 5, 2) := by decide +kernel
theorem dX12_readsRow_40 : decode cX12_readsRow 40 = .ok (.aload_n 0, 1) := by decide +kernel
theorem dX12_readsRow_41 : decode cX12_readsRow 41 = .ok (.getfield 81, 3) := by decide +kernel
theorem dX12_readsRow_44 : decode cX12_readsRow 44 = .ok (.iload 6, 2) := by decide +kernel
theorem dX12_readsRow_46 : decode cX12_readsRow 46 = .ok (.iaload, 1) := by decide +kernel
theorem dX12_readsRow_47 : decode cX12_readsRow 47 = .ok (.invokestatic 107, 3) := by decide +kernel
theorem dX12_readsRow_50 : decode cX12_readsRow 50 = .ok (.ifCond .eq 5, 3) := by decide +kernel
theorem dX12_readsRow_53 : decode cX12_readsRow 53 = .ok (.iconst 0, 1) := by decide +kernel
theorem dX12_readsRow_54 : decode cX12_readsRow 54 = .ok (.ireturn, 1) := by decide +kernel
theorem dX12_readsRow_55 : decode cX12_readsRow 55 = .ok (.iload 5, 2) := by decide +kernel
theorem dX12_readsRow_57 : decode cX12_readsRow 57 = .ok (.iconst 1, 1) := by decide +kernel
theorem dX12_readsRow_58 : decode cX12_readsRow 58 = .ok (.aload_n 0, 1) := by decide +kernel
theorem dX12_readsRow_59 : decode cX12_readsRow 59 = .ok (.getfield 81, 3) := by decide +kernel
theorem dX12_readsRow_62 : decode cX12_readsRow 62 = .ok (.iload 6, 2) := by decide +kernel
theorem dX12_readsRow_64 : decode cX12_readsRow 64 = .ok (.iaload, 1) := by decide +kernel
theorem dX12_readsRow_65 : decode cX12_readsRow 65 = .ok (.ishl, 1) := by decide +kernel
theorem dX12_readsRow_66 : decode cX12_readsRow 66 = .ok (.ior, 1) := by decide +kernel
theorem dX12_readsRow_67 : decode cX12_readsRow 67 = .ok (.istore 5, 2) := by decide +kernel
theorem dX12_readsRow_69 : decode cX12_readsRow 69 = .ok (.iinc 6 (-1), 3) := by decide +kernel
theorem dX12_readsRow_72 : decode cX12_readsRow 72 = .ok (.goto (-61), 3) := by decide +kernel
theorem dX12_readsRow_75 : decode cX12_readsRow 75 = .ok (.iconst 1, 1) := by decide +kernel
theorem dX12_readsRow_76 : decode cX12_readsRow 76 = .ok (.ireturn, 1) := by decide +kernel
def FX12_readsRow (hp : HP) (p0 : Nat) (p1 : Int32) (p2 : Int32) (p3 : Int32) : Option (Int32 × HP) := vl (p3 - (1 : Int32)) (fun x1 => (lp (fun (s2 : Int32 × Int32 × Int32 × HP) => if s2.2.2.1 < 0 then some (Sum.inl (Sum.inr s2.2.2.2)) else (gR [12] 54 s2.2.2.2 p0).bind (fun v4 => (gR [12] 56 s2.2.2.2 p0).bind (fun v5 => (rmI s2.1 p2).bind (fun v6 => (rdN 0 s2.2.2.2 v5 v6).bind (fun v7 => (wrI s2.2.2.2 v4 s2.2.2.1 v7).bind (fun hp8 => (dvI s2.1 p2).bind (fun v9 => (gR [12] 54 hp8 p0).bind (fun v10 => (rdN 0 hp8 v10 s2.2.2.1).bind (fun v11 => (FX12_has s2.2.1 v11).bind (fun v12 => if v12 = 0 then (gR [12] 54 hp8 p0).bind (fun v13 => (rdN 0 hp8 v13 s2.2.2.1).bind (fun v14 => vl (s2.2.1 ||| ((1 : Int32) <<< (v14 &&& 31))) (fun x15 => vl (s2.2.2.1 + (-1 : Int32)) (fun x16 => some (Sum.inr (v9, x15, x16, hp8)))))) else some (Sum.inl (Sum.inl ((0 : Int32), hp8))))))))))))) FU (p1, (0 : Int32), x1, hp)).bind (lk (P := Int32 × HP) (fun r => r) (fun (y3 : HP) => some ((1 : Int32), y3))))
set_option maxHeartbeats 4000000 in
set_option maxRecDepth 100000 in
theorem ctX12_readsRow (l : Launch) (D : va_G) (tg : Nat → ClassId) (bs : Nat) (sa : Nat → Nat) (hp : HP) (p0 : Nat) (p1 : Int32) (p2 : Int32) (p3 : Int32) : Ct l D tg bs sa yX12_readsRow cX12_readsRow 7 (some .boolean) 1 [.ref p0, .int p1, .int p2, .int p3] hp (FX12_readsRow hp p0 p1 p2 p3) (fun r => some (.int r.1)) (fun r => r.2) := by
  refine Ct.of (by decide) (Nat.le_of_ble_eq_true rfl) ?_
  intro V Q hVl hVd hVt hVb hVs hC
  subst hVl; subst hVd; subst hVt; subst hVb; subst hVs
  unfold FX12_readsRow
  show Zs V Q (0, 0) 7 _ _ hp [(0, .ref p0), (1, .int p1), (2, .int p2), (3, .int p3)] 0 []
  refine z_iload_n hC 1 dX12_readsRow_0 rfl rfl ?_
  refine z_istore hC [(0, .ref p0), (1, .int p1), (2, .int p2), (3, .int p3), (4, .int p1)] [1, 2, 3, 4, 0] dX12_readsRow_1 (by decide) rfl ?_
  refine z_iconst hC (0 : Int32) dX12_readsRow_3 (by decide) ?_
  refine z_istore hC [(0, .ref p0), (1, .int p1), (2, .int p2), (3, .int p3), (4, .int p1), (5, .int (0 : Int32))] [1, 2, 3, 4, 5, 0] dX12_readsRow_4 (by decide) rfl ?_
  refine z_iload_n hC 3 dX12_readsRow_6 rfl rfl ?_
  refine z_iconst hC (1 : Int32) dX12_readsRow_7 (by decide) ?_
  refine z_isub hC dX12_readsRow_8 ?_
  refine z_vli (fun x1 => ?_)
  refine z_istore hC [(0, .ref p0), (1, .int p1), (2, .int p2), (3, .int p3), (4, .int p1), (5, .int (0 : Int32)), (6, .int x1)] [1, 2, 3, 4, 5, 6, 0] dX12_readsRow_9 (by decide) rfl ?_
  refine z_weak [(0, .ref p0), (2, .int p2), (4, .int p1), (5, .int (0 : Int32)), (6, .int x1)] [0, 2, 4, 5, 6] rfl ?_
  refine z_lpR (S := Int32 × Int32 × Int32 × HP) (Y := HP) (fun s2 => s2.2.2.2) (fun s2 => [(0, .ref p0), (2, .int p2), (4, .int s2.1), (5, .int s2.2.1), (6, .int s2.2.2.1)]) (fun y3 => y3) (fun y3 => []) 75 [] (fun y3 => ?_) (fun s2 => ?_) rfl rfl
  · refine z_iconst hC (1 : Int32) dX12_readsRow_75 (by decide) ?_
    exact z_zret hC (by decide) (fun h => h) dX12_readsRow_76
  · refine z_iload hC 4 dX12_readsRow_11 rfl ?_
    refine z_if_lt hC 75 dX12_readsRow_13 (by decide) (fun _ => ?_) (fun _ => ?_)
    · refine z_weak [] [] rfl ?_
      exact z_leaf (fun h => h)
    · refine z_aload_n hC 0 dX12_readsRow_16 rfl rfl ?_
      refine z_getR hC lgRX12_81 dX12_readsRow_17 (fun v4 => ?_)
      refine z_iload hC 4 dX12_readsRow_20 rfl ?_
      refine z_aload_n hC 0 dX12_readsRow_22 rfl rfl ?_
      refine z_getR hC lgRX12_87 dX12_readsRow_23 (fun v5 => ?_)
      refine z_iload hC 2 dX12_readsRow_26 rfl ?_
      refine z_iload_n hC 1 dX12_readsRow_28 rfl rfl ?_
      refine z_irem hC dX12_readsRow_29 (fun v6 => ?_)
      refine z_iald hC dX12_readsRow_30 (fun v7 => ?_)
      refine z_iast hC dX12_readsRow_31 (fun hp8 => ?_)
      refine z_iload hC 2 dX12_readsRow_32 rfl ?_
      refine z_iload_n hC 1 dX12_readsRow_34 rfl rfl ?_
      refine z_idiv hC dX12_readsRow_35 (fun v9 => ?_)
      refine z_istore hC [(0, .ref p0), (2, .int p2), (4, .int v9), (5, .int s2.2.1), (6, .int s2.2.2.1)] [1, 2, 0, 3, 4] dX12_readsRow_36 (by decide) rfl ?_
      refine z_iload hC 3 dX12_readsRow_38 rfl ?_
      refine z_aload_n hC 0 dX12_readsRow_40 rfl rfl ?_
      refine z_getR hC lgRX12_81 dX12_readsRow_41 (fun v10 => ?_)
      refine z_iload hC 4 dX12_readsRow_44 rfl ?_
      refine z_iald hC dX12_readsRow_46 (fun v11 => ?_)
      refine z_callSi hC lmRX12_107 (ctX12_has (vLa V) (vDa V) (vTg V) (vBs V) (vSa V) hp8 s2.2.1 v11) (by decide) hn0 dX12_readsRow_47 rfl rfl (Nat.le_of_ble_eq_true rfl) (fun v12 => ?_)
      refine z_if_eq hC 55 dX12_readsRow_50 (by decide) (fun _ => ?_) (fun _ => ?_)
      · refine z_iload hC 3 dX12_readsRow_55 rfl ?_
        refine z_iconst hC (1 : Int32) dX12_readsRow_57 (by decide) ?_
        refine z_aload_n hC 0 dX12_readsRow_58 rfl rfl ?_
        refine z_getR hC lgRX12_81 dX12_readsRow_59 (fun v13 => ?_)
        refine z_iload hC 4 dX12_readsRow_62 rfl ?_
        refine z_iald hC dX12_readsRow_64 (fun v14 => ?_)
        refine z_ishl hC dX12_readsRow_65 ?_
        refine z_ior hC dX12_readsRow_66 ?_
        refine z_vli (fun x15 => ?_)
        refine z_istore hC [(0, .ref p0), (2, .int p2), (4, .int v9), (5, .int x15), (6, .int s2.2.2.1)] [1, 2, 3, 0, 4] dX12_readsRow_67 (by decide) rfl ?_
        refine z_iincv hC (-1 : Int32) 4 (fun x16 => [(0, .ref p0), (2, .int p2), (4, .int v9), (5, .int x15), (6, .int x16)]) [1, 2, 3, 4, 0] dX12_readsRow_69 rfl (by decide) (by decide) (fun _ => rfl) (fun x16 => ?_)
        refine z_goto hC 11 dX12_readsRow_72 (by decide) ?_
        exact z_leaf (fun h => h)
      · refine z_iconst hC (0 : Int32) dX12_readsRow_53 (by decide) ?_
        exact z_zret hC (by decide) (fun h => h) dX12_readsRow_54

theorem dX12_grantsRow_0 : decode cX12_grantsRow 0 = .ok (.iconst 0, 1) := by decide +kernel
theorem dX12_grantsRow_1 : decode cX12_grantsRow 1 = .ok (.istore_n 2, 1) := by decide +kernel
theorem dX12_grantsRow_2 : decode cX12_grantsRow 2 = .ok (.iconst 0, 1) := by decide +kernel
theorem dX12_grantsRow_3 : decode cX12_grantsRow 3 = .ok (.istore_n 3, 1) := by decide +kernel
theorem dX12_grantsRow_4 : decode cX12_grantsRow 4 = .ok (.iload_n 3, 1) := by decide +kernel
theorem dX12_grantsRow_5 : decode cX12_grantsRow 5 = .ok (.iload_n 1, 1) := by decide +kernel
theorem dX12_grantsRow_6 : decode cX12_grantsRow 6 = .ok (.if_icmp .ge 33, 3) := by decide +kernel
theorem dX12_grantsRow_9 : decode cX12_grantsRow 9 = .ok (.aload_n 0, 1) := by decide +kernel
theorem dX12_grantsRow_10 : decode cX12_grantsRow 10 = .ok (.aload_n 0, 1) := by decide +kernel
theorem dX12_grantsRow_11 : decode cX12_grantsRow 11 = .ok (.getfield 81, 3) := by decide +kernel
theorem dX12_grantsRow_14 : decode cX12_grantsRow 14 = .ok (.iload_n 3, 1) := by decide +kernel
theorem dX12_grantsRow_15 : decode cX12_grantsRow 15 = .ok (.iaload, 1) := by decide +kernel
theorem dX12_grantsRow_16 : decode cX12_grantsRow 16 = .ok (.invokevirtual 346, 3) := by decide +kernel
theorem dX12_grantsRow_19 : decode cX12_grantsRow 19 = .ok (.istore 4, 2) := by decide +kernel
theorem dX12_grantsRow_21 : decode cX12_grantsRow 21 = .ok (.iload 4, 2) := by decide +kernel
theorem dX12_grantsRow_23 : decode cX12_grantsRow 23 = .ok (.ifCond .ge 5, 3) := by decide +kernel
theorem dX12_grantsRow_26 : decode cX12_grantsRow 26 = .ok (.iconst (-1), 1) := by decide +kernel
theorem dX12_grantsRow_27 : decode cX12_grantsRow 27 = .ok (.ireturn, 1) := by decide +kernel
theorem dX12_grantsRow_28 : decode cX12_grantsRow 28 = .ok (.iload_n 2, 1) := by decide +kernel
theorem dX12_grantsRow_29 : decode cX12_grantsRow 29 = .ok (.iload 4, 2) := by decide +kernel
theorem dX12_grantsRow_31 : decode cX12_grantsRow 31 = .ok (.iadd, 1) := by decide +kernel
theorem dX12_grantsRow_32 : decode cX12_grantsRow 32 = .ok (.istore_n 2, 1) := by decide +kernel
theorem dX12_grantsRow_33 : decode cX12_grantsRow 33 = .ok (.iinc 3 1, 3) := by decide +kernel
theorem dX12_grantsRow_36 : decode cX12_grantsRow 36 = .ok (.goto (-32), 3) := by decide +kernel
theorem dX12_grantsRow_39 : decode cX12_grantsRow 39 = .ok (.iload_n 2, 1) := by decide +kernel
theorem dX12_grantsRow_40 : decode cX12_grantsRow 40 = .ok (.ireturn, 1) := by decide +kernel
def FX12_grantsRow (hp : HP) (p0 : Nat) (p1 : Int32) : Option (Int32 × HP) := (lp (fun (s1 : Int32 × Int32 × HP) => if p1 ≤ s1.2.1 then some (Sum.inl (Sum.inr (s1.1, s1.2.2))) else (gR [12] 54 s1.2.2 p0).bind (fun v3 => (rdN 0 s1.2.2 v3 s1.2.1).bind (fun v4 => (rc [12] s1.2.2 p0 (FX12_grants s1.2.2 p0 v4)).bind (fun w5 => if 0 ≤ w5.1 then vl (s1.1 + w5.1) (fun x6 => vl (s1.2.1 + (1 : Int32)) (fun x7 => some (Sum.inr (x6, x7, w5.2)))) else some (Sum.inl (Sum.inl ((-1 : Int32), w5.2))))))) FU ((0 : Int32), (0 : Int32), hp)).bind (lk (P := Int32 × HP) (fun r => r) (fun (y2 : Int32 × HP) => some (y2.1, y2.2)))
set_option maxHeartbeats 4000000 in
set_option maxRecDepth 100000 in
theorem ctX12_grantsRow (l : Launch) (D : va_G) (tg : Nat → ClassId) (bs : Nat) (sa : Nat → Nat) (hp : HP) (p0 : Nat) (p1 : Int32) : Ct l D tg bs sa yX12_grantsRow cX12_grantsRow 5 (some .int) 5 [.ref p0, .int p1] hp (FX12_grantsRow hp p0 p1) (fun r => some (.int r.1)) (fun r => r.2) := by
  refine Ct.of (by decide) (Nat.le_of_ble_eq_true rfl) ?_
  intro V Q hVl hVd hVt hVb hVs hC
  subst hVl; subst hVd; subst hVt; subst hVb; subst hVs
  unfold FX12_grantsRow
  show Zs V Q (0, 0) 5 _ _ hp [(0, .ref p0), (1, .int p1)] 0 []
  refine z_iconst hC (0 : Int32) dX12_grantsRow_0 (by decide) ?_
  refine z_istore_n hC [(0, .ref p0), (1, .int p1), (2, .int (0 : Int32))] [1, 2, 0] dX12_grantsRow_1 rfl (by decide) rfl ?_
  refine z_iconst hC (0 : Int32) dX12_grantsRow_2 (by decide) ?_
  refine z_istore_n hC [(0, .ref p0), (1, .int p1), (2, .int (0 : Int32)), (3, .int (0 : Int32))] [1, 2, 3, 0] dX12_grantsRow_3 rfl (by decide) rfl ?_
  refine z_lpR (S := Int32 × Int32 × HP) (Y := Int32 × HP) (fun s1 => s1.2.2) (fun s1 => [(0, .ref p0), (1, .int p1), (2, .int s1.1), (3, .int s1.2.1)]) (fun y2 => y2.2) (fun y2 => [(2, .int y2.1)]) 39 [] (fun y2 => ?_) (fun s1 => ?_) rfl rfl
  · refine z_iload_n hC 0 dX12_grantsRow_39 rfl rfl ?_
    exact z_iret hC (fun h => h) dX12_grantsRow_40
  · refine z_iload_n hC 3 dX12_grantsRow_4 rfl rfl ?_
    refine z_iload_n hC 1 dX12_grantsRow_5 rfl rfl ?_
    refine z_icmp_ge hC 39 dX12_grantsRow_6 (by decide) (fun _ => ?_) (fun _ => ?_)
    · refine z_weak [(2, .int s1.1)] [2] rfl ?_
      exact z_leaf (fun h => h)
    · refine z_aload_n hC 0 dX12_grantsRow_9 rfl rfl ?_
      refine z_aload_n hC 0 dX12_grantsRow_10 rfl rfl ?_
      refine z_getR hC lgRX12_81 dX12_grantsRow_11 (fun v3 => ?_)
      refine z_iload_n hC 3 dX12_grantsRow_14 rfl rfl ?_
      refine z_iald hC dX12_grantsRow_15 (fun v4 => ?_)
      refine z_callVi hC (ci := 12) rfl lmRX12_346 (ctX12_grants (vLa V) (vDa V) (vTg V) (vBs V) (vSa V) s1.2.2 p0 v4) (by decide) hn0 dX12_grantsRow_16 rfl rfl (Nat.le_of_ble_eq_true rfl) (fun w5 => ?_)
      refine z_istore hC [(0, .ref p0), (1, .int p1), (2, .int s1.1), (3, .int s1.2.1), (4, .int w5.1)] [1, 2, 3, 4, 0] dX12_grantsRow_19 (by decide) rfl ?_
      refine z_iload hC 4 dX12_grantsRow_21 rfl ?_
      refine z_if_ge hC 28 dX12_grantsRow_23 (by decide) (fun _ => ?_) (fun _ => ?_)
      · refine z_iload_n hC 2 dX12_grantsRow_28 rfl rfl ?_
        refine z_iload hC 4 dX12_grantsRow_29 rfl ?_
        refine z_iadd hC dX12_grantsRow_31 ?_
        refine z_vli (fun x6 => ?_)
        refine z_istore_n hC [(0, .ref p0), (1, .int p1), (2, .int x6), (3, .int s1.2.1), (4, .int w5.1)] [1, 2, 0, 3, 4] dX12_grantsRow_32 rfl (by decide) rfl ?_
        refine z_iincv hC (1 : Int32) 3 (fun x7 => [(0, .ref p0), (1, .int p1), (2, .int x6), (3, .int x7), (4, .int w5.1)]) [1, 2, 3, 0, 4] dX12_grantsRow_33 rfl (by decide) (by decide) (fun _ => rfl) (fun x7 => ?_)
        refine z_goto hC 4 dX12_grantsRow_36 (by decide) ?_
        refine z_weak [(0, .ref p0), (1, .int p1), (2, .int x6), (3, .int x7)] [0, 1, 2, 3] rfl ?_
        exact z_leaf (fun h => h)
      · refine z_iconst hC (-1 : Int32) dX12_grantsRow_26 (by decide) ?_
        exact z_iret hC (fun h => h) dX12_grantsRow_27

theorem dX12_inOrder_0 : decode cX12_inOrder 0 = .ok (.aload_n 0, 1) := by decide +kernel
theorem dX12_inOrder_1 : decode cX12_inOrder 1 = .ok (.iload_n 1, 1) := by decide +kernel
theorem dX12_inOrder_2 : decode cX12_inOrder 2 = .ok (.iconst 1, 1) := by decide +kernel
theorem dX12_inOrder_3 : decode cX12_inOrder 3 = .ok (.iconst 5, 1) := by decide +kernel
theorem dX12_inOrder_4 : decode cX12_inOrder 4 = .ok (.invokevirtual 382, 3) := by decide +kernel
theorem dX12_inOrder_7 : decode cX12_inOrder 7 = .ok (.ifCond .ne 5, 3) := by decide +kernel
theorem dX12_inOrder_10 : decode cX12_inOrder 10 = .ok (.iconst (-1), 1) := by decide +kernel
theorem dX12_inOrder_11 : decode cX12_inOrder 11 = .ok (.ireturn, 1) := by decide +kernel
theorem dX12_inOrder_12 : decode cX12_inOrder 12 = .ok (.aload_n 0, 1) := by decide +kernel
theorem dX12_inOrder_13 : decode cX12_inOrder 13 = .ok (.iload_n 1, 1) := by decide +kernel
theorem dX12_inOrder_14 : decode cX12_inOrder 14 = .ok (.invokevirtual 385, 3) := by decide +kernel
theorem dX12_inOrder_17 : decode cX12_inOrder 17 = .ok (.istore_n 3, 1) := by decide +kernel
theorem dX12_inOrder_18 : decode cX12_inOrder 18 = .ok (.iload_n 2, 1) := by decide +kernel
theorem dX12_inOrder_19 : decode cX12_inOrder 19 = .ok (.bipush 20, 2) := by decide +kernel
theorem dX12_inOrder_21 : decode cX12_inOrder 21 = .ok (.if_icmp .eq 16, 3) := by decide +kernel
theorem dX12_inOrder_24 : decode cX12_inOrder 24 = .ok (.iload_n 2, 1) := by decide +kernel
theorem dX12_inOrder_25 : decode cX12_inOrder 25 = .ok (.iconst 0, 1) := by decide +kernel
theorem dX12_inOrder_26 : decode cX12_inOrder 26 = .ok (.iload_n 3, 1) := by decide +kernel
theorem dX12_inOrder_27 : decode cX12_inOrder 27 = .ok (.iconst 1, 1) := by decide +kernel
theorem dX12_inOrder_28 : decode cX12_inOrder 28 = .ok (.isub, 1) := by decide +kernel
theorem dX12_inOrder_29 : decode cX12_inOrder 29 = .ok (.invokestatic 99, 3) := by decide +kernel
theorem dX12_inOrder_32 : decode cX12_inOrder 32 = .ok (.ifCond .ne 5, 3) := by decide +kernel
theorem dX12_inOrder_35 : decode cX12_inOrder 35 = .ok (.iconst (-1), 1) := by decide +kernel
theorem dX12_inOrder_36 : decode cX12_inOrder 36 = .ok (.ireturn, 1) := by decide +kernel
theorem dX12_inOrder_37 : decode cX12_inOrder 37 = .ok (.ldc_w 309, 3) := by decide +kernel
theorem dX12_inOrder_40 : decode cX12_inOrder 40 = .ok (.istore 4, 2) := by decide +kernel
theorem dX12_inOrder_42 : decode cX12_inOrder 42 = .ok (.aload_n 0, 1) := by decide +kernel
theorem dX12_inOrder_43 : decode cX12_inOrder 43 = .ok (.invokevirtual 388, 3) := by decide +kernel
theorem dX12_inOrder_46 : decode cX12_inOrder 46 = .ok (.iconst 0, 1) := by decide +kernel
theorem dX12_inOrder_47 : decode cX12_inOrder 47 = .ok (.istore 5, 2) := by decide +kernel
theorem dX12_inOrder_49 : decode cX12_inOrder 49 = .ok (.iload 5, 2) := by decide +kernel
theorem dX12_inOrder_51 : decode cX12_inOrder 51 = .ok (.iload_n 3, 1) := by decide +kernel
theorem dX12_inOrder_52 : decode cX12_inOrder 52 = .ok (.iload_n 3, 1) := by decide +kernel
theorem dX12_inOrder_53 : decode cX12_inOrder 53 = .ok (.invokestatic 391, 3) := by decide +kernel
theorem dX12_inOrder_56 : decode cX12_inOrder 56 = .ok (.if_icmp .ge 83, 3) := by decide +kernel
theorem dX12_inOrder_59 : decode cX12_inOrder 59 = .ok (.aload_n 0, 1) := by decide +kernel
theorem dX12_inOrder_60 : decode cX12_inOrder 60 = .ok (.iload 5, 2) := by decide +kernel
theorem dX12_inOrder_62 : decode cX12_inOrder 62 = .ok (.iload_n 3, 1) := by decide +kernel
theorem dX12_inOrder_63 : decode cX12_inOrder 63 = .ok (.iload_n 3, 1) := by decide +kernel
theorem dX12_inOrder_64 : decode cX12_inOrder 64 = .ok (.invokevirtual 394, 3) := by decide +kernel
theorem dX12_inOrder_67 : decode cX12_inOrder 67 = .ok (.ifCond .ne 6, 3) := by decide +kernel
theorem dX12_inOrder_70 : decode cX12_inOrder 70 = .ok (.goto 63, 3) := by decide +kernel
theorem dX12_inOrder_73 : decode cX12_inOrder 73 = .ok (.aload_n 0, 1) := by decide +kernel
theorem dX12_inOrder_74 : decode cX12_inOrder 74 = .ok (.iload_n 3, 1) := by decide +kernel
theorem dX12_inOrder_75 : decode cX12_inOrder 75 = .ok (.invokevirtual 397, 3) := by decide +kernel
theorem dX12_inOrder_78 : decode cX12_inOrder 78 = .ok (.istore 6, 2) := by decide +kernel
theorem dX12_inOrder_80 : decode cX12_inOrder 80 = .ok (.aload_n 0, 1) := by decide +kernel
theorem dX12_inOrder_81 : decode cX12_inOrder 81 = .ok (.invokevirtual 400, 3) := by decide +kernel
theorem dX12_inOrder_84 : decode cX12_inOrder 84 = .ok (.iload 6, 2) := by decide +kernel
theorem dX12_inOrder_86 : decode cX12_inOrder 86 = .ok (.iconst (-1), 1) := by decide +kernel
theorem dX12_inOrder_87 : decode cX12_inOrder 87 = .ok (.if_icmp .eq 46, 3) := by decide +kernel
theorem dX12_inOrder_90 : decode cX12_inOrder 90 = .ok (.iload 6, 2) := by decide +kernel
theorem dX12_inOrder_92 : decode cX12_inOrder 92 = .ok (.iload 4, 2) := by decide +kernel
theorem dX12_inOrder_94 : decode cX12_inOrder 94 = .ok (.if_icmp .lt 6, 3) := by decide +kernel
theorem dX12_inOrder_97 : decode cX12_inOrder 97 = .ok (.goto 36, 3) := by decide +kernel
theorem dX12_inOrder_100 : decode cX12_inOrder 100 = .ok (.iload 6, 2) := by decide +kernel
theorem dX12_inOrder_102 : decode cX12_inOrder 102 = .ok (.istore 4, 2) := by decide +kernel
theorem dX12_inOrder_104 : decode cX12_inOrder 104 = .ok (.iconst 0, 1) := by decide +kernel
theorem dX12_inOrder_105 : decode cX12_inOrder 105 = .ok (.istore 7, 2) := by decide +kernel
theorem dX12_inOrder_107 : decode cX12_inOrder 107 = .ok (.iload 7, 2) := by decide +kernel
theorem dX12_inOrder_109 : decode cX12_inOrder 109 = .ok (.iload_n 3, 1) := by decide +kernel
theorem dX12_inOrder_110 : decode cX12_inOrder 110 = .ok (.if_icmp .ge 23, 3) := by decide +kernel
theorem dX12_inOrder_113 : decode cX12_inOrder 113 = .ok (.aload_n 0, 1) := by decide +kernel
theorem dX12_inOrder_114 : decode cX12_inOrder 114 = .ok (.getfield 84, 3) := by decide +kernel
theorem dX12_inOrder_117 : decode cX12_inOrder 117 = .ok (.iload 7, 2) := by decide +kernel
theorem dX12_inOrder_119 : decode cX12_inOrder 119 = .ok (.aload_n 0, 1) := by decide +kernel
theorem dX12_inOrder_120 : decode cX12_inOrder 120 = .ok (.getfield 81, 3) := by decide +kernel
theorem dX12_inOrder_123 : decode cX12_inOrder 123 = .ok (.iload 7, 2) := by decide +kernel
theorem dX12_inOrder_125 : decode cX12_inOrder 125 = .ok (.iaload, 1) := by decide +kernel
theorem dX12_inOrder_126 : decode cX12_inOrder 126 = .ok (.iastore, 1) := by decide +kernel
theorem dX12_inOrder_127 : decode cX12_inOrder 127 = .ok (.iinc 7 1, 3) := by decide +kernel
theorem dX12_inOrder_130 : decode cX12_inOrder 130 = .ok (.goto (-23), 3) := by decide +kernel
theorem dX12_inOrder_133 : decode cX12_inOrder 133 = .ok (.iinc 5 1, 3) := by decide +kernel
theorem dX12_inOrder_136 : decode cX12_inOrder 136 = .ok (.goto (-87), 3) := by decide +kernel
theorem dX12_inOrder_139 : decode cX12_inOrder 139 = .ok (.iload 4, 2) := by decide +kernel
theorem dX12_inOrder_141 : decode cX12_inOrder 141 = .ok (.ldc_w 309, 3) := by decide +kernel
theorem dX12_inOrder_144 : decode cX12_inOrder 144 = .ok (.if_icmp .ne 6, 3) := by decide +kernel
theorem dX12_inOrder_147 : decode cX12_inOrder 147 = .ok (.bipush (-2), 2) := by decide +kernel
theorem dX12_inOrder_149 : decode cX12_inOrder 149 = .ok (.ireturn, 1) := by decide +kernel
theorem dX12_inOrder_150 : decode cX12_inOrder 150 = .ok (.iload_n 2, 1) := by decide +kernel
theorem dX12_inOrder_151 : decode cX12_inOrder 151 = .ok (.bipush 20, 2) := by decide +kernel
theorem dX12_inOrder_153 : decode cX12_inOrder 153 = .ok (.if_icmp .ne 8, 3) := by decide +kernel
theorem dX12_inOrder_156 : decode cX12_inOrder 156 = .ok (.iload 4, 2) := by decide +kernel
theorem dX12_inOrder_158 : decode cX12_inOrder 158 = .ok (.goto 9, 3) := by decide +kernel
theorem dX12_inOrder_161 : decode cX12_inOrder 161 = .ok (.aload_n 0, 1) := by decide +kernel
theorem dX12_inOrder_162 : decode cX12_inOrder 162 = .ok (.getfield 84, 3) := by decide +kernel
theorem dX12_inOrder_165 : decode cX12_inOrder 165 = .ok (.iload_n 2, 1) := by decide +kernel
theorem dX12_inOrder_166 : decode cX12_inOrder 166 = .ok (.iaload, 1) := by decide +kernel
theorem dX12_inOrder_167 : decode cX12_inOrder 167 = .ok (.ireturn, 1) := by decide +kernel
def FX12_inOrder (hp : HP) (p0 : Nat) (p1 : Int32) (p2 : Int32) : Option (Int32 × HP) := (rc [12] hp p0 (FX12_areWishes hp p0 p1 (1 : Int32) (5 : Int32))).bind (fun v1 => if v1 = 0 then some ((-1 : Int32), hp) else (rc [12] hp p0 (FX12_laysWho hp p0 p1)).bind (fun w2 => jn (A := Unit) (fun a3 => (rc [12] w2.2 p0 (FX12_putsAside w2.2 p0)).bind (fun w5 => (lp (fun (s6 : Int32 × Int32 × HP) => (FX12_codesFor w2.1 w2.1).bind (fun v10 => if v10 ≤ s6.2.1 then some (Sum.inl (s6.1, s6.2.2)) else (rc [12] s6.2.2 p0 (FX12_readsRow s6.2.2 p0 s6.2.1 w2.1 w2.1)).bind (fun w11 => if w11.1 = 0 then vl (s6.2.1 + (1 : Int32)) (fun x12 => some (Sum.inr (s6.1, x12, w11.2))) else (rc [12] w11.2 p0 (FX12_grantsRow w11.2 p0 w2.1)).bind (fun w13 => (rc [12] w13.2 p0 (FX12_bringsBack w13.2 p0)).bind (fun w14 => if w13.1 = (-1 : Int32) then vl (s6.2.1 + (1 : Int32)) (fun x15 => some (Sum.inr (s6.1, x15, w14))) else if w13.1 < s6.1 then (lp (fun (s16 : Int32 × HP) => if w2.1 ≤ s16.1 then some (Sum.inl s16.2) else (gR [12] 55 s16.2 p0).bind (fun v19 => (gR [12] 54 s16.2 p0).bind (fun v20 => (rdN 0 s16.2 v20 s16.1).bind (fun v21 => (wrI s16.2 v19 s16.1 v21).bind (fun hp22 => vl (s16.1 + (1 : Int32)) (fun x23 => some (Sum.inr (x23, hp22)))))))) FU ((0 : Int32), w14)).bind (fun (y17 : HP) => vl (s6.2.1 + (1 : Int32)) (fun x18 => some (Sum.inr (w13.1, x18, y17)))) else vl (s6.2.1 + (1 : Int32)) (fun x24 => some (Sum.inr (s6.1, x24, w14)))))))) FU ((1000000 : Int32), (0 : Int32), w5)).bind (fun (y7 : Int32 × HP) => if y7.1 = (1000000 : Int32) then some ((-2 : Int32), y7.2) else if p2 = (20 : Int32) then some (y7.1, y7.2) else (gR [12] 55 y7.2 p0).bind (fun v8 => (rdN 0 y7.2 v8 p2).bind (fun v9 => some (v9, y7.2)))))) (fun J4 => if p2 = (20 : Int32) then J4 () else (FX12_in p2 (0 : Int32) (w2.1 - (1 : Int32))).bind (fun v25 => if v25 = 0 then some ((-1 : Int32), w2.2) else J4 ()))))
set_option maxHeartbeats 4000000 in
set_option maxRecDepth 100000 in
theorem ctX12_inOrder (l : Launch) (D : va_G) (tg : Nat → ClassId) (bs : Nat) (sa : Nat → Nat) (hp : HP) (p0 : Nat) (p1 : Int32) (p2 : Int32) : Ct l D tg bs sa yX12_inOrder cX12_inOrder 8 (some .int) 6 [.ref p0, .int p1, .int p2] hp (FX12_inOrder hp p0 p1 p2) (fun r => some (.int r.1)) (fun r => r.2) := by
  refine Ct.of (by decide) (Nat.le_of_ble_eq_true rfl) ?_
  intro V Q hVl hVd hVt hVb hVs hC
  subst hVl; subst hVd; subst hVt; subst hVb; subst hVs
  unfold FX12_inOrder
  show Zs V Q (0, 0) 8 _ _ hp [(0, .ref p0), (1, .int p1), (2, .int p2)] 0 []
  refine z_aload_n hC 0 dX12_inOrder_0 rfl rfl ?_
  refine z_iload_n hC 1 dX12_inOrder_1 rfl rfl ?_
  refine z_iconst hC (1 : Int32) dX12_inOrder_2 (by decide) ?_
  refine z_iconst hC (5 : Int32) dX12_inOrder_3 (by decide) ?_
  refine z_callVi hC (ci := 12) rfl lmRX12_382 (ctX12_areWishes (vLa V) (vDa V) (vTg V) (vBs V) (vSa V) hp p0 p1 (1 : Int32) (5 : Int32)) (by decide) hn0 dX12_inOrder_4 rfl rfl (Nat.le_of_ble_eq_true rfl) (fun v1 => ?_)
  refine z_if_ne hC 12 dX12_inOrder_7 (by decide) (fun _ => ?_) (fun _ => ?_)
  · refine z_iconst hC (-1 : Int32) dX12_inOrder_10 (by decide) ?_
    exact z_iret hC (fun h => h) dX12_inOrder_11
  · refine z_aload_n hC 0 dX12_inOrder_12 rfl rfl ?_
    refine z_iload_n hC 1 dX12_inOrder_13 rfl rfl ?_
    refine z_callVi hC (ci := 12) rfl lmRX12_385 (ctX12_laysWho (vLa V) (vDa V) (vTg V) (vBs V) (vSa V) hp p0 p1) (by decide) hn0 dX12_inOrder_14 rfl rfl (Nat.le_of_ble_eq_true rfl) (fun w2 => ?_)
    refine z_istore_n hC [(0, .ref p0), (1, .int p1), (2, .int p2), (3, .int w2.1)] [1, 2, 3, 0] dX12_inOrder_17 rfl (by decide) rfl ?_
    refine z_iload_n hC 2 dX12_inOrder_18 rfl rfl ?_
    refine z_bipush hC (20 : Int32) dX12_inOrder_19 (by decide) ?_
    refine z_jn (A := Unit) (fun a3 => w2.2) (fun a3 => [(0, .ref p0), (2, .int p2), (3, .int w2.1)]) 37 (fun a3 => []) (fun a3 => ?_) (fun J4 hJ4 => ?_)
    · refine z_ldcw hC (1000000 : Int32) lcRX12_309 dX12_inOrder_37 ?_
      refine z_istore hC [(0, .ref p0), (2, .int p2), (3, .int w2.1), (4, .int (1000000 : Int32))] [1, 2, 3, 0] dX12_inOrder_40 (by decide) rfl ?_
      refine z_aload_n hC 0 dX12_inOrder_42 rfl rfl ?_
      refine z_callVv hC (ci := 12) rfl lmRX12_388 (ctX12_putsAside (vLa V) (vDa V) (vTg V) (vBs V) (vSa V) w2.2 p0) (by decide) hn0 dX12_inOrder_43 rfl rfl (Nat.le_of_ble_eq_true rfl) (fun w5 => ?_)
      refine z_iconst hC (0 : Int32) dX12_inOrder_46 (by decide) ?_
      refine z_istore hC [(0, .ref p0), (2, .int p2), (3, .int w2.1), (4, .int (1000000 : Int32)), (5, .int (0 : Int32))] [1, 2, 3, 4, 0] dX12_inOrder_47 (by decide) rfl ?_
      refine z_lp (S := Int32 × Int32 × HP) (Y := Int32 × HP) (fun s6 => s6.2.2) (fun s6 => [(0, .ref p0), (2, .int p2), (3, .int w2.1), (4, .int s6.1), (5, .int s6.2.1)]) (fun y7 => y7.2) (fun y7 => [(0, .ref p0), (2, .int p2), (4, .int y7.1)]) 139 [] (fun y7 => ?_) (fun s6 => ?_) rfl rfl
      · refine z_iload hC 2 dX12_inOrder_139 rfl ?_
        refine z_ldcw hC (1000000 : Int32) lcRX12_309 dX12_inOrder_141 ?_
        refine z_icmp_ne hC 150 dX12_inOrder_144 (by decide) (fun _ => ?_) (fun _ => ?_)
        · refine z_bipush hC (-2 : Int32) dX12_inOrder_147 (by decide) ?_
          exact z_iret hC (fun h => h) dX12_inOrder_149
        · refine z_iload_n hC 1 dX12_inOrder_150 rfl rfl ?_
          refine z_bipush hC (20 : Int32) dX12_inOrder_151 (by decide) ?_
          refine z_icmp_ne hC 161 dX12_inOrder_153 (by decide) (fun _ => ?_) (fun _ => ?_)
          · refine z_iload hC 2 dX12_inOrder_156 rfl ?_
            refine z_goto hC 167 dX12_inOrder_158 (by decide) ?_
            exact z_iret hC (fun h => h) dX12_inOrder_167
          · refine z_aload_n hC 0 dX12_inOrder_161 rfl rfl ?_
            refine z_getR hC lgRX12_84 dX12_inOrder_162 (fun v8 => ?_)
            refine z_iload_n hC 1 dX12_inOrder_165 rfl rfl ?_
            refine z_iald hC dX12_inOrder_166 (fun v9 => ?_)
            exact z_iret hC (fun h => h) dX12_inOrder_167
      · refine z_iload hC 4 dX12_inOrder_49 rfl ?_
        refine z_iload_n hC 2 dX12_inOrder_51 rfl rfl ?_
        refine z_iload_n hC 2 dX12_inOrder_52 rfl rfl ?_
        refine z_callSi hC lmRX12_391 (ctX12_codesFor (vLa V) (vDa V) (vTg V) (vBs V) (vSa V) s6.2.2 w2.1 w2.1) (by decide) hn0 dX12_inOrder_53 rfl rfl (Nat.le_of_ble_eq_true rfl) (fun v10 => ?_)
        refine z_icmp_ge hC 139 dX12_inOrder_56 (by decide) (fun _ => ?_) (fun _ => ?_)
        · refine z_weak [(0, .ref p0), (2, .int p2), (4, .int s6.1)] [0, 1, 3] rfl ?_
          exact z_leaf (fun h => h)
        · refine z_aload_n hC 0 dX12_inOrder_59 rfl rfl ?_
          refine z_iload hC 4 dX12_inOrder_60 rfl ?_
          refine z_iload_n hC 2 dX12_inOrder_62 rfl rfl ?_
          refine z_iload_n hC 2 dX12_inOrder_63 rfl rfl ?_
          refine z_callVi hC (ci := 12) rfl lmRX12_394 (ctX12_readsRow (vLa V) (vDa V) (vTg V) (vBs V) (vSa V) s6.2.2 p0 s6.2.1 w2.1 w2.1) (by decide) hn0 dX12_inOrder_64 rfl rfl (Nat.le_of_ble_eq_true rfl) (fun w11 => ?_)
          refine z_if_ne hC 73 dX12_inOrder_67 (by decide) (fun _ => ?_) (fun _ => ?_)
          · refine z_goto hC 133 dX12_inOrder_70 (by decide) ?_
            refine z_iincv hC (1 : Int32) 4 (fun x12 => [(0, .ref p0), (2, .int p2), (3, .int w2.1), (4, .int s6.1), (5, .int x12)]) [1, 2, 3, 4, 0] dX12_inOrder_133 rfl (by decide) (by decide) (fun _ => rfl) (fun x12 => ?_)
            refine z_goto hC 49 dX12_inOrder_136 (by decide) ?_
            exact z_leaf (fun h => h)
          · refine z_aload_n hC 0 dX12_inOrder_73 rfl rfl ?_
            refine z_iload_n hC 2 dX12_inOrder_74 rfl rfl ?_
            refine z_callVi hC (ci := 12) rfl lmRX12_397 (ctX12_grantsRow (vLa V) (vDa V) (vTg V) (vBs V) (vSa V) w11.2 p0 w2.1) (by decide) hn0 dX12_inOrder_75 rfl rfl (Nat.le_of_ble_eq_true rfl) (fun w13 => ?_)
            refine z_istore hC [(0, .ref p0), (2, .int p2), (3, .int w2.1), (4, .int s6.1), (5, .int s6.2.1), (6, .int w13.1)] [1, 2, 3, 4, 5, 0] dX12_inOrder_78 (by decide) rfl ?_
            refine z_aload_n hC 0 dX12_inOrder_80 rfl rfl ?_
            refine z_callVv hC (ci := 12) rfl lmRX12_400 (ctX12_bringsBack (vLa V) (vDa V) (vTg V) (vBs V) (vSa V) w13.2 p0) (by decide) hn0 dX12_inOrder_81 rfl rfl (Nat.le_of_ble_eq_true rfl) (fun w14 => ?_)
            refine z_iload hC 5 dX12_inOrder_84 rfl ?_
            refine z_iconst hC (-1 : Int32) dX12_inOrder_86 (by decide) ?_
            refine z_icmp_eq hC 133 dX12_inOrder_87 (by decide) (fun _ => ?_) (fun _ => ?_)
            · refine z_iincv hC (1 : Int32) 4 (fun x15 => [(0, .ref p0), (2, .int p2), (3, .int w2.1), (4, .int s6.1), (5, .int x15), (6, .int w13.1)]) [1, 2, 3, 4, 0, 5] dX12_inOrder_133 rfl (by decide) (by decide) (fun _ => rfl) (fun x15 => ?_)
              refine z_goto hC 49 dX12_inOrder_136 (by decide) ?_
              refine z_weak [(0, .ref p0), (2, .int p2), (3, .int w2.1), (4, .int s6.1), (5, .int x15)] [0, 1, 2, 3, 4] rfl ?_
              exact z_leaf (fun h => h)
            · refine z_iload hC 5 dX12_inOrder_90 rfl ?_
              refine z_iload hC 3 dX12_inOrder_92 rfl ?_
              refine z_icmp_lt hC 100 dX12_inOrder_94 (by decide) (fun _ => ?_) (fun _ => ?_)
              · refine z_iload hC 5 dX12_inOrder_100 rfl ?_
                refine z_istore hC [(0, .ref p0), (2, .int p2), (3, .int w2.1), (4, .int w13.1), (5, .int s6.2.1), (6, .int w13.1)] [1, 2, 3, 0, 4, 5] dX12_inOrder_102 (by decide) rfl ?_
                refine z_iconst hC (0 : Int32) dX12_inOrder_104 (by decide) ?_
                refine z_istore hC [(0, .ref p0), (2, .int p2), (3, .int w2.1), (4, .int w13.1), (5, .int s6.2.1), (6, .int w13.1), (7, .int (0 : Int32))] [1, 2, 3, 4, 5, 6, 0] dX12_inOrder_105 (by decide) rfl ?_
                refine z_weak [(0, .ref p0), (2, .int p2), (3, .int w2.1), (4, .int w13.1), (5, .int s6.2.1), (7, .int (0 : Int32))] [0, 1, 2, 3, 4, 6] rfl ?_
                refine z_lp (S := Int32 × HP) (Y := HP) (fun s16 => s16.2) (fun s16 => [(0, .ref p0), (2, .int p2), (3, .int w2.1), (4, .int w13.1), (5, .int s6.2.1), (7, .int s16.1)]) (fun y17 => y17) (fun y17 => [(0, .ref p0), (2, .int p2), (3, .int w2.1), (4, .int w13.1), (5, .int s6.2.1)]) 133 [] (fun y17 => ?_) (fun s16 => ?_) rfl rfl
                · refine z_iincv hC (1 : Int32) 4 (fun x18 => [(0, .ref p0), (2, .int p2), (3, .int w2.1), (4, .int w13.1), (5, .int x18)]) [1, 2, 3, 4, 0] dX12_inOrder_133 rfl (by decide) (by decide) (fun _ => rfl) (fun x18 => ?_)
                  refine z_goto hC 49 dX12_inOrder_136 (by decide) ?_
                  exact z_leaf (fun h => h)
                · refine z_iload hC 5 dX12_inOrder_107 rfl ?_
                  refine z_iload_n hC 2 dX12_inOrder_109 rfl rfl ?_
                  refine z_icmp_ge hC 133 dX12_inOrder_110 (by decide) (fun _ => ?_) (fun _ => ?_)
                  · refine z_weak [(0, .ref p0), (2, .int p2), (3, .int w2.1), (4, .int w13.1), (5, .int s6.2.1)] [0, 1, 2, 3, 4] rfl ?_
                    exact z_leaf (fun h => h)
                  · refine z_aload_n hC 0 dX12_inOrder_113 rfl rfl ?_
                    refine z_getR hC lgRX12_84 dX12_inOrder_114 (fun v19 => ?_)
                    refine z_iload hC 5 dX12_inOrder_117 rfl ?_
                    refine z_aload_n hC 0 dX12_inOrder_119 rfl rfl ?_
                    refine z_getR hC lgRX12_81 dX12_inOrder_120 (fun v20 => ?_)
                    refine z_iload hC 5 dX12_inOrder_123 rfl ?_
                    refine z_iald hC dX12_inOrder_125 (fun v21 => ?_)
                    refine z_iast hC dX12_inOrder_126 (fun hp22 => ?_)
                    refine z_iincv hC (1 : Int32) 5 (fun x23 => [(0, .ref p0), (2, .int p2), (3, .int w2.1), (4, .int w13.1), (5, .int s6.2.1), (7, .int x23)]) [1, 2, 3, 4, 5, 0] dX12_inOrder_127 rfl (by decide) (by decide) (fun _ => rfl) (fun x23 => ?_)
                    refine z_goto hC 107 dX12_inOrder_130 (by decide) ?_
                    exact z_leaf (fun h => h)
              · refine z_goto hC 133 dX12_inOrder_97 (by decide) ?_
                refine z_iincv hC (1 : Int32) 4 (fun x24 => [(0, .ref p0), (2, .int p2), (3, .int w2.1), (4, .int s6.1), (5, .int x24), (6, .int w13.1)]) [1, 2, 3, 4, 0, 5] dX12_inOrder_133 rfl (by decide) (by decide) (fun _ => rfl) (fun x24 => ?_)
                refine z_goto hC 49 dX12_inOrder_136 (by decide) ?_
                refine z_weak [(0, .ref p0), (2, .int p2), (3, .int w2.1), (4, .int s6.1), (5, .int x24)] [0, 1, 2, 3, 4] rfl ?_
                exact z_leaf (fun h => h)
    · refine z_icmp_eq hC 37 dX12_inOrder_21 (by decide) (fun _ => ?_) (fun _ => ?_)
      · refine z_weak [(0, .ref p0), (2, .int p2), (3, .int w2.1)] [0, 2, 3] rfl ?_
        exact hJ4 ()
      · refine z_iload_n hC 2 dX12_inOrder_24 rfl rfl ?_
        refine z_iconst hC (0 : Int32) dX12_inOrder_25 (by decide) ?_
        refine z_iload_n hC 3 dX12_inOrder_26 rfl rfl ?_
        refine z_iconst hC (1 : Int32) dX12_inOrder_27 (by decide) ?_
        refine z_isub hC dX12_inOrder_28 ?_
        refine z_callSi hC lmRX12_99 (ctX12_in (vLa V) (vDa V) (vTg V) (vBs V) (vSa V) w2.2 p2 (0 : Int32) (w2.1 - (1 : Int32))) (by decide) hn0 dX12_inOrder_29 rfl rfl (Nat.le_of_ble_eq_true rfl) (fun v25 => ?_)
        refine z_if_ne hC 37 dX12_inOrder_32 (by decide) (fun _ => ?_) (fun _ => ?_)
        · refine z_iconst hC (-1 : Int32) dX12_inOrder_35 (by decide) ?_
          exact z_iret hC (fun h => h) dX12_inOrder_36
        · refine z_weak [(0, .ref p0), (2, .int p2), (3, .int w2.1)] [0, 2, 3] rfl ?_
          exact hJ4 ()

theorem dX12_leadsRow_0 : decode cX12_leadsRow 0 = .ok (.aload_n 0, 1) := by decide +kernel
theorem dX12_leadsRow_1 : decode cX12_leadsRow 1 = .ok (.iload_n 2, 1) := by decide +kernel
theorem dX12_leadsRow_2 : decode cX12_leadsRow 2 = .ok (.invokevirtual 397, 3) := by decide +kernel
theorem dX12_leadsRow_5 : decode cX12_leadsRow 5 = .ok (.iconst (-1), 1) := by decide +kernel
theorem dX12_leadsRow_6 : decode cX12_leadsRow 6 = .ok (.if_icmp .eq 19, 3) := by decide +kernel
theorem dX12_leadsRow_9 : decode cX12_leadsRow 9 = .ok (.aload_n 0, 1) := by decide +kernel
theorem dX12_leadsRow_10 : decode cX12_leadsRow 10 = .ok (.iload_n 1, 1) := by decide +kernel
theorem dX12_leadsRow_11 : decode cX12_leadsRow 11 = .ok (.aload_n 0, 1) := by decide +kernel
theorem dX12_leadsRow_12 : decode cX12_leadsRow 12 = .ok (.getfield 121, 3) := by decide +kernel
theorem dX12_leadsRow_15 : decode cX12_leadsRow 15 = .ok (.invokevirtual 310, 3) := by decide +kernel
theorem dX12_leadsRow_18 : decode cX12_leadsRow 18 = .ok (.ifCond .eq 7, 3) := by decide +kernel
theorem dX12_leadsRow_21 : decode cX12_leadsRow 21 = .ok (.iconst 1, 1) := by decide +kernel
theorem dX12_leadsRow_22 : decode cX12_leadsRow 22 = .ok (.goto 4, 3) := by decide +kernel
theorem dX12_leadsRow_25 : decode cX12_leadsRow 25 = .ok (.iconst 0, 1) := by decide +kernel
theorem dX12_leadsRow_26 : decode cX12_leadsRow 26 = .ok (.istore_n 3, 1) := by decide +kernel
theorem dX12_leadsRow_27 : decode cX12_leadsRow 27 = .ok (.aload_n 0, 1) := by decide +kernel
theorem dX12_leadsRow_28 : decode cX12_leadsRow 28 = .ok (.invokevirtual 400, 3) := by decide +kernel
theorem dX12_leadsRow_31 : decode cX12_leadsRow 31 = .ok (.iload_n 3, 1) := by decide +kernel
theorem dX12_leadsRow_32 : decode cX12_leadsRow 32 = .ok (.ireturn, 1) := by decide +kernel
def FX12_leadsRow (hp : HP) (p0 : Nat) (p1 : Int32) (p2 : Int32) : Option (Int32 × HP) := (rc [12] hp p0 (FX12_grantsRow hp p0 p2)).bind (fun w1 => jn (A := Int32) (fun a2 => (rc [12] w1.2 p0 (FX12_bringsBack w1.2 p0)).bind (fun w4 => bz a2 (some (a2, w4)))) (fun J3 => if w1.1 = (-1 : Int32) then J3 (0 : Int32) else (gI [12] 7 w1.2 p0).bind (fun v5 => (rc [12] w1.2 p0 (FX12_holdsIn w1.2 p0 p1 v5)).bind (fun v6 => if v6 = 0 then J3 (0 : Int32) else J3 (1 : Int32)))))
set_option maxHeartbeats 4000000 in
set_option maxRecDepth 100000 in
theorem ctX12_leadsRow (l : Launch) (D : va_G) (tg : Nat → ClassId) (bs : Nat) (sa : Nat → Nat) (hp : HP) (p0 : Nat) (p1 : Int32) (p2 : Int32) : Ct l D tg bs sa yX12_leadsRow cX12_leadsRow 4 (some .boolean) 6 [.ref p0, .int p1, .int p2] hp (FX12_leadsRow hp p0 p1 p2) (fun r => some (.int r.1)) (fun r => r.2) := by
  refine Ct.of (by decide) (Nat.le_of_ble_eq_true rfl) ?_
  intro V Q hVl hVd hVt hVb hVs hC
  subst hVl; subst hVd; subst hVt; subst hVb; subst hVs
  unfold FX12_leadsRow
  show Zs V Q (0, 0) 4 _ _ hp [(0, .ref p0), (1, .int p1), (2, .int p2)] 0 []
  refine z_aload_n hC 0 dX12_leadsRow_0 rfl rfl ?_
  refine z_iload_n hC 2 dX12_leadsRow_1 rfl rfl ?_
  refine z_callVi hC (ci := 12) rfl lmRX12_397 (ctX12_grantsRow (vLa V) (vDa V) (vTg V) (vBs V) (vSa V) hp p0 p2) (by decide) hn0 dX12_leadsRow_2 rfl rfl (Nat.le_of_ble_eq_true rfl) (fun w1 => ?_)
  refine z_iconst hC (-1 : Int32) dX12_leadsRow_5 (by decide) ?_
  refine z_jn (A := Int32) (fun a2 => w1.2) (fun a2 => [(0, .ref p0)]) 26 (fun a2 => [.int a2]) (fun a2 => ?_) (fun J3 hJ3 => ?_)
  · refine z_istore_n hC [(0, .ref p0), (3, .int a2)] [1, 0] dX12_leadsRow_26 rfl (by decide) rfl ?_
    refine z_aload_n hC 0 dX12_leadsRow_27 rfl rfl ?_
    refine z_callVv hC (ci := 12) rfl lmRX12_400 (ctX12_bringsBack (vLa V) (vDa V) (vTg V) (vBs V) (vSa V) w1.2 p0) (by decide) hn0 dX12_leadsRow_28 rfl rfl (Nat.le_of_ble_eq_true rfl) (fun w4 => ?_)
    refine z_iload_n hC 1 dX12_leadsRow_31 rfl rfl ?_
    exact z_bz (fun hv => z_zret hC hv (fun h => h) dX12_leadsRow_32)
  · refine z_icmp_eq hC 25 dX12_leadsRow_6 (by decide) (fun _ => ?_) (fun _ => ?_)
    · refine z_iconst hC (0 : Int32) dX12_leadsRow_25 (by decide) ?_
      refine z_weak [(0, .ref p0)] [0] rfl ?_
      exact hJ3 (0 : Int32)
    · refine z_aload_n hC 0 dX12_leadsRow_9 rfl rfl ?_
      refine z_iload_n hC 1 dX12_leadsRow_10 rfl rfl ?_
      refine z_aload_n hC 0 dX12_leadsRow_11 rfl rfl ?_
      refine z_getI hC lgRX12_121 dX12_leadsRow_12 (fun v5 => ?_)
      refine z_callVi hC (ci := 12) rfl lmRX12_310 (ctX12_holdsIn (vLa V) (vDa V) (vTg V) (vBs V) (vSa V) w1.2 p0 p1 v5) (by decide) hn0 dX12_leadsRow_15 rfl rfl (Nat.le_of_ble_eq_true rfl) (fun v6 => ?_)
      refine z_if_eq hC 25 dX12_leadsRow_18 (by decide) (fun _ => ?_) (fun _ => ?_)
      · refine z_iconst hC (0 : Int32) dX12_leadsRow_25 (by decide) ?_
        refine z_weak [(0, .ref p0)] [0] rfl ?_
        exact hJ3 (0 : Int32)
      · refine z_iconst hC (1 : Int32) dX12_leadsRow_21 (by decide) ?_
        refine z_goto hC 26 dX12_leadsRow_22 (by decide) ?_
        refine z_weak [(0, .ref p0)] [0] rfl ?_
        exact hJ3 (1 : Int32)

