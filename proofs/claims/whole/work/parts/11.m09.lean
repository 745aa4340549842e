theorem dX12_sureBy_0 : decode cX12_sureBy 0 = .ok (.iconst 0, 1) := by decide +kernel
theorem dX12_sureBy_1 : decode cX12_sureBy 1 = .ok (.istore_n 3, 1) := by decide +kernel
theorem dX12_sureBy_2 : decode cX12_sureBy 2 = .ok (.iload_n 3, 1) := by decide +kernel
theorem dX12_sureBy_3 : decode cX12_sureBy 3 = .ok (.sipush 1024, 3) := by decide +kernel
theorem dX12_sureBy_6 : decode cX12_sureBy 6 = .ok (.if_icmp .ge 16, 3) := by decide +kernel
theorem dX12_sureBy_9 : decode cX12_sureBy 9 = .ok (.aload_n 0, 1) := by decide +kernel
theorem dX12_sureBy_10 : decode cX12_sureBy 10 = .ok (.getfield 93, 3) := by decide +kernel
theorem dX12_sureBy_13 : decode cX12_sureBy 13 = .ok (.iload_n 3, 1) := by decide +kernel
theorem dX12_sureBy_14 : decode cX12_sureBy 14 = .ok (.iconst 0, 1) := by decide +kernel
theorem dX12_sureBy_15 : decode cX12_sureBy 15 = .ok (.bastore, 1) := by decide +kernel
theorem dX12_sureBy_16 : decode cX12_sureBy 16 = .ok (.iinc 3 1, 3) := by decide +kernel
theorem dX12_sureBy_19 : decode cX12_sureBy 19 = .ok (.goto (-17), 3) := by decide +kernel
theorem dX12_sureBy_22 : decode cX12_sureBy 22 = .ok (.iconst 0, 1) := by decide +kernel
theorem dX12_sureBy_23 : decode cX12_sureBy 23 = .ok (.istore_n 3, 1) := by decide +kernel
theorem dX12_sureBy_24 : decode cX12_sureBy 24 = .ok (.iload_n 3, 1) := by decide +kernel
theorem dX12_sureBy_25 : decode cX12_sureBy 25 = .ok (.sipush 1024, 3) := by decide +kernel
theorem dX12_sureBy_28 : decode cX12_sureBy 28 = .ok (.if_icmp .ge 27, 3) := by decide +kernel
theorem dX12_sureBy_31 : decode cX12_sureBy 31 = .ok (.aload_n 0, 1) := by decide +kernel
theorem dX12_sureBy_32 : decode cX12_sureBy 32 = .ok (.iload_n 1, 1) := by decide +kernel
theorem dX12_sureBy_33 : decode cX12_sureBy 33 = .ok (.iload_n 3, 1) := by decide +kernel
theorem dX12_sureBy_34 : decode cX12_sureBy 34 = .ok (.invokevirtual 310, 3) := by decide +kernel
theorem dX12_sureBy_37 : decode cX12_sureBy 37 = .ok (.ifCond .ne 12, 3) := by decide +kernel
theorem dX12_sureBy_40 : decode cX12_sureBy 40 = .ok (.aload_n 0, 1) := by decide +kernel
theorem dX12_sureBy_41 : decode cX12_sureBy 41 = .ok (.getfield 93, 3) := by decide +kernel
theorem dX12_sureBy_44 : decode cX12_sureBy 44 = .ok (.iload_n 3, 1) := by decide +kernel
theorem dX12_sureBy_45 : decode cX12_sureBy 45 = .ok (.iload_n 2, 1) := by decide +kernel
theorem dX12_sureBy_46 : decode cX12_sureBy 46 = .ok (.iand, 1) := by decide +kernel
theorem dX12_sureBy_47 : decode cX12_sureBy 47 = .ok (.iconst 1, 1) := by decide +kernel
theorem dX12_sureBy_48 : decode cX12_sureBy 48 = .ok (.bastore, 1) := by decide +kernel
theorem dX12_sureBy_49 : decode cX12_sureBy 49 = .ok (.iinc 3 1, 3) := by decide +kernel
theorem dX12_sureBy_52 : decode cX12_sureBy 52 = .ok (.goto (-28), 3) := by decide +kernel
theorem dX12_sureBy_55 : decode cX12_sureBy 55 = .ok (.iconst 0, 1) := by decide +kernel
theorem dX12_sureBy_56 : decode cX12_sureBy 56 = .ok (.istore_n 3, 1) := by decide +kernel
theorem dX12_sureBy_57 : decode cX12_sureBy 57 = .ok (.iload_n 3, 1) := by decide +kernel
theorem dX12_sureBy_58 : decode cX12_sureBy 58 = .ok (.sipush 1024, 3) := by decide +kernel
theorem dX12_sureBy_61 : decode cX12_sureBy 61 = .ok (.if_icmp .ge 28, 3) := by decide +kernel
theorem dX12_sureBy_64 : decode cX12_sureBy 64 = .ok (.iload_n 3, 1) := by decide +kernel
theorem dX12_sureBy_65 : decode cX12_sureBy 65 = .ok (.iload_n 2, 1) := by decide +kernel
theorem dX12_sureBy_66 : decode cX12_sureBy 66 = .ok (.iconst (-1), 1) := by decide +kernel
theorem dX12_sureBy_67 : decode cX12_sureBy 67 = .ok (.ixor, 1) := by decide +kernel
theorem dX12_sureBy_68 : decode cX12_sureBy 68 = .ok (.iand, 1) := by decide +kernel
theorem dX12_sureBy_69 : decode cX12_sureBy 69 = .ok (.ifCond .ne 14, 3) := by decide +kernel
theorem dX12_sureBy_72 : decode cX12_sureBy 72 = .ok (.aload_n 0, 1) := by decide +kernel
theorem dX12_sureBy_73 : decode cX12_sureBy 73 = .ok (.getfield 93, 3) := by decide +kernel
theorem dX12_sureBy_76 : decode cX12_sureBy 76 = .ok (.iload_n 3, 1) := by decide +kernel
theorem dX12_sureBy_77 : decode cX12_sureBy 77 = .ok (.baload, 1) := by decide +kernel
theorem dX12_sureBy_78 : decode cX12_sureBy 78 = .ok (.ifCond .ne 5, 3) := by decide +kernel
theorem dX12_sureBy_81 : decode cX12_sureBy 81 = .ok (.iload_n 3, 1) := by decide +kernel
theorem dX12_sureBy_82 : decode cX12_sureBy 82 = .ok (.ireturn, 1) := by decide +kernel
theorem dX12_sureBy_83 : decode cX12_sureBy 83 = .ok (.iinc 3 1, 3) := by decide +kernel
theorem dX12_sureBy_86 : decode cX12_sureBy 86 = .ok (.goto (-29), 3) := by decide +kernel
theorem dX12_sureBy_89 : decode cX12_sureBy 89 = .ok (.iconst (-1), 1) := by decide +kernel
theorem dX12_sureBy_90 : decode cX12_sureBy 90 = .ok (.ireturn, 1) := by decide +kernel
def FX12_sureBy (hp : HP) (p0 : Nat) (p1 : Int32) (p2 : Int32) : Option (Int32 × HP) := (lp (fun (s1 : Int32 × HP) => if (1024 : Int32) ≤ s1.1 then some (Sum.inl s1.2) else (gR [12] 58 s1.2 p0).bind (fun v16 => (wrZ s1.2 v16 s1.1 (0 : Int32)).bind (fun hp17 => vl (s1.1 + (1 : Int32)) (fun x18 => some (Sum.inr (x18, hp17)))))) FU ((0 : Int32), hp)).bind (fun (y2 : HP) => (lp (fun (s3 : Int32 × HP) => if (1024 : Int32) ≤ s3.1 then some (Sum.inl s3.2) else (rc [12] s3.2 p0 (FX12_holdsIn s3.2 p0 p1 s3.1)).bind (fun v11 => if v11 = 0 then (gR [12] 58 s3.2 p0).bind (fun v12 => (wrZ s3.2 v12 (s3.1 &&& p2) (1 : Int32)).bind (fun hp13 => vl (s3.1 + (1 : Int32)) (fun x14 => some (Sum.inr (x14, hp13))))) else vl (s3.1 + (1 : Int32)) (fun x15 => some (Sum.inr (x15, s3.2))))) FU ((0 : Int32), y2)).bind (fun (y4 : HP) => (lp (fun (s5 : Int32) => if (1024 : Int32) ≤ s5 then some (Sum.inl (Sum.inr ())) else if (s5 &&& (p2 ^^^ (-1 : Int32))) = 0 then (gR [12] 58 y4 p0).bind (fun v7 => (rdN 2 y4 v7 s5).bind (fun v8 => if v8 = 0 then some (Sum.inl (Sum.inl (s5, y4))) else vl (s5 + (1 : Int32)) (fun x9 => some (Sum.inr x9)))) else vl (s5 + (1 : Int32)) (fun x10 => some (Sum.inr x10))) FU (0 : Int32)).bind (lk (P := Int32 × HP) (fun r => r) (fun (y6 : Unit) => some ((-1 : Int32), y4)))))
set_option maxHeartbeats 4000000 in
set_option maxRecDepth 100000 in
theorem ctX12_sureBy (l : Launch) (D : va_G) (tg : Nat → ClassId) (bs : Nat) (sa : Nat → Nat) (hp : HP) (p0 : Nat) (p1 : Int32) (p2 : Int32) : Ct l D tg bs sa yX12_sureBy cX12_sureBy 4 (some .int) 1 [.ref p0, .int p1, .int p2] hp (FX12_sureBy hp p0 p1 p2) (fun r => some (.int r.1)) (fun r => r.2) := by
  refine Ct.of (by decide) (Nat.le_of_ble_eq_true rfl) ?_
  intro V Q hVl hVd hVt hVb hVs hC
  subst hVl; subst hVd; subst hVt; subst hVb; subst hVs
  unfold FX12_sureBy
  show Zs V Q (0, 0) 4 _ _ hp [(0, .ref p0), (1, .int p1), (2, .int p2)] 0 []
  refine z_iconst hC (0 : Int32) dX12_sureBy_0 (by decide) ?_
  refine z_istore_n hC [(0, .ref p0), (1, .int p1), (2, .int p2), (3, .int (0 : Int32))] [1, 2, 3, 0] dX12_sureBy_1 rfl (by decide) rfl ?_
  refine z_lp (S := Int32 × HP) (Y := HP) (fun s1 => s1.2) (fun s1 => [(0, .ref p0), (1, .int p1), (2, .int p2), (3, .int s1.1)]) (fun y2 => y2) (fun y2 => [(0, .ref p0), (1, .int p1), (2, .int p2)]) 22 [] (fun y2 => ?_) (fun s1 => ?_) rfl rfl
  · refine z_iconst hC (0 : Int32) dX12_sureBy_22 (by decide) ?_
    refine z_istore_n hC [(0, .ref p0), (1, .int p1), (2, .int p2), (3, .int (0 : Int32))] [1, 2, 3, 0] dX12_sureBy_23 rfl (by decide) rfl ?_
    refine z_lp (S := Int32 × HP) (Y := HP) (fun s3 => s3.2) (fun s3 => [(0, .ref p0), (1, .int p1), (2, .int p2), (3, .int s3.1)]) (fun y4 => y4) (fun y4 => [(0, .ref p0), (2, .int p2)]) 55 [] (fun y4 => ?_) (fun s3 => ?_) rfl rfl
    · refine z_iconst hC (0 : Int32) dX12_sureBy_55 (by decide) ?_
      refine z_istore_n hC [(0, .ref p0), (2, .int p2), (3, .int (0 : Int32))] [1, 2, 0] dX12_sureBy_56 rfl (by decide) rfl ?_
      refine z_lpR (S := Int32) (Y := Unit) (fun s5 => y4) (fun s5 => [(0, .ref p0), (2, .int p2), (3, .int s5)]) (fun y6 => y4) (fun y6 => []) 89 [] (fun y6 => ?_) (fun s5 => ?_) rfl rfl
      · refine z_iconst hC (-1 : Int32) dX12_sureBy_89 (by decide) ?_
        exact z_iret hC (fun h => h) dX12_sureBy_90
      · refine z_iload_n hC 2 dX12_sureBy_57 rfl rfl ?_
        refine z_sipush hC (1024 : Int32) dX12_sureBy_58 (by decide) ?_
        refine z_icmp_ge hC 89 dX12_sureBy_61 (by decide) (fun _ => ?_) (fun _ => ?_)
        · refine z_weak [] [] rfl ?_
          exact z_leaf (fun h => h)
        · refine z_iload_n hC 2 dX12_sureBy_64 rfl rfl ?_
          refine z_iload_n hC 1 dX12_sureBy_65 rfl rfl ?_
          refine z_iconst hC (-1 : Int32) dX12_sureBy_66 (by decide) ?_
          refine z_ixor hC dX12_sureBy_67 ?_
          refine z_iand hC dX12_sureBy_68 ?_
          refine z_if_ne hC 83 dX12_sureBy_69 (by decide) (fun _ => ?_) (fun _ => ?_)
          · refine z_aload_n hC 0 dX12_sureBy_72 rfl rfl ?_
            refine z_getR hC lgRX12_93 dX12_sureBy_73 (fun v7 => ?_)
            refine z_iload_n hC 2 dX12_sureBy_76 rfl rfl ?_
            refine z_zald hC dX12_sureBy_77 (fun v8 => ?_)
            refine z_if_ne hC 83 dX12_sureBy_78 (by decide) (fun _ => ?_) (fun _ => ?_)
            · refine z_iload_n hC 2 dX12_sureBy_81 rfl rfl ?_
              exact z_iret hC (fun h => h) dX12_sureBy_82
            · refine z_iincv hC (1 : Int32) 2 (fun x9 => [(0, .ref p0), (2, .int p2), (3, .int x9)]) [1, 2, 0] dX12_sureBy_83 rfl (by decide) (by decide) (fun _ => rfl) (fun x9 => ?_)
              refine z_goto hC 57 dX12_sureBy_86 (by decide) ?_
              exact z_leaf (fun h => h)
          · refine z_iincv hC (1 : Int32) 2 (fun x10 => [(0, .ref p0), (2, .int p2), (3, .int x10)]) [1, 2, 0] dX12_sureBy_83 rfl (by decide) (by decide) (fun _ => rfl) (fun x10 => ?_)
            refine z_goto hC 57 dX12_sureBy_86 (by decide) ?_
            exact z_leaf (fun h => h)
    · refine z_iload_n hC 3 dX12_sureBy_24 rfl rfl ?_
      refine z_sipush hC (1024 : Int32) dX12_sureBy_25 (by decide) ?_
      refine z_icmp_ge hC 55 dX12_sureBy_28 (by decide) (fun _ => ?_) (fun _ => ?_)
      · refine z_weak [(0, .ref p0), (2, .int p2)] [0, 2] rfl ?_
        exact z_leaf (fun h => h)
      · refine z_aload_n hC 0 dX12_sureBy_31 rfl rfl ?_
        refine z_iload_n hC 1 dX12_sureBy_32 rfl rfl ?_
        refine z_iload_n hC 3 dX12_sureBy_33 rfl rfl ?_
        refine z_callVi hC (ci := 12) rfl lmRX12_310 (ctX12_holdsIn (vLa V) (vDa V) (vTg V) (vBs V) (vSa V) s3.2 p0 p1 s3.1) (by decide) hn0 dX12_sureBy_34 rfl rfl (Nat.le_of_ble_eq_true rfl) (fun v11 => ?_)
        refine z_if_ne hC 49 dX12_sureBy_37 (by decide) (fun _ => ?_) (fun _ => ?_)
        · refine z_aload_n hC 0 dX12_sureBy_40 rfl rfl ?_
          refine z_getR hC lgRX12_93 dX12_sureBy_41 (fun v12 => ?_)
          refine z_iload_n hC 3 dX12_sureBy_44 rfl rfl ?_
          refine z_iload_n hC 2 dX12_sureBy_45 rfl rfl ?_
          refine z_iand hC dX12_sureBy_46 ?_
          refine z_iconst hC (1 : Int32) dX12_sureBy_47 (by decide) ?_
          refine z_zast hC dX12_sureBy_48 (fun hp13 => ?_)
          refine z_iincv hC (1 : Int32) 3 (fun x14 => [(0, .ref p0), (1, .int p1), (2, .int p2), (3, .int x14)]) [1, 2, 3, 0] dX12_sureBy_49 rfl (by decide) (by decide) (fun _ => rfl) (fun x14 => ?_)
          refine z_goto hC 24 dX12_sureBy_52 (by decide) ?_
          exact z_leaf (fun h => h)
        · refine z_iincv hC (1 : Int32) 3 (fun x15 => [(0, .ref p0), (1, .int p1), (2, .int p2), (3, .int x15)]) [1, 2, 3, 0] dX12_sureBy_49 rfl (by decide) (by decide) (fun _ => rfl) (fun x15 => ?_)
          refine z_goto hC 24 dX12_sureBy_52 (by decide) ?_
          exact z_leaf (fun h => h)
  · refine z_iload_n hC 3 dX12_sureBy_2 rfl rfl ?_
    refine z_sipush hC (1024 : Int32) dX12_sureBy_3 (by decide) ?_
    refine z_icmp_ge hC 22 dX12_sureBy_6 (by decide) (fun _ => ?_) (fun _ => ?_)
    · refine z_weak [(0, .ref p0), (1, .int p1), (2, .int p2)] [0, 1, 2] rfl ?_
      exact z_leaf (fun h => h)
    · refine z_aload_n hC 0 dX12_sureBy_9 rfl rfl ?_
      refine z_getR hC lgRX12_93 dX12_sureBy_10 (fun v16 => ?_)
      refine z_iload_n hC 3 dX12_sureBy_13 rfl rfl ?_
      refine z_iconst hC (0 : Int32) dX12_sureBy_14 (by decide) ?_
      refine z_zast hC dX12_sureBy_15 (fun hp17 => ?_)
      refine z_iincv hC (1 : Int32) 3 (fun x18 => [(0, .ref p0), (1, .int p1), (2, .int p2), (3, .int x18)]) [1, 2, 3, 0] dX12_sureBy_16 rfl (by decide) (by decide) (fun _ => rfl) (fun x18 => ?_)
      refine z_goto hC 2 dX12_sureBy_19 (by decide) ?_
      exact z_leaf (fun h => h)

theorem dX12_word_0 : decode cX12_word 0 = .ok (.aload_n 0, 1) := by decide +kernel
theorem dX12_word_1 : decode cX12_word 1 = .ok (.iload_n 1, 1) := by decide +kernel
theorem dX12_word_2 : decode cX12_word 2 = .ok (.invokevirtual 343, 3) := by decide +kernel
theorem dX12_word_5 : decode cX12_word 5 = .ok (.ifCond .eq 12, 3) := by decide +kernel
theorem dX12_word_8 : decode cX12_word 8 = .ok (.iload_n 2, 1) := by decide +kernel
theorem dX12_word_9 : decode cX12_word 9 = .ok (.iconst 0, 1) := by decide +kernel
theorem dX12_word_10 : decode cX12_word 10 = .ok (.iconst 2, 1) := by decide +kernel
theorem dX12_word_11 : decode cX12_word 11 = .ok (.invokestatic 99, 3) := by decide +kernel
theorem dX12_word_14 : decode cX12_word 14 = .ok (.ifCond .ne 5, 3) := by decide +kernel
theorem dX12_word_17 : decode cX12_word 17 = .ok (.iconst (-1), 1) := by decide +kernel
theorem dX12_word_18 : decode cX12_word 18 = .ok (.ireturn, 1) := by decide +kernel
theorem dX12_word_19 : decode cX12_word 19 = .ok (.iconst 0, 1) := by decide +kernel
theorem dX12_word_20 : decode cX12_word 20 = .ok (.istore_n 3, 1) := by decide +kernel
theorem dX12_word_21 : decode cX12_word 21 = .ok (.iload_n 3, 1) := by decide +kernel
theorem dX12_word_22 : decode cX12_word 22 = .ok (.bipush 10, 2) := by decide +kernel
theorem dX12_word_24 : decode cX12_word 24 = .ok (.if_icmp .gt 77, 3) := by decide +kernel
theorem dX12_word_27 : decode cX12_word 27 = .ok (.iconst 0, 1) := by decide +kernel
theorem dX12_word_28 : decode cX12_word 28 = .ok (.istore 4, 2) := by decide +kernel
theorem dX12_word_30 : decode cX12_word 30 = .ok (.iload 4, 2) := by decide +kernel
theorem dX12_word_32 : decode cX12_word 32 = .ok (.sipush 1024, 3) := by decide +kernel
theorem dX12_word_35 : decode cX12_word 35 = .ok (.if_icmp .ge 60, 3) := by decide +kernel
theorem dX12_word_38 : decode cX12_word 38 = .ok (.iload 4, 2) := by decide +kernel
theorem dX12_word_40 : decode cX12_word 40 = .ok (.invokestatic 111, 3) := by decide +kernel
theorem dX12_word_43 : decode cX12_word 43 = .ok (.iload_n 3, 1) := by decide +kernel
theorem dX12_word_44 : decode cX12_word 44 = .ok (.if_icmp .eq 6, 3) := by decide +kernel
theorem dX12_word_47 : decode cX12_word 47 = .ok (.goto 42, 3) := by decide +kernel
theorem dX12_word_50 : decode cX12_word 50 = .ok (.aload_n 0, 1) := by decide +kernel
theorem dX12_word_51 : decode cX12_word 51 = .ok (.iload_n 1, 1) := by decide +kernel
theorem dX12_word_52 : decode cX12_word 52 = .ok (.iload 4, 2) := by decide +kernel
theorem dX12_word_54 : decode cX12_word 54 = .ok (.invokevirtual 415, 3) := by decide +kernel
theorem dX12_word_57 : decode cX12_word 57 = .ok (.istore 5, 2) := by decide +kernel
theorem dX12_word_59 : decode cX12_word 59 = .ok (.iload 5, 2) := by decide +kernel
theorem dX12_word_61 : decode cX12_word 61 = .ok (.iconst (-1), 1) := by decide +kernel
theorem dX12_word_62 : decode cX12_word 62 = .ok (.if_icmp .ne 6, 3) := by decide +kernel
theorem dX12_word_65 : decode cX12_word 65 = .ok (.goto 24, 3) := by decide +kernel
theorem dX12_word_68 : decode cX12_word 68 = .ok (.iload_n 2, 1) := by decide +kernel
theorem dX12_word_69 : decode cX12_word 69 = .ok (.ifCond .ne 7, 3) := by decide +kernel
theorem dX12_word_72 : decode cX12_word 72 = .ok (.iload_n 3, 1) := by decide +kernel
theorem dX12_word_73 : decode cX12_word 73 = .ok (.goto 15, 3) := by decide +kernel
theorem dX12_word_76 : decode cX12_word 76 = .ok (.iload_n 2, 1) := by decide +kernel
theorem dX12_word_77 : decode cX12_word 77 = .ok (.iconst 1, 1) := by decide +kernel
theorem dX12_word_78 : decode cX12_word 78 = .ok (.if_icmp .ne 8, 3) := by decide +kernel
theorem dX12_word_81 : decode cX12_word 81 = .ok (.iload 4, 2) := by decide +kernel
theorem dX12_word_83 : decode cX12_word 83 = .ok (.goto 5, 3) := by decide +kernel
theorem dX12_word_86 : decode cX12_word 86 = .ok (.iload 5, 2) := by decide +kernel
theorem dX12_word_88 : decode cX12_word 88 = .ok (.ireturn, 1) := by decide +kernel
theorem dX12_word_89 : decode cX12_word 89 = .ok (.iinc 4 1, 3) := by decide +kernel
theorem dX12_word_92 : decode cX12_word 92 = .ok (.goto (-62), 3) := by decide +kernel
theorem dX12_word_95 : decode cX12_word 95 = .ok (.iinc 3 1, 3) := by decide +kernel
theorem dX12_word_98 : decode cX12_word 98 = .ok (.goto (-77), 3) := by decide +kernel
theorem dX12_word_101 : decode cX12_word 101 = .ok (.bipush (-2), 2) := by decide +kernel
theorem dX12_word_103 : decode cX12_word 103 = .ok (.ireturn, 1) := by decide +kernel
def FX12_word (hp : HP) (p0 : Nat) (p1 : Int32) (p2 : Int32) : Option (Int32 × HP) := (rc [12] hp p0 (FX12_isWish hp p0 p1)).bind (fun v1 => if v1 = 0 then some ((-1 : Int32), hp) else (FX12_in p2 (0 : Int32) (2 : Int32)).bind (fun v2 => if v2 = 0 then some ((-1 : Int32), hp) else (lp (fun (s3 : Int32 × HP) => if (10 : Int32) < s3.1 then some (Sum.inl (Sum.inr s3.2)) else (lp (fun (s5 : Int32 × HP) => if (1024 : Int32) ≤ s5.1 then some (Sum.inl (Sum.inr s5.2)) else (FX12_bits s5.1).bind (fun v8 => if v8 = s3.1 then (rc [12] s5.2 p0 (FX12_sureBy s5.2 p0 p1 s5.1)).bind (fun w9 => if w9.1 = (-1 : Int32) then vl (s5.1 + (1 : Int32)) (fun x10 => some (Sum.inr (x10, w9.2))) else if p2 = 0 then some (Sum.inl (Sum.inl (s3.1, w9.2))) else if p2 = (1 : Int32) then some (Sum.inl (Sum.inl (s5.1, w9.2))) else some (Sum.inl (Sum.inl (w9.1, w9.2)))) else vl (s5.1 + (1 : Int32)) (fun x11 => some (Sum.inr (x11, s5.2))))) FU ((0 : Int32), s3.2)).bind (lk (P := Int32 × HP) (fun r => (Sum.inl (Sum.inl r))) (fun (y6 : HP) => vl (s3.1 + (1 : Int32)) (fun x7 => some (Sum.inr (x7, y6)))))) FU ((0 : Int32), hp)).bind (lk (P := Int32 × HP) (fun r => r) (fun (y4 : HP) => some ((-2 : Int32), y4)))))
set_option maxHeartbeats 4000000 in
set_option maxRecDepth 100000 in
theorem ctX12_word (l : Launch) (D : va_G) (tg : Nat → ClassId) (bs : Nat) (sa : Nat → Nat) (hp : HP) (p0 : Nat) (p1 : Int32) (p2 : Int32) : Ct l D tg bs sa yX12_word cX12_word 6 (some .int) 2 [.ref p0, .int p1, .int p2] hp (FX12_word hp p0 p1 p2) (fun r => some (.int r.1)) (fun r => r.2) := by
  refine Ct.of (by decide) (Nat.le_of_ble_eq_true rfl) ?_
  intro V Q hVl hVd hVt hVb hVs hC
  subst hVl; subst hVd; subst hVt; subst hVb; subst hVs
  unfold FX12_word
  show Zs V Q (0, 0) 6 _ _ hp [(0, .ref p0), (1, .int p1), (2, .int p2)] 0 []
  refine z_aload_n hC 0 dX12_word_0 rfl rfl ?_
  refine z_iload_n hC 1 dX12_word_1 rfl rfl ?_
  refine z_callVi hC (ci := 12) rfl lmRX12_343 (ctX12_isWish (vLa V) (vDa V) (vTg V) (vBs V) (vSa V) hp p0 p1) (by decide) hn0 dX12_word_2 rfl rfl (Nat.le_of_ble_eq_true rfl) (fun v1 => ?_)
  refine z_if_eq hC 17 dX12_word_5 (by decide) (fun _ => ?_) (fun _ => ?_)
  · refine z_iconst hC (-1 : Int32) dX12_word_17 (by decide) ?_
    exact z_iret hC (fun h => h) dX12_word_18
  · refine z_iload_n hC 2 dX12_word_8 rfl rfl ?_
    refine z_iconst hC (0 : Int32) dX12_word_9 (by decide) ?_
    refine z_iconst hC (2 : Int32) dX12_word_10 (by decide) ?_
    refine z_callSi hC lmRX12_99 (ctX12_in (vLa V) (vDa V) (vTg V) (vBs V) (vSa V) hp p2 (0 : Int32) (2 : Int32)) (by decide) hn0 dX12_word_11 rfl rfl (Nat.le_of_ble_eq_true rfl) (fun v2 => ?_)
    refine z_if_ne hC 19 dX12_word_14 (by decide) (fun _ => ?_) (fun _ => ?_)
    · refine z_iconst hC (-1 : Int32) dX12_word_17 (by decide) ?_
      exact z_iret hC (fun h => h) dX12_word_18
    · refine z_iconst hC (0 : Int32) dX12_word_19 (by decide) ?_
      refine z_istore_n hC [(0, .ref p0), (1, .int p1), (2, .int p2), (3, .int (0 : Int32))] [1, 2, 3, 0] dX12_word_20 rfl (by decide) rfl ?_
      refine z_lpR (S := Int32 × HP) (Y := HP) (fun s3 => s3.2) (fun s3 => [(0, .ref p0), (1, .int p1), (2, .int p2), (3, .int s3.1)]) (fun y4 => y4) (fun y4 => []) 101 [] (fun y4 => ?_) (fun s3 => ?_) rfl rfl
      · refine z_bipush hC (-2 : Int32) dX12_word_101 (by decide) ?_
        exact z_iret hC (fun h => h) dX12_word_103
      · refine z_iload_n hC 3 dX12_word_21 rfl rfl ?_
        refine z_bipush hC (10 : Int32) dX12_word_22 (by decide) ?_
        refine z_icmp_gt hC 101 dX12_word_24 (by decide) (fun _ => ?_) (fun _ => ?_)
        · refine z_weak [] [] rfl ?_
          exact z_leaf (fun h => h)
        · refine z_iconst hC (0 : Int32) dX12_word_27 (by decide) ?_
          refine z_istore hC [(0, .ref p0), (1, .int p1), (2, .int p2), (3, .int s3.1), (4, .int (0 : Int32))] [1, 2, 3, 4, 0] dX12_word_28 (by decide) rfl ?_
          refine z_lpR (S := Int32 × HP) (Y := HP) (fun s5 => s5.2) (fun s5 => [(0, .ref p0), (1, .int p1), (2, .int p2), (3, .int s3.1), (4, .int s5.1)]) (fun y6 => y6) (fun y6 => [(0, .ref p0), (1, .int p1), (2, .int p2), (3, .int s3.1)]) 95 [] (fun y6 => ?_) (fun s5 => ?_) rfl rfl
          · refine z_iincv hC (1 : Int32) 3 (fun x7 => [(0, .ref p0), (1, .int p1), (2, .int p2), (3, .int x7)]) [1, 2, 3, 0] dX12_word_95 rfl (by decide) (by decide) (fun _ => rfl) (fun x7 => ?_)
            refine z_goto hC 21 dX12_word_98 (by decide) ?_
            exact z_leaf (fun h => h)
          · refine z_iload hC 4 dX12_word_30 rfl ?_
            refine z_sipush hC (1024 : Int32) dX12_word_32 (by decide) ?_
            refine z_icmp_ge hC 95 dX12_word_35 (by decide) (fun _ => ?_) (fun _ => ?_)
            · refine z_weak [(0, .ref p0), (1, .int p1), (2, .int p2), (3, .int s3.1)] [0, 1, 2, 3] rfl ?_
              exact z_leaf (fun h => h)
            · refine z_iload hC 4 dX12_word_38 rfl ?_
              refine z_callSi hC lmRX12_111 (ctX12_bits (vLa V) (vDa V) (vTg V) (vBs V) (vSa V) s5.2 s5.1) (by decide) hn0 dX12_word_40 rfl rfl (Nat.le_of_ble_eq_true rfl) (fun v8 => ?_)
              refine z_iload_n hC 3 dX12_word_43 rfl rfl ?_
              refine z_icmp_eq hC 50 dX12_word_44 (by decide) (fun _ => ?_) (fun _ => ?_)
              · refine z_aload_n hC 0 dX12_word_50 rfl rfl ?_
                refine z_iload_n hC 1 dX12_word_51 rfl rfl ?_
                refine z_iload hC 4 dX12_word_52 rfl ?_
                refine z_callVi hC (ci := 12) rfl lmRX12_415 (ctX12_sureBy (vLa V) (vDa V) (vTg V) (vBs V) (vSa V) s5.2 p0 p1 s5.1) (by decide) hn0 dX12_word_54 rfl rfl (Nat.le_of_ble_eq_true rfl) (fun w9 => ?_)
                refine z_istore hC [(0, .ref p0), (1, .int p1), (2, .int p2), (3, .int s3.1), (4, .int s5.1), (5, .int w9.1)] [1, 2, 3, 4, 5, 0] dX12_word_57 (by decide) rfl ?_
                refine z_iload hC 5 dX12_word_59 rfl ?_
                refine z_iconst hC (-1 : Int32) dX12_word_61 (by decide) ?_
                refine z_icmp_ne hC 68 dX12_word_62 (by decide) (fun _ => ?_) (fun _ => ?_)
                · refine z_goto hC 89 dX12_word_65 (by decide) ?_
                  refine z_iincv hC (1 : Int32) 4 (fun x10 => [(0, .ref p0), (1, .int p1), (2, .int p2), (3, .int s3.1), (4, .int x10), (5, .int w9.1)]) [1, 2, 3, 4, 0, 5] dX12_word_89 rfl (by decide) (by decide) (fun _ => rfl) (fun x10 => ?_)
                  refine z_goto hC 30 dX12_word_92 (by decide) ?_
                  refine z_weak [(0, .ref p0), (1, .int p1), (2, .int p2), (3, .int s3.1), (4, .int x10)] [0, 1, 2, 3, 4] rfl ?_
                  exact z_leaf (fun h => h)
                · refine z_iload_n hC 2 dX12_word_68 rfl rfl ?_
                  refine z_if_ne hC 76 dX12_word_69 (by decide) (fun _ => ?_) (fun _ => ?_)
                  · refine z_iload_n hC 3 dX12_word_72 rfl rfl ?_
                    refine z_goto hC 88 dX12_word_73 (by decide) ?_
                    exact z_iret hC (fun h => h) dX12_word_88
                  · refine z_iload_n hC 2 dX12_word_76 rfl rfl ?_
                    refine z_iconst hC (1 : Int32) dX12_word_77 (by decide) ?_
                    refine z_icmp_ne hC 86 dX12_word_78 (by decide) (fun _ => ?_) (fun _ => ?_)
                    · refine z_iload hC 4 dX12_word_81 rfl ?_
                      refine z_goto hC 88 dX12_word_83 (by decide) ?_
                      exact z_iret hC (fun h => h) dX12_word_88
                    · refine z_iload hC 5 dX12_word_86 rfl ?_
                      exact z_iret hC (fun h => h) dX12_word_88
              · refine z_goto hC 89 dX12_word_47 (by decide) ?_
                refine z_iincv hC (1 : Int32) 4 (fun x11 => [(0, .ref p0), (1, .int p1), (2, .int p2), (3, .int s3.1), (4, .int x11)]) [1, 2, 3, 4, 0] dX12_word_89 rfl (by decide) (by decide) (fun _ => rfl) (fun x11 => ?_)
                refine z_goto hC 30 dX12_word_92 (by decide) ?_
                exact z_leaf (fun h => h)

theorem dX12_gcd_0 : decode cX12_gcd 0 = .ok (.lload_n 0, 1) := by decide +kernel
theorem dX12_gcd_1 : decode cX12_gcd 1 = .ok (.lstore 4, 2) := by decide +kernel
theorem dX12_gcd_3 : decode cX12_gcd 3 = .ok (.lload_n 2, 1) := by decide +kernel
theorem dX12_gcd_4 : decode cX12_gcd 4 = .ok (.lstore 6, 2) := by decide +kernel
theorem dX12_gcd_6 : decode cX12_gcd 6 = .ok (.lload 6, 2) := by decide +kernel
theorem dX12_gcd_8 : decode cX12_gcd 8 = .ok (.lconst 0, 1) := by decide +kernel
theorem dX12_gcd_9 : decode cX12_gcd 9 = .ok (.lcmp, 1) := by decide +kernel
theorem dX12_gcd_10 : decode cX12_gcd 10 = .ok (.ifCond .eq 21, 3) := by decide +kernel
theorem dX12_gcd_13 : decode cX12_gcd 13 = .ok (.lload 4, 2) := by decide +kernel
theorem dX12_gcd_15 : decode cX12_gcd 15 = .ok (.lload 6, 2) := by decide +kernel
theorem dX12_gcd_17 : decode cX12_gcd 17 = .ok (.lrem, 1) := by decide +kernel
theorem dX12_gcd_18 : decode cX12_gcd 18 = .ok (.lstore 8, 2) := by decide +kernel
theorem dX12_gcd_20 : decode cX12_gcd 20 = .ok (.lload 6, 2) := by decide +kernel
theorem dX12_gcd_22 : decode cX12_gcd 22 = .ok (.lstore 4, 2) := by decide +kernel
theorem dX12_gcd_24 : decode cX12_gcd 24 = .ok (.lload 8, 2) := by decide +kernel
theorem dX12_gcd_26 : decode cX12_gcd 26 = .ok (.lstore 6, 2) := by decide +kernel
theorem dX12_gcd_28 : decode cX12_gcd 28 = .ok (.goto (-22), 3) := by decide +kernel
theorem dX12_gcd_31 : decode cX12_gcd 31 = .ok (.lload 4, 2) := by decide +kernel
theorem dX12_gcd_33 : decode cX12_gcd 33 = .ok (.lreturn, 1) := by decide +kernel
def FX12_gcd (p0 : Int64) (p2 : Int64) : Option (Int64) := (lp (fun (s1 : Int64 × Int64) => if (lg_cmp s1.2 (0 : Int64)) = 0 then some (Sum.inl s1.1) else (rmL s1.1 s1.2).bind (fun v3 => some (Sum.inr (s1.2, v3)))) FU (p0, p2)).bind (fun (y2 : Int64) => some y2)
set_option maxHeartbeats 4000000 in
set_option maxRecDepth 100000 in
theorem ctX12_gcd (l : Launch) (D : va_G) (tg : Nat → ClassId) (bs : Nat) (sa : Nat → Nat) (hp : HP) (p0 : Int64) (p2 : Int64) : Ct l D tg bs sa yX12_gcd cX12_gcd 10 (some .long) 0 [.long p0, .long p2] hp (FX12_gcd p0 p2) (fun r => some (.long r)) (fun _ => hp) := by
  refine Ct.of (by decide) (Nat.le_of_ble_eq_true rfl) ?_
  intro V Q hVl hVd hVt hVb hVs hC
  subst hVl; subst hVd; subst hVt; subst hVb; subst hVs
  unfold FX12_gcd
  show Zs V Q (0, 0) 10 _ _ hp [(0, .long p0), (2, .long p2)] 0 []
  refine z_lload_n hC 0 dX12_gcd_0 rfl rfl ?_
  refine z_lstore hC [(0, .long p0), (2, .long p2), (4, .long p0)] [1, 2, 0] dX12_gcd_1 (by decide) rfl ?_
  refine z_lload_n hC 1 dX12_gcd_3 rfl rfl ?_
  refine z_lstore hC [(0, .long p0), (2, .long p2), (4, .long p0), (6, .long p2)] [1, 2, 3, 0] dX12_gcd_4 (by decide) rfl ?_
  refine z_weak [(4, .long p0), (6, .long p2)] [2, 3] rfl ?_
  refine z_lp (S := Int64 × Int64) (Y := Int64) (fun s1 => hp) (fun s1 => [(4, .long s1.1), (6, .long s1.2)]) (fun y2 => hp) (fun y2 => [(4, .long y2)]) 31 [] (fun y2 => ?_) (fun s1 => ?_) rfl rfl
  · refine z_lload hC 0 dX12_gcd_31 rfl ?_
    exact z_lret hC (fun h => h) dX12_gcd_33
  · refine z_lload hC 1 dX12_gcd_6 rfl ?_
    refine z_lconst hC (0 : Int64) dX12_gcd_8 (by decide) ?_
    refine z_lcmp hC dX12_gcd_9 ?_
    refine z_if_eq hC 31 dX12_gcd_10 (by decide) (fun _ => ?_) (fun _ => ?_)
    · refine z_weak [(4, .long s1.1)] [0] rfl ?_
      exact z_leaf (fun h => h)
    · refine z_lload hC 0 dX12_gcd_13 rfl ?_
      refine z_lload hC 1 dX12_gcd_15 rfl ?_
      refine z_lrem hC dX12_gcd_17 (fun v3 => ?_)
      refine z_lstore hC [(4, .long s1.1), (6, .long s1.2), (8, .long v3)] [1, 2, 0] dX12_gcd_18 (by decide) rfl ?_
      refine z_lload hC 1 dX12_gcd_20 rfl ?_
      refine z_lstore hC [(4, .long s1.2), (6, .long s1.2), (8, .long v3)] [0, 1, 2] dX12_gcd_22 (by decide) rfl ?_
      refine z_lload hC 2 dX12_gcd_24 rfl ?_
      refine z_lstore hC [(4, .long s1.2), (6, .long v3), (8, .long v3)] [1, 0, 2] dX12_gcd_26 (by decide) rfl ?_
      refine z_goto hC 6 dX12_gcd_28 (by decide) ?_
      refine z_weak [(4, .long s1.2), (6, .long v3)] [0, 1] rfl ?_
      exact z_leaf (fun h => h)

theorem dX12_weightOf_0 : decode cX12_weightOf 0 = .ok (.lconst 1, 1) := by decide +kernel
theorem dX12_weightOf_1 : decode cX12_weightOf 1 = .ok (.lstore_n 2, 1) := by decide +kernel
theorem dX12_weightOf_2 : decode cX12_weightOf 2 = .ok (.iconst 0, 1) := by decide +kernel
theorem dX12_weightOf_3 : decode cX12_weightOf 3 = .ok (.istore 4, 2) := by decide +kernel
theorem dX12_weightOf_5 : decode cX12_weightOf 5 = .ok (.iload 4, 2) := by decide +kernel
theorem dX12_weightOf_7 : decode cX12_weightOf 7 = .ok (.bipush 10, 2) := by decide +kernel
theorem dX12_weightOf_9 : decode cX12_weightOf 9 = .ok (.if_icmp .ge 42, 3) := by decide +kernel
theorem dX12_weightOf_12 : decode cX12_weightOf 12 = .ok (.lload_n 2, 1) := by decide +kernel
theorem dX12_weightOf_13 : decode cX12_weightOf 13 = .ok (.iload_n 1, 1) := by decide +kernel
theorem dX12_weightOf_14 : decode cX12_weightOf 14 = .ok (.iload 4, 2) := by decide +kernel
theorem dX12_weightOf_16 : decode cX12_weightOf 16 = .ok (.invokestatic 107, 3) := by decide +kernel
theorem dX12_weightOf_19 : decode cX12_weightOf 19 = .ok (.ifCond .eq 13, 3) := by decide +kernel
theorem dX12_weightOf_22 : decode cX12_weightOf 22 = .ok (.aload_n 0, 1) := by decide +kernel
theorem dX12_weightOf_23 : decode cX12_weightOf 23 = .ok (.getfield 26, 3) := by decide +kernel
theorem dX12_weightOf_26 : decode cX12_weightOf 26 = .ok (.iload 4, 2) := by decide +kernel
theorem dX12_weightOf_28 : decode cX12_weightOf 28 = .ok (.baload, 1) := by decide +kernel
theorem dX12_weightOf_29 : decode cX12_weightOf 29 = .ok (.goto 13, 3) := by decide +kernel
theorem dX12_weightOf_32 : decode cX12_weightOf 32 = .ok (.bipush 10, 2) := by decide +kernel
theorem dX12_weightOf_34 : decode cX12_weightOf 34 = .ok (.aload_n 0, 1) := by decide +kernel
theorem dX12_weightOf_35 : decode cX12_weightOf 35 = .ok (.getfield 26, 3) := by decide +kernel
theorem dX12_weightOf_38 : decode cX12_weightOf 38 = .ok (.iload 4, 2) := by decide +kernel
theorem dX12_weightOf_40 : decode cX12_weightOf 40 = .ok (.baload, 1) := by decide +kernel
theorem dX12_weightOf_41 : decode cX12_weightOf 41 = .ok (.isub, 1) := by decide +kernel
theorem dX12_weightOf_42 : decode cX12_weightOf 42 = .ok (.i2l, 1) := by decide +kernel
theorem dX12_weightOf_43 : decode cX12_weightOf 43 = .ok (.lmul, 1) := by decide +kernel
theorem dX12_weightOf_44 : decode cX12_weightOf 44 = .ok (.lstore_n 2, 1) := by decide +kernel
theorem dX12_weightOf_45 : decode cX12_weightOf 45 = .ok (.iinc 4 1, 3) := by decide +kernel
theorem dX12_weightOf_48 : decode cX12_weightOf 48 = .ok (.goto (-43), 3) := by decide +kernel
theorem dX12_weightOf_51 : decode cX12_weightOf 51 = .ok (.lload_n 2, 1) := by decide +kernel
theorem dX12_weightOf_52 : decode cX12_weightOf 52 = .ok (.lreturn, 1) := by decide +kernel
def FX12_weightOf (hp : HP) (p0 : Nat) (p1 : Int32) : Option (Int64) := (lp (fun (s1 : Int64 × Int32) => if (10 : Int32) ≤ s1.2 then some (Sum.inl s1.1) else (FX12_has p1 s1.2).bind (fun v3 => if v3 = 0 then (gR [12] 13 hp p0).bind (fun v4 => (rdN 1 hp v4 s1.2).bind (fun v5 => vl (s1.1 * (((10 : Int32) - v5)).toInt64) (fun x6 => vl (s1.2 + (1 : Int32)) (fun x7 => some (Sum.inr (x6, x7)))))) else (gR [12] 13 hp p0).bind (fun v8 => (rdN 1 hp v8 s1.2).bind (fun v9 => vl (s1.1 * (v9).toInt64) (fun x10 => vl (s1.2 + (1 : Int32)) (fun x11 => some (Sum.inr (x10, x11)))))))) FU ((1 : Int64), (0 : Int32))).bind (fun (y2 : Int64) => some y2)
set_option maxHeartbeats 4000000 in
set_option maxRecDepth 100000 in
theorem ctX12_weightOf (l : Launch) (D : va_G) (tg : Nat → ClassId) (bs : Nat) (sa : Nat → Nat) (hp : HP) (p0 : Nat) (p1 : Int32) : Ct l D tg bs sa yX12_weightOf cX12_weightOf 5 (some .long) 1 [.ref p0, .int p1] hp (FX12_weightOf hp p0 p1) (fun r => some (.long r)) (fun _ => hp) := by
  refine Ct.of (by decide) (Nat.le_of_ble_eq_true rfl) ?_
  intro V Q hVl hVd hVt hVb hVs hC
  subst hVl; subst hVd; subst hVt; subst hVb; subst hVs
  unfold FX12_weightOf
  show Zs V Q (0, 0) 5 _ _ hp [(0, .ref p0), (1, .int p1)] 0 []
  refine z_lconst hC (1 : Int64) dX12_weightOf_0 (by decide) ?_
  refine z_lstore_n hC [(0, .ref p0), (1, .int p1), (2, .long (1 : Int64))] [1, 2, 0] dX12_weightOf_1 rfl (by decide) rfl ?_
  refine z_iconst hC (0 : Int32) dX12_weightOf_2 (by decide) ?_
  refine z_istore hC [(0, .ref p0), (1, .int p1), (2, .long (1 : Int64)), (4, .int (0 : Int32))] [1, 2, 3, 0] dX12_weightOf_3 (by decide) rfl ?_
  refine z_lp (S := Int64 × Int32) (Y := Int64) (fun s1 => hp) (fun s1 => [(0, .ref p0), (1, .int p1), (2, .long s1.1), (4, .int s1.2)]) (fun y2 => hp) (fun y2 => [(2, .long y2)]) 51 [] (fun y2 => ?_) (fun s1 => ?_) rfl rfl
  · refine z_lload_n hC 0 dX12_weightOf_51 rfl rfl ?_
    exact z_lret hC (fun h => h) dX12_weightOf_52
  · refine z_iload hC 3 dX12_weightOf_5 rfl ?_
    refine z_bipush hC (10 : Int32) dX12_weightOf_7 (by decide) ?_
    refine z_icmp_ge hC 51 dX12_weightOf_9 (by decide) (fun _ => ?_) (fun _ => ?_)
    · refine z_weak [(2, .long s1.1)] [2] rfl ?_
      exact z_leaf (fun h => h)
    · refine z_lload_n hC 2 dX12_weightOf_12 rfl rfl ?_
      refine z_iload_n hC 1 dX12_weightOf_13 rfl rfl ?_
      refine z_iload hC 3 dX12_weightOf_14 rfl ?_
      refine z_callSi hC lmRX12_107 (ctX12_has (vLa V) (vDa V) (vTg V) (vBs V) (vSa V) hp p1 s1.2) (by decide) hn0 dX12_weightOf_16 rfl rfl (Nat.le_of_ble_eq_true rfl) (fun v3 => ?_)
      refine z_if_eq hC 32 dX12_weightOf_19 (by decide) (fun _ => ?_) (fun _ => ?_)
      · refine z_bipush hC (10 : Int32) dX12_weightOf_32 (by decide) ?_
        refine z_aload_n hC 0 dX12_weightOf_34 rfl rfl ?_
        refine z_getR hC lgRX12_26 dX12_weightOf_35 (fun v4 => ?_)
        refine z_iload hC 3 dX12_weightOf_38 rfl ?_
        refine z_bald hC dX12_weightOf_40 (fun v5 => ?_)
        refine z_isub hC dX12_weightOf_41 ?_
        refine z_i2l hC dX12_weightOf_42 ?_
        refine z_lmul hC dX12_weightOf_43 ?_
        refine z_vll (fun x6 => ?_)
        refine z_lstore_n hC [(0, .ref p0), (1, .int p1), (2, .long x6), (4, .int s1.2)] [1, 2, 0, 3] dX12_weightOf_44 rfl (by decide) rfl ?_
        refine z_iincv hC (1 : Int32) 3 (fun x7 => [(0, .ref p0), (1, .int p1), (2, .long x6), (4, .int x7)]) [1, 2, 3, 0] dX12_weightOf_45 rfl (by decide) (by decide) (fun _ => rfl) (fun x7 => ?_)
        refine z_goto hC 5 dX12_weightOf_48 (by decide) ?_
        exact z_leaf (fun h => h)
      · refine z_aload_n hC 0 dX12_weightOf_22 rfl rfl ?_
        refine z_getR hC lgRX12_26 dX12_weightOf_23 (fun v8 => ?_)
        refine z_iload hC 3 dX12_weightOf_26 rfl ?_
        refine z_bald hC dX12_weightOf_28 (fun v9 => ?_)
        refine z_goto hC 42 dX12_weightOf_29 (by decide) ?_
        refine z_i2l hC dX12_weightOf_42 ?_
        refine z_lmul hC dX12_weightOf_43 ?_
        refine z_vll (fun x10 => ?_)
        refine z_lstore_n hC [(0, .ref p0), (1, .int p1), (2, .long x10), (4, .int s1.2)] [1, 2, 0, 3] dX12_weightOf_44 rfl (by decide) rfl ?_
        refine z_iincv hC (1 : Int32) 3 (fun x11 => [(0, .ref p0), (1, .int p1), (2, .long x10), (4, .int x11)]) [1, 2, 3, 0] dX12_weightOf_45 rfl (by decide) (by decide) (fun _ => rfl) (fun x11 => ?_)
        refine z_goto hC 5 dX12_weightOf_48 (by decide) ?_
        exact z_leaf (fun h => h)

theorem dX12_likely_0 : decode cX12_likely 0 = .ok (.aload_n 0, 1) := by decide +kernel
theorem dX12_likely_1 : decode cX12_likely 1 = .ok (.iload_n 1, 1) := by decide +kernel
theorem dX12_likely_2 : decode cX12_likely 2 = .ok (.invokevirtual 343, 3) := by decide +kernel
theorem dX12_likely_5 : decode cX12_likely 5 = .ok (.ifCond .eq 21, 3) := by decide +kernel
theorem dX12_likely_8 : decode cX12_likely 8 = .ok (.iload_n 2, 1) := by decide +kernel
theorem dX12_likely_9 : decode cX12_likely 9 = .ok (.iconst 0, 1) := by decide +kernel
theorem dX12_likely_10 : decode cX12_likely 10 = .ok (.iconst 1, 1) := by decide +kernel
theorem dX12_likely_11 : decode cX12_likely 11 = .ok (.invokestatic 99, 3) := by decide +kernel
theorem dX12_likely_14 : decode cX12_likely 14 = .ok (.ifCond .eq 12, 3) := by decide +kernel
theorem dX12_likely_17 : decode cX12_likely 17 = .ok (.aload_n 0, 1) := by decide +kernel
theorem dX12_likely_18 : decode cX12_likely 18 = .ok (.getfield 124, 3) := by decide +kernel
theorem dX12_likely_21 : decode cX12_likely 21 = .ok (.bipush 10, 2) := by decide +kernel
theorem dX12_likely_23 : decode cX12_likely 23 = .ok (.if_icmp .ge 7, 3) := by decide +kernel
theorem dX12_likely_26 : decode cX12_likely 26 = .ok (.ldc2_w 418, 3) := by decide +kernel
theorem dX12_likely_29 : decode cX12_likely 29 = .ok (.lreturn, 1) := by decide +kernel
theorem dX12_likely_30 : decode cX12_likely 30 = .ok (.aload_n 0, 1) := by decide +kernel
theorem dX12_likely_31 : decode cX12_likely 31 = .ok (.iconst 0, 1) := by decide +kernel
theorem dX12_likely_32 : decode cX12_likely 32 = .ok (.putfield 124, 3) := by decide +kernel
theorem dX12_likely_35 : decode cX12_likely 35 = .ok (.iconst 0, 1) := by decide +kernel
theorem dX12_likely_36 : decode cX12_likely 36 = .ok (.istore_n 3, 1) := by decide +kernel
theorem dX12_likely_37 : decode cX12_likely 37 = .ok (.iload_n 3, 1) := by decide +kernel
theorem dX12_likely_38 : decode cX12_likely 38 = .ok (.bipush 10, 2) := by decide +kernel
theorem dX12_likely_40 : decode cX12_likely 40 = .ok (.if_icmp .ge 28, 3) := by decide +kernel
theorem dX12_likely_43 : decode cX12_likely 43 = .ok (.aload_n 0, 1) := by decide +kernel
theorem dX12_likely_44 : decode cX12_likely 44 = .ok (.getfield 26, 3) := by decide +kernel
theorem dX12_likely_47 : decode cX12_likely 47 = .ok (.iload_n 3, 1) := by decide +kernel
theorem dX12_likely_48 : decode cX12_likely 48 = .ok (.baload, 1) := by decide +kernel
theorem dX12_likely_49 : decode cX12_likely 49 = .ok (.iconst 0, 1) := by decide +kernel
theorem dX12_likely_50 : decode cX12_likely 50 = .ok (.bipush 10, 2) := by decide +kernel
theorem dX12_likely_52 : decode cX12_likely 52 = .ok (.invokestatic 99, 3) := by decide +kernel
theorem dX12_likely_55 : decode cX12_likely 55 = .ok (.ifCond .ne 7, 3) := by decide +kernel
theorem dX12_likely_58 : decode cX12_likely 58 = .ok (.ldc2_w 420, 3) := by decide +kernel
theorem dX12_likely_61 : decode cX12_likely 61 = .ok (.lreturn, 1) := by decide +kernel
theorem dX12_likely_62 : decode cX12_likely 62 = .ok (.iinc 3 1, 3) := by decide +kernel
theorem dX12_likely_65 : decode cX12_likely 65 = .ok (.goto (-28), 3) := by decide +kernel
theorem dX12_likely_68 : decode cX12_likely 68 = .ok (.lconst 0, 1) := by decide +kernel
theorem dX12_likely_69 : decode cX12_likely 69 = .ok (.lstore_n 3, 1) := by decide +kernel
theorem dX12_likely_70 : decode cX12_likely 70 = .ok (.iconst 0, 1) := by decide +kernel
theorem dX12_likely_71 : decode cX12_likely 71 = .ok (.istore 5, 2) := by decide +kernel
theorem dX12_likely_73 : decode cX12_likely 73 = .ok (.iload 5, 2) := by decide +kernel
theorem dX12_likely_75 : decode cX12_likely 75 = .ok (.sipush 1024, 3) := by decide +kernel
theorem dX12_likely_78 : decode cX12_likely 78 = .ok (.if_icmp .ge 28, 3) := by decide +kernel
theorem dX12_likely_81 : decode cX12_likely 81 = .ok (.aload_n 0, 1) := by decide +kernel
theorem dX12_likely_82 : decode cX12_likely 82 = .ok (.iload_n 1, 1) := by decide +kernel
theorem dX12_likely_83 : decode cX12_likely 83 = .ok (.iload 5, 2) := by decide +kernel
theorem dX12_likely_85 : decode cX12_likely 85 = .ok (.invokevirtual 310, 3) := by decide +kernel
theorem dX12_likely_88 : decode cX12_likely 88 = .ok (.ifCond .eq 12, 3) := by decide +kernel
theorem dX12_likely_91 : decode cX12_likely 91 = .ok (.lload_n 3, 1) := by decide +kernel
theorem dX12_likely_92 : decode cX12_likely 92 = .ok (.aload_n 0, 1) := by decide +kernel
theorem dX12_likely_93 : decode cX12_likely 93 = .ok (.iload 5, 2) := by decide +kernel
theorem dX12_likely_95 : decode cX12_likely 95 = .ok (.invokevirtual 422, 3) := by decide +kernel
theorem dX12_likely_98 : decode cX12_likely 98 = .ok (.ladd, 1) := by decide +kernel
theorem dX12_likely_99 : decode cX12_likely 99 = .ok (.lstore_n 3, 1) := by decide +kernel
theorem dX12_likely_100 : decode cX12_likely 100 = .ok (.iinc 5 1, 3) := by decide +kernel
theorem dX12_likely_103 : decode cX12_likely 103 = .ok (.goto (-30), 3) := by decide +kernel
theorem dX12_likely_106 : decode cX12_likely 106 = .ok (.lload_n 3, 1) := by decide +kernel
theorem dX12_likely_107 : decode cX12_likely 107 = .ok (.ldc2_w 426, 3) := by decide +kernel
theorem dX12_likely_110 : decode cX12_likely 110 = .ok (.invokestatic 428, 3) := by decide +kernel
theorem dX12_likely_113 : decode cX12_likely 113 = .ok (.lstore 5, 2) := by decide +kernel
theorem dX12_likely_115 : decode cX12_likely 115 = .ok (.iload_n 2, 1) := by decide +kernel
theorem dX12_likely_116 : decode cX12_likely 116 = .ok (.ifCond .ne 10, 3) := by decide +kernel
theorem dX12_likely_119 : decode cX12_likely 119 = .ok (.lload_n 3, 1) := by decide +kernel
theorem dX12_likely_120 : decode cX12_likely 120 = .ok (.lload 5, 2) := by decide +kernel
theorem dX12_likely_122 : decode cX12_likely 122 = .ok (.ldiv, 1) := by decide +kernel
theorem dX12_likely_123 : decode cX12_likely 123 = .ok (.goto 9, 3) := by decide +kernel
theorem dX12_likely_126 : decode cX12_likely 126 = .ok (.ldc2_w 426, 3) := by decide +kernel
theorem dX12_likely_129 : decode cX12_likely 129 = .ok (.lload 5, 2) := by decide +kernel
theorem dX12_likely_131 : decode cX12_likely 131 = .ok (.ldiv, 1) := by decide +kernel
theorem dX12_likely_132 : decode cX12_likely 132 = .ok (.lreturn, 1) := by decide +kernel
def FX12_likely (hp : HP) (p0 : Nat) (p1 : Int32) (p2 : Int32) : Option (Int64 × HP) := (rc [12] hp p0 (FX12_isWish hp p0 p1)).bind (fun v1 => if v1 = 0 then some ((-1 : Int64), hp) else (FX12_in p2 (0 : Int32) (1 : Int32)).bind (fun v2 => if v2 = 0 then some ((-1 : Int64), hp) else (gI [12] 14 hp p0).bind (fun v3 => if (10 : Int32) ≤ v3 then (sI [12] 14 hp p0 (0 : Int32)).bind (fun hp4 => (lp (fun (s5 : Int32) => if (10 : Int32) ≤ s5 then some (Sum.inl (Sum.inr ())) else (gR [12] 13 hp4 p0).bind (fun v17 => (rdN 1 hp4 v17 s5).bind (fun v18 => (FX12_in v18 (0 : Int32) (10 : Int32)).bind (fun v19 => if v19 = 0 then some (Sum.inl (Sum.inl ((-2 : Int64), hp4))) else vl (s5 + (1 : Int32)) (fun x20 => some (Sum.inr x20)))))) FU (0 : Int32)).bind (lk (P := Int64 × HP) (fun r => r) (fun (y6 : Unit) => (lp (fun (s7 : Int64 × Int32) => if (1024 : Int32) ≤ s7.2 then some (Sum.inl s7.1) else (rc [12] hp4 p0 (FX12_holdsIn hp4 p0 p1 s7.2)).bind (fun v12 => if v12 = 0 then vl (s7.2 + (1 : Int32)) (fun x13 => some (Sum.inr (s7.1, x13))) else (rc [12] hp4 p0 (FX12_weightOf hp4 p0 s7.2)).bind (fun v14 => vl (s7.1 + v14) (fun x15 => vl (s7.2 + (1 : Int32)) (fun x16 => some (Sum.inr (x15, x16))))))) FU ((0 : Int64), (0 : Int32))).bind (fun (y8 : Int64) => (FX12_gcd y8 (10000000000 : Int64)).bind (fun v9 => if p2 = 0 then (dvL y8 v9).bind (fun v10 => some (v10, hp4)) else (dvL (10000000000 : Int64) v9).bind (fun v11 => some (v11, hp4))))))) else some ((-1 : Int64), hp))))
set_option maxHeartbeats 4000000 in
set_option maxRecDepth 100000 in
theorem ctX12_likely (l : Launch) (D : va_G) (tg : Nat → ClassId) (bs : Nat) (sa : Nat → Nat) (hp : HP) (p0 : Nat) (p1 : Int32) (p2 : Int32) : Ct l D tg bs sa yX12_likely cX12_likely 7 (some .long) 2 [.ref p0, .int p1, .int p2] hp (FX12_likely hp p0 p1 p2) (fun r => some (.long r.1)) (fun r => r.2) := by
  refine Ct.of (by decide) (Nat.le_of_ble_eq_true rfl) ?_
  intro V Q hVl hVd hVt hVb hVs hC
  subst hVl; subst hVd; subst hVt; subst hVb; subst hVs
  unfold FX12_likely
  show Zs V Q (0, 0) 7 _ _ hp [(0, .ref p0), (1, .int p1), (2, .int p2)] 0 []
  refine z_aload_n hC 0 dX12_likely_0 rfl rfl ?_
  refine z_iload_n hC 1 dX12_likely_1 rfl rfl ?_
  refine z_callVi hC (ci := 12) rfl lmRX12_343 (ctX12_isWish (vLa V) (vDa V) (vTg V) (vBs V) (vSa V) hp p0 p1) (by decide) hn0 dX12_likely_2 rfl rfl (Nat.le_of_ble_eq_true rfl) (fun v1 => ?_)
  refine z_if_eq hC 26 dX12_likely_5 (by decide) (fun _ => ?_) (fun _ => ?_)
  · refine z_ldc2 hC (-1 : Int64) lcRX12_418 dX12_likely_26 ?_
    exact z_lret hC (fun h => h) dX12_likely_29
  · refine z_iload_n hC 2 dX12_likely_8 rfl rfl ?_
    refine z_iconst hC (0 : Int32) dX12_likely_9 (by decide) ?_
    refine z_iconst hC (1 : Int32) dX12_likely_10 (by decide) ?_
    refine z_callSi hC lmRX12_99 (ctX12_in (vLa V) (vDa V) (vTg V) (vBs V) (vSa V) hp p2 (0 : Int32) (1 : Int32)) (by decide) hn0 dX12_likely_11 rfl rfl (Nat.le_of_ble_eq_true rfl) (fun v2 => ?_)
    refine z_if_eq hC 26 dX12_likely_14 (by decide) (fun _ => ?_) (fun _ => ?_)
    · refine z_ldc2 hC (-1 : Int64) lcRX12_418 dX12_likely_26 ?_
      exact z_lret hC (fun h => h) dX12_likely_29
    · refine z_aload_n hC 0 dX12_likely_17 rfl rfl ?_
      refine z_getI hC lgRX12_124 dX12_likely_18 (fun v3 => ?_)
      refine z_bipush hC (10 : Int32) dX12_likely_21 (by decide) ?_
      refine z_icmp_ge hC 30 dX12_likely_23 (by decide) (fun _ => ?_) (fun _ => ?_)
      · refine z_aload_n hC 0 dX12_likely_30 rfl rfl ?_
        refine z_iconst hC (0 : Int32) dX12_likely_31 (by decide) ?_
        refine z_putI hC lpRX12_124 dX12_likely_32 (fun hp4 => ?_)
        refine z_iconst hC (0 : Int32) dX12_likely_35 (by decide) ?_
        refine z_istore_n hC [(0, .ref p0), (1, .int p1), (2, .int p2), (3, .int (0 : Int32))] [1, 2, 3, 0] dX12_likely_36 rfl (by decide) rfl ?_
        refine z_lpR (S := Int32) (Y := Unit) (fun s5 => hp4) (fun s5 => [(0, .ref p0), (1, .int p1), (2, .int p2), (3, .int s5)]) (fun y6 => hp4) (fun y6 => [(0, .ref p0), (1, .int p1), (2, .int p2)]) 68 [] (fun y6 => ?_) (fun s5 => ?_) rfl rfl
        · refine z_lconst hC (0 : Int64) dX12_likely_68 (by decide) ?_
          refine z_lstore_n hC [(0, .ref p0), (1, .int p1), (2, .int p2), (3, .long (0 : Int64))] [1, 2, 3, 0] dX12_likely_69 rfl (by decide) rfl ?_
          refine z_iconst hC (0 : Int32) dX12_likely_70 (by decide) ?_
          refine z_istore hC [(0, .ref p0), (1, .int p1), (2, .int p2), (3, .long (0 : Int64)), (5, .int (0 : Int32))] [1, 2, 3, 4, 0] dX12_likely_71 (by decide) rfl ?_
          refine z_lp (S := Int64 × Int32) (Y := Int64) (fun s7 => hp4) (fun s7 => [(0, .ref p0), (1, .int p1), (2, .int p2), (3, .long s7.1), (5, .int s7.2)]) (fun y8 => hp4) (fun y8 => [(2, .int p2), (3, .long y8)]) 106 [] (fun y8 => ?_) (fun s7 => ?_) rfl rfl
          · refine z_lload_n hC 1 dX12_likely_106 rfl rfl ?_
            refine z_ldc2 hC (10000000000 : Int64) lcRX12_426 dX12_likely_107 ?_
            refine z_callSl hC lmRX12_428 (ctX12_gcd (vLa V) (vDa V) (vTg V) (vBs V) (vSa V) hp4 y8 (10000000000 : Int64)) (by decide) hn0 dX12_likely_110 rfl rfl (Nat.le_of_ble_eq_true rfl) (fun v9 => ?_)
            refine z_lstore hC [(2, .int p2), (3, .long y8), (5, .long v9)] [1, 2, 0] dX12_likely_113 (by decide) rfl ?_
            refine z_iload_n hC 0 dX12_likely_115 rfl rfl ?_
            refine z_if_ne hC 126 dX12_likely_116 (by decide) (fun _ => ?_) (fun _ => ?_)
            · refine z_lload_n hC 1 dX12_likely_119 rfl rfl ?_
              refine z_lload hC 2 dX12_likely_120 rfl ?_
              refine z_ldiv hC dX12_likely_122 (fun v10 => ?_)
              refine z_goto hC 132 dX12_likely_123 (by decide) ?_
              exact z_lret hC (fun h => h) dX12_likely_132
            · refine z_ldc2 hC (10000000000 : Int64) lcRX12_426 dX12_likely_126 ?_
              refine z_lload hC 2 dX12_likely_129 rfl ?_
              refine z_ldiv hC dX12_likely_131 (fun v11 => ?_)
              exact z_lret hC (fun h => h) dX12_likely_132
          · refine z_iload hC 4 dX12_likely_73 rfl ?_
            refine z_sipush hC (1024 : Int32) dX12_likely_75 (by decide) ?_
            refine z_icmp_ge hC 106 dX12_likely_78 (by decide) (fun _ => ?_) (fun _ => ?_)
            · refine z_weak [(2, .int p2), (3, .long s7.1)] [2, 3] rfl ?_
              exact z_leaf (fun h => h)
            · refine z_aload_n hC 0 dX12_likely_81 rfl rfl ?_
              refine z_iload_n hC 1 dX12_likely_82 rfl rfl ?_
              refine z_iload hC 4 dX12_likely_83 rfl ?_
              refine z_callVi hC (ci := 12) rfl lmRX12_310 (ctX12_holdsIn (vLa V) (vDa V) (vTg V) (vBs V) (vSa V) hp4 p0 p1 s7.2) (by decide) hn0 dX12_likely_85 rfl rfl (Nat.le_of_ble_eq_true rfl) (fun v12 => ?_)
              refine z_if_eq hC 100 dX12_likely_88 (by decide) (fun _ => ?_) (fun _ => ?_)
              · refine z_iincv hC (1 : Int32) 4 (fun x13 => [(0, .ref p0), (1, .int p1), (2, .int p2), (3, .long s7.1), (5, .int x13)]) [1, 2, 3, 4, 0] dX12_likely_100 rfl (by decide) (by decide) (fun _ => rfl) (fun x13 => ?_)
                refine z_goto hC 73 dX12_likely_103 (by decide) ?_
                exact z_leaf (fun h => h)
              · refine z_lload_n hC 3 dX12_likely_91 rfl rfl ?_
                refine z_aload_n hC 0 dX12_likely_92 rfl rfl ?_
                refine z_iload hC 4 dX12_likely_93 rfl ?_
                refine z_callVl hC (ci := 12) rfl lmRX12_422 (ctX12_weightOf (vLa V) (vDa V) (vTg V) (vBs V) (vSa V) hp4 p0 s7.2) (by decide) hn0 dX12_likely_95 rfl rfl (Nat.le_of_ble_eq_true rfl) (fun v14 => ?_)
                refine z_ladd hC dX12_likely_98 ?_
                refine z_vll (fun x15 => ?_)
                refine z_lstore_n hC [(0, .ref p0), (1, .int p1), (2, .int p2), (3, .long x15), (5, .int s7.2)] [1, 2, 3, 0, 4] dX12_likely_99 rfl (by decide) rfl ?_
                refine z_iincv hC (1 : Int32) 4 (fun x16 => [(0, .ref p0), (1, .int p1), (2, .int p2), (3, .long x15), (5, .int x16)]) [1, 2, 3, 4, 0] dX12_likely_100 rfl (by decide) (by decide) (fun _ => rfl) (fun x16 => ?_)
                refine z_goto hC 73 dX12_likely_103 (by decide) ?_
                exact z_leaf (fun h => h)
        · refine z_iload_n hC 3 dX12_likely_37 rfl rfl ?_
          refine z_bipush hC (10 : Int32) dX12_likely_38 (by decide) ?_
          refine z_icmp_ge hC 68 dX12_likely_40 (by decide) (fun _ => ?_) (fun _ => ?_)
          · refine z_weak [(0, .ref p0), (1, .int p1), (2, .int p2)] [0, 1, 2] rfl ?_
            exact z_leaf (fun h => h)
          · refine z_aload_n hC 0 dX12_likely_43 rfl rfl ?_
            refine z_getR hC lgRX12_26 dX12_likely_44 (fun v17 => ?_)
            refine z_iload_n hC 3 dX12_likely_47 rfl rfl ?_
            refine z_bald hC dX12_likely_48 (fun v18 => ?_)
            refine z_iconst hC (0 : Int32) dX12_likely_49 (by decide) ?_
            refine z_bipush hC (10 : Int32) dX12_likely_50 (by decide) ?_
            refine z_callSi hC lmRX12_99 (ctX12_in (vLa V) (vDa V) (vTg V) (vBs V) (vSa V) hp4 v18 (0 : Int32) (10 : Int32)) (by decide) hn0 dX12_likely_52 rfl rfl (Nat.le_of_ble_eq_true rfl) (fun v19 => ?_)
            refine z_if_ne hC 62 dX12_likely_55 (by decide) (fun _ => ?_) (fun _ => ?_)
            · refine z_ldc2 hC (-2 : Int64) lcRX12_420 dX12_likely_58 ?_
              exact z_lret hC (fun h => h) dX12_likely_61
            · refine z_iincv hC (1 : Int32) 3 (fun x20 => [(0, .ref p0), (1, .int p1), (2, .int p2), (3, .int x20)]) [1, 2, 3, 0] dX12_likely_62 rfl (by decide) (by decide) (fun _ => rfl) (fun x20 => ?_)
              refine z_goto hC 37 dX12_likely_65 (by decide) ?_
              exact z_leaf (fun h => h)
      · refine z_ldc2 hC (-1 : Int64) lcRX12_418 dX12_likely_26 ?_
        exact z_lret hC (fun h => h) dX12_likely_29

theorem dX12_isLeft_0 : decode cX12_isLeft 0 = .ok (.aload_n 0, 1) := by decide +kernel
theorem dX12_isLeft_1 : decode cX12_isLeft 1 = .ok (.getfield 20, 3) := by decide +kernel
theorem dX12_isLeft_4 : decode cX12_isLeft 4 = .ok (.iload_n 1, 1) := by decide +kernel
theorem dX12_isLeft_5 : decode cX12_isLeft 5 = .ok (.baload, 1) := by decide +kernel
theorem dX12_isLeft_6 : decode cX12_isLeft 6 = .ok (.ifCond .eq 15, 3) := by decide +kernel
theorem dX12_isLeft_9 : decode cX12_isLeft 9 = .ok (.iload_n 1, 1) := by decide +kernel
theorem dX12_isLeft_10 : decode cX12_isLeft 10 = .ok (.iload_n 3, 1) := by decide +kernel
theorem dX12_isLeft_11 : decode cX12_isLeft 11 = .ok (.ixor, 1) := by decide +kernel
theorem dX12_isLeft_12 : decode cX12_isLeft 12 = .ok (.iload_n 2, 1) := by decide +kernel
theorem dX12_isLeft_13 : decode cX12_isLeft 13 = .ok (.iand, 1) := by decide +kernel
theorem dX12_isLeft_14 : decode cX12_isLeft 14 = .ok (.ifCond .ne 7, 3) := by decide +kernel
theorem dX12_isLeft_17 : decode cX12_isLeft 17 = .ok (.iconst 1, 1) := by decide +kernel
theorem dX12_isLeft_18 : decode cX12_isLeft 18 = .ok (.goto 4, 3) := by decide +kernel
theorem dX12_isLeft_21 : decode cX12_isLeft 21 = .ok (.iconst 0, 1) := by decide +kernel
theorem dX12_isLeft_22 : decode cX12_isLeft 22 = .ok (.ireturn, 1) := by decide +kernel
def FX12_isLeft (hp : HP) (p0 : Nat) (p1 : Int32) (p2 : Int32) (p3 : Int32) : Option (Int32) := (gR [12] 3 hp p0).bind (fun v1 => (rdN 2 hp v1 p1).bind (fun v2 => if v2 = 0 then some (0 : Int32) else if ((p1 ^^^ p3) &&& p2) = 0 then some (1 : Int32) else some (0 : Int32)))
set_option maxHeartbeats 4000000 in
set_option maxRecDepth 100000 in
theorem ctX12_isLeft (l : Launch) (D : va_G) (tg : Nat → ClassId) (bs : Nat) (sa : Nat → Nat) (hp : HP) (p0 : Nat) (p1 : Int32) (p2 : Int32) (p3 : Int32) : Ct l D tg bs sa yX12_isLeft cX12_isLeft 4 (some .boolean) 0 [.ref p0, .int p1, .int p2, .int p3] hp (FX12_isLeft hp p0 p1 p2 p3) (fun r => some (.int r)) (fun _ => hp) := by
  refine Ct.of (by decide) (Nat.le_of_ble_eq_true rfl) ?_
  intro V Q hVl hVd hVt hVb hVs hC
  subst hVl; subst hVd; subst hVt; subst hVb; subst hVs
  unfold FX12_isLeft
  show Zs V Q (0, 0) 4 _ _ hp [(0, .ref p0), (1, .int p1), (2, .int p2), (3, .int p3)] 0 []
  refine z_aload_n hC 0 dX12_isLeft_0 rfl rfl ?_
  refine z_getR hC lgRX12_20 dX12_isLeft_1 (fun v1 => ?_)
  refine z_iload_n hC 1 dX12_isLeft_4 rfl rfl ?_
  refine z_zald hC dX12_isLeft_5 (fun v2 => ?_)
  refine z_if_eq hC 21 dX12_isLeft_6 (by decide) (fun _ => ?_) (fun _ => ?_)
  · refine z_iconst hC (0 : Int32) dX12_isLeft_21 (by decide) ?_
    exact z_zret hC (by decide) (fun h => h) dX12_isLeft_22
  · refine z_iload_n hC 1 dX12_isLeft_9 rfl rfl ?_
    refine z_iload_n hC 3 dX12_isLeft_10 rfl rfl ?_
    refine z_ixor hC dX12_isLeft_11 ?_
    refine z_iload_n hC 2 dX12_isLeft_12 rfl rfl ?_
    refine z_iand hC dX12_isLeft_13 ?_
    refine z_if_ne hC 21 dX12_isLeft_14 (by decide) (fun _ => ?_) (fun _ => ?_)
    · refine z_iconst hC (1 : Int32) dX12_isLeft_17 (by decide) ?_
      refine z_goto hC 22 dX12_isLeft_18 (by decide) ?_
      exact z_zret hC (by decide) (fun h => h) dX12_isLeft_22
    · refine z_iconst hC (0 : Int32) dX12_isLeft_21 (by decide) ?_
      exact z_zret hC (by decide) (fun h => h) dX12_isLeft_22

theorem dX12_leftBy_0 : decode cX12_leftBy 0 = .ok (.iconst 0, 1) := by decide +kernel
theorem dX12_leftBy_1 : decode cX12_leftBy 1 = .ok (.istore_n 3, 1) := by decide +kernel
theorem dX12_leftBy_2 : decode cX12_leftBy 2 = .ok (.iconst 0, 1) := by decide +kernel
theorem dX12_leftBy_3 : decode cX12_leftBy 3 = .ok (.istore 4, 2) := by decide +kernel
theorem dX12_leftBy_5 : decode cX12_leftBy 5 = .ok (.iload 4, 2) := by decide +kernel
theorem dX12_leftBy_7 : decode cX12_leftBy 7 = .ok (.sipush 1024, 3) := by decide +kernel
theorem dX12_leftBy_10 : decode cX12_leftBy 10 = .ok (.if_icmp .ge 28, 3) := by decide +kernel
theorem dX12_leftBy_13 : decode cX12_leftBy 13 = .ok (.iload_n 3, 1) := by decide +kernel
theorem dX12_leftBy_14 : decode cX12_leftBy 14 = .ok (.aload_n 0, 1) := by decide +kernel
theorem dX12_leftBy_15 : decode cX12_leftBy 15 = .ok (.iload 4, 2) := by decide +kernel
theorem dX12_leftBy_17 : decode cX12_leftBy 17 = .ok (.iload_n 1, 1) := by decide +kernel
theorem dX12_leftBy_18 : decode cX12_leftBy 18 = .ok (.iload_n 2, 1) := by decide +kernel
theorem dX12_leftBy_19 : decode cX12_leftBy 19 = .ok (.invokevirtual 432, 3) := by decide +kernel
theorem dX12_leftBy_22 : decode cX12_leftBy 22 = .ok (.ifCond .eq 7, 3) := by decide +kernel
theorem dX12_leftBy_25 : decode cX12_leftBy 25 = .ok (.iconst 1, 1) := by decide +kernel
theorem dX12_leftBy_26 : decode cX12_leftBy 26 = .ok (.goto 4, 3) := by decide +kernel
theorem dX12_leftBy_29 : decode cX12_leftBy 29 = .ok (.iconst 0, 1) := by decide +kernel
theorem dX12_leftBy_30 : decode cX12_leftBy 30 = .ok (.iadd, 1) := by decide +kernel
theorem dX12_leftBy_31 : decode cX12_leftBy 31 = .ok (.istore_n 3, 1) := by decide +kernel
theorem dX12_leftBy_32 : decode cX12_leftBy 32 = .ok (.iinc 4 1, 3) := by decide +kernel
theorem dX12_leftBy_35 : decode cX12_leftBy 35 = .ok (.goto (-30), 3) := by decide +kernel
theorem dX12_leftBy_38 : decode cX12_leftBy 38 = .ok (.iload_n 3, 1) := by decide +kernel
theorem dX12_leftBy_39 : decode cX12_leftBy 39 = .ok (.ireturn, 1) := by decide +kernel
def FX12_leftBy (hp : HP) (p0 : Nat) (p1 : Int32) (p2 : Int32) : Option (Int32) := (lp (fun (s1 : Int32 × Int32) => if (1024 : Int32) ≤ s1.2 then some (Sum.inl s1.1) else (rc [12] hp p0 (FX12_isLeft hp p0 s1.2 p1 p2)).bind (fun v3 => if v3 = 0 then vl (s1.1 + (0 : Int32)) (fun x4 => vl (s1.2 + (1 : Int32)) (fun x5 => some (Sum.inr (x4, x5)))) else vl (s1.1 + (1 : Int32)) (fun x6 => vl (s1.2 + (1 : Int32)) (fun x7 => some (Sum.inr (x6, x7)))))) FU ((0 : Int32), (0 : Int32))).bind (fun (y2 : Int32) => some y2)
set_option maxHeartbeats 4000000 in
set_option maxRecDepth 100000 in
theorem ctX12_leftBy (l : Launch) (D : va_G) (tg : Nat → ClassId) (bs : Nat) (sa : Nat → Nat) (hp : HP) (p0 : Nat) (p1 : Int32) (p2 : Int32) : Ct l D tg bs sa yX12_leftBy cX12_leftBy 5 (some .int) 1 [.ref p0, .int p1, .int p2] hp (FX12_leftBy hp p0 p1 p2) (fun r => some (.int r)) (fun _ => hp) := by
  refine Ct.of (by decide) (Nat.le_of_ble_eq_true rfl) ?_
  intro V Q hVl hVd hVt hVb hVs hC
  subst hVl; subst hVd; subst hVt; subst hVb; subst hVs
  unfold FX12_leftBy
  show Zs V Q (0, 0) 5 _ _ hp [(0, .ref p0), (1, .int p1), (2, .int p2)] 0 []
  refine z_iconst hC (0 : Int32) dX12_leftBy_0 (by decide) ?_
  refine z_istore_n hC [(0, .ref p0), (1, .int p1), (2, .int p2), (3, .int (0 : Int32))] [1, 2, 3, 0] dX12_leftBy_1 rfl (by decide) rfl ?_
  refine z_iconst hC (0 : Int32) dX12_leftBy_2 (by decide) ?_
  refine z_istore hC [(0, .ref p0), (1, .int p1), (2, .int p2), (3, .int (0 : Int32)), (4, .int (0 : Int32))] [1, 2, 3, 4, 0] dX12_leftBy_3 (by decide) rfl ?_
  refine z_lp (S := Int32 × Int32) (Y := Int32) (fun s1 => hp) (fun s1 => [(0, .ref p0), (1, .int p1), (2, .int p2), (3, .int s1.1), (4, .int s1.2)]) (fun y2 => hp) (fun y2 => [(3, .int y2)]) 38 [] (fun y2 => ?_) (fun s1 => ?_) rfl rfl
  · refine z_iload_n hC 0 dX12_leftBy_38 rfl rfl ?_
    exact z_iret hC (fun h => h) dX12_leftBy_39
  · refine z_iload hC 4 dX12_leftBy_5 rfl ?_
    refine z_sipush hC (1024 : Int32) dX12_leftBy_7 (by decide) ?_
    refine z_icmp_ge hC 38 dX12_leftBy_10 (by decide) (fun _ => ?_) (fun _ => ?_)
    · refine z_weak [(3, .int s1.1)] [3] rfl ?_
      exact z_leaf (fun h => h)
    · refine z_iload_n hC 3 dX12_leftBy_13 rfl rfl ?_
      refine z_aload_n hC 0 dX12_leftBy_14 rfl rfl ?_
      refine z_iload hC 4 dX12_leftBy_15 rfl ?_
      refine z_iload_n hC 1 dX12_leftBy_17 rfl rfl ?_
      refine z_iload_n hC 2 dX12_leftBy_18 rfl rfl ?_
      refine z_callVi hC (ci := 12) rfl lmRX12_432 (ctX12_isLeft (vLa V) (vDa V) (vTg V) (vBs V) (vSa V) hp p0 s1.2 p1 p2) (by decide) hn0 dX12_leftBy_19 rfl rfl (Nat.le_of_ble_eq_true rfl) (fun v3 => ?_)
      refine z_if_eq hC 29 dX12_leftBy_22 (by decide) (fun _ => ?_) (fun _ => ?_)
      · refine z_iconst hC (0 : Int32) dX12_leftBy_29 (by decide) ?_
        refine z_iadd hC dX12_leftBy_30 ?_
        refine z_vli (fun x4 => ?_)
        refine z_istore_n hC [(0, .ref p0), (1, .int p1), (2, .int p2), (3, .int x4), (4, .int s1.2)] [1, 2, 3, 0, 4] dX12_leftBy_31 rfl (by decide) rfl ?_
        refine z_iincv hC (1 : Int32) 4 (fun x5 => [(0, .ref p0), (1, .int p1), (2, .int p2), (3, .int x4), (4, .int x5)]) [1, 2, 3, 4, 0] dX12_leftBy_32 rfl (by decide) (by decide) (fun _ => rfl) (fun x5 => ?_)
        refine z_goto hC 5 dX12_leftBy_35 (by decide) ?_
        exact z_leaf (fun h => h)
      · refine z_iconst hC (1 : Int32) dX12_leftBy_25 (by decide) ?_
        refine z_goto hC 30 dX12_leftBy_26 (by decide) ?_
        refine z_iadd hC dX12_leftBy_30 ?_
        refine z_vli (fun x6 => ?_)
        refine z_istore_n hC [(0, .ref p0), (1, .int p1), (2, .int p2), (3, .int x6), (4, .int s1.2)] [1, 2, 3, 0, 4] dX12_leftBy_31 rfl (by decide) rfl ?_
        refine z_iincv hC (1 : Int32) 4 (fun x7 => [(0, .ref p0), (1, .int p1), (2, .int p2), (3, .int x6), (4, .int x7)]) [1, 2, 3, 4, 0] dX12_leftBy_32 rfl (by decide) (by decide) (fun _ => rfl) (fun x7 => ?_)
        refine z_goto hC 5 dX12_leftBy_35 (by decide) ?_
        exact z_leaf (fun h => h)

theorem dX12_nextFact_0 : decode cX12_nextFact 0 = .ok (.aload_n 0, 1) := by decide +kernel
theorem dX12_nextFact_1 : decode cX12_nextFact 1 = .ok (.iload_n 1, 1) := by decide +kernel
theorem dX12_nextFact_2 : decode cX12_nextFact 2 = .ok (.iload_n 2, 1) := by decide +kernel
theorem dX12_nextFact_3 : decode cX12_nextFact 3 = .ok (.invokevirtual 435, 3) := by decide +kernel
theorem dX12_nextFact_6 : decode cX12_nextFact 6 = .ok (.istore_n 3, 1) := by decide +kernel
theorem dX12_nextFact_7 : decode cX12_nextFact 7 = .ok (.bipush (-2), 2) := by decide +kernel
theorem dX12_nextFact_9 : decode cX12_nextFact 9 = .ok (.istore 4, 2) := by decide +kernel
theorem dX12_nextFact_11 : decode cX12_nextFact 11 = .ok (.iload_n 3, 1) := by decide +kernel
theorem dX12_nextFact_12 : decode cX12_nextFact 12 = .ok (.istore 5, 2) := by decide +kernel
theorem dX12_nextFact_14 : decode cX12_nextFact 14 = .ok (.iconst 0, 1) := by decide +kernel
theorem dX12_nextFact_15 : decode cX12_nextFact 15 = .ok (.istore 6, 2) := by decide +kernel
theorem dX12_nextFact_17 : decode cX12_nextFact 17 = .ok (.iload 6, 2) := by decide +kernel
theorem dX12_nextFact_19 : decode cX12_nextFact 19 = .ok (.bipush 10, 2) := by decide +kernel
theorem dX12_nextFact_21 : decode cX12_nextFact 21 = .ok (.if_icmp .ge 68, 3) := by decide +kernel
theorem dX12_nextFact_24 : decode cX12_nextFact 24 = .ok (.iload_n 1, 1) := by decide +kernel
theorem dX12_nextFact_25 : decode cX12_nextFact 25 = .ok (.iload 6, 2) := by decide +kernel
theorem dX12_nextFact_27 : decode cX12_nextFact 27 = .ok (.invokestatic 107, 3) := by decide +kernel
theorem dX12_nextFact_30 : decode cX12_nextFact 30 = .ok (.ifCond .eq 6, 3) := by decide +kernel
theorem dX12_nextFact_33 : decode cX12_nextFact 33 = .ok (.goto 50, 3) := by decide +kernel
theorem dX12_nextFact_36 : decode cX12_nextFact 36 = .ok (.aload_n 0, 1) := by decide +kernel
theorem dX12_nextFact_37 : decode cX12_nextFact 37 = .ok (.iload_n 1, 1) := by decide +kernel
theorem dX12_nextFact_38 : decode cX12_nextFact 38 = .ok (.iconst 1, 1) := by decide +kernel
theorem dX12_nextFact_39 : decode cX12_nextFact 39 = .ok (.iload 6, 2) := by decide +kernel
theorem dX12_nextFact_41 : decode cX12_nextFact 41 = .ok (.ishl, 1) := by decide +kernel
theorem dX12_nextFact_42 : decode cX12_nextFact 42 = .ok (.ior, 1) := by decide +kernel
theorem dX12_nextFact_43 : decode cX12_nextFact 43 = .ok (.iload_n 2, 1) := by decide +kernel
theorem dX12_nextFact_44 : decode cX12_nextFact 44 = .ok (.iconst 1, 1) := by decide +kernel
theorem dX12_nextFact_45 : decode cX12_nextFact 45 = .ok (.iload 6, 2) := by decide +kernel
theorem dX12_nextFact_47 : decode cX12_nextFact 47 = .ok (.ishl, 1) := by decide +kernel
theorem dX12_nextFact_48 : decode cX12_nextFact 48 = .ok (.ior, 1) := by decide +kernel
theorem dX12_nextFact_49 : decode cX12_nextFact 49 = .ok (.invokevirtual 435, 3) := by decide +kernel
theorem dX12_nextFact_52 : decode cX12_nextFact 52 = .ok (.istore 7, 2) := by decide +kernel
theorem dX12_nextFact_54 : decode cX12_nextFact 54 = .ok (.iload 7, 2) := by decide +kernel
theorem dX12_nextFact_56 : decode cX12_nextFact 56 = .ok (.iload_n 3, 1) := by decide +kernel
theorem dX12_nextFact_57 : decode cX12_nextFact 57 = .ok (.iload 7, 2) := by decide +kernel
theorem dX12_nextFact_59 : decode cX12_nextFact 59 = .ok (.isub, 1) := by decide +kernel
theorem dX12_nextFact_60 : decode cX12_nextFact 60 = .ok (.invokestatic 438, 3) := by decide +kernel
theorem dX12_nextFact_63 : decode cX12_nextFact 63 = .ok (.istore 8, 2) := by decide +kernel
theorem dX12_nextFact_65 : decode cX12_nextFact 65 = .ok (.iload 8, 2) := by decide +kernel
theorem dX12_nextFact_67 : decode cX12_nextFact 67 = .ok (.iload 5, 2) := by decide +kernel
theorem dX12_nextFact_69 : decode cX12_nextFact 69 = .ok (.if_icmp .lt 6, 3) := by decide +kernel
theorem dX12_nextFact_72 : decode cX12_nextFact 72 = .ok (.goto 11, 3) := by decide +kernel
theorem dX12_nextFact_75 : decode cX12_nextFact 75 = .ok (.iload 8, 2) := by decide +kernel
theorem dX12_nextFact_77 : decode cX12_nextFact 77 = .ok (.istore 5, 2) := by decide +kernel
theorem dX12_nextFact_79 : decode cX12_nextFact 79 = .ok (.iload 6, 2) := by decide +kernel
theorem dX12_nextFact_81 : decode cX12_nextFact 81 = .ok (.istore 4, 2) := by decide +kernel
theorem dX12_nextFact_83 : decode cX12_nextFact 83 = .ok (.iinc 6 1, 3) := by decide +kernel
theorem dX12_nextFact_86 : decode cX12_nextFact 86 = .ok (.goto (-69), 3) := by decide +kernel
theorem dX12_nextFact_89 : decode cX12_nextFact 89 = .ok (.iload 4, 2) := by decide +kernel
theorem dX12_nextFact_91 : decode cX12_nextFact 91 = .ok (.ireturn, 1) := by decide +kernel
def FX12_nextFact (hp : HP) (p0 : Nat) (p1 : Int32) (p2 : Int32) : Option (Int32) := (rc [12] hp p0 (FX12_leftBy hp p0 p1 p2)).bind (fun v1 => (lp (fun (s2 : Int32 × Int32 × Int32) => if (10 : Int32) ≤ s2.2.2 then some (Sum.inl s2.1) else (FX12_has p1 s2.2.2).bind (fun v4 => if v4 = 0 then (rc [12] hp p0 (FX12_leftBy hp p0 (p1 ||| ((1 : Int32) <<< (s2.2.2 &&& 31))) (p2 ||| ((1 : Int32) <<< (s2.2.2 &&& 31))))).bind (fun v5 => (FX12_max v5 (v1 - v5)).bind (fun v6 => if v6 < s2.2.1 then vl (s2.2.2 + (1 : Int32)) (fun x7 => some (Sum.inr (s2.2.2, v6, x7))) else vl (s2.2.2 + (1 : Int32)) (fun x8 => some (Sum.inr (s2.1, s2.2.1, x8))))) else vl (s2.2.2 + (1 : Int32)) (fun x9 => some (Sum.inr (s2.1, s2.2.1, x9))))) FU ((-2 : Int32), v1, (0 : Int32))).bind (fun (y3 : Int32) => some y3))
set_option maxHeartbeats 4000000 in
set_option maxRecDepth 100000 in
theorem ctX12_nextFact (l : Launch) (D : va_G) (tg : Nat → ClassId) (bs : Nat) (sa : Nat → Nat) (hp : HP) (p0 : Nat) (p1 : Int32) (p2 : Int32) : Ct l D tg bs sa yX12_nextFact cX12_nextFact 9 (some .int) 2 [.ref p0, .int p1, .int p2] hp (FX12_nextFact hp p0 p1 p2) (fun r => some (.int r)) (fun _ => hp) := by
  refine Ct.of (by decide) (Nat.le_of_ble_eq_true rfl) ?_
  intro V Q hVl hVd hVt hVb hVs hC
  subst hVl; subst hVd; subst hVt; subst hVb; subst hVs
  unfold FX12_nextFact
  show Zs V Q (0, 0) 9 _ _ hp [(0, .ref p0), (1, .int p1), (2, .int p2)] 0 []
  refine z_aload_n hC 0 dX12_nextFact_0 rfl rfl ?_
  refine z_iload_n hC 1 dX12_nextFact_1 rfl rfl ?_
  refine z_iload_n hC 2 dX12_nextFact_2 rfl rfl ?_
  refine z_callVi hC (ci := 12) rfl lmRX12_435 (ctX12_leftBy (vLa V) (vDa V) (vTg V) (vBs V) (vSa V) hp p0 p1 p2) (by decide) hn0 dX12_nextFact_3 rfl rfl (Nat.le_of_ble_eq_true rfl) (fun v1 => ?_)
  refine z_istore_n hC [(0, .ref p0), (1, .int p1), (2, .int p2), (3, .int v1)] [1, 2, 3, 0] dX12_nextFact_6 rfl (by decide) rfl ?_
  refine z_bipush hC (-2 : Int32) dX12_nextFact_7 (by decide) ?_
  refine z_istore hC [(0, .ref p0), (1, .int p1), (2, .int p2), (3, .int v1), (4, .int (-2 : Int32))] [1, 2, 3, 4, 0] dX12_nextFact_9 (by decide) rfl ?_
  refine z_iload_n hC 3 dX12_nextFact_11 rfl rfl ?_
  refine z_istore hC [(0, .ref p0), (1, .int p1), (2, .int p2), (3, .int v1), (4, .int (-2 : Int32)), (5, .int v1)] [1, 2, 3, 4, 5, 0] dX12_nextFact_12 (by decide) rfl ?_
  refine z_iconst hC (0 : Int32) dX12_nextFact_14 (by decide) ?_
  refine z_istore hC [(0, .ref p0), (1, .int p1), (2, .int p2), (3, .int v1), (4, .int (-2 : Int32)), (5, .int v1), (6, .int (0 : Int32))] [1, 2, 3, 4, 5, 6, 0] dX12_nextFact_15 (by decide) rfl ?_
  refine z_lp (S := Int32 × Int32 × Int32) (Y := Int32) (fun s2 => hp) (fun s2 => [(0, .ref p0), (1, .int p1), (2, .int p2), (3, .int v1), (4, .int s2.1), (5, .int s2.2.1), (6, .int s2.2.2)]) (fun y3 => hp) (fun y3 => [(4, .int y3)]) 89 [] (fun y3 => ?_) (fun s2 => ?_) rfl rfl
  · refine z_iload hC 0 dX12_nextFact_89 rfl ?_
    exact z_iret hC (fun h => h) dX12_nextFact_91
  · refine z_iload hC 6 dX12_nextFact_17 rfl ?_
    refine z_bipush hC (10 : Int32) dX12_nextFact_19 (by decide) ?_
    refine z_icmp_ge hC 89 dX12_nextFact_21 (by decide) (fun _ => ?_) (fun _ => ?_)
    · refine z_weak [(4, .int s2.1)] [4] rfl ?_
      exact z_leaf (fun h => h)
    · refine z_iload_n hC 1 dX12_nextFact_24 rfl rfl ?_
      refine z_iload hC 6 dX12_nextFact_25 rfl ?_
      refine z_callSi hC lmRX12_107 (ctX12_has (vLa V) (vDa V) (vTg V) (vBs V) (vSa V) hp p1 s2.2.2) (by decide) hn0 dX12_nextFact_27 rfl rfl (Nat.le_of_ble_eq_true rfl) (fun v4 => ?_)
      refine z_if_eq hC 36 dX12_nextFact_30 (by decide) (fun _ => ?_) (fun _ => ?_)
      · refine z_aload_n hC 0 dX12_nextFact_36 rfl rfl ?_
        refine z_iload_n hC 1 dX12_nextFact_37 rfl rfl ?_
        refine z_iconst hC (1 : Int32) dX12_nextFact_38 (by decide) ?_
        refine z_iload hC 6 dX12_nextFact_39 rfl ?_
        refine z_ishl hC dX12_nextFact_41 ?_
        refine z_ior hC dX12_nextFact_42 ?_
        refine z_iload_n hC 2 dX12_nextFact_43 rfl rfl ?_
        refine z_iconst hC (1 : Int32) dX12_nextFact_44 (by decide) ?_
        refine z_iload hC 6 dX12_nextFact_45 rfl ?_
        refine z_ishl hC dX12_nextFact_47 ?_
        refine z_ior hC dX12_nextFact_48 ?_
        refine z_callVi hC (ci := 12) rfl lmRX12_435 (ctX12_leftBy (vLa V) (vDa V) (vTg V) (vBs V) (vSa V) hp p0 (p1 ||| ((1 : Int32) <<< (s2.2.2 &&& 31))) (p2 ||| ((1 : Int32) <<< (s2.2.2 &&& 31)))) (by decide) hn0 dX12_nextFact_49 rfl rfl (Nat.le_of_ble_eq_true rfl) (fun v5 => ?_)
        refine z_istore hC [(0, .ref p0), (1, .int p1), (2, .int p2), (3, .int v1), (4, .int s2.1), (5, .int s2.2.1), (6, .int s2.2.2), (7, .int v5)] [1, 2, 3, 4, 5, 6, 7, 0] dX12_nextFact_52 (by decide) rfl ?_
        refine z_iload hC 7 dX12_nextFact_54 rfl ?_
        refine z_iload_n hC 3 dX12_nextFact_56 rfl rfl ?_
        refine z_iload hC 7 dX12_nextFact_57 rfl ?_
        refine z_isub hC dX12_nextFact_59 ?_
        refine z_callSi hC lmRX12_438 (ctX12_max (vLa V) (vDa V) (vTg V) (vBs V) (vSa V) hp v5 (v1 - v5)) (by decide) hn0 dX12_nextFact_60 rfl rfl (Nat.le_of_ble_eq_true rfl) (fun v6 => ?_)
        refine z_istore hC [(0, .ref p0), (1, .int p1), (2, .int p2), (3, .int v1), (4, .int s2.1), (5, .int s2.2.1), (6, .int s2.2.2), (7, .int v5), (8, .int v6)] [1, 2, 3, 4, 5, 6, 7, 8, 0] dX12_nextFact_63 (by decide) rfl ?_
        refine z_iload hC 8 dX12_nextFact_65 rfl ?_
        refine z_iload hC 5 dX12_nextFact_67 rfl ?_
        refine z_icmp_lt hC 75 dX12_nextFact_69 (by decide) (fun _ => ?_) (fun _ => ?_)
        · refine z_iload hC 8 dX12_nextFact_75 rfl ?_
          refine z_istore hC [(0, .ref p0), (1, .int p1), (2, .int p2), (3, .int v1), (4, .int s2.1), (5, .int v6), (6, .int s2.2.2), (7, .int v5), (8, .int v6)] [1, 2, 3, 4, 5, 0, 6, 7, 8] dX12_nextFact_77 (by decide) rfl ?_
          refine z_iload hC 6 dX12_nextFact_79 rfl ?_
          refine z_istore hC [(0, .ref p0), (1, .int p1), (2, .int p2), (3, .int v1), (4, .int s2.2.2), (5, .int v6), (6, .int s2.2.2), (7, .int v5), (8, .int v6)] [1, 2, 3, 4, 0, 5, 6, 7, 8] dX12_nextFact_81 (by decide) rfl ?_
          refine z_iincv hC (1 : Int32) 6 (fun x7 => [(0, .ref p0), (1, .int p1), (2, .int p2), (3, .int v1), (4, .int s2.2.2), (5, .int v6), (6, .int x7), (7, .int v5), (8, .int v6)]) [1, 2, 3, 4, 5, 6, 0, 7, 8] dX12_nextFact_83 rfl (by decide) (by decide) (fun _ => rfl) (fun x7 => ?_)
          refine z_goto hC 17 dX12_nextFact_86 (by decide) ?_
          refine z_weak [(0, .ref p0), (1, .int p1), (2, .int p2), (3, .int v1), (4, .int s2.2.2), (5, .int v6), (6, .int x7)] [0, 1, 2, 3, 4, 5, 6] rfl ?_
          exact z_leaf (fun h => h)
        · refine z_goto hC 83 dX12_nextFact_72 (by decide) ?_
          refine z_iincv hC (1 : Int32) 6 (fun x8 => [(0, .ref p0), (1, .int p1), (2, .int p2), (3, .int v1), (4, .int s2.1), (5, .int s2.2.1), (6, .int x8), (7, .int v5), (8, .int v6)]) [1, 2, 3, 4, 5, 6, 0, 7, 8] dX12_nextFact_83 rfl (by decide) (by decide) (fun _ => rfl) (fun x8 => ?_)
          refine z_goto hC 17 dX12_nextFact_86 (by decide) ?_
          refine z_weak [(0, .ref p0), (1, .int p1), (2, .int p2), (3, .int v1), (4, .int s2.1), (5, .int s2.2.1), (6, .int x8)] [0, 1, 2, 3, 4, 5, 6] rfl ?_
          exact z_leaf (fun h => h)
      · refine z_goto hC 83 dX12_nextFact_33 (by decide) ?_
        refine z_iincv hC (1 : Int32) 6 (fun x9 => [(0, .ref p0), (1, .int p1), (2, .int p2), (3, .int v1), (4, .int s2.1), (5, .int s2.2.1), (6, .int x9)]) [1, 2, 3, 4, 5, 6, 0] dX12_nextFact_83 rfl (by decide) (by decide) (fun _ => rfl) (fun x9 => ?_)
        refine z_goto hC 17 dX12_nextFact_86 (by decide) ?_
        exact z_leaf (fun h => h)

theorem dX12_asked_0 : decode cX12_asked 0 = .ok (.iload_n 1, 1) := by decide +kernel
theorem dX12_asked_1 : decode cX12_asked 1 = .ok (.iconst 0, 1) := by decide +kernel
theorem dX12_asked_2 : decode cX12_asked 2 = .ok (.sipush 1023, 3) := by decide +kernel
theorem dX12_asked_5 : decode cX12_asked 5 = .ok (.invokestatic 99, 3) := by decide +kernel
theorem dX12_asked_8 : decode cX12_asked 8 = .ok (.ifCond .eq 23, 3) := by decide +kernel
theorem dX12_asked_11 : decode cX12_asked 11 = .ok (.iload_n 2, 1) := by decide +kernel
theorem dX12_asked_12 : decode cX12_asked 12 = .ok (.iconst 0, 1) := by decide +kernel
theorem dX12_asked_13 : decode cX12_asked 13 = .ok (.sipush 1023, 3) := by decide +kernel
theorem dX12_asked_16 : decode cX12_asked 16 = .ok (.invokestatic 99, 3) := by decide +kernel
theorem dX12_asked_19 : decode cX12_asked 19 = .ok (.ifCond .eq 12, 3) := by decide +kernel
theorem dX12_asked_22 : decode cX12_asked 22 = .ok (.iload_n 3, 1) := by decide +kernel
theorem dX12_asked_23 : decode cX12_asked 23 = .ok (.iconst 0, 1) := by decide +kernel
theorem dX12_asked_24 : decode cX12_asked 24 = .ok (.iconst 4, 1) := by decide +kernel
theorem dX12_asked_25 : decode cX12_asked 25 = .ok (.invokestatic 99, 3) := by decide +kernel
theorem dX12_asked_28 : decode cX12_asked 28 = .ok (.ifCond .ne 5, 3) := by decide +kernel
theorem dX12_asked_31 : decode cX12_asked 31 = .ok (.iconst (-1), 1) := by decide +kernel
theorem dX12_asked_32 : decode cX12_asked 32 = .ok (.ireturn, 1) := by decide +kernel
theorem dX12_asked_33 : decode cX12_asked 33 = .ok (.iload_n 3, 1) := by decide +kernel
theorem dX12_asked_34 : decode cX12_asked 34 = .ok (.ifCond .ne 10, 3) := by decide +kernel
theorem dX12_asked_37 : decode cX12_asked 37 = .ok (.aload_n 0, 1) := by decide +kernel
theorem dX12_asked_38 : decode cX12_asked 38 = .ok (.iload_n 1, 1) := by decide +kernel
theorem dX12_asked_39 : decode cX12_asked 39 = .ok (.iload_n 2, 1) := by decide +kernel
theorem dX12_asked_40 : decode cX12_asked 40 = .ok (.invokevirtual 435, 3) := by decide +kernel
theorem dX12_asked_43 : decode cX12_asked 43 = .ok (.ireturn, 1) := by decide +kernel
theorem dX12_asked_44 : decode cX12_asked 44 = .ok (.iload_n 3, 1) := by decide +kernel
theorem dX12_asked_45 : decode cX12_asked 45 = .ok (.iconst 4, 1) := by decide +kernel
theorem dX12_asked_46 : decode cX12_asked 46 = .ok (.if_icmp .ne 10, 3) := by decide +kernel
theorem dX12_asked_49 : decode cX12_asked 49 = .ok (.aload_n 0, 1) := by decide +kernel
theorem dX12_asked_50 : decode cX12_asked 50 = .ok (.iload_n 1, 1) := by decide +kernel
theorem dX12_asked_51 : decode cX12_asked 51 = .ok (.iload_n 2, 1) := by decide +kernel
theorem dX12_asked_52 : decode cX12_asked 52 = .ok (.invokevirtual 441, 3) := by decide +kernel
theorem dX12_asked_55 : decode cX12_asked 55 = .ok (.ireturn, 1) := by decide +kernel
theorem dX12_asked_56 : decode cX12_asked 56 = .ok (.bipush (-2), 2) := by decide +kernel
theorem dX12_asked_58 : decode cX12_asked 58 = .ok (.istore 4, 2) := by decide +kernel
theorem dX12_asked_60 : decode cX12_asked 60 = .ok (.sipush 1023, 3) := by decide +kernel
theorem dX12_asked_63 : decode cX12_asked 63 = .ok (.istore 5, 2) := by decide +kernel
theorem dX12_asked_65 : decode cX12_asked 65 = .ok (.sipush 1023, 3) := by decide +kernel
theorem dX12_asked_68 : decode cX12_asked 68 = .ok (.istore 6, 2) := by decide +kernel
theorem dX12_asked_70 : decode cX12_asked 70 = .ok (.iconst 0, 1) := by decide +kernel
theorem dX12_asked_71 : decode cX12_asked 71 = .ok (.istore 7, 2) := by decide +kernel
theorem dX12_asked_73 : decode cX12_asked 73 = .ok (.iload 7, 2) := by decide +kernel
theorem dX12_asked_75 : decode cX12_asked 75 = .ok (.sipush 1024, 3) := by decide +kernel
theorem dX12_asked_78 : decode cX12_asked 78 = .ok (.if_icmp .ge 55, 3) := by decide +kernel
theorem dX12_asked_81 : decode cX12_asked 81 = .ok (.aload_n 0, 1) := by decide +kernel
theorem dX12_asked_82 : decode cX12_asked 82 = .ok (.iload 7, 2) := by decide +kernel
theorem dX12_asked_84 : decode cX12_asked 84 = .ok (.iload_n 1, 1) := by decide +kernel
theorem dX12_asked_85 : decode cX12_asked 85 = .ok (.iload_n 2, 1) := by decide +kernel
theorem dX12_asked_86 : decode cX12_asked 86 = .ok (.invokevirtual 432, 3) := by decide +kernel
theorem dX12_asked_89 : decode cX12_asked 89 = .ok (.ifCond .ne 6, 3) := by decide +kernel
theorem dX12_asked_92 : decode cX12_asked 92 = .ok (.goto 35, 3) := by decide +kernel
theorem dX12_asked_95 : decode cX12_asked 95 = .ok (.iload 4, 2) := by decide +kernel
theorem dX12_asked_97 : decode cX12_asked 97 = .ok (.bipush (-2), 2) := by decide +kernel
theorem dX12_asked_99 : decode cX12_asked 99 = .ok (.if_icmp .ne 8, 3) := by decide +kernel
theorem dX12_asked_102 : decode cX12_asked 102 = .ok (.iload 7, 2) := by decide +kernel
theorem dX12_asked_104 : decode cX12_asked 104 = .ok (.goto 5, 3) := by decide +kernel
theorem dX12_asked_107 : decode cX12_asked 107 = .ok (.iload 4, 2) := by decide +kernel
theorem dX12_asked_109 : decode cX12_asked 109 = .ok (.istore 4, 2) := by decide +kernel
theorem dX12_asked_111 : decode cX12_asked 111 = .ok (.iload 5, 2) := by decide +kernel
theorem dX12_asked_113 : decode cX12_asked 113 = .ok (.iload 7, 2) := by decide +kernel
theorem dX12_asked_115 : decode cX12_asked 115 = .ok (.iand, 1) := by decide +kernel
theorem dX12_asked_116 : decode cX12_asked 116 = .ok (.istore 5, 2) := by decide +kernel
theorem dX12_asked_118 : decode cX12_asked 118 = .ok (.iload 6, 2) := by decide +kernel
theorem dX12_asked_120 : decode cX12_asked 120 = .ok (.iload 7, 2) := by decide +kernel
theorem dX12_asked_122 : decode cX12_asked 122 = .ok (.iconst (-1), 1) := by decide +kernel
theorem dX12_asked_123 : decode cX12_asked 123 = .ok (.ixor, 1) := by decide +kernel
theorem dX12_asked_124 : decode cX12_asked 124 = .ok (.iand, 1) := by decide +kernel
theorem dX12_asked_125 : decode cX12_asked 125 = .ok (.istore 6, 2) := by decide +kernel
theorem dX12_asked_127 : decode cX12_asked 127 = .ok (.iinc 7 1, 3) := by decide +kernel
theorem dX12_asked_130 : decode cX12_asked 130 = .ok (.goto (-57), 3) := by decide +kernel
theorem dX12_asked_133 : decode cX12_asked 133 = .ok (.iload_n 3, 1) := by decide +kernel
theorem dX12_asked_134 : decode cX12_asked 134 = .ok (.iconst 1, 1) := by decide +kernel
theorem dX12_asked_135 : decode cX12_asked 135 = .ok (.if_icmp .ne 6, 3) := by decide +kernel
theorem dX12_asked_138 : decode cX12_asked 138 = .ok (.iload 4, 2) := by decide +kernel
theorem dX12_asked_140 : decode cX12_asked 140 = .ok (.ireturn, 1) := by decide +kernel
theorem dX12_asked_141 : decode cX12_asked 141 = .ok (.iload 4, 2) := by decide +kernel
theorem dX12_asked_143 : decode cX12_asked 143 = .ok (.bipush (-2), 2) := by decide +kernel
theorem dX12_asked_145 : decode cX12_asked 145 = .ok (.if_icmp .ne 7, 3) := by decide +kernel
theorem dX12_asked_148 : decode cX12_asked 148 = .ok (.iconst 0, 1) := by decide +kernel
theorem dX12_asked_149 : decode cX12_asked 149 = .ok (.goto 19, 3) := by decide +kernel
theorem dX12_asked_152 : decode cX12_asked 152 = .ok (.iload_n 3, 1) := by decide +kernel
theorem dX12_asked_153 : decode cX12_asked 153 = .ok (.iconst 2, 1) := by decide +kernel
theorem dX12_asked_154 : decode cX12_asked 154 = .ok (.if_icmp .ne 8, 3) := by decide +kernel
theorem dX12_asked_157 : decode cX12_asked 157 = .ok (.iload 5, 2) := by decide +kernel
theorem dX12_asked_159 : decode cX12_asked 159 = .ok (.goto 5, 3) := by decide +kernel
theorem dX12_asked_162 : decode cX12_asked 162 = .ok (.iload 6, 2) := by decide +kernel
theorem dX12_asked_164 : decode cX12_asked 164 = .ok (.iload_n 1, 1) := by decide +kernel
theorem dX12_asked_165 : decode cX12_asked 165 = .ok (.iconst (-1), 1) := by decide +kernel
theorem dX12_asked_166 : decode cX12_asked 166 = .ok (.ixor, 1) := by decide +kernel
theorem dX12_asked_167 : decode cX12_asked 167 = .ok (.iand, 1) := by decide +kernel
theorem dX12_asked_168 : decode cX12_asked 168 = .ok (.ireturn, 1) := by decide +kernel
def FX12_asked (hp : HP) (p0 : Nat) (p1 : Int32) (p2 : Int32) (p3 : Int32) : Option (Int32) := (FX12_in p1 (0 : Int32) (1023 : Int32)).bind (fun v1 => if v1 = 0 then some (-1 : Int32) else (FX12_in p2 (0 : Int32) (1023 : Int32)).bind (fun v2 => if v2 = 0 then some (-1 : Int32) else (FX12_in p3 (0 : Int32) (4 : Int32)).bind (fun v3 => if v3 = 0 then some (-1 : Int32) else if p3 = 0 then (rc [12] hp p0 (FX12_leftBy hp p0 p1 p2)).bind (fun v4 => some v4) else if p3 = (4 : Int32) then (rc [12] hp p0 (FX12_nextFact hp p0 p1 p2)).bind (fun v5 => some v5) else (lp (fun (s6 : Int32 × Int32 × Int32 × Int32) => if (1024 : Int32) ≤ s6.2.2.2 then some (Sum.inl (s6.1, s6.2.1, s6.2.2.1)) else (rc [12] hp p0 (FX12_isLeft hp p0 s6.2.2.2 p1 p2)).bind (fun v8 => if v8 = 0 then vl (s6.2.2.2 + (1 : Int32)) (fun x9 => some (Sum.inr (s6.1, s6.2.1, s6.2.2.1, x9))) else jn (A := Int32) (fun a10 => vl (s6.2.1 &&& s6.2.2.2) (fun x12 => vl (s6.2.2.1 &&& (s6.2.2.2 ^^^ (-1 : Int32))) (fun x13 => vl (s6.2.2.2 + (1 : Int32)) (fun x14 => some (Sum.inr (a10, x12, x13, x14)))))) (fun J11 => if s6.1 = (-2 : Int32) then J11 s6.2.2.2 else J11 s6.1))) FU ((-2 : Int32), (1023 : Int32), (1023 : Int32), (0 : Int32))).bind (fun (y7 : Int32 × Int32 × Int32) => if p3 = (1 : Int32) then some y7.1 else if y7.1 = (-2 : Int32) then some (0 : Int32) else if p3 = (2 : Int32) then some (y7.2.1 &&& (p1 ^^^ (-1 : Int32))) else some (y7.2.2 &&& (p1 ^^^ (-1 : Int32)))))))
set_option maxHeartbeats 4000000 in
set_option maxRecDepth 100000 in
theorem ctX12_asked (l : Launch) (D : va_G) (tg : Nat → ClassId) (bs : Nat) (sa : Nat → Nat) (hp : HP) (p0 : Nat) (p1 : Int32) (p2 : Int32) (p3 : Int32) : Ct l D tg bs sa yX12_asked cX12_asked 8 (some .int) 3 [.ref p0, .int p1, .int p2, .int p3] hp (FX12_asked hp p0 p1 p2 p3) (fun r => some (.int r)) (fun _ => hp) := by
  refine Ct.of (by decide) (Nat.le_of_ble_eq_true rfl) ?_
  intro V Q hVl hVd hVt hVb hVs hC
  subst hVl; subst hVd; subst hVt; subst hVb; subst hVs
  unfold FX12_asked
  show Zs V Q (0, 0) 8 _ _ hp [(0, .ref p0), (1, .int p1), (2, .int p2), (3, .int p3)] 0 []
  refine z_iload_n hC 1 dX12_asked_0 rfl rfl ?_
  refine z_iconst hC (0 : Int32) dX12_asked_1 (by decide) ?_
  refine z_sipush hC (1023 : Int32) dX12_asked_2 (by decide) ?_
  refine z_callSi hC lmRX12_99 (ctX12_in (vLa V) (vDa V) (vTg V) (vBs V) (vSa V) hp p1 (0 : Int32) (1023 : Int32)) (by decide) hn0 dX12_asked_5 rfl rfl (Nat.le_of_ble_eq_true rfl) (fun v1 => ?_)
  refine z_if_eq hC 31 dX12_asked_8 (by decide) (fun _ => ?_) (fun _ => ?_)
  · refine z_iconst hC (-1 : Int32) dX12_asked_31 (by decide) ?_
    exact z_iret hC (fun h => h) dX12_asked_32
  · refine z_iload_n hC 2 dX12_asked_11 rfl rfl ?_
    refine z_iconst hC (0 : Int32) dX12_asked_12 (by decide) ?_
    refine z_sipush hC (1023 : Int32) dX12_asked_13 (by decide) ?_
    refine z_callSi hC lmRX12_99 (ctX12_in (vLa V) (vDa V) (vTg V) (vBs V) (vSa V) hp p2 (0 : Int32) (1023 : Int32)) (by decide) hn0 dX12_asked_16 rfl rfl (Nat.le_of_ble_eq_true rfl) (fun v2 => ?_)
    refine z_if_eq hC 31 dX12_asked_19 (by decide) (fun _ => ?_) (fun _ => ?_)
    · refine z_iconst hC (-1 : Int32) dX12_asked_31 (by decide) ?_
      exact z_iret hC (fun h => h) dX12_asked_32
    · refine z_iload_n hC 3 dX12_asked_22 rfl rfl ?_
      refine z_iconst hC (0 : Int32) dX12_asked_23 (by decide) ?_
      refine z_iconst hC (4 : Int32) dX12_asked_24 (by decide) ?_
      refine z_callSi hC lmRX12_99 (ctX12_in (vLa V) (vDa V) (vTg V) (vBs V) (vSa V) hp p3 (0 : Int32) (4 : Int32)) (by decide) hn0 dX12_asked_25 rfl rfl (Nat.le_of_ble_eq_true rfl) (fun v3 => ?_)
      refine z_if_ne hC 33 dX12_asked_28 (by decide) (fun _ => ?_) (fun _ => ?_)
      · refine z_iconst hC (-1 : Int32) dX12_asked_31 (by decide) ?_
        exact z_iret hC (fun h => h) dX12_asked_32
      · refine z_iload_n hC 3 dX12_asked_33 rfl rfl ?_
        refine z_if_ne hC 44 dX12_asked_34 (by decide) (fun _ => ?_) (fun _ => ?_)
        · refine z_aload_n hC 0 dX12_asked_37 rfl rfl ?_
          refine z_iload_n hC 1 dX12_asked_38 rfl rfl ?_
          refine z_iload_n hC 2 dX12_asked_39 rfl rfl ?_
          refine z_callVi hC (ci := 12) rfl lmRX12_435 (ctX12_leftBy (vLa V) (vDa V) (vTg V) (vBs V) (vSa V) hp p0 p1 p2) (by decide) hn0 dX12_asked_40 rfl rfl (Nat.le_of_ble_eq_true rfl) (fun v4 => ?_)
          exact z_iret hC (fun h => h) dX12_asked_43
        · refine z_iload_n hC 3 dX12_asked_44 rfl rfl ?_
          refine z_iconst hC (4 : Int32) dX12_asked_45 (by decide) ?_
          refine z_icmp_ne hC 56 dX12_asked_46 (by decide) (fun _ => ?_) (fun _ => ?_)
          · refine z_aload_n hC 0 dX12_asked_49 rfl rfl ?_
            refine z_iload_n hC 1 dX12_asked_50 rfl rfl ?_
            refine z_iload_n hC 2 dX12_asked_51 rfl rfl ?_
            refine z_callVi hC (ci := 12) rfl lmRX12_441 (ctX12_nextFact (vLa V) (vDa V) (vTg V) (vBs V) (vSa V) hp p0 p1 p2) (by decide) hn0 dX12_asked_52 rfl rfl (Nat.le_of_ble_eq_true rfl) (fun v5 => ?_)
            exact z_iret hC (fun h => h) dX12_asked_55
          · refine z_bipush hC (-2 : Int32) dX12_asked_56 (by decide) ?_
            refine z_istore hC [(0, .ref p0), (1, .int p1), (2, .int p2), (3, .int p3), (4, .int (-2 : Int32))] [1, 2, 3, 4, 0] dX12_asked_58 (by decide) rfl ?_
            refine z_sipush hC (1023 : Int32) dX12_asked_60 (by decide) ?_
            refine z_istore hC [(0, .ref p0), (1, .int p1), (2, .int p2), (3, .int p3), (4, .int (-2 : Int32)), (5, .int (1023 : Int32))] [1, 2, 3, 4, 5, 0] dX12_asked_63 (by decide) rfl ?_
            refine z_sipush hC (1023 : Int32) dX12_asked_65 (by decide) ?_
            refine z_istore hC [(0, .ref p0), (1, .int p1), (2, .int p2), (3, .int p3), (4, .int (-2 : Int32)), (5, .int (1023 : Int32)), (6, .int (1023 : Int32))] [1, 2, 3, 4, 5, 6, 0] dX12_asked_68 (by decide) rfl ?_
            refine z_iconst hC (0 : Int32) dX12_asked_70 (by decide) ?_
            refine z_istore hC [(0, .ref p0), (1, .int p1), (2, .int p2), (3, .int p3), (4, .int (-2 : Int32)), (5, .int (1023 : Int32)), (6, .int (1023 : Int32)), (7, .int (0 : Int32))] [1, 2, 3, 4, 5, 6, 7, 0] dX12_asked_71 (by decide) rfl ?_
            refine z_lp (S := Int32 × Int32 × Int32 × Int32) (Y := Int32 × Int32 × Int32) (fun s6 => hp) (fun s6 => [(0, .ref p0), (1, .int p1), (2, .int p2), (3, .int p3), (4, .int s6.1), (5, .int s6.2.1), (6, .int s6.2.2.1), (7, .int s6.2.2.2)]) (fun y7 => hp) (fun y7 => [(1, .int p1), (3, .int p3), (4, .int y7.1), (5, .int y7.2.1), (6, .int y7.2.2)]) 133 [] (fun y7 => ?_) (fun s6 => ?_) rfl rfl
            · refine z_iload_n hC 1 dX12_asked_133 rfl rfl ?_
              refine z_iconst hC (1 : Int32) dX12_asked_134 (by decide) ?_
              refine z_icmp_ne hC 141 dX12_asked_135 (by decide) (fun _ => ?_) (fun _ => ?_)
              · refine z_iload hC 2 dX12_asked_138 rfl ?_
                exact z_iret hC (fun h => h) dX12_asked_140
              · refine z_iload hC 2 dX12_asked_141 rfl ?_
                refine z_bipush hC (-2 : Int32) dX12_asked_143 (by decide) ?_
                refine z_icmp_ne hC 152 dX12_asked_145 (by decide) (fun _ => ?_) (fun _ => ?_)
                · refine z_iconst hC (0 : Int32) dX12_asked_148 (by decide) ?_
                  refine z_goto hC 168 dX12_asked_149 (by decide) ?_
                  exact z_iret hC (fun h => h) dX12_asked_168
                · refine z_iload_n hC 1 dX12_asked_152 rfl rfl ?_
                  refine z_iconst hC (2 : Int32) dX12_asked_153 (by decide) ?_
                  refine z_icmp_ne hC 162 dX12_asked_154 (by decide) (fun _ => ?_) (fun _ => ?_)
                  · refine z_iload hC 3 dX12_asked_157 rfl ?_
                    refine z_goto hC 164 dX12_asked_159 (by decide) ?_
                    refine z_iload_n hC 0 dX12_asked_164 rfl rfl ?_
                    refine z_iconst hC (-1 : Int32) dX12_asked_165 (by decide) ?_
                    refine z_ixor hC dX12_asked_166 ?_
                    refine z_iand hC dX12_asked_167 ?_
                    exact z_iret hC (fun h => h) dX12_asked_168
                  · refine z_iload hC 4 dX12_asked_162 rfl ?_
                    refine z_iload_n hC 0 dX12_asked_164 rfl rfl ?_
                    refine z_iconst hC (-1 : Int32) dX12_asked_165 (by decide) ?_
                    refine z_ixor hC dX12_asked_166 ?_
                    refine z_iand hC dX12_asked_167 ?_
                    exact z_iret hC (fun h => h) dX12_asked_168
            · refine z_iload hC 7 dX12_asked_73 rfl ?_
              refine z_sipush hC (1024 : Int32) dX12_asked_75 (by decide) ?_
              refine z_icmp_ge hC 133 dX12_asked_78 (by decide) (fun _ => ?_) (fun _ => ?_)
              · refine z_weak [(1, .int p1), (3, .int p3), (4, .int s6.1), (5, .int s6.2.1), (6, .int s6.2.2.1)] [1, 3, 4, 5, 6] rfl ?_
                exact z_leaf (fun h => h)
              · refine z_aload_n hC 0 dX12_asked_81 rfl rfl ?_
                refine z_iload hC 7 dX12_asked_82 rfl ?_
                refine z_iload_n hC 1 dX12_asked_84 rfl rfl ?_
                refine z_iload_n hC 2 dX12_asked_85 rfl rfl ?_
                refine z_callVi hC (ci := 12) rfl lmRX12_432 (ctX12_isLeft (vLa V) (vDa V) (vTg V) (vBs V) (vSa V) hp p0 s6.2.2.2 p1 p2) (by decide) hn0 dX12_asked_86 rfl rfl (Nat.le_of_ble_eq_true rfl) (fun v8 => ?_)
                refine z_if_ne hC 95 dX12_asked_89 (by decide) (fun _ => ?_) (fun _ => ?_)
                · refine z_goto hC 127 dX12_asked_92 (by decide) ?_
                  refine z_iincv hC (1 : Int32) 7 (fun x9 => [(0, .ref p0), (1, .int p1), (2, .int p2), (3, .int p3), (4, .int s6.1), (5, .int s6.2.1), (6, .int s6.2.2.1), (7, .int x9)]) [1, 2, 3, 4, 5, 6, 7, 0] dX12_asked_127 rfl (by decide) (by decide) (fun _ => rfl) (fun x9 => ?_)
                  refine z_goto hC 73 dX12_asked_130 (by decide) ?_
                  exact z_leaf (fun h => h)
                · refine z_iload hC 4 dX12_asked_95 rfl ?_
                  refine z_bipush hC (-2 : Int32) dX12_asked_97 (by decide) ?_
                  refine z_jn (A := Int32) (fun a10 => hp) (fun a10 => [(0, .ref p0), (1, .int p1), (2, .int p2), (3, .int p3), (5, .int s6.2.1), (6, .int s6.2.2.1), (7, .int s6.2.2.2)]) 109 (fun a10 => [.int a10]) (fun a10 => ?_) (fun J11 hJ11 => ?_)
                  · refine z_istore hC [(0, .ref p0), (1, .int p1), (2, .int p2), (3, .int p3), (4, .int a10), (5, .int s6.2.1), (6, .int s6.2.2.1), (7, .int s6.2.2.2)] [1, 2, 3, 4, 0, 5, 6, 7] dX12_asked_109 (by decide) rfl ?_
                    refine z_iload hC 5 dX12_asked_111 rfl ?_
                    refine z_iload hC 7 dX12_asked_113 rfl ?_
                    refine z_iand hC dX12_asked_115 ?_
                    refine z_vli (fun x12 => ?_)
                    refine z_istore hC [(0, .ref p0), (1, .int p1), (2, .int p2), (3, .int p3), (4, .int a10), (5, .int x12), (6, .int s6.2.2.1), (7, .int s6.2.2.2)] [1, 2, 3, 4, 5, 0, 6, 7] dX12_asked_116 (by decide) rfl ?_
                    refine z_iload hC 6 dX12_asked_118 rfl ?_
                    refine z_iload hC 7 dX12_asked_120 rfl ?_
                    refine z_iconst hC (-1 : Int32) dX12_asked_122 (by decide) ?_
                    refine z_ixor hC dX12_asked_123 ?_
                    refine z_iand hC dX12_asked_124 ?_
                    refine z_vli (fun x13 => ?_)
                    refine z_istore hC [(0, .ref p0), (1, .int p1), (2, .int p2), (3, .int p3), (4, .int a10), (5, .int x12), (6, .int x13), (7, .int s6.2.2.2)] [1, 2, 3, 4, 5, 6, 0, 7] dX12_asked_125 (by decide) rfl ?_
                    refine z_iincv hC (1 : Int32) 7 (fun x14 => [(0, .ref p0), (1, .int p1), (2, .int p2), (3, .int p3), (4, .int a10), (5, .int x12), (6, .int x13), (7, .int x14)]) [1, 2, 3, 4, 5, 6, 7, 0] dX12_asked_127 rfl (by decide) (by decide) (fun _ => rfl) (fun x14 => ?_)
                    refine z_goto hC 73 dX12_asked_130 (by decide) ?_
                    exact z_leaf (fun h => h)
                  · refine z_icmp_ne hC 107 dX12_asked_99 (by decide) (fun _ => ?_) (fun _ => ?_)
                    · refine z_iload hC 7 dX12_asked_102 rfl ?_
                      refine z_goto hC 109 dX12_asked_104 (by decide) ?_
                      refine z_weak [(0, .ref p0), (1, .int p1), (2, .int p2), (3, .int p3), (5, .int s6.2.1), (6, .int s6.2.2.1), (7, .int s6.2.2.2)] [0, 1, 2, 3, 5, 6, 7] rfl ?_
                      exact hJ11 s6.2.2.2
                    · refine z_iload hC 4 dX12_asked_107 rfl ?_
                      refine z_weak [(0, .ref p0), (1, .int p1), (2, .int p2), (3, .int p3), (5, .int s6.2.1), (6, .int s6.2.2.1), (7, .int s6.2.2.2)] [0, 1, 2, 3, 5, 6, 7] rfl ?_
                      exact hJ11 s6.1

