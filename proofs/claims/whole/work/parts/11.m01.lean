theorem dX12_sumSign_0 : decode cX12_sumSign 0 = .ok (.iload_n 0, 1) := by decide +kernel
theorem dX12_sumSign_1 : decode cX12_sumSign 1 = .ok (.bipush 43, 2) := by decide +kernel
theorem dX12_sumSign_3 : decode cX12_sumSign 3 = .ok (.if_icmp .ne 7, 3) := by decide +kernel
theorem dX12_sumSign_6 : decode cX12_sumSign 6 = .ok (.iconst 2, 1) := by decide +kernel
theorem dX12_sumSign_7 : decode cX12_sumSign 7 = .ok (.goto 45, 3) := by decide +kernel
theorem dX12_sumSign_10 : decode cX12_sumSign 10 = .ok (.iload_n 0, 1) := by decide +kernel
theorem dX12_sumSign_11 : decode cX12_sumSign 11 = .ok (.bipush 45, 2) := by decide +kernel
theorem dX12_sumSign_13 : decode cX12_sumSign 13 = .ok (.if_icmp .ne 7, 3) := by decide +kernel
theorem dX12_sumSign_16 : decode cX12_sumSign 16 = .ok (.iconst 3, 1) := by decide +kernel
theorem dX12_sumSign_17 : decode cX12_sumSign 17 = .ok (.goto 35, 3) := by decide +kernel
theorem dX12_sumSign_20 : decode cX12_sumSign 20 = .ok (.iload_n 0, 1) := by decide +kernel
theorem dX12_sumSign_21 : decode cX12_sumSign 21 = .ok (.bipush 42, 2) := by decide +kernel
theorem dX12_sumSign_23 : decode cX12_sumSign 23 = .ok (.if_icmp .ne 7, 3) := by decide +kernel
theorem dX12_sumSign_26 : decode cX12_sumSign 26 = .ok (.iconst 4, 1) := by decide +kernel
theorem dX12_sumSign_27 : decode cX12_sumSign 27 = .ok (.goto 25, 3) := by decide +kernel
theorem dX12_sumSign_30 : decode cX12_sumSign 30 = .ok (.iload_n 0, 1) := by decide +kernel
theorem dX12_sumSign_31 : decode cX12_sumSign 31 = .ok (.bipush 47, 2) := by decide +kernel
theorem dX12_sumSign_33 : decode cX12_sumSign 33 = .ok (.if_icmp .ne 7, 3) := by decide +kernel
theorem dX12_sumSign_36 : decode cX12_sumSign 36 = .ok (.iconst 5, 1) := by decide +kernel
theorem dX12_sumSign_37 : decode cX12_sumSign 37 = .ok (.goto 15, 3) := by decide +kernel
theorem dX12_sumSign_40 : decode cX12_sumSign 40 = .ok (.iload_n 0, 1) := by decide +kernel
theorem dX12_sumSign_41 : decode cX12_sumSign 41 = .ok (.bipush 37, 2) := by decide +kernel
theorem dX12_sumSign_43 : decode cX12_sumSign 43 = .ok (.if_icmp .ne 8, 3) := by decide +kernel
theorem dX12_sumSign_46 : decode cX12_sumSign 46 = .ok (.bipush 6, 2) := by decide +kernel
theorem dX12_sumSign_48 : decode cX12_sumSign 48 = .ok (.goto 4, 3) := by decide +kernel
theorem dX12_sumSign_51 : decode cX12_sumSign 51 = .ok (.iconst (-1), 1) := by decide +kernel
theorem dX12_sumSign_52 : decode cX12_sumSign 52 = .ok (.ireturn, 1) := by decide +kernel
def FX12_sumSign (p0 : Int32) : Option (Int32) := if p0 = (43 : Int32) then some (2 : Int32) else if p0 = (45 : Int32) then some (3 : Int32) else if p0 = (42 : Int32) then some (4 : Int32) else if p0 = (47 : Int32) then some (5 : Int32) else if p0 = (37 : Int32) then some (6 : Int32) else some (-1 : Int32)
set_option maxHeartbeats 4000000 in
set_option maxRecDepth 100000 in
theorem ctX12_sumSign (l : Launch) (D : va_G) (tg : Nat → ClassId) (bs : Nat) (sa : Nat → Nat) (hp : HP) (p0 : Int32) : Ct l D tg bs sa yX12_sumSign cX12_sumSign 1 (some .int) 0 [.int p0] hp (FX12_sumSign p0) (fun r => some (.int r)) (fun _ => hp) := by
  refine Ct.of (by decide) (Nat.le_of_ble_eq_true rfl) ?_
  intro V Q hVl hVd hVt hVb hVs hC
  subst hVl; subst hVd; subst hVt; subst hVb; subst hVs
  unfold FX12_sumSign
  show Zs V Q (0, 0) 1 _ _ hp [(0, .int p0)] 0 []
  refine z_iload_n hC 0 dX12_sumSign_0 rfl rfl ?_
  refine z_bipush hC (43 : Int32) dX12_sumSign_1 (by decide) ?_
  refine z_icmp_ne hC 10 dX12_sumSign_3 (by decide) (fun _ => ?_) (fun _ => ?_)
  · refine z_iconst hC (2 : Int32) dX12_sumSign_6 (by decide) ?_
    refine z_goto hC 52 dX12_sumSign_7 (by decide) ?_
    exact z_iret hC (fun h => h) dX12_sumSign_52
  · refine z_iload_n hC 0 dX12_sumSign_10 rfl rfl ?_
    refine z_bipush hC (45 : Int32) dX12_sumSign_11 (by decide) ?_
    refine z_icmp_ne hC 20 dX12_sumSign_13 (by decide) (fun _ => ?_) (fun _ => ?_)
    · refine z_iconst hC (3 : Int32) dX12_sumSign_16 (by decide) ?_
      refine z_goto hC 52 dX12_sumSign_17 (by decide) ?_
      exact z_iret hC (fun h => h) dX12_sumSign_52
    · refine z_iload_n hC 0 dX12_sumSign_20 rfl rfl ?_
      refine z_bipush hC (42 : Int32) dX12_sumSign_21 (by decide) ?_
      refine z_icmp_ne hC 30 dX12_sumSign_23 (by decide) (fun _ => ?_) (fun _ => ?_)
      · refine z_iconst hC (4 : Int32) dX12_sumSign_26 (by decide) ?_
        refine z_goto hC 52 dX12_sumSign_27 (by decide) ?_
        exact z_iret hC (fun h => h) dX12_sumSign_52
      · refine z_iload_n hC 0 dX12_sumSign_30 rfl rfl ?_
        refine z_bipush hC (47 : Int32) dX12_sumSign_31 (by decide) ?_
        refine z_icmp_ne hC 40 dX12_sumSign_33 (by decide) (fun _ => ?_) (fun _ => ?_)
        · refine z_iconst hC (5 : Int32) dX12_sumSign_36 (by decide) ?_
          refine z_goto hC 52 dX12_sumSign_37 (by decide) ?_
          exact z_iret hC (fun h => h) dX12_sumSign_52
        · refine z_iload_n hC 0 dX12_sumSign_40 rfl rfl ?_
          refine z_bipush hC (37 : Int32) dX12_sumSign_41 (by decide) ?_
          refine z_icmp_ne hC 51 dX12_sumSign_43 (by decide) (fun _ => ?_) (fun _ => ?_)
          · refine z_bipush hC (6 : Int32) dX12_sumSign_46 (by decide) ?_
            refine z_goto hC 52 dX12_sumSign_48 (by decide) ?_
            exact z_iret hC (fun h => h) dX12_sumSign_52
          · refine z_iconst hC (-1 : Int32) dX12_sumSign_51 (by decide) ?_
            exact z_iret hC (fun h => h) dX12_sumSign_52

theorem dX12_closesSums_0 : decode cX12_closesSums 0 = .ok (.aload_n 0, 1) := by decide +kernel
theorem dX12_closesSums_1 : decode cX12_closesSums 1 = .ok (.invokevirtual 164, 3) := by decide +kernel
theorem dX12_closesSums_4 : decode cX12_closesSums 4 = .ok (.iconst 4, 1) := by decide +kernel
theorem dX12_closesSums_5 : decode cX12_closesSums 5 = .ok (.if_icmp .lt 12, 3) := by decide +kernel
theorem dX12_closesSums_8 : decode cX12_closesSums 8 = .ok (.aload_n 0, 1) := by decide +kernel
theorem dX12_closesSums_9 : decode cX12_closesSums 9 = .ok (.invokevirtual 164, 3) := by decide +kernel
theorem dX12_closesSums_12 : decode cX12_closesSums 12 = .ok (.bipush 6, 2) := by decide +kernel
theorem dX12_closesSums_14 : decode cX12_closesSums 14 = .ok (.if_icmp .le 23, 3) := by decide +kernel
theorem dX12_closesSums_17 : decode cX12_closesSums 17 = .ok (.iload_n 1, 1) := by decide +kernel
theorem dX12_closesSums_18 : decode cX12_closesSums 18 = .ok (.ifCond .eq 41, 3) := by decide +kernel
theorem dX12_closesSums_21 : decode cX12_closesSums 21 = .ok (.aload_n 0, 1) := by decide +kernel
theorem dX12_closesSums_22 : decode cX12_closesSums 22 = .ok (.invokevirtual 164, 3) := by decide +kernel
theorem dX12_closesSums_25 : decode cX12_closesSums 25 = .ok (.iconst 2, 1) := by decide +kernel
theorem dX12_closesSums_26 : decode cX12_closesSums 26 = .ok (.if_icmp .eq 11, 3) := by decide +kernel
theorem dX12_closesSums_29 : decode cX12_closesSums 29 = .ok (.aload_n 0, 1) := by decide +kernel
theorem dX12_closesSums_30 : decode cX12_closesSums 30 = .ok (.invokevirtual 164, 3) := by decide +kernel
theorem dX12_closesSums_33 : decode cX12_closesSums 33 = .ok (.iconst 3, 1) := by decide +kernel
theorem dX12_closesSums_34 : decode cX12_closesSums 34 = .ok (.if_icmp .ne 25, 3) := by decide +kernel
theorem dX12_closesSums_37 : decode cX12_closesSums 37 = .ok (.aload_n 0, 1) := by decide +kernel
theorem dX12_closesSums_38 : decode cX12_closesSums 38 = .ok (.aload_n 0, 1) := by decide +kernel
theorem dX12_closesSums_39 : decode cX12_closesSums 39 = .ok (.invokevirtual 164, 3) := by decide +kernel
theorem dX12_closesSums_42 : decode cX12_closesSums 42 = .ok (.iconst 0, 1) := by decide +kernel
theorem dX12_closesSums_43 : decode cX12_closesSums 43 = .ok (.invokevirtual 167, 3) := by decide +kernel
theorem dX12_closesSums_46 : decode cX12_closesSums 46 = .ok (.aload_n 0, 1) := by decide +kernel
theorem dX12_closesSums_47 : decode cX12_closesSums 47 = .ok (.aload_n 0, 1) := by decide +kernel
theorem dX12_closesSums_48 : decode cX12_closesSums 48 = .ok (.getfield 161, 3) := by decide +kernel
theorem dX12_closesSums_51 : decode cX12_closesSums 51 = .ok (.iconst 1, 1) := by decide +kernel
theorem dX12_closesSums_52 : decode cX12_closesSums 52 = .ok (.isub, 1) := by decide +kernel
theorem dX12_closesSums_53 : decode cX12_closesSums 53 = .ok (.putfield 161, 3) := by decide +kernel
theorem dX12_closesSums_56 : decode cX12_closesSums 56 = .ok (.goto (-56), 3) := by decide +kernel
theorem dX12_closesSums_59 : decode cX12_closesSums 59 = .ok (.return_, 1) := by decide +kernel
def FX12_closesSums (hp : HP) (p0 : Nat) (p1 : Int32) : Option (HP) := (lp (fun (s1 : HP) => (rc [12] s1 p0 (FX12_waitTop s1 p0)).bind (fun v3 => jn (A := Unit) (fun a4 => (rc [12] s1 p0 (FX12_waitTop s1 p0)).bind (fun v6 => (rc [12] s1 p0 (FX12_notes s1 p0 v6 (0 : Int32))).bind (fun w7 => (gI [12] 21 w7 p0).bind (fun v8 => (sI [12] 21 w7 p0 (v8 - (1 : Int32))).bind (fun hp9 => some (Sum.inr hp9)))))) (fun J5 => jn (A := Unit) (fun a10 => if p1 = 0 then some (Sum.inl (Sum.inl s1)) else (rc [12] s1 p0 (FX12_waitTop s1 p0)).bind (fun v12 => if v12 = (2 : Int32) then J5 () else (rc [12] s1 p0 (FX12_waitTop s1 p0)).bind (fun v13 => if v13 = (3 : Int32) then J5 () else some (Sum.inl (Sum.inl s1))))) (fun J11 => if v3 < (4 : Int32) then J11 () else (rc [12] s1 p0 (FX12_waitTop s1 p0)).bind (fun v14 => if v14 ≤ (6 : Int32) then J5 () else J11 ()))))) FU hp).bind (lk (P := HP) (fun r => r) (fun (y2 : HP) => none))
set_option maxHeartbeats 4000000 in
set_option maxRecDepth 100000 in
theorem ctX12_closesSums (l : Launch) (D : va_G) (tg : Nat → ClassId) (bs : Nat) (sa : Nat → Nat) (hp : HP) (p0 : Nat) (p1 : Int32) : Ct l D tg bs sa yX12_closesSums cX12_closesSums 2 none 1 [.ref p0, .int p1] hp (FX12_closesSums hp p0 p1) (fun _ => none) (fun r => r) := by
  refine Ct.of (by decide) (Nat.le_of_ble_eq_true rfl) ?_
  intro V Q hVl hVd hVt hVb hVs hC
  subst hVl; subst hVd; subst hVt; subst hVb; subst hVs
  unfold FX12_closesSums
  show Zs V Q (0, 0) 2 _ _ hp [(0, .ref p0), (1, .int p1)] 0 []
  refine z_lpR (S := HP) (Y := HP) (fun s1 => s1) (fun s1 => [(0, .ref p0), (1, .int p1)]) (fun y2 => y2) (fun y2 => []) 0 [] (fun y2 => ?_) (fun s1 => ?_) rfl rfl
  · exact z_none
  · refine z_aload_n hC 0 dX12_closesSums_0 rfl rfl ?_
    refine z_callVi hC (ci := 12) rfl lmRX12_164 (ctX12_waitTop (vLa V) (vDa V) (vTg V) (vBs V) (vSa V) s1 p0) (by decide) hn0 dX12_closesSums_1 rfl rfl (Nat.le_of_ble_eq_true rfl) (fun v3 => ?_)
    refine z_iconst hC (4 : Int32) dX12_closesSums_4 (by decide) ?_
    refine z_jn (A := Unit) (fun a4 => s1) (fun a4 => [(0, .ref p0), (1, .int p1)]) 37 (fun a4 => []) (fun a4 => ?_) (fun J5 hJ5 => ?_)
    · refine z_aload_n hC 0 dX12_closesSums_37 rfl rfl ?_
      refine z_aload_n hC 0 dX12_closesSums_38 rfl rfl ?_
      refine z_callVi hC (ci := 12) rfl lmRX12_164 (ctX12_waitTop (vLa V) (vDa V) (vTg V) (vBs V) (vSa V) s1 p0) (by decide) hn0 dX12_closesSums_39 rfl rfl (Nat.le_of_ble_eq_true rfl) (fun v6 => ?_)
      refine z_iconst hC (0 : Int32) dX12_closesSums_42 (by decide) ?_
      refine z_callVv hC (ci := 12) rfl lmRX12_167 (ctX12_notes (vLa V) (vDa V) (vTg V) (vBs V) (vSa V) s1 p0 v6 (0 : Int32)) (by decide) hn0 dX12_closesSums_43 rfl rfl (Nat.le_of_ble_eq_true rfl) (fun w7 => ?_)
      refine z_aload_n hC 0 dX12_closesSums_46 rfl rfl ?_
      refine z_aload_n hC 0 dX12_closesSums_47 rfl rfl ?_
      refine z_getI hC lgRX12_161 dX12_closesSums_48 (fun v8 => ?_)
      refine z_iconst hC (1 : Int32) dX12_closesSums_51 (by decide) ?_
      refine z_isub hC dX12_closesSums_52 ?_
      refine z_putI hC lpRX12_161 dX12_closesSums_53 (fun hp9 => ?_)
      refine z_goto hC 0 dX12_closesSums_56 (by decide) ?_
      exact z_leaf (fun h => h)
    · refine z_jn (A := Unit) (fun a10 => s1) (fun a10 => [(0, .ref p0), (1, .int p1)]) 17 (fun a10 => []) (fun a10 => ?_) (fun J11 hJ11 => ?_)
      · refine z_iload_n hC 1 dX12_closesSums_17 rfl rfl ?_
        refine z_if_eq hC 59 dX12_closesSums_18 (by decide) (fun _ => ?_) (fun _ => ?_)
        · exact z_vret hC (fun h => h) dX12_closesSums_59
        · refine z_aload_n hC 0 dX12_closesSums_21 rfl rfl ?_
          refine z_callVi hC (ci := 12) rfl lmRX12_164 (ctX12_waitTop (vLa V) (vDa V) (vTg V) (vBs V) (vSa V) s1 p0) (by decide) hn0 dX12_closesSums_22 rfl rfl (Nat.le_of_ble_eq_true rfl) (fun v12 => ?_)
          refine z_iconst hC (2 : Int32) dX12_closesSums_25 (by decide) ?_
          refine z_icmp_eq hC 37 dX12_closesSums_26 (by decide) (fun _ => ?_) (fun _ => ?_)
          · exact hJ5 ()
          · refine z_aload_n hC 0 dX12_closesSums_29 rfl rfl ?_
            refine z_callVi hC (ci := 12) rfl lmRX12_164 (ctX12_waitTop (vLa V) (vDa V) (vTg V) (vBs V) (vSa V) s1 p0) (by decide) hn0 dX12_closesSums_30 rfl rfl (Nat.le_of_ble_eq_true rfl) (fun v13 => ?_)
            refine z_iconst hC (3 : Int32) dX12_closesSums_33 (by decide) ?_
            refine z_icmp_ne hC 59 dX12_closesSums_34 (by decide) (fun _ => ?_) (fun _ => ?_)
            · exact hJ5 ()
            · exact z_vret hC (fun h => h) dX12_closesSums_59
      · refine z_icmp_lt hC 17 dX12_closesSums_5 (by decide) (fun _ => ?_) (fun _ => ?_)
        · exact hJ11 ()
        · refine z_aload_n hC 0 dX12_closesSums_8 rfl rfl ?_
          refine z_callVi hC (ci := 12) rfl lmRX12_164 (ctX12_waitTop (vLa V) (vDa V) (vTg V) (vBs V) (vSa V) s1 p0) (by decide) hn0 dX12_closesSums_9 rfl rfl (Nat.le_of_ble_eq_true rfl) (fun v14 => ?_)
          refine z_bipush hC (6 : Int32) dX12_closesSums_12 (by decide) ?_
          refine z_icmp_le hC 37 dX12_closesSums_14 (by decide) (fun _ => ?_) (fun _ => ?_)
          · exact hJ5 ()
          · exact hJ11 ()

theorem dX12_readsFactor_0 : decode cX12_readsFactor 0 = .ok (.aload_n 0, 1) := by decide +kernel
theorem dX12_readsFactor_1 : decode cX12_readsFactor 1 = .ok (.invokevirtual 137, 3) := by decide +kernel
theorem dX12_readsFactor_4 : decode cX12_readsFactor 4 = .ok (.bipush 91, 2) := by decide +kernel
theorem dX12_readsFactor_6 : decode cX12_readsFactor 6 = .ok (.if_icmp .ne 14, 3) := by decide +kernel
theorem dX12_readsFactor_9 : decode cX12_readsFactor 9 = .ok (.aload_n 0, 1) := by decide +kernel
theorem dX12_readsFactor_10 : decode cX12_readsFactor 10 = .ok (.bipush 14, 2) := by decide +kernel
theorem dX12_readsFactor_12 : decode cX12_readsFactor 12 = .ok (.invokevirtual 171, 3) := by decide +kernel
theorem dX12_readsFactor_15 : decode cX12_readsFactor 15 = .ok (.ifCond .ne (-15), 3) := by decide +kernel
theorem dX12_readsFactor_18 : decode cX12_readsFactor 18 = .ok (.iconst 0, 1) := by decide +kernel
theorem dX12_readsFactor_19 : decode cX12_readsFactor 19 = .ok (.ireturn, 1) := by decide +kernel
theorem dX12_readsFactor_20 : decode cX12_readsFactor 20 = .ok (.aload_n 0, 1) := by decide +kernel
theorem dX12_readsFactor_21 : decode cX12_readsFactor 21 = .ok (.invokevirtual 150, 3) := by decide +kernel
theorem dX12_readsFactor_24 : decode cX12_readsFactor 24 = .ok (.ifCond .eq 23, 3) := by decide +kernel
theorem dX12_readsFactor_27 : decode cX12_readsFactor 27 = .ok (.aload_n 0, 1) := by decide +kernel
theorem dX12_readsFactor_28 : decode cX12_readsFactor 28 = .ok (.invokevirtual 175, 3) := by decide +kernel
theorem dX12_readsFactor_31 : decode cX12_readsFactor 31 = .ok (.ifCond .ne 5, 3) := by decide +kernel
theorem dX12_readsFactor_34 : decode cX12_readsFactor 34 = .ok (.iconst 0, 1) := by decide +kernel
theorem dX12_readsFactor_35 : decode cX12_readsFactor 35 = .ok (.ireturn, 1) := by decide +kernel
theorem dX12_readsFactor_36 : decode cX12_readsFactor 36 = .ok (.aload_n 0, 1) := by decide +kernel
theorem dX12_readsFactor_37 : decode cX12_readsFactor 37 = .ok (.iconst 0, 1) := by decide +kernel
theorem dX12_readsFactor_38 : decode cX12_readsFactor 38 = .ok (.aload_n 0, 1) := by decide +kernel
theorem dX12_readsFactor_39 : decode cX12_readsFactor 39 = .ok (.getfield 147, 3) := by decide +kernel
theorem dX12_readsFactor_42 : decode cX12_readsFactor 42 = .ok (.invokevirtual 167, 3) := by decide +kernel
theorem dX12_readsFactor_45 : decode cX12_readsFactor 45 = .ok (.iconst 1, 1) := by decide +kernel
theorem dX12_readsFactor_46 : decode cX12_readsFactor 46 = .ok (.ireturn, 1) := by decide +kernel
theorem dX12_readsFactor_47 : decode cX12_readsFactor 47 = .ok (.aload_n 0, 1) := by decide +kernel
theorem dX12_readsFactor_48 : decode cX12_readsFactor 48 = .ok (.invokevirtual 137, 3) := by decide +kernel
theorem dX12_readsFactor_51 : decode cX12_readsFactor 51 = .ok (.invokestatic 178, 3) := by decide +kernel
theorem dX12_readsFactor_54 : decode cX12_readsFactor 54 = .ok (.istore_n 1, 1) := by decide +kernel
theorem dX12_readsFactor_55 : decode cX12_readsFactor 55 = .ok (.iload_n 1, 1) := by decide +kernel
theorem dX12_readsFactor_56 : decode cX12_readsFactor 56 = .ok (.iconst (-1), 1) := by decide +kernel
theorem dX12_readsFactor_57 : decode cX12_readsFactor 57 = .ok (.if_icmp .ne 13, 3) := by decide +kernel
theorem dX12_readsFactor_60 : decode cX12_readsFactor 60 = .ok (.aload_n 0, 1) := by decide +kernel
theorem dX12_readsFactor_61 : decode cX12_readsFactor 61 = .ok (.iconst 1, 1) := by decide +kernel
theorem dX12_readsFactor_62 : decode cX12_readsFactor 62 = .ok (.aload_n 0, 1) := by decide +kernel
theorem dX12_readsFactor_63 : decode cX12_readsFactor 63 = .ok (.getfield 131, 3) := by decide +kernel
theorem dX12_readsFactor_66 : decode cX12_readsFactor 66 = .ok (.invokevirtual 144, 3) := by decide +kernel
theorem dX12_readsFactor_69 : decode cX12_readsFactor 69 = .ok (.ireturn, 1) := by decide +kernel
theorem dX12_readsFactor_70 : decode cX12_readsFactor 70 = .ok (.aload_n 0, 1) := by decide +kernel
theorem dX12_readsFactor_71 : decode cX12_readsFactor 71 = .ok (.iconst 1, 1) := by decide +kernel
theorem dX12_readsFactor_72 : decode cX12_readsFactor 72 = .ok (.iload_n 1, 1) := by decide +kernel
theorem dX12_readsFactor_73 : decode cX12_readsFactor 73 = .ok (.invokevirtual 167, 3) := by decide +kernel
theorem dX12_readsFactor_76 : decode cX12_readsFactor 76 = .ok (.aload_n 0, 1) := by decide +kernel
theorem dX12_readsFactor_77 : decode cX12_readsFactor 77 = .ok (.aload_n 0, 1) := by decide +kernel
theorem dX12_readsFactor_78 : decode cX12_readsFactor 78 = .ok (.getfield 131, 3) := by decide +kernel
theorem dX12_readsFactor_81 : decode cX12_readsFactor 81 = .ok (.iconst 1, 1) := by decide +kernel
theorem dX12_readsFactor_82 : decode cX12_readsFactor 82 = .ok (.iadd, 1) := by decide +kernel
theorem dX12_readsFactor_83 : decode cX12_readsFactor 83 = .ok (.putfield 131, 3) := by decide +kernel
theorem dX12_readsFactor_86 : decode cX12_readsFactor 86 = .ok (.iconst 1, 1) := by decide +kernel
theorem dX12_readsFactor_87 : decode cX12_readsFactor 87 = .ok (.ireturn, 1) := by decide +kernel
def FX12_readsFactor (hp : HP) (p0 : Nat) : Option (Int32 × HP) := (lp (fun (s1 : HP) => (rc [12] s1 p0 (FX12_here s1 p0)).bind (fun v14 => if v14 = (91 : Int32) then (rc [12] s1 p0 (FX12_opens s1 p0 (14 : Int32))).bind (fun w15 => if w15.1 = 0 then some (Sum.inl (Sum.inl ((0 : Int32), w15.2))) else some (Sum.inr w15.2)) else some (Sum.inl (Sum.inr s1)))) FU hp).bind (lk (P := Int32 × HP) (fun r => r) (fun (y2 : HP) => (rc [12] y2 p0 (FX12_isDigit y2 p0)).bind (fun v3 => if v3 = 0 then (rc [12] y2 p0 (FX12_here y2 p0)).bind (fun v4 => (FX12_factOf v4).bind (fun v5 => if v5 = (-1 : Int32) then (gI [12] 15 y2 p0).bind (fun v6 => (rc [12] y2 p0 (FX12_wrongAt y2 p0 (1 : Int32) v6)).bind (fun w7 => bz w7.1 (some (w7.1, w7.2)))) else (rc [12] y2 p0 (FX12_notes y2 p0 (1 : Int32) v5)).bind (fun w8 => (gI [12] 15 w8 p0).bind (fun v9 => (sI [12] 15 w8 p0 (v9 + (1 : Int32))).bind (fun hp10 => some ((1 : Int32), hp10)))))) else (rc [12] y2 p0 (FX12_readsNumber y2 p0)).bind (fun w11 => if w11.1 = 0 then some ((0 : Int32), w11.2) else (gI [12] 18 w11.2 p0).bind (fun v12 => (rc [12] w11.2 p0 (FX12_notes w11.2 p0 (0 : Int32) v12)).bind (fun w13 => some ((1 : Int32), w13)))))))
set_option maxHeartbeats 4000000 in
set_option maxRecDepth 100000 in
theorem ctX12_readsFactor (l : Launch) (D : va_G) (tg : Nat → ClassId) (bs : Nat) (sa : Nat → Nat) (hp : HP) (p0 : Nat) : Ct l D tg bs sa yX12_readsFactor cX12_readsFactor 2 (some .boolean) 3 [.ref p0] hp (FX12_readsFactor hp p0) (fun r => some (.int r.1)) (fun r => r.2) := by
  refine Ct.of (by decide) (Nat.le_of_ble_eq_true rfl) ?_
  intro V Q hVl hVd hVt hVb hVs hC
  subst hVl; subst hVd; subst hVt; subst hVb; subst hVs
  unfold FX12_readsFactor
  show Zs V Q (0, 0) 2 _ _ hp [(0, .ref p0)] 0 []
  refine z_lpR (S := HP) (Y := HP) (fun s1 => s1) (fun s1 => [(0, .ref p0)]) (fun y2 => y2) (fun y2 => [(0, .ref p0)]) 20 [] (fun y2 => ?_) (fun s1 => ?_) rfl rfl
  · refine z_aload_n hC 0 dX12_readsFactor_20 rfl rfl ?_
    refine z_callVi hC (ci := 12) rfl lmRX12_150 (ctX12_isDigit (vLa V) (vDa V) (vTg V) (vBs V) (vSa V) y2 p0) (by decide) hn0 dX12_readsFactor_21 rfl rfl (Nat.le_of_ble_eq_true rfl) (fun v3 => ?_)
    refine z_if_eq hC 47 dX12_readsFactor_24 (by decide) (fun _ => ?_) (fun _ => ?_)
    · refine z_aload_n hC 0 dX12_readsFactor_47 rfl rfl ?_
      refine z_callVi hC (ci := 12) rfl lmRX12_137 (ctX12_here (vLa V) (vDa V) (vTg V) (vBs V) (vSa V) y2 p0) (by decide) hn0 dX12_readsFactor_48 rfl rfl (Nat.le_of_ble_eq_true rfl) (fun v4 => ?_)
      refine z_callSi hC lmRX12_178 (ctX12_factOf (vLa V) (vDa V) (vTg V) (vBs V) (vSa V) y2 v4) (by decide) hn0 dX12_readsFactor_51 rfl rfl (Nat.le_of_ble_eq_true rfl) (fun v5 => ?_)
      refine z_istore_n hC [(0, .ref p0), (1, .int v5)] [1, 0] dX12_readsFactor_54 rfl (by decide) rfl ?_
      refine z_iload_n hC 1 dX12_readsFactor_55 rfl rfl ?_
      refine z_iconst hC (-1 : Int32) dX12_readsFactor_56 (by decide) ?_
      refine z_icmp_ne hC 70 dX12_readsFactor_57 (by decide) (fun _ => ?_) (fun _ => ?_)
      · refine z_aload_n hC 0 dX12_readsFactor_60 rfl rfl ?_
        refine z_iconst hC (1 : Int32) dX12_readsFactor_61 (by decide) ?_
        refine z_aload_n hC 0 dX12_readsFactor_62 rfl rfl ?_
        refine z_getI hC lgRX12_131 dX12_readsFactor_63 (fun v6 => ?_)
        refine z_callVi hC (ci := 12) rfl lmRX12_144 (ctX12_wrongAt (vLa V) (vDa V) (vTg V) (vBs V) (vSa V) y2 p0 (1 : Int32) v6) (by decide) hn0 dX12_readsFactor_66 rfl rfl (Nat.le_of_ble_eq_true rfl) (fun w7 => ?_)
        exact z_bz (fun hv => z_zret hC hv (fun h => h) dX12_readsFactor_69)
      · refine z_aload_n hC 0 dX12_readsFactor_70 rfl rfl ?_
        refine z_iconst hC (1 : Int32) dX12_readsFactor_71 (by decide) ?_
        refine z_iload_n hC 1 dX12_readsFactor_72 rfl rfl ?_
        refine z_callVv hC (ci := 12) rfl lmRX12_167 (ctX12_notes (vLa V) (vDa V) (vTg V) (vBs V) (vSa V) y2 p0 (1 : Int32) v5) (by decide) hn0 dX12_readsFactor_73 rfl rfl (Nat.le_of_ble_eq_true rfl) (fun w8 => ?_)
        refine z_aload_n hC 0 dX12_readsFactor_76 rfl rfl ?_
        refine z_aload_n hC 0 dX12_readsFactor_77 rfl rfl ?_
        refine z_getI hC lgRX12_131 dX12_readsFactor_78 (fun v9 => ?_)
        refine z_iconst hC (1 : Int32) dX12_readsFactor_81 (by decide) ?_
        refine z_iadd hC dX12_readsFactor_82 ?_
        refine z_putI hC lpRX12_131 dX12_readsFactor_83 (fun hp10 => ?_)
        refine z_iconst hC (1 : Int32) dX12_readsFactor_86 (by decide) ?_
        exact z_zret hC (by decide) (fun h => h) dX12_readsFactor_87
    · refine z_aload_n hC 0 dX12_readsFactor_27 rfl rfl ?_
      refine z_callVi hC (ci := 12) rfl lmRX12_175 (ctX12_readsNumber (vLa V) (vDa V) (vTg V) (vBs V) (vSa V) y2 p0) (by decide) hn0 dX12_readsFactor_28 rfl rfl (Nat.le_of_ble_eq_true rfl) (fun w11 => ?_)
      refine z_if_ne hC 36 dX12_readsFactor_31 (by decide) (fun _ => ?_) (fun _ => ?_)
      · refine z_iconst hC (0 : Int32) dX12_readsFactor_34 (by decide) ?_
        exact z_zret hC (by decide) (fun h => h) dX12_readsFactor_35
      · refine z_aload_n hC 0 dX12_readsFactor_36 rfl rfl ?_
        refine z_iconst hC (0 : Int32) dX12_readsFactor_37 (by decide) ?_
        refine z_aload_n hC 0 dX12_readsFactor_38 rfl rfl ?_
        refine z_getI hC lgRX12_147 dX12_readsFactor_39 (fun v12 => ?_)
        refine z_callVv hC (ci := 12) rfl lmRX12_167 (ctX12_notes (vLa V) (vDa V) (vTg V) (vBs V) (vSa V) w11.2 p0 (0 : Int32) v12) (by decide) hn0 dX12_readsFactor_42 rfl rfl (Nat.le_of_ble_eq_true rfl) (fun w13 => ?_)
        refine z_iconst hC (1 : Int32) dX12_readsFactor_45 (by decide) ?_
        exact z_zret hC (by decide) (fun h => h) dX12_readsFactor_46
  · refine z_aload_n hC 0 dX12_readsFactor_0 rfl rfl ?_
    refine z_callVi hC (ci := 12) rfl lmRX12_137 (ctX12_here (vLa V) (vDa V) (vTg V) (vBs V) (vSa V) s1 p0) (by decide) hn0 dX12_readsFactor_1 rfl rfl (Nat.le_of_ble_eq_true rfl) (fun v14 => ?_)
    refine z_bipush hC (91 : Int32) dX12_readsFactor_4 (by decide) ?_
    refine z_icmp_ne hC 20 dX12_readsFactor_6 (by decide) (fun _ => ?_) (fun _ => ?_)
    · refine z_aload_n hC 0 dX12_readsFactor_9 rfl rfl ?_
      refine z_bipush hC (14 : Int32) dX12_readsFactor_10 (by decide) ?_
      refine z_callVi hC (ci := 12) rfl lmRX12_171 (ctX12_opens (vLa V) (vDa V) (vTg V) (vBs V) (vSa V) s1 p0 (14 : Int32)) (by decide) hn0 dX12_readsFactor_12 rfl rfl (Nat.le_of_ble_eq_true rfl) (fun w15 => ?_)
      refine z_if_ne hC 0 dX12_readsFactor_15 (by decide) (fun _ => ?_) (fun _ => ?_)
      · refine z_iconst hC (0 : Int32) dX12_readsFactor_18 (by decide) ?_
        exact z_zret hC (by decide) (fun h => h) dX12_readsFactor_19
      · exact z_leaf (fun h => h)
    · exact z_leaf (fun h => h)

theorem dX12_hasOpenSum_0 : decode cX12_hasOpenSum 0 = .ok (.iload_n 1, 1) := by decide +kernel
theorem dX12_hasOpenSum_1 : decode cX12_hasOpenSum 1 = .ok (.istore_n 2, 1) := by decide +kernel
theorem dX12_hasOpenSum_2 : decode cX12_hasOpenSum 2 = .ok (.iload_n 2, 1) := by decide +kernel
theorem dX12_hasOpenSum_3 : decode cX12_hasOpenSum 3 = .ok (.aload_n 0, 1) := by decide +kernel
theorem dX12_hasOpenSum_4 : decode cX12_hasOpenSum 4 = .ok (.getfield 161, 3) := by decide +kernel
theorem dX12_hasOpenSum_7 : decode cX12_hasOpenSum 7 = .ok (.if_icmp .ge 25, 3) := by decide +kernel
theorem dX12_hasOpenSum_10 : decode cX12_hasOpenSum 10 = .ok (.aload_n 0, 1) := by decide +kernel
theorem dX12_hasOpenSum_11 : decode cX12_hasOpenSum 11 = .ok (.getfield 33, 3) := by decide +kernel
theorem dX12_hasOpenSum_14 : decode cX12_hasOpenSum 14 = .ok (.iload_n 2, 1) := by decide +kernel
theorem dX12_hasOpenSum_15 : decode cX12_hasOpenSum 15 = .ok (.iaload, 1) := by decide +kernel
theorem dX12_hasOpenSum_16 : decode cX12_hasOpenSum 16 = .ok (.ldc 157, 2) := by decide +kernel
theorem dX12_hasOpenSum_18 : decode cX12_hasOpenSum 18 = .ok (.idiv, 1) := by decide +kernel
theorem dX12_hasOpenSum_19 : decode cX12_hasOpenSum 19 = .ok (.bipush 14, 2) := by decide +kernel
theorem dX12_hasOpenSum_21 : decode cX12_hasOpenSum 21 = .ok (.if_icmp .ne 5, 3) := by decide +kernel
theorem dX12_hasOpenSum_24 : decode cX12_hasOpenSum 24 = .ok (.iconst 1, 1) := by decide +kernel
theorem dX12_hasOpenSum_25 : decode cX12_hasOpenSum 25 = .ok (.ireturn, 1) := by decide +kernel
theorem dX12_hasOpenSum_26 : decode cX12_hasOpenSum 26 = .ok (.iinc 2 1, 3) := by decide +kernel
theorem dX12_hasOpenSum_29 : decode cX12_hasOpenSum 29 = .ok (.goto (-27), 3) := by decide +kernel
theorem dX12_hasOpenSum_32 : decode cX12_hasOpenSum 32 = .ok (.iconst 0, 1) := by decide +kernel
theorem dX12_hasOpenSum_33 : decode cX12_hasOpenSum 33 = .ok (.ireturn, 1) := by decide +kernel
def FX12_hasOpenSum (hp : HP) (p0 : Nat) (p1 : Int32) : Option (Int32) := (lp (fun (s1 : Int32) => (gI [12] 21 hp p0).bind (fun v3 => if v3 ≤ s1 then some (Sum.inl (Sum.inr ())) else (gR [12] 25 hp p0).bind (fun v4 => (rdN 0 hp v4 s1).bind (fun v5 => (dvI v5 (1048576 : Int32)).bind (fun v6 => if v6 = (14 : Int32) then some (Sum.inl (Sum.inl (1 : Int32))) else vl (s1 + (1 : Int32)) (fun x7 => some (Sum.inr x7))))))) FU p1).bind (lk (P := Int32) (fun r => r) (fun (y2 : Unit) => some (0 : Int32)))
set_option maxHeartbeats 4000000 in
set_option maxRecDepth 100000 in
theorem ctX12_hasOpenSum (l : Launch) (D : va_G) (tg : Nat → ClassId) (bs : Nat) (sa : Nat → Nat) (hp : HP) (p0 : Nat) (p1 : Int32) : Ct l D tg bs sa yX12_hasOpenSum cX12_hasOpenSum 3 (some .boolean) 0 [.ref p0, .int p1] hp (FX12_hasOpenSum hp p0 p1) (fun r => some (.int r)) (fun _ => hp) := by
  refine Ct.of (by decide) (Nat.le_of_ble_eq_true rfl) ?_
  intro V Q hVl hVd hVt hVb hVs hC
  subst hVl; subst hVd; subst hVt; subst hVb; subst hVs
  unfold FX12_hasOpenSum
  show Zs V Q (0, 0) 3 _ _ hp [(0, .ref p0), (1, .int p1)] 0 []
  refine z_iload_n hC 1 dX12_hasOpenSum_0 rfl rfl ?_
  refine z_istore_n hC [(0, .ref p0), (1, .int p1), (2, .int p1)] [1, 2, 0] dX12_hasOpenSum_1 rfl (by decide) rfl ?_
  refine z_weak [(0, .ref p0), (2, .int p1)] [0, 2] rfl ?_
  refine z_lpR (S := Int32) (Y := Unit) (fun s1 => hp) (fun s1 => [(0, .ref p0), (2, .int s1)]) (fun y2 => hp) (fun y2 => []) 32 [] (fun y2 => ?_) (fun s1 => ?_) rfl rfl
  · refine z_iconst hC (0 : Int32) dX12_hasOpenSum_32 (by decide) ?_
    exact z_zret hC (by decide) (fun h => h) dX12_hasOpenSum_33
  · refine z_iload_n hC 1 dX12_hasOpenSum_2 rfl rfl ?_
    refine z_aload_n hC 0 dX12_hasOpenSum_3 rfl rfl ?_
    refine z_getI hC lgRX12_161 dX12_hasOpenSum_4 (fun v3 => ?_)
    refine z_icmp_ge hC 32 dX12_hasOpenSum_7 (by decide) (fun _ => ?_) (fun _ => ?_)
    · refine z_weak [] [] rfl ?_
      exact z_leaf (fun h => h)
    · refine z_aload_n hC 0 dX12_hasOpenSum_10 rfl rfl ?_
      refine z_getR hC lgRX12_33 dX12_hasOpenSum_11 (fun v4 => ?_)
      refine z_iload_n hC 1 dX12_hasOpenSum_14 rfl rfl ?_
      refine z_iald hC dX12_hasOpenSum_15 (fun v5 => ?_)
      refine z_ldc hC (1048576 : Int32) lcRX12_157 dX12_hasOpenSum_16 ?_
      refine z_idiv hC dX12_hasOpenSum_18 (fun v6 => ?_)
      refine z_bipush hC (14 : Int32) dX12_hasOpenSum_19 (by decide) ?_
      refine z_icmp_ne hC 26 dX12_hasOpenSum_21 (by decide) (fun _ => ?_) (fun _ => ?_)
      · refine z_iconst hC (1 : Int32) dX12_hasOpenSum_24 (by decide) ?_
        exact z_zret hC (by decide) (fun h => h) dX12_hasOpenSum_25
      · refine z_iincv hC (1 : Int32) 1 (fun x7 => [(0, .ref p0), (2, .int x7)]) [1, 0] dX12_hasOpenSum_26 rfl (by decide) (by decide) (fun _ => rfl) (fun x7 => ?_)
        refine z_goto hC 2 dX12_hasOpenSum_29 (by decide) ?_
        exact z_leaf (fun h => h)

theorem dX12_readsSum_0 : decode cX12_readsSum 0 = .ok (.aload_n 0, 1) := by decide +kernel
theorem dX12_readsSum_1 : decode cX12_readsSum 1 = .ok (.getfield 161, 3) := by decide +kernel
theorem dX12_readsSum_4 : decode cX12_readsSum 4 = .ok (.istore_n 1, 1) := by decide +kernel
theorem dX12_readsSum_5 : decode cX12_readsSum 5 = .ok (.aload_n 0, 1) := by decide +kernel
theorem dX12_readsSum_6 : decode cX12_readsSum 6 = .ok (.invokevirtual 181, 3) := by decide +kernel
theorem dX12_readsSum_9 : decode cX12_readsSum 9 = .ok (.ifCond .ne 5, 3) := by decide +kernel
theorem dX12_readsSum_12 : decode cX12_readsSum 12 = .ok (.iconst 0, 1) := by decide +kernel
theorem dX12_readsSum_13 : decode cX12_readsSum 13 = .ok (.ireturn, 1) := by decide +kernel
theorem dX12_readsSum_14 : decode cX12_readsSum 14 = .ok (.aload_n 0, 1) := by decide +kernel
theorem dX12_readsSum_15 : decode cX12_readsSum 15 = .ok (.invokevirtual 137, 3) := by decide +kernel
theorem dX12_readsSum_18 : decode cX12_readsSum 18 = .ok (.invokestatic 184, 3) := by decide +kernel
theorem dX12_readsSum_21 : decode cX12_readsSum 21 = .ok (.istore_n 2, 1) := by decide +kernel
theorem dX12_readsSum_22 : decode cX12_readsSum 22 = .ok (.iload_n 2, 1) := by decide +kernel
theorem dX12_readsSum_23 : decode cX12_readsSum 23 = .ok (.iconst (-1), 1) := by decide +kernel
theorem dX12_readsSum_24 : decode cX12_readsSum 24 = .ok (.if_icmp .eq 59, 3) := by decide +kernel
theorem dX12_readsSum_27 : decode cX12_readsSum 27 = .ok (.aload_n 0, 1) := by decide +kernel
theorem dX12_readsSum_28 : decode cX12_readsSum 28 = .ok (.iload_n 2, 1) := by decide +kernel
theorem dX12_readsSum_29 : decode cX12_readsSum 29 = .ok (.iconst 4, 1) := by decide +kernel
theorem dX12_readsSum_30 : decode cX12_readsSum 30 = .ok (.if_icmp .ge 7, 3) := by decide +kernel
theorem dX12_readsSum_33 : decode cX12_readsSum 33 = .ok (.iconst 1, 1) := by decide +kernel
theorem dX12_readsSum_34 : decode cX12_readsSum 34 = .ok (.goto 4, 3) := by decide +kernel
theorem dX12_readsSum_37 : decode cX12_readsSum 37 = .ok (.iconst 0, 1) := by decide +kernel
theorem dX12_readsSum_38 : decode cX12_readsSum 38 = .ok (.invokevirtual 187, 3) := by decide +kernel
theorem dX12_readsSum_41 : decode cX12_readsSum 41 = .ok (.aload_n 0, 1) := by decide +kernel
theorem dX12_readsSum_42 : decode cX12_readsSum 42 = .ok (.getfield 33, 3) := by decide +kernel
theorem dX12_readsSum_45 : decode cX12_readsSum 45 = .ok (.aload_n 0, 1) := by decide +kernel
theorem dX12_readsSum_46 : decode cX12_readsSum 46 = .ok (.getfield 161, 3) := by decide +kernel
theorem dX12_readsSum_49 : decode cX12_readsSum 49 = .ok (.ldc 157, 2) := by decide +kernel
theorem dX12_readsSum_51 : decode cX12_readsSum 51 = .ok (.iload_n 2, 1) := by decide +kernel
theorem dX12_readsSum_52 : decode cX12_readsSum 52 = .ok (.imul, 1) := by decide +kernel
theorem dX12_readsSum_53 : decode cX12_readsSum 53 = .ok (.iastore, 1) := by decide +kernel
theorem dX12_readsSum_54 : decode cX12_readsSum 54 = .ok (.aload_n 0, 1) := by decide +kernel
theorem dX12_readsSum_55 : decode cX12_readsSum 55 = .ok (.aload_n 0, 1) := by decide +kernel
theorem dX12_readsSum_56 : decode cX12_readsSum 56 = .ok (.getfield 161, 3) := by decide +kernel
theorem dX12_readsSum_59 : decode cX12_readsSum 59 = .ok (.iconst 1, 1) := by decide +kernel
theorem dX12_readsSum_60 : decode cX12_readsSum 60 = .ok (.iadd, 1) := by decide +kernel
theorem dX12_readsSum_61 : decode cX12_readsSum 61 = .ok (.putfield 161, 3) := by decide +kernel
theorem dX12_readsSum_64 : decode cX12_readsSum 64 = .ok (.aload_n 0, 1) := by decide +kernel
theorem dX12_readsSum_65 : decode cX12_readsSum 65 = .ok (.aload_n 0, 1) := by decide +kernel
theorem dX12_readsSum_66 : decode cX12_readsSum 66 = .ok (.getfield 131, 3) := by decide +kernel
theorem dX12_readsSum_69 : decode cX12_readsSum 69 = .ok (.iconst 1, 1) := by decide +kernel
theorem dX12_readsSum_70 : decode cX12_readsSum 70 = .ok (.iadd, 1) := by decide +kernel
theorem dX12_readsSum_71 : decode cX12_readsSum 71 = .ok (.putfield 131, 3) := by decide +kernel
theorem dX12_readsSum_74 : decode cX12_readsSum 74 = .ok (.aload_n 0, 1) := by decide +kernel
theorem dX12_readsSum_75 : decode cX12_readsSum 75 = .ok (.invokevirtual 181, 3) := by decide +kernel
theorem dX12_readsSum_78 : decode cX12_readsSum 78 = .ok (.ifCond .ne 85, 3) := by decide +kernel
theorem dX12_readsSum_81 : decode cX12_readsSum 81 = .ok (.iconst 0, 1) := by decide +kernel
theorem dX12_readsSum_82 : decode cX12_readsSum 82 = .ok (.ireturn, 1) := by decide +kernel
theorem dX12_readsSum_83 : decode cX12_readsSum 83 = .ok (.aload_n 0, 1) := by decide +kernel
theorem dX12_readsSum_84 : decode cX12_readsSum 84 = .ok (.invokevirtual 137, 3) := by decide +kernel
theorem dX12_readsSum_87 : decode cX12_readsSum 87 = .ok (.bipush 93, 2) := by decide +kernel
theorem dX12_readsSum_89 : decode cX12_readsSum 89 = .ok (.if_icmp .ne 49, 3) := by decide +kernel
theorem dX12_readsSum_92 : decode cX12_readsSum 92 = .ok (.aload_n 0, 1) := by decide +kernel
theorem dX12_readsSum_93 : decode cX12_readsSum 93 = .ok (.iload_n 1, 1) := by decide +kernel
theorem dX12_readsSum_94 : decode cX12_readsSum 94 = .ok (.invokevirtual 191, 3) := by decide +kernel
theorem dX12_readsSum_97 : decode cX12_readsSum 97 = .ok (.ifCond .eq 41, 3) := by decide +kernel
theorem dX12_readsSum_100 : decode cX12_readsSum 100 = .ok (.aload_n 0, 1) := by decide +kernel
theorem dX12_readsSum_101 : decode cX12_readsSum 101 = .ok (.iconst 1, 1) := by decide +kernel
theorem dX12_readsSum_102 : decode cX12_readsSum 102 = .ok (.invokevirtual 187, 3) := by decide +kernel
theorem dX12_readsSum_105 : decode cX12_readsSum 105 = .ok (.aload_n 0, 1) := by decide +kernel
theorem dX12_readsSum_106 : decode cX12_readsSum 106 = .ok (.aload_n 0, 1) := by decide +kernel
theorem dX12_readsSum_107 : decode cX12_readsSum 107 = .ok (.getfield 161, 3) := by decide +kernel
theorem dX12_readsSum_110 : decode cX12_readsSum 110 = .ok (.iconst 1, 1) := by decide +kernel
theorem dX12_readsSum_111 : decode cX12_readsSum 111 = .ok (.isub, 1) := by decide +kernel
theorem dX12_readsSum_112 : decode cX12_readsSum 112 = .ok (.putfield 161, 3) := by decide +kernel
theorem dX12_readsSum_115 : decode cX12_readsSum 115 = .ok (.aload_n 0, 1) := by decide +kernel
theorem dX12_readsSum_116 : decode cX12_readsSum 116 = .ok (.aload_n 0, 1) := by decide +kernel
theorem dX12_readsSum_117 : decode cX12_readsSum 117 = .ok (.getfield 158, 3) := by decide +kernel
theorem dX12_readsSum_120 : decode cX12_readsSum 120 = .ok (.iconst 1, 1) := by decide +kernel
theorem dX12_readsSum_121 : decode cX12_readsSum 121 = .ok (.isub, 1) := by decide +kernel
theorem dX12_readsSum_122 : decode cX12_readsSum 122 = .ok (.putfield 158, 3) := by decide +kernel
theorem dX12_readsSum_125 : decode cX12_readsSum 125 = .ok (.aload_n 0, 1) := by decide +kernel
theorem dX12_readsSum_126 : decode cX12_readsSum 126 = .ok (.aload_n 0, 1) := by decide +kernel
theorem dX12_readsSum_127 : decode cX12_readsSum 127 = .ok (.getfield 131, 3) := by decide +kernel
theorem dX12_readsSum_130 : decode cX12_readsSum 130 = .ok (.iconst 1, 1) := by decide +kernel
theorem dX12_readsSum_131 : decode cX12_readsSum 131 = .ok (.iadd, 1) := by decide +kernel
theorem dX12_readsSum_132 : decode cX12_readsSum 132 = .ok (.putfield 131, 3) := by decide +kernel
theorem dX12_readsSum_135 : decode cX12_readsSum 135 = .ok (.goto 28, 3) := by decide +kernel
theorem dX12_readsSum_138 : decode cX12_readsSum 138 = .ok (.aload_n 0, 1) := by decide +kernel
theorem dX12_readsSum_139 : decode cX12_readsSum 139 = .ok (.iload_n 1, 1) := by decide +kernel
theorem dX12_readsSum_140 : decode cX12_readsSum 140 = .ok (.invokevirtual 191, 3) := by decide +kernel
theorem dX12_readsSum_143 : decode cX12_readsSum 143 = .ok (.ifCond .eq 13, 3) := by decide +kernel
theorem dX12_readsSum_146 : decode cX12_readsSum 146 = .ok (.aload_n 0, 1) := by decide +kernel
theorem dX12_readsSum_147 : decode cX12_readsSum 147 = .ok (.iconst 1, 1) := by decide +kernel
theorem dX12_readsSum_148 : decode cX12_readsSum 148 = .ok (.aload_n 0, 1) := by decide +kernel
theorem dX12_readsSum_149 : decode cX12_readsSum 149 = .ok (.getfield 131, 3) := by decide +kernel
theorem dX12_readsSum_152 : decode cX12_readsSum 152 = .ok (.invokevirtual 144, 3) := by decide +kernel
theorem dX12_readsSum_155 : decode cX12_readsSum 155 = .ok (.ireturn, 1) := by decide +kernel
theorem dX12_readsSum_156 : decode cX12_readsSum 156 = .ok (.aload_n 0, 1) := by decide +kernel
theorem dX12_readsSum_157 : decode cX12_readsSum 157 = .ok (.iconst 1, 1) := by decide +kernel
theorem dX12_readsSum_158 : decode cX12_readsSum 158 = .ok (.invokevirtual 187, 3) := by decide +kernel
theorem dX12_readsSum_161 : decode cX12_readsSum 161 = .ok (.iconst 1, 1) := by decide +kernel
theorem dX12_readsSum_162 : decode cX12_readsSum 162 = .ok (.ireturn, 1) := by decide +kernel
theorem dX12_readsSum_163 : decode cX12_readsSum 163 = .ok (.goto (-149), 3) := by decide +kernel
def FX12_readsSum (hp : HP) (p0 : Nat) : Option (Int32 × HP) := (gI [12] 21 hp p0).bind (fun v1 => (rc [12] hp p0 (FX12_readsFactor hp p0)).bind (fun w2 => if w2.1 = 0 then some ((0 : Int32), w2.2) else (lp (fun (s3 : HP) => (rc [12] s3 p0 (FX12_here s3 p0)).bind (fun v5 => (FX12_sumSign v5).bind (fun v6 => if v6 = (-1 : Int32) then (rc [12] s3 p0 (FX12_here s3 p0)).bind (fun v7 => jn (A := Unit) (fun a8 => (rc [12] s3 p0 (FX12_hasOpenSum s3 p0 v1)).bind (fun v10 => if v10 = 0 then (rc [12] s3 p0 (FX12_closesSums s3 p0 (1 : Int32))).bind (fun w11 => some (Sum.inl (Sum.inl ((1 : Int32), w11)))) else (gI [12] 15 s3 p0).bind (fun v12 => (rc [12] s3 p0 (FX12_wrongAt s3 p0 (1 : Int32) v12)).bind (fun w13 => bz w13.1 (some (Sum.inl (Sum.inl (w13.1, w13.2)))))))) (fun J9 => if v7 = (93 : Int32) then (rc [12] s3 p0 (FX12_hasOpenSum s3 p0 v1)).bind (fun v14 => if v14 = 0 then J9 () else (rc [12] s3 p0 (FX12_closesSums s3 p0 (1 : Int32))).bind (fun w15 => (gI [12] 21 w15 p0).bind (fun v16 => (sI [12] 21 w15 p0 (v16 - (1 : Int32))).bind (fun hp17 => (gI [12] 19 hp17 p0).bind (fun v18 => (sI [12] 19 hp17 p0 (v18 - (1 : Int32))).bind (fun hp19 => (gI [12] 15 hp19 p0).bind (fun v20 => (sI [12] 15 hp19 p0 (v20 + (1 : Int32))).bind (fun hp21 => some (Sum.inr hp21))))))))) else J9 ())) else jn (A := Int32) (fun a22 => (rc [12] s3 p0 (FX12_closesSums s3 p0 a22)).bind (fun w24 => (gR [12] 25 w24 p0).bind (fun v25 => (gI [12] 21 w24 p0).bind (fun v26 => (wrI w24 v25 v26 ((1048576 : Int32) * v6)).bind (fun hp27 => (gI [12] 21 hp27 p0).bind (fun v28 => (sI [12] 21 hp27 p0 (v28 + (1 : Int32))).bind (fun hp29 => (gI [12] 15 hp29 p0).bind (fun v30 => (sI [12] 15 hp29 p0 (v30 + (1 : Int32))).bind (fun hp31 => (rc [12] hp31 p0 (FX12_readsFactor hp31 p0)).bind (fun w32 => if w32.1 = 0 then some (Sum.inl (Sum.inl ((0 : Int32), w32.2))) else some (Sum.inr w32.2))))))))))) (fun J23 => if (4 : Int32) ≤ v6 then J23 (0 : Int32) else J23 (1 : Int32))))) FU w2.2).bind (lk (P := Int32 × HP) (fun r => r) (fun (y4 : HP) => none))))
set_option maxHeartbeats 4000000 in
set_option maxRecDepth 100000 in
theorem ctX12_readsSum (l : Launch) (D : va_G) (tg : Nat → ClassId) (bs : Nat) (sa : Nat → Nat) (hp : HP) (p0 : Nat) : Ct l D tg bs sa yX12_readsSum cX12_readsSum 3 (some .boolean) 4 [.ref p0] hp (FX12_readsSum hp p0) (fun r => some (.int r.1)) (fun r => r.2) := by
  refine Ct.of (by decide) (Nat.le_of_ble_eq_true rfl) ?_
  intro V Q hVl hVd hVt hVb hVs hC
  subst hVl; subst hVd; subst hVt; subst hVb; subst hVs
  unfold FX12_readsSum
  show Zs V Q (0, 0) 3 _ _ hp [(0, .ref p0)] 0 []
  refine z_aload_n hC 0 dX12_readsSum_0 rfl rfl ?_
  refine z_getI hC lgRX12_161 dX12_readsSum_1 (fun v1 => ?_)
  refine z_istore_n hC [(0, .ref p0), (1, .int v1)] [1, 0] dX12_readsSum_4 rfl (by decide) rfl ?_
  refine z_aload_n hC 0 dX12_readsSum_5 rfl rfl ?_
  refine z_callVi hC (ci := 12) rfl lmRX12_181 (ctX12_readsFactor (vLa V) (vDa V) (vTg V) (vBs V) (vSa V) hp p0) (by decide) hn0 dX12_readsSum_6 rfl rfl (Nat.le_of_ble_eq_true rfl) (fun w2 => ?_)
  refine z_if_ne hC 14 dX12_readsSum_9 (by decide) (fun _ => ?_) (fun _ => ?_)
  · refine z_iconst hC (0 : Int32) dX12_readsSum_12 (by decide) ?_
    exact z_zret hC (by decide) (fun h => h) dX12_readsSum_13
  · refine z_lpR (S := HP) (Y := HP) (fun s3 => s3) (fun s3 => [(0, .ref p0), (1, .int v1)]) (fun y4 => y4) (fun y4 => []) 0 [] (fun y4 => ?_) (fun s3 => ?_) rfl rfl
    · exact z_none
    · refine z_aload_n hC 0 dX12_readsSum_14 rfl rfl ?_
      refine z_callVi hC (ci := 12) rfl lmRX12_137 (ctX12_here (vLa V) (vDa V) (vTg V) (vBs V) (vSa V) s3 p0) (by decide) hn0 dX12_readsSum_15 rfl rfl (Nat.le_of_ble_eq_true rfl) (fun v5 => ?_)
      refine z_callSi hC lmRX12_184 (ctX12_sumSign (vLa V) (vDa V) (vTg V) (vBs V) (vSa V) s3 v5) (by decide) hn0 dX12_readsSum_18 rfl rfl (Nat.le_of_ble_eq_true rfl) (fun v6 => ?_)
      refine z_istore_n hC [(0, .ref p0), (1, .int v1), (2, .int v6)] [1, 2, 0] dX12_readsSum_21 rfl (by decide) rfl ?_
      refine z_iload_n hC 2 dX12_readsSum_22 rfl rfl ?_
      refine z_iconst hC (-1 : Int32) dX12_readsSum_23 (by decide) ?_
      refine z_icmp_eq hC 83 dX12_readsSum_24 (by decide) (fun _ => ?_) (fun _ => ?_)
      · refine z_aload_n hC 0 dX12_readsSum_83 rfl rfl ?_
        refine z_callVi hC (ci := 12) rfl lmRX12_137 (ctX12_here (vLa V) (vDa V) (vTg V) (vBs V) (vSa V) s3 p0) (by decide) hn0 dX12_readsSum_84 rfl rfl (Nat.le_of_ble_eq_true rfl) (fun v7 => ?_)
        refine z_bipush hC (93 : Int32) dX12_readsSum_87 (by decide) ?_
        refine z_jn (A := Unit) (fun a8 => s3) (fun a8 => [(0, .ref p0), (1, .int v1)]) 138 (fun a8 => []) (fun a8 => ?_) (fun J9 hJ9 => ?_)
        · refine z_aload_n hC 0 dX12_readsSum_138 rfl rfl ?_
          refine z_iload_n hC 1 dX12_readsSum_139 rfl rfl ?_
          refine z_callVi hC (ci := 12) rfl lmRX12_191 (ctX12_hasOpenSum (vLa V) (vDa V) (vTg V) (vBs V) (vSa V) s3 p0 v1) (by decide) hn0 dX12_readsSum_140 rfl rfl (Nat.le_of_ble_eq_true rfl) (fun v10 => ?_)
          refine z_if_eq hC 156 dX12_readsSum_143 (by decide) (fun _ => ?_) (fun _ => ?_)
          · refine z_aload_n hC 0 dX12_readsSum_156 rfl rfl ?_
            refine z_iconst hC (1 : Int32) dX12_readsSum_157 (by decide) ?_
            refine z_callVv hC (ci := 12) rfl lmRX12_187 (ctX12_closesSums (vLa V) (vDa V) (vTg V) (vBs V) (vSa V) s3 p0 (1 : Int32)) (by decide) hn0 dX12_readsSum_158 rfl rfl (Nat.le_of_ble_eq_true rfl) (fun w11 => ?_)
            refine z_iconst hC (1 : Int32) dX12_readsSum_161 (by decide) ?_
            exact z_zret hC (by decide) (fun h => h) dX12_readsSum_162
          · refine z_aload_n hC 0 dX12_readsSum_146 rfl rfl ?_
            refine z_iconst hC (1 : Int32) dX12_readsSum_147 (by decide) ?_
            refine z_aload_n hC 0 dX12_readsSum_148 rfl rfl ?_
            refine z_getI hC lgRX12_131 dX12_readsSum_149 (fun v12 => ?_)
            refine z_callVi hC (ci := 12) rfl lmRX12_144 (ctX12_wrongAt (vLa V) (vDa V) (vTg V) (vBs V) (vSa V) s3 p0 (1 : Int32) v12) (by decide) hn0 dX12_readsSum_152 rfl rfl (Nat.le_of_ble_eq_true rfl) (fun w13 => ?_)
            exact z_bz (fun hv => z_zret hC hv (fun h => h) dX12_readsSum_155)
        · refine z_icmp_ne hC 138 dX12_readsSum_89 (by decide) (fun _ => ?_) (fun _ => ?_)
          · refine z_aload_n hC 0 dX12_readsSum_92 rfl rfl ?_
            refine z_iload_n hC 1 dX12_readsSum_93 rfl rfl ?_
            refine z_callVi hC (ci := 12) rfl lmRX12_191 (ctX12_hasOpenSum (vLa V) (vDa V) (vTg V) (vBs V) (vSa V) s3 p0 v1) (by decide) hn0 dX12_readsSum_94 rfl rfl (Nat.le_of_ble_eq_true rfl) (fun v14 => ?_)
            refine z_if_eq hC 138 dX12_readsSum_97 (by decide) (fun _ => ?_) (fun _ => ?_)
            · refine z_weak [(0, .ref p0), (1, .int v1)] [0, 1] rfl ?_
              exact hJ9 ()
            · refine z_aload_n hC 0 dX12_readsSum_100 rfl rfl ?_
              refine z_iconst hC (1 : Int32) dX12_readsSum_101 (by decide) ?_
              refine z_callVv hC (ci := 12) rfl lmRX12_187 (ctX12_closesSums (vLa V) (vDa V) (vTg V) (vBs V) (vSa V) s3 p0 (1 : Int32)) (by decide) hn0 dX12_readsSum_102 rfl rfl (Nat.le_of_ble_eq_true rfl) (fun w15 => ?_)
              refine z_aload_n hC 0 dX12_readsSum_105 rfl rfl ?_
              refine z_aload_n hC 0 dX12_readsSum_106 rfl rfl ?_
              refine z_getI hC lgRX12_161 dX12_readsSum_107 (fun v16 => ?_)
              refine z_iconst hC (1 : Int32) dX12_readsSum_110 (by decide) ?_
              refine z_isub hC dX12_readsSum_111 ?_
              refine z_putI hC lpRX12_161 dX12_readsSum_112 (fun hp17 => ?_)
              refine z_aload_n hC 0 dX12_readsSum_115 rfl rfl ?_
              refine z_aload_n hC 0 dX12_readsSum_116 rfl rfl ?_
              refine z_getI hC lgRX12_158 dX12_readsSum_117 (fun v18 => ?_)
              refine z_iconst hC (1 : Int32) dX12_readsSum_120 (by decide) ?_
              refine z_isub hC dX12_readsSum_121 ?_
              refine z_putI hC lpRX12_158 dX12_readsSum_122 (fun hp19 => ?_)
              refine z_aload_n hC 0 dX12_readsSum_125 rfl rfl ?_
              refine z_aload_n hC 0 dX12_readsSum_126 rfl rfl ?_
              refine z_getI hC lgRX12_131 dX12_readsSum_127 (fun v20 => ?_)
              refine z_iconst hC (1 : Int32) dX12_readsSum_130 (by decide) ?_
              refine z_iadd hC dX12_readsSum_131 ?_
              refine z_putI hC lpRX12_131 dX12_readsSum_132 (fun hp21 => ?_)
              refine z_goto hC 163 dX12_readsSum_135 (by decide) ?_
              refine z_goto hC 14 dX12_readsSum_163 (by decide) ?_
              refine z_weak [(0, .ref p0), (1, .int v1)] [0, 1] rfl ?_
              exact z_leaf (fun h => h)
          · refine z_weak [(0, .ref p0), (1, .int v1)] [0, 1] rfl ?_
            exact hJ9 ()
      · refine z_aload_n hC 0 dX12_readsSum_27 rfl rfl ?_
        refine z_iload_n hC 2 dX12_readsSum_28 rfl rfl ?_
        refine z_iconst hC (4 : Int32) dX12_readsSum_29 (by decide) ?_
        refine z_jn (A := Int32) (fun a22 => s3) (fun a22 => [(0, .ref p0), (1, .int v1), (2, .int v6)]) 38 (fun a22 => [.int a22, .ref p0]) (fun a22 => ?_) (fun J23 hJ23 => ?_)
        · refine z_callVv hC (ci := 12) rfl lmRX12_187 (ctX12_closesSums (vLa V) (vDa V) (vTg V) (vBs V) (vSa V) s3 p0 a22) (by decide) hn0 dX12_readsSum_38 rfl rfl (Nat.le_of_ble_eq_true rfl) (fun w24 => ?_)
          refine z_aload_n hC 0 dX12_readsSum_41 rfl rfl ?_
          refine z_getR hC lgRX12_33 dX12_readsSum_42 (fun v25 => ?_)
          refine z_aload_n hC 0 dX12_readsSum_45 rfl rfl ?_
          refine z_getI hC lgRX12_161 dX12_readsSum_46 (fun v26 => ?_)
          refine z_ldc hC (1048576 : Int32) lcRX12_157 dX12_readsSum_49 ?_
          refine z_iload_n hC 2 dX12_readsSum_51 rfl rfl ?_
          refine z_imul hC dX12_readsSum_52 ?_
          refine z_iast hC dX12_readsSum_53 (fun hp27 => ?_)
          refine z_aload_n hC 0 dX12_readsSum_54 rfl rfl ?_
          refine z_aload_n hC 0 dX12_readsSum_55 rfl rfl ?_
          refine z_getI hC lgRX12_161 dX12_readsSum_56 (fun v28 => ?_)
          refine z_iconst hC (1 : Int32) dX12_readsSum_59 (by decide) ?_
          refine z_iadd hC dX12_readsSum_60 ?_
          refine z_putI hC lpRX12_161 dX12_readsSum_61 (fun hp29 => ?_)
          refine z_aload_n hC 0 dX12_readsSum_64 rfl rfl ?_
          refine z_aload_n hC 0 dX12_readsSum_65 rfl rfl ?_
          refine z_getI hC lgRX12_131 dX12_readsSum_66 (fun v30 => ?_)
          refine z_iconst hC (1 : Int32) dX12_readsSum_69 (by decide) ?_
          refine z_iadd hC dX12_readsSum_70 ?_
          refine z_putI hC lpRX12_131 dX12_readsSum_71 (fun hp31 => ?_)
          refine z_aload_n hC 0 dX12_readsSum_74 rfl rfl ?_
          refine z_callVi hC (ci := 12) rfl lmRX12_181 (ctX12_readsFactor (vLa V) (vDa V) (vTg V) (vBs V) (vSa V) hp31 p0) (by decide) hn0 dX12_readsSum_75 rfl rfl (Nat.le_of_ble_eq_true rfl) (fun w32 => ?_)
          refine z_if_ne hC 163 dX12_readsSum_78 (by decide) (fun _ => ?_) (fun _ => ?_)
          · refine z_iconst hC (0 : Int32) dX12_readsSum_81 (by decide) ?_
            exact z_zret hC (by decide) (fun h => h) dX12_readsSum_82
          · refine z_goto hC 14 dX12_readsSum_163 (by decide) ?_
            refine z_weak [(0, .ref p0), (1, .int v1)] [0, 1] rfl ?_
            exact z_leaf (fun h => h)
        · refine z_icmp_ge hC 37 dX12_readsSum_30 (by decide) (fun _ => ?_) (fun _ => ?_)
          · refine z_iconst hC (0 : Int32) dX12_readsSum_37 (by decide) ?_
            exact hJ23 (0 : Int32)
          · refine z_iconst hC (1 : Int32) dX12_readsSum_33 (by decide) ?_
            refine z_goto hC 38 dX12_readsSum_34 (by decide) ?_
            exact hJ23 (1 : Int32)

theorem dX12_endsPiece_0 : decode cX12_endsPiece 0 = .ok (.aload_n 0, 1) := by decide +kernel
theorem dX12_endsPiece_1 : decode cX12_endsPiece 1 = .ok (.invokevirtual 164, 3) := by decide +kernel
theorem dX12_endsPiece_4 : decode cX12_endsPiece 4 = .ok (.bipush 10, 2) := by decide +kernel
theorem dX12_endsPiece_6 : decode cX12_endsPiece 6 = .ok (.if_icmp .ne 33, 3) := by decide +kernel
theorem dX12_endsPiece_9 : decode cX12_endsPiece 9 = .ok (.aload_n 0, 1) := by decide +kernel
theorem dX12_endsPiece_10 : decode cX12_endsPiece 10 = .ok (.bipush 10, 2) := by decide +kernel
theorem dX12_endsPiece_12 : decode cX12_endsPiece 12 = .ok (.iconst 0, 1) := by decide +kernel
theorem dX12_endsPiece_13 : decode cX12_endsPiece 13 = .ok (.invokevirtual 167, 3) := by decide +kernel
theorem dX12_endsPiece_16 : decode cX12_endsPiece 16 = .ok (.aload_n 0, 1) := by decide +kernel
theorem dX12_endsPiece_17 : decode cX12_endsPiece 17 = .ok (.aload_n 0, 1) := by decide +kernel
theorem dX12_endsPiece_18 : decode cX12_endsPiece 18 = .ok (.getfield 161, 3) := by decide +kernel
theorem dX12_endsPiece_21 : decode cX12_endsPiece 21 = .ok (.iconst 1, 1) := by decide +kernel
theorem dX12_endsPiece_22 : decode cX12_endsPiece 22 = .ok (.isub, 1) := by decide +kernel
theorem dX12_endsPiece_23 : decode cX12_endsPiece 23 = .ok (.putfield 161, 3) := by decide +kernel
theorem dX12_endsPiece_26 : decode cX12_endsPiece 26 = .ok (.aload_n 0, 1) := by decide +kernel
theorem dX12_endsPiece_27 : decode cX12_endsPiece 27 = .ok (.aload_n 0, 1) := by decide +kernel
theorem dX12_endsPiece_28 : decode cX12_endsPiece 28 = .ok (.getfield 158, 3) := by decide +kernel
theorem dX12_endsPiece_31 : decode cX12_endsPiece 31 = .ok (.iconst 1, 1) := by decide +kernel
theorem dX12_endsPiece_32 : decode cX12_endsPiece 32 = .ok (.isub, 1) := by decide +kernel
theorem dX12_endsPiece_33 : decode cX12_endsPiece 33 = .ok (.putfield 158, 3) := by decide +kernel
theorem dX12_endsPiece_36 : decode cX12_endsPiece 36 = .ok (.goto (-36), 3) := by decide +kernel
theorem dX12_endsPiece_39 : decode cX12_endsPiece 39 = .ok (.return_, 1) := by decide +kernel
def FX12_endsPiece (hp : HP) (p0 : Nat) : Option (HP) := (lp (fun (s1 : HP) => (rc [12] s1 p0 (FX12_waitTop s1 p0)).bind (fun v3 => if v3 = (10 : Int32) then (rc [12] s1 p0 (FX12_notes s1 p0 (10 : Int32) (0 : Int32))).bind (fun w4 => (gI [12] 21 w4 p0).bind (fun v5 => (sI [12] 21 w4 p0 (v5 - (1 : Int32))).bind (fun hp6 => (gI [12] 19 hp6 p0).bind (fun v7 => (sI [12] 19 hp6 p0 (v7 - (1 : Int32))).bind (fun hp8 => some (Sum.inr hp8)))))) else some (Sum.inl s1))) FU hp).bind (fun (y2 : HP) => some y2)
set_option maxHeartbeats 4000000 in
set_option maxRecDepth 100000 in
theorem ctX12_endsPiece (l : Launch) (D : va_G) (tg : Nat → ClassId) (bs : Nat) (sa : Nat → Nat) (hp : HP) (p0 : Nat) : Ct l D tg bs sa yX12_endsPiece cX12_endsPiece 1 none 1 [.ref p0] hp (FX12_endsPiece hp p0) (fun _ => none) (fun r => r) := by
  refine Ct.of (by decide) (Nat.le_of_ble_eq_true rfl) ?_
  intro V Q hVl hVd hVt hVb hVs hC
  subst hVl; subst hVd; subst hVt; subst hVb; subst hVs
  unfold FX12_endsPiece
  show Zs V Q (0, 0) 1 _ _ hp [(0, .ref p0)] 0 []
  refine z_lp (S := HP) (Y := HP) (fun s1 => s1) (fun s1 => [(0, .ref p0)]) (fun y2 => y2) (fun y2 => []) 39 [] (fun y2 => ?_) (fun s1 => ?_) rfl rfl
  · exact z_vret hC (fun h => h) dX12_endsPiece_39
  · refine z_aload_n hC 0 dX12_endsPiece_0 rfl rfl ?_
    refine z_callVi hC (ci := 12) rfl lmRX12_164 (ctX12_waitTop (vLa V) (vDa V) (vTg V) (vBs V) (vSa V) s1 p0) (by decide) hn0 dX12_endsPiece_1 rfl rfl (Nat.le_of_ble_eq_true rfl) (fun v3 => ?_)
    refine z_bipush hC (10 : Int32) dX12_endsPiece_4 (by decide) ?_
    refine z_icmp_ne hC 39 dX12_endsPiece_6 (by decide) (fun _ => ?_) (fun _ => ?_)
    · refine z_aload_n hC 0 dX12_endsPiece_9 rfl rfl ?_
      refine z_bipush hC (10 : Int32) dX12_endsPiece_10 (by decide) ?_
      refine z_iconst hC (0 : Int32) dX12_endsPiece_12 (by decide) ?_
      refine z_callVv hC (ci := 12) rfl lmRX12_167 (ctX12_notes (vLa V) (vDa V) (vTg V) (vBs V) (vSa V) s1 p0 (10 : Int32) (0 : Int32)) (by decide) hn0 dX12_endsPiece_13 rfl rfl (Nat.le_of_ble_eq_true rfl) (fun w4 => ?_)
      refine z_aload_n hC 0 dX12_endsPiece_16 rfl rfl ?_
      refine z_aload_n hC 0 dX12_endsPiece_17 rfl rfl ?_
      refine z_getI hC lgRX12_161 dX12_endsPiece_18 (fun v5 => ?_)
      refine z_iconst hC (1 : Int32) dX12_endsPiece_21 (by decide) ?_
      refine z_isub hC dX12_endsPiece_22 ?_
      refine z_putI hC lpRX12_161 dX12_endsPiece_23 (fun hp6 => ?_)
      refine z_aload_n hC 0 dX12_endsPiece_26 rfl rfl ?_
      refine z_aload_n hC 0 dX12_endsPiece_27 rfl rfl ?_
      refine z_getI hC lgRX12_158 dX12_endsPiece_28 (fun v7 => ?_)
      refine z_iconst hC (1 : Int32) dX12_endsPiece_31 (by decide) ?_
      refine z_isub hC dX12_endsPiece_32 ?_
      refine z_putI hC lpRX12_158 dX12_endsPiece_33 (fun hp8 => ?_)
      refine z_goto hC 0 dX12_endsPiece_36 (by decide) ?_
      exact z_leaf (fun h => h)
    · refine z_weak [] [] rfl ?_
      exact z_leaf (fun h => h)

theorem dX12_lands_0 : decode cX12_lands 0 = .ok (.aload_n 0, 1) := by decide +kernel
theorem dX12_lands_1 : decode cX12_lands 1 = .ok (.invokevirtual 164, 3) := by decide +kernel
theorem dX12_lands_4 : decode cX12_lands 4 = .ok (.bipush 11, 2) := by decide +kernel
theorem dX12_lands_6 : decode cX12_lands 6 = .ok (.if_icmp .eq 16, 3) := by decide +kernel
theorem dX12_lands_9 : decode cX12_lands 9 = .ok (.iload_n 1, 1) := by decide +kernel
theorem dX12_lands_10 : decode cX12_lands 10 = .ok (.ifCond .eq 63, 3) := by decide +kernel
theorem dX12_lands_13 : decode cX12_lands 13 = .ok (.aload_n 0, 1) := by decide +kernel
theorem dX12_lands_14 : decode cX12_lands 14 = .ok (.invokevirtual 164, 3) := by decide +kernel
theorem dX12_lands_17 : decode cX12_lands 17 = .ok (.bipush 12, 2) := by decide +kernel
theorem dX12_lands_19 : decode cX12_lands 19 = .ok (.if_icmp .ne 54, 3) := by decide +kernel
theorem dX12_lands_22 : decode cX12_lands 22 = .ok (.aload_n 0, 1) := by decide +kernel
theorem dX12_lands_23 : decode cX12_lands 23 = .ok (.getfield 33, 3) := by decide +kernel
theorem dX12_lands_26 : decode cX12_lands 26 = .ok (.aload_n 0, 1) := by decide +kernel
theorem dX12_lands_27 : decode cX12_lands 27 = .ok (.getfield 161, 3) := by decide +kernel
theorem dX12_lands_30 : decode cX12_lands 30 = .ok (.iconst 1, 1) := by decide +kernel
theorem dX12_lands_31 : decode cX12_lands 31 = .ok (.isub, 1) := by decide +kernel
theorem dX12_lands_32 : decode cX12_lands 32 = .ok (.iaload, 1) := by decide +kernel
theorem dX12_lands_33 : decode cX12_lands 33 = .ok (.ldc 157, 2) := by decide +kernel
theorem dX12_lands_35 : decode cX12_lands 35 = .ok (.irem, 1) := by decide +kernel
theorem dX12_lands_36 : decode cX12_lands 36 = .ok (.istore_n 2, 1) := by decide +kernel
theorem dX12_lands_37 : decode cX12_lands 37 = .ok (.aload_n 0, 1) := by decide +kernel
theorem dX12_lands_38 : decode cX12_lands 38 = .ok (.getfield 30, 3) := by decide +kernel
theorem dX12_lands_41 : decode cX12_lands 41 = .ok (.iload_n 2, 1) := by decide +kernel
theorem dX12_lands_42 : decode cX12_lands 42 = .ok (.ldc 157, 2) := by decide +kernel
theorem dX12_lands_44 : decode cX12_lands 44 = .ok (.aload_n 0, 1) := by decide +kernel
theorem dX12_lands_45 : decode cX12_lands 45 = .ok (.getfield 30, 3) := by decide +kernel
theorem dX12_lands_48 : decode cX12_lands 48 = .ok (.iload_n 2, 1) := by decide +kernel
theorem dX12_lands_49 : decode cX12_lands 49 = .ok (.iaload, 1) := by decide +kernel
theorem dX12_lands_50 : decode cX12_lands 50 = .ok (.ldc 157, 2) := by decide +kernel
theorem dX12_lands_52 : decode cX12_lands 52 = .ok (.idiv, 1) := by decide +kernel
theorem dX12_lands_53 : decode cX12_lands 53 = .ok (.imul, 1) := by decide +kernel
theorem dX12_lands_54 : decode cX12_lands 54 = .ok (.aload_n 0, 1) := by decide +kernel
theorem dX12_lands_55 : decode cX12_lands 55 = .ok (.getfield 154, 3) := by decide +kernel
theorem dX12_lands_58 : decode cX12_lands 58 = .ok (.iadd, 1) := by decide +kernel
theorem dX12_lands_59 : decode cX12_lands 59 = .ok (.iastore, 1) := by decide +kernel
theorem dX12_lands_60 : decode cX12_lands 60 = .ok (.aload_n 0, 1) := by decide +kernel
theorem dX12_lands_61 : decode cX12_lands 61 = .ok (.aload_n 0, 1) := by decide +kernel
theorem dX12_lands_62 : decode cX12_lands 62 = .ok (.getfield 161, 3) := by decide +kernel
theorem dX12_lands_65 : decode cX12_lands 65 = .ok (.iconst 1, 1) := by decide +kernel
theorem dX12_lands_66 : decode cX12_lands 66 = .ok (.isub, 1) := by decide +kernel
theorem dX12_lands_67 : decode cX12_lands 67 = .ok (.putfield 161, 3) := by decide +kernel
theorem dX12_lands_70 : decode cX12_lands 70 = .ok (.goto (-70), 3) := by decide +kernel
theorem dX12_lands_73 : decode cX12_lands 73 = .ok (.return_, 1) := by decide +kernel
def FX12_lands (hp : HP) (p0 : Nat) (p1 : Int32) : Option (HP) := (lp (fun (s1 : HP) => (rc [12] s1 p0 (FX12_waitTop s1 p0)).bind (fun v3 => jn (A := Unit) (fun a4 => (gR [12] 25 s1 p0).bind (fun v6 => (gI [12] 21 s1 p0).bind (fun v7 => (rdN 0 s1 v6 (v7 - (1 : Int32))).bind (fun v8 => (rmI v8 (1048576 : Int32)).bind (fun v9 => (gR [12] 24 s1 p0).bind (fun v10 => (gR [12] 24 s1 p0).bind (fun v11 => (rdN 0 s1 v11 v9).bind (fun v12 => (dvI v12 (1048576 : Int32)).bind (fun v13 => (gI [12] 20 s1 p0).bind (fun v14 => (wrI s1 v10 v9 (((1048576 : Int32) * v13) + v14)).bind (fun hp15 => (gI [12] 21 hp15 p0).bind (fun v16 => (sI [12] 21 hp15 p0 (v16 - (1 : Int32))).bind (fun hp17 => some (Sum.inr hp17)))))))))))))) (fun J5 => if v3 = (11 : Int32) then J5 () else if p1 = 0 then some (Sum.inl (Sum.inl s1)) else (rc [12] s1 p0 (FX12_waitTop s1 p0)).bind (fun v18 => if v18 = (12 : Int32) then J5 () else some (Sum.inl (Sum.inl s1)))))) FU hp).bind (lk (P := HP) (fun r => r) (fun (y2 : HP) => none))
set_option maxHeartbeats 4000000 in
set_option maxRecDepth 100000 in
theorem ctX12_lands (l : Launch) (D : va_G) (tg : Nat → ClassId) (bs : Nat) (sa : Nat → Nat) (hp : HP) (p0 : Nat) (p1 : Int32) : Ct l D tg bs sa yX12_lands cX12_lands 3 none 1 [.ref p0, .int p1] hp (FX12_lands hp p0 p1) (fun _ => none) (fun r => r) := by
  refine Ct.of (by decide) (Nat.le_of_ble_eq_true rfl) ?_
  intro V Q hVl hVd hVt hVb hVs hC
  subst hVl; subst hVd; subst hVt; subst hVb; subst hVs
  unfold FX12_lands
  show Zs V Q (0, 0) 3 _ _ hp [(0, .ref p0), (1, .int p1)] 0 []
  refine z_lpR (S := HP) (Y := HP) (fun s1 => s1) (fun s1 => [(0, .ref p0), (1, .int p1)]) (fun y2 => y2) (fun y2 => []) 0 [] (fun y2 => ?_) (fun s1 => ?_) rfl rfl
  · exact z_none
  · refine z_aload_n hC 0 dX12_lands_0 rfl rfl ?_
    refine z_callVi hC (ci := 12) rfl lmRX12_164 (ctX12_waitTop (vLa V) (vDa V) (vTg V) (vBs V) (vSa V) s1 p0) (by decide) hn0 dX12_lands_1 rfl rfl (Nat.le_of_ble_eq_true rfl) (fun v3 => ?_)
    refine z_bipush hC (11 : Int32) dX12_lands_4 (by decide) ?_
    refine z_jn (A := Unit) (fun a4 => s1) (fun a4 => [(0, .ref p0), (1, .int p1)]) 22 (fun a4 => []) (fun a4 => ?_) (fun J5 hJ5 => ?_)
    · refine z_aload_n hC 0 dX12_lands_22 rfl rfl ?_
      refine z_getR hC lgRX12_33 dX12_lands_23 (fun v6 => ?_)
      refine z_aload_n hC 0 dX12_lands_26 rfl rfl ?_
      refine z_getI hC lgRX12_161 dX12_lands_27 (fun v7 => ?_)
      refine z_iconst hC (1 : Int32) dX12_lands_30 (by decide) ?_
      refine z_isub hC dX12_lands_31 ?_
      refine z_iald hC dX12_lands_32 (fun v8 => ?_)
      refine z_ldc hC (1048576 : Int32) lcRX12_157 dX12_lands_33 ?_
      refine z_irem hC dX12_lands_35 (fun v9 => ?_)
      refine z_istore_n hC [(0, .ref p0), (1, .int p1), (2, .int v9)] [1, 2, 0] dX12_lands_36 rfl (by decide) rfl ?_
      refine z_aload_n hC 0 dX12_lands_37 rfl rfl ?_
      refine z_getR hC lgRX12_30 dX12_lands_38 (fun v10 => ?_)
      refine z_iload_n hC 2 dX12_lands_41 rfl rfl ?_
      refine z_ldc hC (1048576 : Int32) lcRX12_157 dX12_lands_42 ?_
      refine z_aload_n hC 0 dX12_lands_44 rfl rfl ?_
      refine z_getR hC lgRX12_30 dX12_lands_45 (fun v11 => ?_)
      refine z_iload_n hC 2 dX12_lands_48 rfl rfl ?_
      refine z_iald hC dX12_lands_49 (fun v12 => ?_)
      refine z_ldc hC (1048576 : Int32) lcRX12_157 dX12_lands_50 ?_
      refine z_idiv hC dX12_lands_52 (fun v13 => ?_)
      refine z_imul hC dX12_lands_53 ?_
      refine z_aload_n hC 0 dX12_lands_54 rfl rfl ?_
      refine z_getI hC lgRX12_154 dX12_lands_55 (fun v14 => ?_)
      refine z_iadd hC dX12_lands_58 ?_
      refine z_iast hC dX12_lands_59 (fun hp15 => ?_)
      refine z_aload_n hC 0 dX12_lands_60 rfl rfl ?_
      refine z_aload_n hC 0 dX12_lands_61 rfl rfl ?_
      refine z_getI hC lgRX12_161 dX12_lands_62 (fun v16 => ?_)
      refine z_iconst hC (1 : Int32) dX12_lands_65 (by decide) ?_
      refine z_isub hC dX12_lands_66 ?_
      refine z_putI hC lpRX12_161 dX12_lands_67 (fun hp17 => ?_)
      refine z_goto hC 0 dX12_lands_70 (by decide) ?_
      refine z_weak [(0, .ref p0), (1, .int p1)] [0, 1] rfl ?_
      exact z_leaf (fun h => h)
    · refine z_icmp_eq hC 22 dX12_lands_6 (by decide) (fun _ => ?_) (fun _ => ?_)
      · exact hJ5 ()
      · refine z_iload_n hC 1 dX12_lands_9 rfl rfl ?_
        refine z_if_eq hC 73 dX12_lands_10 (by decide) (fun _ => ?_) (fun _ => ?_)
        · exact z_vret hC (fun h => h) dX12_lands_73
        · refine z_aload_n hC 0 dX12_lands_13 rfl rfl ?_
          refine z_callVi hC (ci := 12) rfl lmRX12_164 (ctX12_waitTop (vLa V) (vDa V) (vTg V) (vBs V) (vSa V) s1 p0) (by decide) hn0 dX12_lands_14 rfl rfl (Nat.le_of_ble_eq_true rfl) (fun v18 => ?_)
          refine z_bipush hC (12 : Int32) dX12_lands_17 (by decide) ?_
          refine z_icmp_ne hC 73 dX12_lands_19 (by decide) (fun _ => ?_) (fun _ => ?_)
          · exact hJ5 ()
          · exact z_vret hC (fun h => h) dX12_lands_73

theorem dX12_jumps_0 : decode cX12_jumps 0 = .ok (.aload_n 0, 1) := by decide +kernel
theorem dX12_jumps_1 : decode cX12_jumps 1 = .ok (.getfield 33, 3) := by decide +kernel
theorem dX12_jumps_4 : decode cX12_jumps 4 = .ok (.aload_n 0, 1) := by decide +kernel
theorem dX12_jumps_5 : decode cX12_jumps 5 = .ok (.getfield 161, 3) := by decide +kernel
theorem dX12_jumps_8 : decode cX12_jumps 8 = .ok (.ldc 157, 2) := by decide +kernel
theorem dX12_jumps_10 : decode cX12_jumps 10 = .ok (.iload_n 1, 1) := by decide +kernel
theorem dX12_jumps_11 : decode cX12_jumps 11 = .ok (.imul, 1) := by decide +kernel
theorem dX12_jumps_12 : decode cX12_jumps 12 = .ok (.aload_n 0, 1) := by decide +kernel
theorem dX12_jumps_13 : decode cX12_jumps 13 = .ok (.getfield 154, 3) := by decide +kernel
theorem dX12_jumps_16 : decode cX12_jumps 16 = .ok (.iadd, 1) := by decide +kernel
theorem dX12_jumps_17 : decode cX12_jumps 17 = .ok (.iastore, 1) := by decide +kernel
theorem dX12_jumps_18 : decode cX12_jumps 18 = .ok (.aload_n 0, 1) := by decide +kernel
theorem dX12_jumps_19 : decode cX12_jumps 19 = .ok (.aload_n 0, 1) := by decide +kernel
theorem dX12_jumps_20 : decode cX12_jumps 20 = .ok (.getfield 161, 3) := by decide +kernel
theorem dX12_jumps_23 : decode cX12_jumps 23 = .ok (.iconst 1, 1) := by decide +kernel
theorem dX12_jumps_24 : decode cX12_jumps 24 = .ok (.iadd, 1) := by decide +kernel
theorem dX12_jumps_25 : decode cX12_jumps 25 = .ok (.putfield 161, 3) := by decide +kernel
theorem dX12_jumps_28 : decode cX12_jumps 28 = .ok (.aload_n 0, 1) := by decide +kernel
theorem dX12_jumps_29 : decode cX12_jumps 29 = .ok (.iload_n 1, 1) := by decide +kernel
theorem dX12_jumps_30 : decode cX12_jumps 30 = .ok (.iconst 0, 1) := by decide +kernel
theorem dX12_jumps_31 : decode cX12_jumps 31 = .ok (.invokevirtual 167, 3) := by decide +kernel
theorem dX12_jumps_34 : decode cX12_jumps 34 = .ok (.aload_n 0, 1) := by decide +kernel
theorem dX12_jumps_35 : decode cX12_jumps 35 = .ok (.aload_n 0, 1) := by decide +kernel
theorem dX12_jumps_36 : decode cX12_jumps 36 = .ok (.getfield 131, 3) := by decide +kernel
theorem dX12_jumps_39 : decode cX12_jumps 39 = .ok (.iconst 1, 1) := by decide +kernel
theorem dX12_jumps_40 : decode cX12_jumps 40 = .ok (.iadd, 1) := by decide +kernel
theorem dX12_jumps_41 : decode cX12_jumps 41 = .ok (.putfield 131, 3) := by decide +kernel
theorem dX12_jumps_44 : decode cX12_jumps 44 = .ok (.return_, 1) := by decide +kernel
def FX12_jumps (hp : HP) (p0 : Nat) (p1 : Int32) : Option (HP) := (gR [12] 25 hp p0).bind (fun v1 => (gI [12] 21 hp p0).bind (fun v2 => (gI [12] 20 hp p0).bind (fun v3 => (wrI hp v1 v2 (((1048576 : Int32) * p1) + v3)).bind (fun hp4 => (gI [12] 21 hp4 p0).bind (fun v5 => (sI [12] 21 hp4 p0 (v5 + (1 : Int32))).bind (fun hp6 => (rc [12] hp6 p0 (FX12_notes hp6 p0 p1 (0 : Int32))).bind (fun w7 => (gI [12] 15 w7 p0).bind (fun v8 => (sI [12] 15 w7 p0 (v8 + (1 : Int32))).bind (fun hp9 => some hp9)))))))))
set_option maxHeartbeats 4000000 in
set_option maxRecDepth 100000 in
theorem ctX12_jumps (l : Launch) (D : va_G) (tg : Nat → ClassId) (bs : Nat) (sa : Nat → Nat) (hp : HP) (p0 : Nat) (p1 : Int32) : Ct l D tg bs sa yX12_jumps cX12_jumps 2 none 1 [.ref p0, .int p1] hp (FX12_jumps hp p0 p1) (fun _ => none) (fun r => r) := by
  refine Ct.of (by decide) (Nat.le_of_ble_eq_true rfl) ?_
  intro V Q hVl hVd hVt hVb hVs hC
  subst hVl; subst hVd; subst hVt; subst hVb; subst hVs
  unfold FX12_jumps
  show Zs V Q (0, 0) 2 _ _ hp [(0, .ref p0), (1, .int p1)] 0 []
  refine z_aload_n hC 0 dX12_jumps_0 rfl rfl ?_
  refine z_getR hC lgRX12_33 dX12_jumps_1 (fun v1 => ?_)
  refine z_aload_n hC 0 dX12_jumps_4 rfl rfl ?_
  refine z_getI hC lgRX12_161 dX12_jumps_5 (fun v2 => ?_)
  refine z_ldc hC (1048576 : Int32) lcRX12_157 dX12_jumps_8 ?_
  refine z_iload_n hC 1 dX12_jumps_10 rfl rfl ?_
  refine z_imul hC dX12_jumps_11 ?_
  refine z_aload_n hC 0 dX12_jumps_12 rfl rfl ?_
  refine z_getI hC lgRX12_154 dX12_jumps_13 (fun v3 => ?_)
  refine z_iadd hC dX12_jumps_16 ?_
  refine z_iast hC dX12_jumps_17 (fun hp4 => ?_)
  refine z_aload_n hC 0 dX12_jumps_18 rfl rfl ?_
  refine z_aload_n hC 0 dX12_jumps_19 rfl rfl ?_
  refine z_getI hC lgRX12_161 dX12_jumps_20 (fun v5 => ?_)
  refine z_iconst hC (1 : Int32) dX12_jumps_23 (by decide) ?_
  refine z_iadd hC dX12_jumps_24 ?_
  refine z_putI hC lpRX12_161 dX12_jumps_25 (fun hp6 => ?_)
  refine z_aload_n hC 0 dX12_jumps_28 rfl rfl ?_
  refine z_iload_n hC 1 dX12_jumps_29 rfl rfl ?_
  refine z_iconst hC (0 : Int32) dX12_jumps_30 (by decide) ?_
  refine z_callVv hC (ci := 12) rfl lmRX12_167 (ctX12_notes (vLa V) (vDa V) (vTg V) (vBs V) (vSa V) hp6 p0 p1 (0 : Int32)) (by decide) hn0 dX12_jumps_31 rfl rfl (Nat.le_of_ble_eq_true rfl) (fun w7 => ?_)
  refine z_aload_n hC 0 dX12_jumps_34 rfl rfl ?_
  refine z_aload_n hC 0 dX12_jumps_35 rfl rfl ?_
  refine z_getI hC lgRX12_131 dX12_jumps_36 (fun v8 => ?_)
  refine z_iconst hC (1 : Int32) dX12_jumps_39 (by decide) ?_
  refine z_iadd hC dX12_jumps_40 ?_
  refine z_putI hC lpRX12_131 dX12_jumps_41 (fun hp9 => ?_)
  exact z_vret hC (fun h => h) dX12_jumps_44

theorem dX12_readsCompared_0 : decode cX12_readsCompared 0 = .ok (.aload_n 0, 1) := by decide +kernel
theorem dX12_readsCompared_1 : decode cX12_readsCompared 1 = .ok (.invokevirtual 194, 3) := by decide +kernel
theorem dX12_readsCompared_4 : decode cX12_readsCompared 4 = .ok (.ifCond .ne 5, 3) := by decide +kernel
theorem dX12_readsCompared_7 : decode cX12_readsCompared 7 = .ok (.iconst 0, 1) := by decide +kernel
theorem dX12_readsCompared_8 : decode cX12_readsCompared 8 = .ok (.ireturn, 1) := by decide +kernel
theorem dX12_readsCompared_9 : decode cX12_readsCompared 9 = .ok (.aload_n 0, 1) := by decide +kernel
theorem dX12_readsCompared_10 : decode cX12_readsCompared 10 = .ok (.invokevirtual 137, 3) := by decide +kernel
theorem dX12_readsCompared_13 : decode cX12_readsCompared 13 = .ok (.bipush 60, 2) := by decide +kernel
theorem dX12_readsCompared_15 : decode cX12_readsCompared 15 = .ok (.if_icmp .ne 8, 3) := by decide +kernel
theorem dX12_readsCompared_18 : decode cX12_readsCompared 18 = .ok (.bipush 7, 2) := by decide +kernel
theorem dX12_readsCompared_20 : decode cX12_readsCompared 20 = .ok (.goto 32, 3) := by decide +kernel
theorem dX12_readsCompared_23 : decode cX12_readsCompared 23 = .ok (.aload_n 0, 1) := by decide +kernel
theorem dX12_readsCompared_24 : decode cX12_readsCompared 24 = .ok (.invokevirtual 137, 3) := by decide +kernel
theorem dX12_readsCompared_27 : decode cX12_readsCompared 27 = .ok (.bipush 62, 2) := by decide +kernel
theorem dX12_readsCompared_29 : decode cX12_readsCompared 29 = .ok (.if_icmp .ne 8, 3) := by decide +kernel
theorem dX12_readsCompared_32 : decode cX12_readsCompared 32 = .ok (.bipush 8, 2) := by decide +kernel
theorem dX12_readsCompared_34 : decode cX12_readsCompared 34 = .ok (.goto 18, 3) := by decide +kernel
theorem dX12_readsCompared_37 : decode cX12_readsCompared 37 = .ok (.aload_n 0, 1) := by decide +kernel
theorem dX12_readsCompared_38 : decode cX12_readsCompared 38 = .ok (.invokevirtual 137, 3) := by decide +kernel
theorem dX12_readsCompared_41 : decode cX12_readsCompared 41 = .ok (.bipush 61, 2) := by decide +kernel
theorem dX12_readsCompared_43 : decode cX12_readsCompared 43 = .ok (.if_icmp .ne 8, 3) := by decide +kernel
theorem dX12_readsCompared_46 : decode cX12_readsCompared 46 = .ok (.bipush 9, 2) := by decide +kernel
theorem dX12_readsCompared_48 : decode cX12_readsCompared 48 = .ok (.goto 4, 3) := by decide +kernel
theorem dX12_readsCompared_51 : decode cX12_readsCompared 51 = .ok (.iconst (-1), 1) := by decide +kernel
theorem dX12_readsCompared_52 : decode cX12_readsCompared 52 = .ok (.istore_n 1, 1) := by decide +kernel
theorem dX12_readsCompared_53 : decode cX12_readsCompared 53 = .ok (.iload_n 1, 1) := by decide +kernel
theorem dX12_readsCompared_54 : decode cX12_readsCompared 54 = .ok (.iconst (-1), 1) := by decide +kernel
theorem dX12_readsCompared_55 : decode cX12_readsCompared 55 = .ok (.if_icmp .ne 13, 3) := by decide +kernel
theorem dX12_readsCompared_58 : decode cX12_readsCompared 58 = .ok (.aload_n 0, 1) := by decide +kernel
theorem dX12_readsCompared_59 : decode cX12_readsCompared 59 = .ok (.iconst 1, 1) := by decide +kernel
theorem dX12_readsCompared_60 : decode cX12_readsCompared 60 = .ok (.aload_n 0, 1) := by decide +kernel
theorem dX12_readsCompared_61 : decode cX12_readsCompared 61 = .ok (.getfield 131, 3) := by decide +kernel
theorem dX12_readsCompared_64 : decode cX12_readsCompared 64 = .ok (.invokevirtual 144, 3) := by decide +kernel
theorem dX12_readsCompared_67 : decode cX12_readsCompared 67 = .ok (.ireturn, 1) := by decide +kernel
theorem dX12_readsCompared_68 : decode cX12_readsCompared 68 = .ok (.aload_n 0, 1) := by decide +kernel
theorem dX12_readsCompared_69 : decode cX12_readsCompared 69 = .ok (.aload_n 0, 1) := by decide +kernel
theorem dX12_readsCompared_70 : decode cX12_readsCompared 70 = .ok (.getfield 131, 3) := by decide +kernel
theorem dX12_readsCompared_73 : decode cX12_readsCompared 73 = .ok (.iconst 1, 1) := by decide +kernel
theorem dX12_readsCompared_74 : decode cX12_readsCompared 74 = .ok (.iadd, 1) := by decide +kernel
theorem dX12_readsCompared_75 : decode cX12_readsCompared 75 = .ok (.putfield 131, 3) := by decide +kernel
theorem dX12_readsCompared_78 : decode cX12_readsCompared 78 = .ok (.aload_n 0, 1) := by decide +kernel
theorem dX12_readsCompared_79 : decode cX12_readsCompared 79 = .ok (.invokevirtual 194, 3) := by decide +kernel
theorem dX12_readsCompared_82 : decode cX12_readsCompared 82 = .ok (.ifCond .ne 5, 3) := by decide +kernel
theorem dX12_readsCompared_85 : decode cX12_readsCompared 85 = .ok (.iconst 0, 1) := by decide +kernel
theorem dX12_readsCompared_86 : decode cX12_readsCompared 86 = .ok (.ireturn, 1) := by decide +kernel
theorem dX12_readsCompared_87 : decode cX12_readsCompared 87 = .ok (.aload_n 0, 1) := by decide +kernel
theorem dX12_readsCompared_88 : decode cX12_readsCompared 88 = .ok (.iload_n 1, 1) := by decide +kernel
theorem dX12_readsCompared_89 : decode cX12_readsCompared 89 = .ok (.iconst 0, 1) := by decide +kernel
theorem dX12_readsCompared_90 : decode cX12_readsCompared 90 = .ok (.invokevirtual 167, 3) := by decide +kernel
theorem dX12_readsCompared_93 : decode cX12_readsCompared 93 = .ok (.aload_n 0, 1) := by decide +kernel
theorem dX12_readsCompared_94 : decode cX12_readsCompared 94 = .ok (.invokevirtual 197, 3) := by decide +kernel
theorem dX12_readsCompared_97 : decode cX12_readsCompared 97 = .ok (.iconst 1, 1) := by decide +kernel
theorem dX12_readsCompared_98 : decode cX12_readsCompared 98 = .ok (.ireturn, 1) := by decide +kernel
def FX12_readsCompared (hp : HP) (p0 : Nat) : Option (Int32 × HP) := (rc [12] hp p0 (FX12_readsSum hp p0)).bind (fun w1 => if w1.1 = 0 then some ((0 : Int32), w1.2) else (rc [12] w1.2 p0 (FX12_here w1.2 p0)).bind (fun v2 => jn (A := Int32) (fun a3 => if a3 = (-1 : Int32) then (gI [12] 15 w1.2 p0).bind (fun v5 => (rc [12] w1.2 p0 (FX12_wrongAt w1.2 p0 (1 : Int32) v5)).bind (fun w6 => bz w6.1 (some (w6.1, w6.2)))) else (gI [12] 15 w1.2 p0).bind (fun v7 => (sI [12] 15 w1.2 p0 (v7 + (1 : Int32))).bind (fun hp8 => (rc [12] hp8 p0 (FX12_readsSum hp8 p0)).bind (fun w9 => if w9.1 = 0 then some ((0 : Int32), w9.2) else (rc [12] w9.2 p0 (FX12_notes w9.2 p0 a3 (0 : Int32))).bind (fun w10 => (rc [12] w10 p0 (FX12_endsPiece w10 p0)).bind (fun w11 => some ((1 : Int32), w11))))))) (fun J4 => if v2 = (60 : Int32) then J4 (7 : Int32) else (rc [12] w1.2 p0 (FX12_here w1.2 p0)).bind (fun v12 => if v12 = (62 : Int32) then J4 (8 : Int32) else (rc [12] w1.2 p0 (FX12_here w1.2 p0)).bind (fun v13 => if v13 = (61 : Int32) then J4 (9 : Int32) else J4 (-1 : Int32))))))
set_option maxHeartbeats 4000000 in
set_option maxRecDepth 100000 in
theorem ctX12_readsCompared (l : Launch) (D : va_G) (tg : Nat → ClassId) (bs : Nat) (sa : Nat → Nat) (hp : HP) (p0 : Nat) : Ct l D tg bs sa yX12_readsCompared cX12_readsCompared 2 (some .boolean) 5 [.ref p0] hp (FX12_readsCompared hp p0) (fun r => some (.int r.1)) (fun r => r.2) := by
  refine Ct.of (by decide) (Nat.le_of_ble_eq_true rfl) ?_
  intro V Q hVl hVd hVt hVb hVs hC
  subst hVl; subst hVd; subst hVt; subst hVb; subst hVs
  unfold FX12_readsCompared
  show Zs V Q (0, 0) 2 _ _ hp [(0, .ref p0)] 0 []
  refine z_aload_n hC 0 dX12_readsCompared_0 rfl rfl ?_
  refine z_callVi hC (ci := 12) rfl lmRX12_194 (ctX12_readsSum (vLa V) (vDa V) (vTg V) (vBs V) (vSa V) hp p0) (by decide) hn0 dX12_readsCompared_1 rfl rfl (Nat.le_of_ble_eq_true rfl) (fun w1 => ?_)
  refine z_if_ne hC 9 dX12_readsCompared_4 (by decide) (fun _ => ?_) (fun _ => ?_)
  · refine z_iconst hC (0 : Int32) dX12_readsCompared_7 (by decide) ?_
    exact z_zret hC (by decide) (fun h => h) dX12_readsCompared_8
  · refine z_aload_n hC 0 dX12_readsCompared_9 rfl rfl ?_
    refine z_callVi hC (ci := 12) rfl lmRX12_137 (ctX12_here (vLa V) (vDa V) (vTg V) (vBs V) (vSa V) w1.2 p0) (by decide) hn0 dX12_readsCompared_10 rfl rfl (Nat.le_of_ble_eq_true rfl) (fun v2 => ?_)
    refine z_bipush hC (60 : Int32) dX12_readsCompared_13 (by decide) ?_
    refine z_jn (A := Int32) (fun a3 => w1.2) (fun a3 => [(0, .ref p0)]) 52 (fun a3 => [.int a3]) (fun a3 => ?_) (fun J4 hJ4 => ?_)
    · refine z_istore_n hC [(0, .ref p0), (1, .int a3)] [1, 0] dX12_readsCompared_52 rfl (by decide) rfl ?_
      refine z_iload_n hC 1 dX12_readsCompared_53 rfl rfl ?_
      refine z_iconst hC (-1 : Int32) dX12_readsCompared_54 (by decide) ?_
      refine z_icmp_ne hC 68 dX12_readsCompared_55 (by decide) (fun _ => ?_) (fun _ => ?_)
      · refine z_aload_n hC 0 dX12_readsCompared_58 rfl rfl ?_
        refine z_iconst hC (1 : Int32) dX12_readsCompared_59 (by decide) ?_
        refine z_aload_n hC 0 dX12_readsCompared_60 rfl rfl ?_
        refine z_getI hC lgRX12_131 dX12_readsCompared_61 (fun v5 => ?_)
        refine z_callVi hC (ci := 12) rfl lmRX12_144 (ctX12_wrongAt (vLa V) (vDa V) (vTg V) (vBs V) (vSa V) w1.2 p0 (1 : Int32) v5) (by decide) hn0 dX12_readsCompared_64 rfl rfl (Nat.le_of_ble_eq_true rfl) (fun w6 => ?_)
        exact z_bz (fun hv => z_zret hC hv (fun h => h) dX12_readsCompared_67)
      · refine z_aload_n hC 0 dX12_readsCompared_68 rfl rfl ?_
        refine z_aload_n hC 0 dX12_readsCompared_69 rfl rfl ?_
        refine z_getI hC lgRX12_131 dX12_readsCompared_70 (fun v7 => ?_)
        refine z_iconst hC (1 : Int32) dX12_readsCompared_73 (by decide) ?_
        refine z_iadd hC dX12_readsCompared_74 ?_
        refine z_putI hC lpRX12_131 dX12_readsCompared_75 (fun hp8 => ?_)
        refine z_aload_n hC 0 dX12_readsCompared_78 rfl rfl ?_
        refine z_callVi hC (ci := 12) rfl lmRX12_194 (ctX12_readsSum (vLa V) (vDa V) (vTg V) (vBs V) (vSa V) hp8 p0) (by decide) hn0 dX12_readsCompared_79 rfl rfl (Nat.le_of_ble_eq_true rfl) (fun w9 => ?_)
        refine z_if_ne hC 87 dX12_readsCompared_82 (by decide) (fun _ => ?_) (fun _ => ?_)
        · refine z_iconst hC (0 : Int32) dX12_readsCompared_85 (by decide) ?_
          exact z_zret hC (by decide) (fun h => h) dX12_readsCompared_86
        · refine z_aload_n hC 0 dX12_readsCompared_87 rfl rfl ?_
          refine z_iload_n hC 1 dX12_readsCompared_88 rfl rfl ?_
          refine z_iconst hC (0 : Int32) dX12_readsCompared_89 (by decide) ?_
          refine z_callVv hC (ci := 12) rfl lmRX12_167 (ctX12_notes (vLa V) (vDa V) (vTg V) (vBs V) (vSa V) w9.2 p0 a3 (0 : Int32)) (by decide) hn0 dX12_readsCompared_90 rfl rfl (Nat.le_of_ble_eq_true rfl) (fun w10 => ?_)
          refine z_aload_n hC 0 dX12_readsCompared_93 rfl rfl ?_
          refine z_callVv hC (ci := 12) rfl lmRX12_197 (ctX12_endsPiece (vLa V) (vDa V) (vTg V) (vBs V) (vSa V) w10 p0) (by decide) hn0 dX12_readsCompared_94 rfl rfl (Nat.le_of_ble_eq_true rfl) (fun w11 => ?_)
          refine z_iconst hC (1 : Int32) dX12_readsCompared_97 (by decide) ?_
          exact z_zret hC (by decide) (fun h => h) dX12_readsCompared_98
    · refine z_icmp_ne hC 23 dX12_readsCompared_15 (by decide) (fun _ => ?_) (fun _ => ?_)
      · refine z_bipush hC (7 : Int32) dX12_readsCompared_18 (by decide) ?_
        refine z_goto hC 52 dX12_readsCompared_20 (by decide) ?_
        exact hJ4 (7 : Int32)
      · refine z_aload_n hC 0 dX12_readsCompared_23 rfl rfl ?_
        refine z_callVi hC (ci := 12) rfl lmRX12_137 (ctX12_here (vLa V) (vDa V) (vTg V) (vBs V) (vSa V) w1.2 p0) (by decide) hn0 dX12_readsCompared_24 rfl rfl (Nat.le_of_ble_eq_true rfl) (fun v12 => ?_)
        refine z_bipush hC (62 : Int32) dX12_readsCompared_27 (by decide) ?_
        refine z_icmp_ne hC 37 dX12_readsCompared_29 (by decide) (fun _ => ?_) (fun _ => ?_)
        · refine z_bipush hC (8 : Int32) dX12_readsCompared_32 (by decide) ?_
          refine z_goto hC 52 dX12_readsCompared_34 (by decide) ?_
          exact hJ4 (8 : Int32)
        · refine z_aload_n hC 0 dX12_readsCompared_37 rfl rfl ?_
          refine z_callVi hC (ci := 12) rfl lmRX12_137 (ctX12_here (vLa V) (vDa V) (vTg V) (vBs V) (vSa V) w1.2 p0) (by decide) hn0 dX12_readsCompared_38 rfl rfl (Nat.le_of_ble_eq_true rfl) (fun v13 => ?_)
          refine z_bipush hC (61 : Int32) dX12_readsCompared_41 (by decide) ?_
          refine z_icmp_ne hC 51 dX12_readsCompared_43 (by decide) (fun _ => ?_) (fun _ => ?_)
          · refine z_bipush hC (9 : Int32) dX12_readsCompared_46 (by decide) ?_
            refine z_goto hC 52 dX12_readsCompared_48 (by decide) ?_
            exact hJ4 (9 : Int32)
          · refine z_iconst hC (-1 : Int32) dX12_readsCompared_51 (by decide) ?_
            exact hJ4 (-1 : Int32)

