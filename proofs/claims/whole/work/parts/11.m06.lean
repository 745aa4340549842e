theorem dX12_grants_0 : decode cX12_grants 0 = .ok (.aload_n 0, 1) := by decide +kernel
theorem dX12_grants_1 : decode cX12_grants 1 = .ok (.iload_n 1, 1) := by decide +kernel
theorem dX12_grants_2 : decode cX12_grants 2 = .ok (.invokevirtual 337, 3) := by decide +kernel
theorem dX12_grants_5 : decode cX12_grants 5 = .ok (.istore_n 2, 1) := by decide +kernel
theorem dX12_grants_6 : decode cX12_grants 6 = .ok (.iload_n 2, 1) := by decide +kernel
theorem dX12_grants_7 : decode cX12_grants 7 = .ok (.bipush (-2), 2) := by decide +kernel
theorem dX12_grants_9 : decode cX12_grants 9 = .ok (.if_icmp .ne 8, 3) := by decide +kernel
theorem dX12_grants_12 : decode cX12_grants 12 = .ok (.aload_n 0, 1) := by decide +kernel
theorem dX12_grants_13 : decode cX12_grants 13 = .ok (.iconst 1, 1) := by decide +kernel
theorem dX12_grants_14 : decode cX12_grants 14 = .ok (.putfield 319, 3) := by decide +kernel
theorem dX12_grants_17 : decode cX12_grants 17 = .ok (.iload_n 2, 1) := by decide +kernel
theorem dX12_grants_18 : decode cX12_grants 18 = .ok (.ifCond .ge 5, 3) := by decide +kernel
theorem dX12_grants_21 : decode cX12_grants 21 = .ok (.iload_n 2, 1) := by decide +kernel
theorem dX12_grants_22 : decode cX12_grants 22 = .ok (.ireturn, 1) := by decide +kernel
theorem dX12_grants_23 : decode cX12_grants 23 = .ok (.aload_n 0, 1) := by decide +kernel
theorem dX12_grants_24 : decode cX12_grants 24 = .ok (.aload_n 0, 1) := by decide +kernel
theorem dX12_grants_25 : decode cX12_grants 25 = .ok (.getfield 313, 3) := by decide +kernel
theorem dX12_grants_28 : decode cX12_grants 28 = .ok (.putfield 121, 3) := by decide +kernel
theorem dX12_grants_31 : decode cX12_grants 31 = .ok (.aload_n 0, 1) := by decide +kernel
theorem dX12_grants_32 : decode cX12_grants 32 = .ok (.sipush 8640, 3) := by decide +kernel
theorem dX12_grants_35 : decode cX12_grants 35 = .ok (.aload_n 0, 1) := by decide +kernel
theorem dX12_grants_36 : decode cX12_grants 36 = .ok (.getfield 238, 3) := by decide +kernel
theorem dX12_grants_39 : decode cX12_grants 39 = .ok (.aload_n 0, 1) := by decide +kernel
theorem dX12_grants_40 : decode cX12_grants 40 = .ok (.getfield 334, 3) := by decide +kernel
theorem dX12_grants_43 : decode cX12_grants 43 = .ok (.iadd, 1) := by decide +kernel
theorem dX12_grants_44 : decode cX12_grants 44 = .ok (.invokestatic 340, 3) := by decide +kernel
theorem dX12_grants_47 : decode cX12_grants 47 = .ok (.putfield 238, 3) := by decide +kernel
theorem dX12_grants_50 : decode cX12_grants 50 = .ok (.aload_n 0, 1) := by decide +kernel
theorem dX12_grants_51 : decode cX12_grants 51 = .ok (.sipush 9999, 3) := by decide +kernel
theorem dX12_grants_54 : decode cX12_grants 54 = .ok (.aload_n 0, 1) := by decide +kernel
theorem dX12_grants_55 : decode cX12_grants 55 = .ok (.getfield 241, 3) := by decide +kernel
theorem dX12_grants_58 : decode cX12_grants 58 = .ok (.aload_n 0, 1) := by decide +kernel
theorem dX12_grants_59 : decode cX12_grants 59 = .ok (.getfield 316, 3) := by decide +kernel
theorem dX12_grants_62 : decode cX12_grants 62 = .ok (.iadd, 1) := by decide +kernel
theorem dX12_grants_63 : decode cX12_grants 63 = .ok (.invokestatic 340, 3) := by decide +kernel
theorem dX12_grants_66 : decode cX12_grants 66 = .ok (.putfield 241, 3) := by decide +kernel
theorem dX12_grants_69 : decode cX12_grants 69 = .ok (.aload_n 0, 1) := by decide +kernel
theorem dX12_grants_70 : decode cX12_grants 70 = .ok (.aload_n 0, 1) := by decide +kernel
theorem dX12_grants_71 : decode cX12_grants 71 = .ok (.getfield 302, 3) := by decide +kernel
theorem dX12_grants_74 : decode cX12_grants 74 = .ok (.iconst 1, 1) := by decide +kernel
theorem dX12_grants_75 : decode cX12_grants 75 = .ok (.iload_n 1, 1) := by decide +kernel
theorem dX12_grants_76 : decode cX12_grants 76 = .ok (.ishl, 1) := by decide +kernel
theorem dX12_grants_77 : decode cX12_grants 77 = .ok (.ior, 1) := by decide +kernel
theorem dX12_grants_78 : decode cX12_grants 78 = .ok (.putfield 302, 3) := by decide +kernel
theorem dX12_grants_81 : decode cX12_grants 81 = .ok (.aload_n 0, 1) := by decide +kernel
theorem dX12_grants_82 : decode cX12_grants 82 = .ok (.aload_n 0, 1) := by decide +kernel
theorem dX12_grants_83 : decode cX12_grants 83 = .ok (.getfield 235, 3) := by decide +kernel
theorem dX12_grants_86 : decode cX12_grants 86 = .ok (.iconst 1, 1) := by decide +kernel
theorem dX12_grants_87 : decode cX12_grants 87 = .ok (.iadd, 1) := by decide +kernel
theorem dX12_grants_88 : decode cX12_grants 88 = .ok (.putfield 235, 3) := by decide +kernel
theorem dX12_grants_91 : decode cX12_grants 91 = .ok (.iload_n 2, 1) := by decide +kernel
theorem dX12_grants_92 : decode cX12_grants 92 = .ok (.ireturn, 1) := by decide +kernel
def FX12_grants (hp : HP) (p0 : Nat) (p1 : Int32) : Option (Int32 × HP) := (rc [12] hp p0 (FX12_tells hp p0 p1)).bind (fun w1 => jn (A := HP) (fun a2 => if 0 ≤ w1.1 then (gI [12] 45 a2 p0).bind (fun v4 => (sI [12] 7 a2 p0 v4).bind (fun hp5 => (gI [12] 8 hp5 p0).bind (fun v6 => (gI [12] 46 hp5 p0).bind (fun v7 => (FX12_min (8640 : Int32) (v6 + v7)).bind (fun v8 => (sI [12] 8 hp5 p0 v8).bind (fun hp9 => (gI [12] 9 hp9 p0).bind (fun v10 => (gI [12] 47 hp9 p0).bind (fun v11 => (FX12_min (9999 : Int32) (v10 + v11)).bind (fun v12 => (sI [12] 9 hp9 p0 v12).bind (fun hp13 => (gI [12] 11 hp13 p0).bind (fun v14 => (sI [12] 11 hp13 p0 (v14 ||| ((1 : Int32) <<< (p1 &&& 31)))).bind (fun hp15 => (gI [12] 10 hp15 p0).bind (fun v16 => (sI [12] 10 hp15 p0 (v16 + (1 : Int32))).bind (fun hp17 => some (w1.1, hp17))))))))))))))) else some (w1.1, a2)) (fun J3 => if w1.1 = (-2 : Int32) then (sI [12] 12 w1.2 p0 (1 : Int32)).bind (fun hp18 => J3 hp18) else J3 w1.2))
set_option maxHeartbeats 4000000 in
set_option maxRecDepth 100000 in
theorem ctX12_grants (l : Launch) (D : va_G) (tg : Nat → ClassId) (bs : Nat) (sa : Nat → Nat) (hp : HP) (p0 : Nat) (p1 : Int32) : Ct l D tg bs sa yX12_grants cX12_grants 3 (some .int) 4 [.ref p0, .int p1] hp (FX12_grants hp p0 p1) (fun r => some (.int r.1)) (fun r => r.2) := by
  refine Ct.of (by decide) (Nat.le_of_ble_eq_true rfl) ?_
  intro V Q hVl hVd hVt hVb hVs hC
  subst hVl; subst hVd; subst hVt; subst hVb; subst hVs
  unfold FX12_grants
  show Zs V Q (0, 0) 3 _ _ hp [(0, .ref p0), (1, .int p1)] 0 []
  refine z_aload_n hC 0 dX12_grants_0 rfl rfl ?_
  refine z_iload_n hC 1 dX12_grants_1 rfl rfl ?_
  refine z_callVi hC (ci := 12) rfl lmRX12_337 (ctX12_tells (vLa V) (vDa V) (vTg V) (vBs V) (vSa V) hp p0 p1) (by decide) hn0 dX12_grants_2 rfl rfl (Nat.le_of_ble_eq_true rfl) (fun w1 => ?_)
  refine z_istore_n hC [(0, .ref p0), (1, .int p1), (2, .int w1.1)] [1, 2, 0] dX12_grants_5 rfl (by decide) rfl ?_
  refine z_iload_n hC 2 dX12_grants_6 rfl rfl ?_
  refine z_bipush hC (-2 : Int32) dX12_grants_7 (by decide) ?_
  refine z_jn (A := HP) (fun a2 => a2) (fun a2 => [(0, .ref p0), (1, .int p1), (2, .int w1.1)]) 17 (fun a2 => []) (fun a2 => ?_) (fun J3 hJ3 => ?_)
  · refine z_iload_n hC 2 dX12_grants_17 rfl rfl ?_
    refine z_if_ge hC 23 dX12_grants_18 (by decide) (fun _ => ?_) (fun _ => ?_)
    · refine z_aload_n hC 0 dX12_grants_23 rfl rfl ?_
      refine z_aload_n hC 0 dX12_grants_24 rfl rfl ?_
      refine z_getI hC lgRX12_313 dX12_grants_25 (fun v4 => ?_)
      refine z_putI hC lpRX12_121 dX12_grants_28 (fun hp5 => ?_)
      refine z_aload_n hC 0 dX12_grants_31 rfl rfl ?_
      refine z_sipush hC (8640 : Int32) dX12_grants_32 (by decide) ?_
      refine z_aload_n hC 0 dX12_grants_35 rfl rfl ?_
      refine z_getI hC lgRX12_238 dX12_grants_36 (fun v6 => ?_)
      refine z_aload_n hC 0 dX12_grants_39 rfl rfl ?_
      refine z_getI hC lgRX12_334 dX12_grants_40 (fun v7 => ?_)
      refine z_iadd hC dX12_grants_43 ?_
      refine z_callSi hC lmRX12_340 (ctX12_min (vLa V) (vDa V) (vTg V) (vBs V) (vSa V) hp5 (8640 : Int32) (v6 + v7)) (by decide) hn0 dX12_grants_44 rfl rfl (Nat.le_of_ble_eq_true rfl) (fun v8 => ?_)
      refine z_putI hC lpRX12_238 dX12_grants_47 (fun hp9 => ?_)
      refine z_aload_n hC 0 dX12_grants_50 rfl rfl ?_
      refine z_sipush hC (9999 : Int32) dX12_grants_51 (by decide) ?_
      refine z_aload_n hC 0 dX12_grants_54 rfl rfl ?_
      refine z_getI hC lgRX12_241 dX12_grants_55 (fun v10 => ?_)
      refine z_aload_n hC 0 dX12_grants_58 rfl rfl ?_
      refine z_getI hC lgRX12_316 dX12_grants_59 (fun v11 => ?_)
      refine z_iadd hC dX12_grants_62 ?_
      refine z_callSi hC lmRX12_340 (ctX12_min (vLa V) (vDa V) (vTg V) (vBs V) (vSa V) hp9 (9999 : Int32) (v10 + v11)) (by decide) hn0 dX12_grants_63 rfl rfl (Nat.le_of_ble_eq_true rfl) (fun v12 => ?_)
      refine z_putI hC lpRX12_241 dX12_grants_66 (fun hp13 => ?_)
      refine z_aload_n hC 0 dX12_grants_69 rfl rfl ?_
      refine z_aload_n hC 0 dX12_grants_70 rfl rfl ?_
      refine z_getI hC lgRX12_302 dX12_grants_71 (fun v14 => ?_)
      refine z_iconst hC (1 : Int32) dX12_grants_74 (by decide) ?_
      refine z_iload_n hC 1 dX12_grants_75 rfl rfl ?_
      refine z_ishl hC dX12_grants_76 ?_
      refine z_ior hC dX12_grants_77 ?_
      refine z_putI hC lpRX12_302 dX12_grants_78 (fun hp15 => ?_)
      refine z_aload_n hC 0 dX12_grants_81 rfl rfl ?_
      refine z_aload_n hC 0 dX12_grants_82 rfl rfl ?_
      refine z_getI hC lgRX12_235 dX12_grants_83 (fun v16 => ?_)
      refine z_iconst hC (1 : Int32) dX12_grants_86 (by decide) ?_
      refine z_iadd hC dX12_grants_87 ?_
      refine z_putI hC lpRX12_235 dX12_grants_88 (fun hp17 => ?_)
      refine z_iload_n hC 2 dX12_grants_91 rfl rfl ?_
      exact z_iret hC (fun h => h) dX12_grants_92
    · refine z_iload_n hC 2 dX12_grants_21 rfl rfl ?_
      exact z_iret hC (fun h => h) dX12_grants_22
  · refine z_icmp_ne hC 17 dX12_grants_9 (by decide) (fun _ => ?_) (fun _ => ?_)
    · refine z_aload_n hC 0 dX12_grants_12 rfl rfl ?_
      refine z_iconst hC (1 : Int32) dX12_grants_13 (by decide) ?_
      refine z_putI hC lpRX12_319 dX12_grants_14 (fun hp18 => ?_)
      exact hJ3 hp18
    · exact hJ3 w1.2

theorem dX12_wished_0 : decode cX12_wished 0 = .ok (.aload_n 0, 1) := by decide +kernel
theorem dX12_wished_1 : decode cX12_wished 1 = .ok (.iload_n 1, 1) := by decide +kernel
theorem dX12_wished_2 : decode cX12_wished 2 = .ok (.invokevirtual 343, 3) := by decide +kernel
theorem dX12_wished_5 : decode cX12_wished 5 = .ok (.ifCond .eq 11, 3) := by decide +kernel
theorem dX12_wished_8 : decode cX12_wished 8 = .ok (.aload_n 0, 1) := by decide +kernel
theorem dX12_wished_9 : decode cX12_wished 9 = .ok (.iload_n 1, 1) := by decide +kernel
theorem dX12_wished_10 : decode cX12_wished 10 = .ok (.invokevirtual 346, 3) := by decide +kernel
theorem dX12_wished_13 : decode cX12_wished 13 = .ok (.goto 4, 3) := by decide +kernel
theorem dX12_wished_16 : decode cX12_wished 16 = .ok (.iconst (-1), 1) := by decide +kernel
theorem dX12_wished_17 : decode cX12_wished 17 = .ok (.ireturn, 1) := by decide +kernel
def FX12_wished (hp : HP) (p0 : Nat) (p1 : Int32) : Option (Int32 × HP) := (rc [12] hp p0 (FX12_isWish hp p0 p1)).bind (fun v1 => if v1 = 0 then some ((-1 : Int32), hp) else (rc [12] hp p0 (FX12_grants hp p0 p1)).bind (fun w2 => some (w2.1, w2.2)))
set_option maxHeartbeats 4000000 in
set_option maxRecDepth 100000 in
theorem ctX12_wished (l : Launch) (D : va_G) (tg : Nat → ClassId) (bs : Nat) (sa : Nat → Nat) (hp : HP) (p0 : Nat) (p1 : Int32) : Ct l D tg bs sa yX12_wished cX12_wished 2 (some .int) 5 [.ref p0, .int p1] hp (FX12_wished hp p0 p1) (fun r => some (.int r.1)) (fun r => r.2) := by
  refine Ct.of (by decide) (Nat.le_of_ble_eq_true rfl) ?_
  intro V Q hVl hVd hVt hVb hVs hC
  subst hVl; subst hVd; subst hVt; subst hVb; subst hVs
  unfold FX12_wished
  show Zs V Q (0, 0) 2 _ _ hp [(0, .ref p0), (1, .int p1)] 0 []
  refine z_aload_n hC 0 dX12_wished_0 rfl rfl ?_
  refine z_iload_n hC 1 dX12_wished_1 rfl rfl ?_
  refine z_callVi hC (ci := 12) rfl lmRX12_343 (ctX12_isWish (vLa V) (vDa V) (vTg V) (vBs V) (vSa V) hp p0 p1) (by decide) hn0 dX12_wished_2 rfl rfl (Nat.le_of_ble_eq_true rfl) (fun v1 => ?_)
  refine z_if_eq hC 16 dX12_wished_5 (by decide) (fun _ => ?_) (fun _ => ?_)
  · refine z_iconst hC (-1 : Int32) dX12_wished_16 (by decide) ?_
    exact z_iret hC (fun h => h) dX12_wished_17
  · refine z_aload_n hC 0 dX12_wished_8 rfl rfl ?_
    refine z_iload_n hC 1 dX12_wished_9 rfl rfl ?_
    refine z_callVi hC (ci := 12) rfl lmRX12_346 (ctX12_grants (vLa V) (vDa V) (vTg V) (vBs V) (vSa V) hp p0 p1) (by decide) hn0 dX12_wished_10 rfl rfl (Nat.le_of_ble_eq_true rfl) (fun w2 => ?_)
    refine z_goto hC 17 dX12_wished_13 (by decide) ?_
    exact z_iret hC (fun h => h) dX12_wished_17

theorem dX12_tried_0 : decode cX12_tried 0 = .ok (.aload_n 0, 1) := by decide +kernel
theorem dX12_tried_1 : decode cX12_tried 1 = .ok (.iload_n 1, 1) := by decide +kernel
theorem dX12_tried_2 : decode cX12_tried 2 = .ok (.invokevirtual 343, 3) := by decide +kernel
theorem dX12_tried_5 : decode cX12_tried 5 = .ok (.ifCond .eq 12, 3) := by decide +kernel
theorem dX12_tried_8 : decode cX12_tried 8 = .ok (.iload_n 2, 1) := by decide +kernel
theorem dX12_tried_9 : decode cX12_tried 9 = .ok (.iconst 0, 1) := by decide +kernel
theorem dX12_tried_10 : decode cX12_tried 10 = .ok (.iconst 4, 1) := by decide +kernel
theorem dX12_tried_11 : decode cX12_tried 11 = .ok (.invokestatic 99, 3) := by decide +kernel
theorem dX12_tried_14 : decode cX12_tried 14 = .ok (.ifCond .ne 5, 3) := by decide +kernel
theorem dX12_tried_17 : decode cX12_tried 17 = .ok (.iconst (-1), 1) := by decide +kernel
theorem dX12_tried_18 : decode cX12_tried 18 = .ok (.ireturn, 1) := by decide +kernel
theorem dX12_tried_19 : decode cX12_tried 19 = .ok (.aload_n 0, 1) := by decide +kernel
theorem dX12_tried_20 : decode cX12_tried 20 = .ok (.iload_n 1, 1) := by decide +kernel
theorem dX12_tried_21 : decode cX12_tried 21 = .ok (.invokevirtual 337, 3) := by decide +kernel
theorem dX12_tried_24 : decode cX12_tried 24 = .ok (.istore_n 3, 1) := by decide +kernel
theorem dX12_tried_25 : decode cX12_tried 25 = .ok (.iload_n 2, 1) := by decide +kernel
theorem dX12_tried_26 : decode cX12_tried 26 = .ok (.tableswitch 64 0 3 #[30, 32, 37, 50], 30) := by decide +kernel
theorem dX12_tried_56 : decode cX12_tried 56 = .ok (.iload_n 3, 1) := by decide +kernel
theorem dX12_tried_57 : decode cX12_tried 57 = .ok (.ireturn, 1) := by decide +kernel
theorem dX12_tried_58 : decode cX12_tried 58 = .ok (.aload_n 0, 1) := by decide +kernel
theorem dX12_tried_59 : decode cX12_tried 59 = .ok (.getfield 313, 3) := by decide +kernel
theorem dX12_tried_62 : decode cX12_tried 62 = .ok (.ireturn, 1) := by decide +kernel
theorem dX12_tried_63 : decode cX12_tried 63 = .ok (.aload_n 0, 1) := by decide +kernel
theorem dX12_tried_64 : decode cX12_tried 64 = .ok (.getfield 313, 3) := by decide +kernel
theorem dX12_tried_67 : decode cX12_tried 67 = .ok (.aload_n 0, 1) := by decide +kernel
theorem dX12_tried_68 : decode cX12_tried 68 = .ok (.getfield 121, 3) := by decide +kernel
theorem dX12_tried_71 : decode cX12_tried 71 = .ok (.ixor, 1) := by decide +kernel
theorem dX12_tried_72 : decode cX12_tried 72 = .ok (.invokestatic 111, 3) := by decide +kernel
theorem dX12_tried_75 : decode cX12_tried 75 = .ok (.ireturn, 1) := by decide +kernel
theorem dX12_tried_76 : decode cX12_tried 76 = .ok (.aload_n 0, 1) := by decide +kernel
theorem dX12_tried_77 : decode cX12_tried 77 = .ok (.aload_n 0, 1) := by decide +kernel
theorem dX12_tried_78 : decode cX12_tried 78 = .ok (.getfield 313, 3) := by decide +kernel
theorem dX12_tried_81 : decode cX12_tried 81 = .ok (.aload_n 0, 1) := by decide +kernel
theorem dX12_tried_82 : decode cX12_tried 82 = .ok (.getfield 121, 3) := by decide +kernel
theorem dX12_tried_85 : decode cX12_tried 85 = .ok (.ixor, 1) := by decide +kernel
theorem dX12_tried_86 : decode cX12_tried 86 = .ok (.invokevirtual 232, 3) := by decide +kernel
theorem dX12_tried_89 : decode cX12_tried 89 = .ok (.ireturn, 1) := by decide +kernel
theorem dX12_tried_90 : decode cX12_tried 90 = .ok (.aload_n 0, 1) := by decide +kernel
theorem dX12_tried_91 : decode cX12_tried 91 = .ok (.getfield 316, 3) := by decide +kernel
theorem dX12_tried_94 : decode cX12_tried 94 = .ok (.ireturn, 1) := by decide +kernel
def FX12_tried (hp : HP) (p0 : Nat) (p1 : Int32) (p2 : Int32) : Option (Int32 × HP) := (rc [12] hp p0 (FX12_isWish hp p0 p1)).bind (fun v1 => if v1 = 0 then some ((-1 : Int32), hp) else (FX12_in p2 (0 : Int32) (4 : Int32)).bind (fun v2 => if v2 = 0 then some ((-1 : Int32), hp) else (rc [12] hp p0 (FX12_tells hp p0 p1)).bind (fun w3 => if p2 = (0 : Int32) then some (w3.1, w3.2) else if p2 = (1 : Int32) then (gI [12] 45 w3.2 p0).bind (fun v6 => some (v6, w3.2)) else if p2 = (2 : Int32) then (gI [12] 45 w3.2 p0).bind (fun v8 => (gI [12] 7 w3.2 p0).bind (fun v9 => (FX12_bits (v8 ^^^ v9)).bind (fun v10 => some (v10, w3.2)))) else if p2 = (3 : Int32) then (gI [12] 45 w3.2 p0).bind (fun v12 => (gI [12] 7 w3.2 p0).bind (fun v13 => (rc [12] w3.2 p0 (FX12_pricesOf w3.2 p0 (v12 ^^^ v13))).bind (fun v14 => some (v14, w3.2)))) else (gI [12] 47 w3.2 p0).bind (fun v15 => some (v15, w3.2)))))
set_option maxHeartbeats 4000000 in
set_option maxRecDepth 100000 in
theorem ctX12_tried (l : Launch) (D : va_G) (tg : Nat → ClassId) (bs : Nat) (sa : Nat → Nat) (hp : HP) (p0 : Nat) (p1 : Int32) (p2 : Int32) : Ct l D tg bs sa yX12_tried cX12_tried 4 (some .int) 4 [.ref p0, .int p1, .int p2] hp (FX12_tried hp p0 p1 p2) (fun r => some (.int r.1)) (fun r => r.2) := by
  refine Ct.of (by decide) (Nat.le_of_ble_eq_true rfl) ?_
  intro V Q hVl hVd hVt hVb hVs hC
  subst hVl; subst hVd; subst hVt; subst hVb; subst hVs
  unfold FX12_tried
  show Zs V Q (0, 0) 4 _ _ hp [(0, .ref p0), (1, .int p1), (2, .int p2)] 0 []
  refine z_aload_n hC 0 dX12_tried_0 rfl rfl ?_
  refine z_iload_n hC 1 dX12_tried_1 rfl rfl ?_
  refine z_callVi hC (ci := 12) rfl lmRX12_343 (ctX12_isWish (vLa V) (vDa V) (vTg V) (vBs V) (vSa V) hp p0 p1) (by decide) hn0 dX12_tried_2 rfl rfl (Nat.le_of_ble_eq_true rfl) (fun v1 => ?_)
  refine z_if_eq hC 17 dX12_tried_5 (by decide) (fun _ => ?_) (fun _ => ?_)
  · refine z_iconst hC (-1 : Int32) dX12_tried_17 (by decide) ?_
    exact z_iret hC (fun h => h) dX12_tried_18
  · refine z_iload_n hC 2 dX12_tried_8 rfl rfl ?_
    refine z_iconst hC (0 : Int32) dX12_tried_9 (by decide) ?_
    refine z_iconst hC (4 : Int32) dX12_tried_10 (by decide) ?_
    refine z_callSi hC lmRX12_99 (ctX12_in (vLa V) (vDa V) (vTg V) (vBs V) (vSa V) hp p2 (0 : Int32) (4 : Int32)) (by decide) hn0 dX12_tried_11 rfl rfl (Nat.le_of_ble_eq_true rfl) (fun v2 => ?_)
    refine z_if_ne hC 19 dX12_tried_14 (by decide) (fun _ => ?_) (fun _ => ?_)
    · refine z_iconst hC (-1 : Int32) dX12_tried_17 (by decide) ?_
      exact z_iret hC (fun h => h) dX12_tried_18
    · refine z_aload_n hC 0 dX12_tried_19 rfl rfl ?_
      refine z_iload_n hC 1 dX12_tried_20 rfl rfl ?_
      refine z_callVi hC (ci := 12) rfl lmRX12_337 (ctX12_tells (vLa V) (vDa V) (vTg V) (vBs V) (vSa V) hp p0 p1) (by decide) hn0 dX12_tried_21 rfl rfl (Nat.le_of_ble_eq_true rfl) (fun w3 => ?_)
      refine z_istore_n hC [(0, .ref p0), (1, .int p1), (2, .int p2), (3, .int w3.1)] [1, 2, 3, 0] dX12_tried_24 rfl (by decide) rfl ?_
      refine z_iload_n hC 2 dX12_tried_25 rfl rfl ?_
      refine z_tsw hC (0 : Int32) 56 (30) dX12_tried_26 (by decide) (by decide) (by decide) (by decide) (fun _ => ?_) (fun q4 => ?_)
      · refine z_iload_n hC 3 dX12_tried_56 rfl rfl ?_
        exact z_iret hC (fun h => h) dX12_tried_57
      refine z_tsw hC (1 : Int32) 58 (32) dX12_tried_26 (by decide) (by decide) (by decide) (by decide) (fun _ => ?_) (fun q5 => ?_)
      · refine z_aload_n hC 0 dX12_tried_58 rfl rfl ?_
        refine z_getI hC lgRX12_313 dX12_tried_59 (fun v6 => ?_)
        exact z_iret hC (fun h => h) dX12_tried_62
      refine z_tsw hC (2 : Int32) 63 (37) dX12_tried_26 (by decide) (by decide) (by decide) (by decide) (fun _ => ?_) (fun q7 => ?_)
      · refine z_aload_n hC 0 dX12_tried_63 rfl rfl ?_
        refine z_getI hC lgRX12_313 dX12_tried_64 (fun v8 => ?_)
        refine z_aload_n hC 0 dX12_tried_67 rfl rfl ?_
        refine z_getI hC lgRX12_121 dX12_tried_68 (fun v9 => ?_)
        refine z_ixor hC dX12_tried_71 ?_
        refine z_callSi hC lmRX12_111 (ctX12_bits (vLa V) (vDa V) (vTg V) (vBs V) (vSa V) w3.2 (v8 ^^^ v9)) (by decide) hn0 dX12_tried_72 rfl rfl (Nat.le_of_ble_eq_true rfl) (fun v10 => ?_)
        exact z_iret hC (fun h => h) dX12_tried_75
      refine z_tsw hC (3 : Int32) 76 (50) dX12_tried_26 (by decide) (by decide) (by decide) (by decide) (fun _ => ?_) (fun q11 => ?_)
      · refine z_aload_n hC 0 dX12_tried_76 rfl rfl ?_
        refine z_aload_n hC 0 dX12_tried_77 rfl rfl ?_
        refine z_getI hC lgRX12_313 dX12_tried_78 (fun v12 => ?_)
        refine z_aload_n hC 0 dX12_tried_81 rfl rfl ?_
        refine z_getI hC lgRX12_121 dX12_tried_82 (fun v13 => ?_)
        refine z_ixor hC dX12_tried_85 ?_
        refine z_callVi hC (ci := 12) rfl lmRX12_232 (ctX12_pricesOf (vLa V) (vDa V) (vTg V) (vBs V) (vSa V) w3.2 p0 (v12 ^^^ v13)) (by decide) hn0 dX12_tried_86 rfl rfl (Nat.le_of_ble_eq_true rfl) (fun v14 => ?_)
        exact z_iret hC (fun h => h) dX12_tried_89
      refine z_tswd hC 90 dX12_tried_26 (by decide) (by have eq4 := sw_ne q4 (z := 0) (by decide); have eq5 := sw_ne q5 (z := 1) (by decide); have eq7 := sw_ne q7 (z := 2) (by decide); have eq11 := sw_ne q11 (z := 3) (by decide); omega) ?_
      refine z_aload_n hC 0 dX12_tried_90 rfl rfl ?_
      refine z_getI hC lgRX12_316 dX12_tried_91 (fun v15 => ?_)
      exact z_iret hC (fun h => h) dX12_tried_94

theorem dX12_days_0 : decode cX12_days 0 = .ok (.iload_n 1, 1) := by decide +kernel
theorem dX12_days_1 : decode cX12_days 1 = .ok (.iconst 1, 1) := by decide +kernel
theorem dX12_days_2 : decode cX12_days 2 = .ok (.sipush 8640, 3) := by decide +kernel
theorem dX12_days_5 : decode cX12_days 5 = .ok (.invokestatic 99, 3) := by decide +kernel
theorem dX12_days_8 : decode cX12_days 8 = .ok (.ifCond .ne 5, 3) := by decide +kernel
theorem dX12_days_11 : decode cX12_days 11 = .ok (.iconst (-1), 1) := by decide +kernel
theorem dX12_days_12 : decode cX12_days 12 = .ok (.ireturn, 1) := by decide +kernel
theorem dX12_days_13 : decode cX12_days 13 = .ok (.aload_n 0, 1) := by decide +kernel
theorem dX12_days_14 : decode cX12_days 14 = .ok (.sipush 8640, 3) := by decide +kernel
theorem dX12_days_17 : decode cX12_days 17 = .ok (.aload_n 0, 1) := by decide +kernel
theorem dX12_days_18 : decode cX12_days 18 = .ok (.getfield 238, 3) := by decide +kernel
theorem dX12_days_21 : decode cX12_days 21 = .ok (.iload_n 1, 1) := by decide +kernel
theorem dX12_days_22 : decode cX12_days 22 = .ok (.iadd, 1) := by decide +kernel
theorem dX12_days_23 : decode cX12_days 23 = .ok (.invokestatic 340, 3) := by decide +kernel
theorem dX12_days_26 : decode cX12_days 26 = .ok (.putfield 238, 3) := by decide +kernel
theorem dX12_days_29 : decode cX12_days 29 = .ok (.aload_n 0, 1) := by decide +kernel
theorem dX12_days_30 : decode cX12_days 30 = .ok (.getfield 238, 3) := by decide +kernel
theorem dX12_days_33 : decode cX12_days 33 = .ok (.ireturn, 1) := by decide +kernel
def FX12_days (hp : HP) (p0 : Nat) (p1 : Int32) : Option (Int32 × HP) := (FX12_in p1 (1 : Int32) (8640 : Int32)).bind (fun v1 => if v1 = 0 then some ((-1 : Int32), hp) else (gI [12] 8 hp p0).bind (fun v2 => (FX12_min (8640 : Int32) (v2 + p1)).bind (fun v3 => (sI [12] 8 hp p0 v3).bind (fun hp4 => (gI [12] 8 hp4 p0).bind (fun v5 => some (v5, hp4))))))
set_option maxHeartbeats 4000000 in
set_option maxRecDepth 100000 in
theorem ctX12_days (l : Launch) (D : va_G) (tg : Nat → ClassId) (bs : Nat) (sa : Nat → Nat) (hp : HP) (p0 : Nat) (p1 : Int32) : Ct l D tg bs sa yX12_days cX12_days 2 (some .int) 1 [.ref p0, .int p1] hp (FX12_days hp p0 p1) (fun r => some (.int r.1)) (fun r => r.2) := by
  refine Ct.of (by decide) (Nat.le_of_ble_eq_true rfl) ?_
  intro V Q hVl hVd hVt hVb hVs hC
  subst hVl; subst hVd; subst hVt; subst hVb; subst hVs
  unfold FX12_days
  show Zs V Q (0, 0) 2 _ _ hp [(0, .ref p0), (1, .int p1)] 0 []
  refine z_iload_n hC 1 dX12_days_0 rfl rfl ?_
  refine z_iconst hC (1 : Int32) dX12_days_1 (by decide) ?_
  refine z_sipush hC (8640 : Int32) dX12_days_2 (by decide) ?_
  refine z_callSi hC lmRX12_99 (ctX12_in (vLa V) (vDa V) (vTg V) (vBs V) (vSa V) hp p1 (1 : Int32) (8640 : Int32)) (by decide) hn0 dX12_days_5 rfl rfl (Nat.le_of_ble_eq_true rfl) (fun v1 => ?_)
  refine z_if_ne hC 13 dX12_days_8 (by decide) (fun _ => ?_) (fun _ => ?_)
  · refine z_iconst hC (-1 : Int32) dX12_days_11 (by decide) ?_
    exact z_iret hC (fun h => h) dX12_days_12
  · refine z_aload_n hC 0 dX12_days_13 rfl rfl ?_
    refine z_sipush hC (8640 : Int32) dX12_days_14 (by decide) ?_
    refine z_aload_n hC 0 dX12_days_17 rfl rfl ?_
    refine z_getI hC lgRX12_238 dX12_days_18 (fun v2 => ?_)
    refine z_iload_n hC 1 dX12_days_21 rfl rfl ?_
    refine z_iadd hC dX12_days_22 ?_
    refine z_callSi hC lmRX12_340 (ctX12_min (vLa V) (vDa V) (vTg V) (vBs V) (vSa V) hp (8640 : Int32) (v2 + p1)) (by decide) hn0 dX12_days_23 rfl rfl (Nat.le_of_ble_eq_true rfl) (fun v3 => ?_)
    refine z_putI hC lpRX12_238 dX12_days_26 (fun hp4 => ?_)
    refine z_aload_n hC 0 dX12_days_29 rfl rfl ?_
    refine z_getI hC lgRX12_238 dX12_days_30 (fun v5 => ?_)
    exact z_iret hC (fun h => h) dX12_days_33

theorem dX12_fitMany_0 : decode cX12_fitMany 0 = .ok (.iconst 0, 1) := by decide +kernel
theorem dX12_fitMany_1 : decode cX12_fitMany 1 = .ok (.istore_n 1, 1) := by decide +kernel
theorem dX12_fitMany_2 : decode cX12_fitMany 2 = .ok (.iconst 0, 1) := by decide +kernel
theorem dX12_fitMany_3 : decode cX12_fitMany 3 = .ok (.istore_n 2, 1) := by decide +kernel
theorem dX12_fitMany_4 : decode cX12_fitMany 4 = .ok (.iload_n 2, 1) := by decide +kernel
theorem dX12_fitMany_5 : decode cX12_fitMany 5 = .ok (.sipush 1024, 3) := by decide +kernel
theorem dX12_fitMany_8 : decode cX12_fitMany 8 = .ok (.if_icmp .ge 26, 3) := by decide +kernel
theorem dX12_fitMany_11 : decode cX12_fitMany 11 = .ok (.iload_n 1, 1) := by decide +kernel
theorem dX12_fitMany_12 : decode cX12_fitMany 12 = .ok (.aload_n 0, 1) := by decide +kernel
theorem dX12_fitMany_13 : decode cX12_fitMany 13 = .ok (.getfield 20, 3) := by decide +kernel
theorem dX12_fitMany_16 : decode cX12_fitMany 16 = .ok (.iload_n 2, 1) := by decide +kernel
theorem dX12_fitMany_17 : decode cX12_fitMany 17 = .ok (.baload, 1) := by decide +kernel
theorem dX12_fitMany_18 : decode cX12_fitMany 18 = .ok (.ifCond .eq 7, 3) := by decide +kernel
theorem dX12_fitMany_21 : decode cX12_fitMany 21 = .ok (.iconst 1, 1) := by decide +kernel
theorem dX12_fitMany_22 : decode cX12_fitMany 22 = .ok (.goto 4, 3) := by decide +kernel
theorem dX12_fitMany_25 : decode cX12_fitMany 25 = .ok (.iconst 0, 1) := by decide +kernel
theorem dX12_fitMany_26 : decode cX12_fitMany 26 = .ok (.iadd, 1) := by decide +kernel
theorem dX12_fitMany_27 : decode cX12_fitMany 27 = .ok (.istore_n 1, 1) := by decide +kernel
theorem dX12_fitMany_28 : decode cX12_fitMany 28 = .ok (.iinc 2 1, 3) := by decide +kernel
theorem dX12_fitMany_31 : decode cX12_fitMany 31 = .ok (.goto (-27), 3) := by decide +kernel
theorem dX12_fitMany_34 : decode cX12_fitMany 34 = .ok (.iload_n 1, 1) := by decide +kernel
theorem dX12_fitMany_35 : decode cX12_fitMany 35 = .ok (.ireturn, 1) := by decide +kernel
def FX12_fitMany (hp : HP) (p0 : Nat) : Option (Int32) := (lp (fun (s1 : Int32 × Int32) => if (1024 : Int32) ≤ s1.2 then some (Sum.inl s1.1) else (gR [12] 3 hp p0).bind (fun v3 => (rdN 2 hp v3 s1.2).bind (fun v4 => if v4 = 0 then vl (s1.1 + (0 : Int32)) (fun x5 => vl (s1.2 + (1 : Int32)) (fun x6 => some (Sum.inr (x5, x6)))) else vl (s1.1 + (1 : Int32)) (fun x7 => vl (s1.2 + (1 : Int32)) (fun x8 => some (Sum.inr (x7, x8))))))) FU ((0 : Int32), (0 : Int32))).bind (fun (y2 : Int32) => some y2)
set_option maxHeartbeats 4000000 in
set_option maxRecDepth 100000 in
theorem ctX12_fitMany (l : Launch) (D : va_G) (tg : Nat → ClassId) (bs : Nat) (sa : Nat → Nat) (hp : HP) (p0 : Nat) : Ct l D tg bs sa yX12_fitMany cX12_fitMany 3 (some .int) 0 [.ref p0] hp (FX12_fitMany hp p0) (fun r => some (.int r)) (fun _ => hp) := by
  refine Ct.of (by decide) (Nat.le_of_ble_eq_true rfl) ?_
  intro V Q hVl hVd hVt hVb hVs hC
  subst hVl; subst hVd; subst hVt; subst hVb; subst hVs
  unfold FX12_fitMany
  show Zs V Q (0, 0) 3 _ _ hp [(0, .ref p0)] 0 []
  refine z_iconst hC (0 : Int32) dX12_fitMany_0 (by decide) ?_
  refine z_istore_n hC [(0, .ref p0), (1, .int (0 : Int32))] [1, 0] dX12_fitMany_1 rfl (by decide) rfl ?_
  refine z_iconst hC (0 : Int32) dX12_fitMany_2 (by decide) ?_
  refine z_istore_n hC [(0, .ref p0), (1, .int (0 : Int32)), (2, .int (0 : Int32))] [1, 2, 0] dX12_fitMany_3 rfl (by decide) rfl ?_
  refine z_lp (S := Int32 × Int32) (Y := Int32) (fun s1 => hp) (fun s1 => [(0, .ref p0), (1, .int s1.1), (2, .int s1.2)]) (fun y2 => hp) (fun y2 => [(1, .int y2)]) 34 [] (fun y2 => ?_) (fun s1 => ?_) rfl rfl
  · refine z_iload_n hC 0 dX12_fitMany_34 rfl rfl ?_
    exact z_iret hC (fun h => h) dX12_fitMany_35
  · refine z_iload_n hC 2 dX12_fitMany_4 rfl rfl ?_
    refine z_sipush hC (1024 : Int32) dX12_fitMany_5 (by decide) ?_
    refine z_icmp_ge hC 34 dX12_fitMany_8 (by decide) (fun _ => ?_) (fun _ => ?_)
    · refine z_weak [(1, .int s1.1)] [1] rfl ?_
      exact z_leaf (fun h => h)
    · refine z_iload_n hC 1 dX12_fitMany_11 rfl rfl ?_
      refine z_aload_n hC 0 dX12_fitMany_12 rfl rfl ?_
      refine z_getR hC lgRX12_20 dX12_fitMany_13 (fun v3 => ?_)
      refine z_iload_n hC 2 dX12_fitMany_16 rfl rfl ?_
      refine z_zald hC dX12_fitMany_17 (fun v4 => ?_)
      refine z_if_eq hC 25 dX12_fitMany_18 (by decide) (fun _ => ?_) (fun _ => ?_)
      · refine z_iconst hC (0 : Int32) dX12_fitMany_25 (by decide) ?_
        refine z_iadd hC dX12_fitMany_26 ?_
        refine z_vli (fun x5 => ?_)
        refine z_istore_n hC [(0, .ref p0), (1, .int x5), (2, .int s1.2)] [1, 0, 2] dX12_fitMany_27 rfl (by decide) rfl ?_
        refine z_iincv hC (1 : Int32) 2 (fun x6 => [(0, .ref p0), (1, .int x5), (2, .int x6)]) [1, 2, 0] dX12_fitMany_28 rfl (by decide) (by decide) (fun _ => rfl) (fun x6 => ?_)
        refine z_goto hC 4 dX12_fitMany_31 (by decide) ?_
        exact z_leaf (fun h => h)
      · refine z_iconst hC (1 : Int32) dX12_fitMany_21 (by decide) ?_
        refine z_goto hC 26 dX12_fitMany_22 (by decide) ?_
        refine z_iadd hC dX12_fitMany_26 ?_
        refine z_vli (fun x7 => ?_)
        refine z_istore_n hC [(0, .ref p0), (1, .int x7), (2, .int s1.2)] [1, 0, 2] dX12_fitMany_27 rfl (by decide) rfl ?_
        refine z_iincv hC (1 : Int32) 2 (fun x8 => [(0, .ref p0), (1, .int x7), (2, .int x8)]) [1, 2, 0] dX12_fitMany_28 rfl (by decide) (by decide) (fun _ => rfl) (fun x8 => ?_)
        refine z_goto hC 4 dX12_fitMany_31 (by decide) ?_
        exact z_leaf (fun h => h)

theorem dX12_fits_0 : decode cX12_fits 0 = .ok (.iload_n 1, 1) := by decide +kernel
theorem dX12_fits_1 : decode cX12_fits 1 = .ok (.iconst 0, 1) := by decide +kernel
theorem dX12_fits_2 : decode cX12_fits 2 = .ok (.iconst 5, 1) := by decide +kernel
theorem dX12_fits_3 : decode cX12_fits 3 = .ok (.invokestatic 99, 3) := by decide +kernel
theorem dX12_fits_6 : decode cX12_fits 6 = .ok (.ifCond .ne 5, 3) := by decide +kernel
theorem dX12_fits_9 : decode cX12_fits 9 = .ok (.iconst (-1), 1) := by decide +kernel
theorem dX12_fits_10 : decode cX12_fits 10 = .ok (.ireturn, 1) := by decide +kernel
theorem dX12_fits_11 : decode cX12_fits 11 = .ok (.iload_n 1, 1) := by decide +kernel
theorem dX12_fits_12 : decode cX12_fits 12 = .ok (.iconst 5, 1) := by decide +kernel
theorem dX12_fits_13 : decode cX12_fits 13 = .ok (.if_icmp .ne 21, 3) := by decide +kernel
theorem dX12_fits_16 : decode cX12_fits 16 = .ok (.aload_n 0, 1) := by decide +kernel
theorem dX12_fits_17 : decode cX12_fits 17 = .ok (.getfield 20, 3) := by decide +kernel
theorem dX12_fits_20 : decode cX12_fits 20 = .ok (.aload_n 0, 1) := by decide +kernel
theorem dX12_fits_21 : decode cX12_fits 21 = .ok (.getfield 121, 3) := by decide +kernel
theorem dX12_fits_24 : decode cX12_fits 24 = .ok (.baload, 1) := by decide +kernel
theorem dX12_fits_25 : decode cX12_fits 25 = .ok (.ifCond .eq 7, 3) := by decide +kernel
theorem dX12_fits_28 : decode cX12_fits 28 = .ok (.iconst 1, 1) := by decide +kernel
theorem dX12_fits_29 : decode cX12_fits 29 = .ok (.goto 4, 3) := by decide +kernel
theorem dX12_fits_32 : decode cX12_fits 32 = .ok (.iconst 0, 1) := by decide +kernel
theorem dX12_fits_33 : decode cX12_fits 33 = .ok (.ireturn, 1) := by decide +kernel
theorem dX12_fits_34 : decode cX12_fits 34 = .ok (.bipush (-2), 2) := by decide +kernel
theorem dX12_fits_36 : decode cX12_fits 36 = .ok (.istore_n 2, 1) := by decide +kernel
theorem dX12_fits_37 : decode cX12_fits 37 = .ok (.bipush (-2), 2) := by decide +kernel
theorem dX12_fits_39 : decode cX12_fits 39 = .ok (.istore_n 3, 1) := by decide +kernel
theorem dX12_fits_40 : decode cX12_fits 40 = .ok (.sipush 1023, 3) := by decide +kernel
theorem dX12_fits_43 : decode cX12_fits 43 = .ok (.istore 4, 2) := by decide +kernel
theorem dX12_fits_45 : decode cX12_fits 45 = .ok (.sipush 1023, 3) := by decide +kernel
theorem dX12_fits_48 : decode cX12_fits 48 = .ok (.istore 5, 2) := by decide +kernel
theorem dX12_fits_50 : decode cX12_fits 50 = .ok (.iconst 0, 1) := by decide +kernel
theorem dX12_fits_51 : decode cX12_fits 51 = .ok (.istore 6, 2) := by decide +kernel
theorem dX12_fits_53 : decode cX12_fits 53 = .ok (.iload 6, 2) := by decide +kernel
theorem dX12_fits_55 : decode cX12_fits 55 = .ok (.sipush 1024, 3) := by decide +kernel
theorem dX12_fits_58 : decode cX12_fits 58 = .ok (.if_icmp .ge 54, 3) := by decide +kernel
theorem dX12_fits_61 : decode cX12_fits 61 = .ok (.aload_n 0, 1) := by decide +kernel
theorem dX12_fits_62 : decode cX12_fits 62 = .ok (.getfield 20, 3) := by decide +kernel
theorem dX12_fits_65 : decode cX12_fits 65 = .ok (.iload 6, 2) := by decide +kernel
theorem dX12_fits_67 : decode cX12_fits 67 = .ok (.baload, 1) := by decide +kernel
theorem dX12_fits_68 : decode cX12_fits 68 = .ok (.ifCond .ne 6, 3) := by decide +kernel
theorem dX12_fits_71 : decode cX12_fits 71 = .ok (.goto 35, 3) := by decide +kernel
theorem dX12_fits_74 : decode cX12_fits 74 = .ok (.iload_n 2, 1) := by decide +kernel
theorem dX12_fits_75 : decode cX12_fits 75 = .ok (.bipush (-2), 2) := by decide +kernel
theorem dX12_fits_77 : decode cX12_fits 77 = .ok (.if_icmp .ne 8, 3) := by decide +kernel
theorem dX12_fits_80 : decode cX12_fits 80 = .ok (.iload 6, 2) := by decide +kernel
theorem dX12_fits_82 : decode cX12_fits 82 = .ok (.goto 4, 3) := by decide +kernel
theorem dX12_fits_85 : decode cX12_fits 85 = .ok (.iload_n 2, 1) := by decide +kernel
theorem dX12_fits_86 : decode cX12_fits 86 = .ok (.istore_n 2, 1) := by decide +kernel
theorem dX12_fits_87 : decode cX12_fits 87 = .ok (.iload 6, 2) := by decide +kernel
theorem dX12_fits_89 : decode cX12_fits 89 = .ok (.istore_n 3, 1) := by decide +kernel
theorem dX12_fits_90 : decode cX12_fits 90 = .ok (.iload 4, 2) := by decide +kernel
theorem dX12_fits_92 : decode cX12_fits 92 = .ok (.iload 6, 2) := by decide +kernel
theorem dX12_fits_94 : decode cX12_fits 94 = .ok (.iand, 1) := by decide +kernel
theorem dX12_fits_95 : decode cX12_fits 95 = .ok (.istore 4, 2) := by decide +kernel
theorem dX12_fits_97 : decode cX12_fits 97 = .ok (.iload 5, 2) := by decide +kernel
theorem dX12_fits_99 : decode cX12_fits 99 = .ok (.iload 6, 2) := by decide +kernel
theorem dX12_fits_101 : decode cX12_fits 101 = .ok (.iconst (-1), 1) := by decide +kernel
theorem dX12_fits_102 : decode cX12_fits 102 = .ok (.ixor, 1) := by decide +kernel
theorem dX12_fits_103 : decode cX12_fits 103 = .ok (.iand, 1) := by decide +kernel
theorem dX12_fits_104 : decode cX12_fits 104 = .ok (.istore 5, 2) := by decide +kernel
theorem dX12_fits_106 : decode cX12_fits 106 = .ok (.iinc 6 1, 3) := by decide +kernel
theorem dX12_fits_109 : decode cX12_fits 109 = .ok (.goto (-56), 3) := by decide +kernel
theorem dX12_fits_112 : decode cX12_fits 112 = .ok (.iload_n 1, 1) := by decide +kernel
theorem dX12_fits_113 : decode cX12_fits 113 = .ok (.ifCond .ne 8, 3) := by decide +kernel
theorem dX12_fits_116 : decode cX12_fits 116 = .ok (.aload_n 0, 1) := by decide +kernel
theorem dX12_fits_117 : decode cX12_fits 117 = .ok (.invokevirtual 349, 3) := by decide +kernel
theorem dX12_fits_120 : decode cX12_fits 120 = .ok (.ireturn, 1) := by decide +kernel
theorem dX12_fits_121 : decode cX12_fits 121 = .ok (.iload_n 3, 1) := by decide +kernel
theorem dX12_fits_122 : decode cX12_fits 122 = .ok (.bipush (-2), 2) := by decide +kernel
theorem dX12_fits_124 : decode cX12_fits 124 = .ok (.if_icmp .ne 6, 3) := by decide +kernel
theorem dX12_fits_127 : decode cX12_fits 127 = .ok (.bipush (-2), 2) := by decide +kernel
theorem dX12_fits_129 : decode cX12_fits 129 = .ok (.ireturn, 1) := by decide +kernel
theorem dX12_fits_130 : decode cX12_fits 130 = .ok (.iload_n 1, 1) := by decide +kernel
theorem dX12_fits_131 : decode cX12_fits 131 = .ok (.iconst 1, 1) := by decide +kernel
theorem dX12_fits_132 : decode cX12_fits 132 = .ok (.if_icmp .ne 7, 3) := by decide +kernel
theorem dX12_fits_135 : decode cX12_fits 135 = .ok (.iload_n 2, 1) := by decide +kernel
theorem dX12_fits_136 : decode cX12_fits 136 = .ok (.goto 24, 3) := by decide +kernel
theorem dX12_fits_139 : decode cX12_fits 139 = .ok (.iload_n 1, 1) := by decide +kernel
theorem dX12_fits_140 : decode cX12_fits 140 = .ok (.iconst 2, 1) := by decide +kernel
theorem dX12_fits_141 : decode cX12_fits 141 = .ok (.if_icmp .ne 7, 3) := by decide +kernel
theorem dX12_fits_144 : decode cX12_fits 144 = .ok (.iload_n 3, 1) := by decide +kernel
theorem dX12_fits_145 : decode cX12_fits 145 = .ok (.goto 15, 3) := by decide +kernel
theorem dX12_fits_148 : decode cX12_fits 148 = .ok (.iload_n 1, 1) := by decide +kernel
theorem dX12_fits_149 : decode cX12_fits 149 = .ok (.iconst 3, 1) := by decide +kernel
theorem dX12_fits_150 : decode cX12_fits 150 = .ok (.if_icmp .ne 8, 3) := by decide +kernel
theorem dX12_fits_153 : decode cX12_fits 153 = .ok (.iload 4, 2) := by decide +kernel
theorem dX12_fits_155 : decode cX12_fits 155 = .ok (.goto 5, 3) := by decide +kernel
theorem dX12_fits_158 : decode cX12_fits 158 = .ok (.iload 5, 2) := by decide +kernel
theorem dX12_fits_160 : decode cX12_fits 160 = .ok (.ireturn, 1) := by decide +kernel
def FX12_fits (hp : HP) (p0 : Nat) (p1 : Int32) : Option (Int32) := (FX12_in p1 (0 : Int32) (5 : Int32)).bind (fun v1 => if v1 = 0 then some (-1 : Int32) else if p1 = (5 : Int32) then (gR [12] 3 hp p0).bind (fun v2 => (gI [12] 7 hp p0).bind (fun v3 => (rdN 2 hp v2 v3).bind (fun v4 => if v4 = 0 then some (0 : Int32) else some (1 : Int32)))) else (lp (fun (s5 : Int32 × Int32 × Int32 × Int32 × Int32) => if (1024 : Int32) ≤ s5.2.2.2.2 then some (Sum.inl (s5.1, s5.2.1, s5.2.2.1, s5.2.2.2.1)) else (gR [12] 3 hp p0).bind (fun v8 => (rdN 2 hp v8 s5.2.2.2.2).bind (fun v9 => if v9 = 0 then vl (s5.2.2.2.2 + (1 : Int32)) (fun x10 => some (Sum.inr (s5.1, s5.2.1, s5.2.2.1, s5.2.2.2.1, x10))) else jn (A := Int32) (fun a11 => vl (s5.2.2.1 &&& s5.2.2.2.2) (fun x13 => vl (s5.2.2.2.1 &&& (s5.2.2.2.2 ^^^ (-1 : Int32))) (fun x14 => vl (s5.2.2.2.2 + (1 : Int32)) (fun x15 => some (Sum.inr (a11, s5.2.2.2.2, x13, x14, x15)))))) (fun J12 => if s5.1 = (-2 : Int32) then J12 s5.2.2.2.2 else J12 s5.1)))) FU ((-2 : Int32), (-2 : Int32), (1023 : Int32), (1023 : Int32), (0 : Int32))).bind (fun (y6 : Int32 × Int32 × Int32 × Int32) => if p1 = 0 then (rc [12] hp p0 (FX12_fitMany hp p0)).bind (fun v7 => some v7) else if y6.2.1 = (-2 : Int32) then some (-2 : Int32) else if p1 = (1 : Int32) then some y6.1 else if p1 = (2 : Int32) then some y6.2.1 else if p1 = (3 : Int32) then some y6.2.2.1 else some y6.2.2.2))
set_option maxHeartbeats 4000000 in
set_option maxRecDepth 100000 in
theorem ctX12_fits (l : Launch) (D : va_G) (tg : Nat → ClassId) (bs : Nat) (sa : Nat → Nat) (hp : HP) (p0 : Nat) (p1 : Int32) : Ct l D tg bs sa yX12_fits cX12_fits 7 (some .int) 1 [.ref p0, .int p1] hp (FX12_fits hp p0 p1) (fun r => some (.int r)) (fun _ => hp) := by
  refine Ct.of (by decide) (Nat.le_of_ble_eq_true rfl) ?_
  intro V Q hVl hVd hVt hVb hVs hC
  subst hVl; subst hVd; subst hVt; subst hVb; subst hVs
  unfold FX12_fits
  show Zs V Q (0, 0) 7 _ _ hp [(0, .ref p0), (1, .int p1)] 0 []
  refine z_iload_n hC 1 dX12_fits_0 rfl rfl ?_
  refine z_iconst hC (0 : Int32) dX12_fits_1 (by decide) ?_
  refine z_iconst hC (5 : Int32) dX12_fits_2 (by decide) ?_
  refine z_callSi hC lmRX12_99 (ctX12_in (vLa V) (vDa V) (vTg V) (vBs V) (vSa V) hp p1 (0 : Int32) (5 : Int32)) (by decide) hn0 dX12_fits_3 rfl rfl (Nat.le_of_ble_eq_true rfl) (fun v1 => ?_)
  refine z_if_ne hC 11 dX12_fits_6 (by decide) (fun _ => ?_) (fun _ => ?_)
  · refine z_iconst hC (-1 : Int32) dX12_fits_9 (by decide) ?_
    exact z_iret hC (fun h => h) dX12_fits_10
  · refine z_iload_n hC 1 dX12_fits_11 rfl rfl ?_
    refine z_iconst hC (5 : Int32) dX12_fits_12 (by decide) ?_
    refine z_icmp_ne hC 34 dX12_fits_13 (by decide) (fun _ => ?_) (fun _ => ?_)
    · refine z_aload_n hC 0 dX12_fits_16 rfl rfl ?_
      refine z_getR hC lgRX12_20 dX12_fits_17 (fun v2 => ?_)
      refine z_aload_n hC 0 dX12_fits_20 rfl rfl ?_
      refine z_getI hC lgRX12_121 dX12_fits_21 (fun v3 => ?_)
      refine z_zald hC dX12_fits_24 (fun v4 => ?_)
      refine z_if_eq hC 32 dX12_fits_25 (by decide) (fun _ => ?_) (fun _ => ?_)
      · refine z_iconst hC (0 : Int32) dX12_fits_32 (by decide) ?_
        exact z_iret hC (fun h => h) dX12_fits_33
      · refine z_iconst hC (1 : Int32) dX12_fits_28 (by decide) ?_
        refine z_goto hC 33 dX12_fits_29 (by decide) ?_
        exact z_iret hC (fun h => h) dX12_fits_33
    · refine z_bipush hC (-2 : Int32) dX12_fits_34 (by decide) ?_
      refine z_istore_n hC [(0, .ref p0), (1, .int p1), (2, .int (-2 : Int32))] [1, 2, 0] dX12_fits_36 rfl (by decide) rfl ?_
      refine z_bipush hC (-2 : Int32) dX12_fits_37 (by decide) ?_
      refine z_istore_n hC [(0, .ref p0), (1, .int p1), (2, .int (-2 : Int32)), (3, .int (-2 : Int32))] [1, 2, 3, 0] dX12_fits_39 rfl (by decide) rfl ?_
      refine z_sipush hC (1023 : Int32) dX12_fits_40 (by decide) ?_
      refine z_istore hC [(0, .ref p0), (1, .int p1), (2, .int (-2 : Int32)), (3, .int (-2 : Int32)), (4, .int (1023 : Int32))] [1, 2, 3, 4, 0] dX12_fits_43 (by decide) rfl ?_
      refine z_sipush hC (1023 : Int32) dX12_fits_45 (by decide) ?_
      refine z_istore hC [(0, .ref p0), (1, .int p1), (2, .int (-2 : Int32)), (3, .int (-2 : Int32)), (4, .int (1023 : Int32)), (5, .int (1023 : Int32))] [1, 2, 3, 4, 5, 0] dX12_fits_48 (by decide) rfl ?_
      refine z_iconst hC (0 : Int32) dX12_fits_50 (by decide) ?_
      refine z_istore hC [(0, .ref p0), (1, .int p1), (2, .int (-2 : Int32)), (3, .int (-2 : Int32)), (4, .int (1023 : Int32)), (5, .int (1023 : Int32)), (6, .int (0 : Int32))] [1, 2, 3, 4, 5, 6, 0] dX12_fits_51 (by decide) rfl ?_
      refine z_lp (S := Int32 × Int32 × Int32 × Int32 × Int32) (Y := Int32 × Int32 × Int32 × Int32) (fun s5 => hp) (fun s5 => [(0, .ref p0), (1, .int p1), (2, .int s5.1), (3, .int s5.2.1), (4, .int s5.2.2.1), (5, .int s5.2.2.2.1), (6, .int s5.2.2.2.2)]) (fun y6 => hp) (fun y6 => [(0, .ref p0), (1, .int p1), (2, .int y6.1), (3, .int y6.2.1), (4, .int y6.2.2.1), (5, .int y6.2.2.2)]) 112 [] (fun y6 => ?_) (fun s5 => ?_) rfl rfl
      · refine z_iload_n hC 1 dX12_fits_112 rfl rfl ?_
        refine z_if_ne hC 121 dX12_fits_113 (by decide) (fun _ => ?_) (fun _ => ?_)
        · refine z_aload_n hC 0 dX12_fits_116 rfl rfl ?_
          refine z_callVi hC (ci := 12) rfl lmRX12_349 (ctX12_fitMany (vLa V) (vDa V) (vTg V) (vBs V) (vSa V) hp p0) (by decide) hn0 dX12_fits_117 rfl rfl (Nat.le_of_ble_eq_true rfl) (fun v7 => ?_)
          exact z_iret hC (fun h => h) dX12_fits_120
        · refine z_iload_n hC 3 dX12_fits_121 rfl rfl ?_
          refine z_bipush hC (-2 : Int32) dX12_fits_122 (by decide) ?_
          refine z_icmp_ne hC 130 dX12_fits_124 (by decide) (fun _ => ?_) (fun _ => ?_)
          · refine z_bipush hC (-2 : Int32) dX12_fits_127 (by decide) ?_
            exact z_iret hC (fun h => h) dX12_fits_129
          · refine z_iload_n hC 1 dX12_fits_130 rfl rfl ?_
            refine z_iconst hC (1 : Int32) dX12_fits_131 (by decide) ?_
            refine z_icmp_ne hC 139 dX12_fits_132 (by decide) (fun _ => ?_) (fun _ => ?_)
            · refine z_iload_n hC 2 dX12_fits_135 rfl rfl ?_
              refine z_goto hC 160 dX12_fits_136 (by decide) ?_
              exact z_iret hC (fun h => h) dX12_fits_160
            · refine z_iload_n hC 1 dX12_fits_139 rfl rfl ?_
              refine z_iconst hC (2 : Int32) dX12_fits_140 (by decide) ?_
              refine z_icmp_ne hC 148 dX12_fits_141 (by decide) (fun _ => ?_) (fun _ => ?_)
              · refine z_iload_n hC 3 dX12_fits_144 rfl rfl ?_
                refine z_goto hC 160 dX12_fits_145 (by decide) ?_
                exact z_iret hC (fun h => h) dX12_fits_160
              · refine z_iload_n hC 1 dX12_fits_148 rfl rfl ?_
                refine z_iconst hC (3 : Int32) dX12_fits_149 (by decide) ?_
                refine z_icmp_ne hC 158 dX12_fits_150 (by decide) (fun _ => ?_) (fun _ => ?_)
                · refine z_iload hC 4 dX12_fits_153 rfl ?_
                  refine z_goto hC 160 dX12_fits_155 (by decide) ?_
                  exact z_iret hC (fun h => h) dX12_fits_160
                · refine z_iload hC 5 dX12_fits_158 rfl ?_
                  exact z_iret hC (fun h => h) dX12_fits_160
      · refine z_iload hC 6 dX12_fits_53 rfl ?_
        refine z_sipush hC (1024 : Int32) dX12_fits_55 (by decide) ?_
        refine z_icmp_ge hC 112 dX12_fits_58 (by decide) (fun _ => ?_) (fun _ => ?_)
        · refine z_weak [(0, .ref p0), (1, .int p1), (2, .int s5.1), (3, .int s5.2.1), (4, .int s5.2.2.1), (5, .int s5.2.2.2.1)] [0, 1, 2, 3, 4, 5] rfl ?_
          exact z_leaf (fun h => h)
        · refine z_aload_n hC 0 dX12_fits_61 rfl rfl ?_
          refine z_getR hC lgRX12_20 dX12_fits_62 (fun v8 => ?_)
          refine z_iload hC 6 dX12_fits_65 rfl ?_
          refine z_zald hC dX12_fits_67 (fun v9 => ?_)
          refine z_if_ne hC 74 dX12_fits_68 (by decide) (fun _ => ?_) (fun _ => ?_)
          · refine z_goto hC 106 dX12_fits_71 (by decide) ?_
            refine z_iincv hC (1 : Int32) 6 (fun x10 => [(0, .ref p0), (1, .int p1), (2, .int s5.1), (3, .int s5.2.1), (4, .int s5.2.2.1), (5, .int s5.2.2.2.1), (6, .int x10)]) [1, 2, 3, 4, 5, 6, 0] dX12_fits_106 rfl (by decide) (by decide) (fun _ => rfl) (fun x10 => ?_)
            refine z_goto hC 53 dX12_fits_109 (by decide) ?_
            exact z_leaf (fun h => h)
          · refine z_iload_n hC 2 dX12_fits_74 rfl rfl ?_
            refine z_bipush hC (-2 : Int32) dX12_fits_75 (by decide) ?_
            refine z_jn (A := Int32) (fun a11 => hp) (fun a11 => [(0, .ref p0), (1, .int p1), (4, .int s5.2.2.1), (5, .int s5.2.2.2.1), (6, .int s5.2.2.2.2)]) 86 (fun a11 => [.int a11]) (fun a11 => ?_) (fun J12 hJ12 => ?_)
            · refine z_istore_n hC [(0, .ref p0), (1, .int p1), (2, .int a11), (4, .int s5.2.2.1), (5, .int s5.2.2.2.1), (6, .int s5.2.2.2.2)] [1, 2, 0, 3, 4, 5] dX12_fits_86 rfl (by decide) rfl ?_
              refine z_iload hC 5 dX12_fits_87 rfl ?_
              refine z_istore_n hC [(0, .ref p0), (1, .int p1), (2, .int a11), (3, .int s5.2.2.2.2), (4, .int s5.2.2.1), (5, .int s5.2.2.2.1), (6, .int s5.2.2.2.2)] [1, 2, 3, 0, 4, 5, 6] dX12_fits_89 rfl (by decide) rfl ?_
              refine z_iload hC 4 dX12_fits_90 rfl ?_
              refine z_iload hC 6 dX12_fits_92 rfl ?_
              refine z_iand hC dX12_fits_94 ?_
              refine z_vli (fun x13 => ?_)
              refine z_istore hC [(0, .ref p0), (1, .int p1), (2, .int a11), (3, .int s5.2.2.2.2), (4, .int x13), (5, .int s5.2.2.2.1), (6, .int s5.2.2.2.2)] [1, 2, 3, 4, 0, 5, 6] dX12_fits_95 (by decide) rfl ?_
              refine z_iload hC 5 dX12_fits_97 rfl ?_
              refine z_iload hC 6 dX12_fits_99 rfl ?_
              refine z_iconst hC (-1 : Int32) dX12_fits_101 (by decide) ?_
              refine z_ixor hC dX12_fits_102 ?_
              refine z_iand hC dX12_fits_103 ?_
              refine z_vli (fun x14 => ?_)
              refine z_istore hC [(0, .ref p0), (1, .int p1), (2, .int a11), (3, .int s5.2.2.2.2), (4, .int x13), (5, .int x14), (6, .int s5.2.2.2.2)] [1, 2, 3, 4, 5, 0, 6] dX12_fits_104 (by decide) rfl ?_
              refine z_iincv hC (1 : Int32) 6 (fun x15 => [(0, .ref p0), (1, .int p1), (2, .int a11), (3, .int s5.2.2.2.2), (4, .int x13), (5, .int x14), (6, .int x15)]) [1, 2, 3, 4, 5, 6, 0] dX12_fits_106 rfl (by decide) (by decide) (fun _ => rfl) (fun x15 => ?_)
              refine z_goto hC 53 dX12_fits_109 (by decide) ?_
              exact z_leaf (fun h => h)
            · refine z_icmp_ne hC 85 dX12_fits_77 (by decide) (fun _ => ?_) (fun _ => ?_)
              · refine z_iload hC 6 dX12_fits_80 rfl ?_
                refine z_goto hC 86 dX12_fits_82 (by decide) ?_
                refine z_weak [(0, .ref p0), (1, .int p1), (4, .int s5.2.2.1), (5, .int s5.2.2.2.1), (6, .int s5.2.2.2.2)] [0, 1, 4, 5, 6] rfl ?_
                exact hJ12 s5.2.2.2.2
              · refine z_iload_n hC 2 dX12_fits_85 rfl rfl ?_
                refine z_weak [(0, .ref p0), (1, .int p1), (4, .int s5.2.2.1), (5, .int s5.2.2.2.1), (6, .int s5.2.2.2.2)] [0, 1, 4, 5, 6] rfl ?_
                exact hJ12 s5.1

theorem dX12_onOf_0 : decode cX12_onOf 0 = .ok (.iconst 0, 1) := by decide +kernel
theorem dX12_onOf_1 : decode cX12_onOf 1 = .ok (.istore_n 2, 1) := by decide +kernel
theorem dX12_onOf_2 : decode cX12_onOf 2 = .ok (.iconst 0, 1) := by decide +kernel
theorem dX12_onOf_3 : decode cX12_onOf 3 = .ok (.istore_n 3, 1) := by decide +kernel
theorem dX12_onOf_4 : decode cX12_onOf 4 = .ok (.iload_n 3, 1) := by decide +kernel
theorem dX12_onOf_5 : decode cX12_onOf 5 = .ok (.bipush 10, 2) := by decide +kernel
theorem dX12_onOf_7 : decode cX12_onOf 7 = .ok (.if_icmp .ge 53, 3) := by decide +kernel
theorem dX12_onOf_10 : decode cX12_onOf 10 = .ok (.iconst 0, 1) := by decide +kernel
theorem dX12_onOf_11 : decode cX12_onOf 11 = .ok (.istore 4, 2) := by decide +kernel
theorem dX12_onOf_13 : decode cX12_onOf 13 = .ok (.iload 4, 2) := by decide +kernel
theorem dX12_onOf_15 : decode cX12_onOf 15 = .ok (.sipush 1024, 3) := by decide +kernel
theorem dX12_onOf_18 : decode cX12_onOf 18 = .ok (.if_icmp .ge 36, 3) := by decide +kernel
theorem dX12_onOf_21 : decode cX12_onOf 21 = .ok (.aload_n 0, 1) := by decide +kernel
theorem dX12_onOf_22 : decode cX12_onOf 22 = .ok (.iload_n 1, 1) := by decide +kernel
theorem dX12_onOf_23 : decode cX12_onOf 23 = .ok (.iload 4, 2) := by decide +kernel
theorem dX12_onOf_25 : decode cX12_onOf 25 = .ok (.invokevirtual 310, 3) := by decide +kernel
theorem dX12_onOf_28 : decode cX12_onOf 28 = .ok (.aload_n 0, 1) := by decide +kernel
theorem dX12_onOf_29 : decode cX12_onOf 29 = .ok (.iload_n 1, 1) := by decide +kernel
theorem dX12_onOf_30 : decode cX12_onOf 30 = .ok (.iload 4, 2) := by decide +kernel
theorem dX12_onOf_32 : decode cX12_onOf 32 = .ok (.iconst 1, 1) := by decide +kernel
theorem dX12_onOf_33 : decode cX12_onOf 33 = .ok (.iload_n 3, 1) := by decide +kernel
theorem dX12_onOf_34 : decode cX12_onOf 34 = .ok (.ishl, 1) := by decide +kernel
theorem dX12_onOf_35 : decode cX12_onOf 35 = .ok (.ixor, 1) := by decide +kernel
theorem dX12_onOf_36 : decode cX12_onOf 36 = .ok (.invokevirtual 310, 3) := by decide +kernel
theorem dX12_onOf_39 : decode cX12_onOf 39 = .ok (.if_icmp .eq 9, 3) := by decide +kernel
theorem dX12_onOf_42 : decode cX12_onOf 42 = .ok (.iload_n 2, 1) := by decide +kernel
theorem dX12_onOf_43 : decode cX12_onOf 43 = .ok (.iconst 1, 1) := by decide +kernel
theorem dX12_onOf_44 : decode cX12_onOf 44 = .ok (.iload_n 3, 1) := by decide +kernel
theorem dX12_onOf_45 : decode cX12_onOf 45 = .ok (.ishl, 1) := by decide +kernel
theorem dX12_onOf_46 : decode cX12_onOf 46 = .ok (.ior, 1) := by decide +kernel
theorem dX12_onOf_47 : decode cX12_onOf 47 = .ok (.istore_n 2, 1) := by decide +kernel
theorem dX12_onOf_48 : decode cX12_onOf 48 = .ok (.iinc 4 1, 3) := by decide +kernel
theorem dX12_onOf_51 : decode cX12_onOf 51 = .ok (.goto (-38), 3) := by decide +kernel
theorem dX12_onOf_54 : decode cX12_onOf 54 = .ok (.iinc 3 1, 3) := by decide +kernel
theorem dX12_onOf_57 : decode cX12_onOf 57 = .ok (.goto (-53), 3) := by decide +kernel
theorem dX12_onOf_60 : decode cX12_onOf 60 = .ok (.iload_n 2, 1) := by decide +kernel
theorem dX12_onOf_61 : decode cX12_onOf 61 = .ok (.ireturn, 1) := by decide +kernel
def FX12_onOf (hp : HP) (p0 : Nat) (p1 : Int32) : Option (Int32) := (lp (fun (s1 : Int32 × Int32) => if (10 : Int32) ≤ s1.2 then some (Sum.inl s1.1) else (lp (fun (s3 : Int32 × Int32) => if (1024 : Int32) ≤ s3.2 then some (Sum.inl s3.1) else (rc [12] hp p0 (FX12_holdsIn hp p0 p1 s3.2)).bind (fun v6 => (rc [12] hp p0 (FX12_holdsIn hp p0 p1 (s3.2 ^^^ ((1 : Int32) <<< (s1.2 &&& 31))))).bind (fun v7 => if v6 = v7 then vl (s3.2 + (1 : Int32)) (fun x8 => some (Sum.inr (s3.1, x8))) else vl (s3.1 ||| ((1 : Int32) <<< (s1.2 &&& 31))) (fun x9 => vl (s3.2 + (1 : Int32)) (fun x10 => some (Sum.inr (x9, x10))))))) FU (s1.1, (0 : Int32))).bind (fun (y4 : Int32) => vl (s1.2 + (1 : Int32)) (fun x5 => some (Sum.inr (y4, x5))))) FU ((0 : Int32), (0 : Int32))).bind (fun (y2 : Int32) => some y2)
set_option maxHeartbeats 4000000 in
set_option maxRecDepth 100000 in
theorem ctX12_onOf (l : Launch) (D : va_G) (tg : Nat → ClassId) (bs : Nat) (sa : Nat → Nat) (hp : HP) (p0 : Nat) (p1 : Int32) : Ct l D tg bs sa yX12_onOf cX12_onOf 5 (some .int) 1 [.ref p0, .int p1] hp (FX12_onOf hp p0 p1) (fun r => some (.int r)) (fun _ => hp) := by
  refine Ct.of (by decide) (Nat.le_of_ble_eq_true rfl) ?_
  intro V Q hVl hVd hVt hVb hVs hC
  subst hVl; subst hVd; subst hVt; subst hVb; subst hVs
  unfold FX12_onOf
  show Zs V Q (0, 0) 5 _ _ hp [(0, .ref p0), (1, .int p1)] 0 []
  refine z_iconst hC (0 : Int32) dX12_onOf_0 (by decide) ?_
  refine z_istore_n hC [(0, .ref p0), (1, .int p1), (2, .int (0 : Int32))] [1, 2, 0] dX12_onOf_1 rfl (by decide) rfl ?_
  refine z_iconst hC (0 : Int32) dX12_onOf_2 (by decide) ?_
  refine z_istore_n hC [(0, .ref p0), (1, .int p1), (2, .int (0 : Int32)), (3, .int (0 : Int32))] [1, 2, 3, 0] dX12_onOf_3 rfl (by decide) rfl ?_
  refine z_lp (S := Int32 × Int32) (Y := Int32) (fun s1 => hp) (fun s1 => [(0, .ref p0), (1, .int p1), (2, .int s1.1), (3, .int s1.2)]) (fun y2 => hp) (fun y2 => [(2, .int y2)]) 60 [] (fun y2 => ?_) (fun s1 => ?_) rfl rfl
  · refine z_iload_n hC 0 dX12_onOf_60 rfl rfl ?_
    exact z_iret hC (fun h => h) dX12_onOf_61
  · refine z_iload_n hC 3 dX12_onOf_4 rfl rfl ?_
    refine z_bipush hC (10 : Int32) dX12_onOf_5 (by decide) ?_
    refine z_icmp_ge hC 60 dX12_onOf_7 (by decide) (fun _ => ?_) (fun _ => ?_)
    · refine z_weak [(2, .int s1.1)] [2] rfl ?_
      exact z_leaf (fun h => h)
    · refine z_iconst hC (0 : Int32) dX12_onOf_10 (by decide) ?_
      refine z_istore hC [(0, .ref p0), (1, .int p1), (2, .int s1.1), (3, .int s1.2), (4, .int (0 : Int32))] [1, 2, 3, 4, 0] dX12_onOf_11 (by decide) rfl ?_
      refine z_lp (S := Int32 × Int32) (Y := Int32) (fun s3 => hp) (fun s3 => [(0, .ref p0), (1, .int p1), (2, .int s3.1), (3, .int s1.2), (4, .int s3.2)]) (fun y4 => hp) (fun y4 => [(0, .ref p0), (1, .int p1), (2, .int y4), (3, .int s1.2)]) 54 [] (fun y4 => ?_) (fun s3 => ?_) rfl rfl
      · refine z_iincv hC (1 : Int32) 3 (fun x5 => [(0, .ref p0), (1, .int p1), (2, .int y4), (3, .int x5)]) [1, 2, 3, 0] dX12_onOf_54 rfl (by decide) (by decide) (fun _ => rfl) (fun x5 => ?_)
        refine z_goto hC 4 dX12_onOf_57 (by decide) ?_
        exact z_leaf (fun h => h)
      · refine z_iload hC 4 dX12_onOf_13 rfl ?_
        refine z_sipush hC (1024 : Int32) dX12_onOf_15 (by decide) ?_
        refine z_icmp_ge hC 54 dX12_onOf_18 (by decide) (fun _ => ?_) (fun _ => ?_)
        · refine z_weak [(0, .ref p0), (1, .int p1), (2, .int s3.1), (3, .int s1.2)] [0, 1, 2, 3] rfl ?_
          exact z_leaf (fun h => h)
        · refine z_aload_n hC 0 dX12_onOf_21 rfl rfl ?_
          refine z_iload_n hC 1 dX12_onOf_22 rfl rfl ?_
          refine z_iload hC 4 dX12_onOf_23 rfl ?_
          refine z_callVi hC (ci := 12) rfl lmRX12_310 (ctX12_holdsIn (vLa V) (vDa V) (vTg V) (vBs V) (vSa V) hp p0 p1 s3.2) (by decide) hn0 dX12_onOf_25 rfl rfl (Nat.le_of_ble_eq_true rfl) (fun v6 => ?_)
          refine z_aload_n hC 0 dX12_onOf_28 rfl rfl ?_
          refine z_iload_n hC 1 dX12_onOf_29 rfl rfl ?_
          refine z_iload hC 4 dX12_onOf_30 rfl ?_
          refine z_iconst hC (1 : Int32) dX12_onOf_32 (by decide) ?_
          refine z_iload_n hC 3 dX12_onOf_33 rfl rfl ?_
          refine z_ishl hC dX12_onOf_34 ?_
          refine z_ixor hC dX12_onOf_35 ?_
          refine z_callVi hC (ci := 12) rfl lmRX12_310 (ctX12_holdsIn (vLa V) (vDa V) (vTg V) (vBs V) (vSa V) hp p0 p1 (s3.2 ^^^ ((1 : Int32) <<< (s1.2 &&& 31)))) (by decide) hn0 dX12_onOf_36 rfl rfl (Nat.le_of_ble_eq_true rfl) (fun v7 => ?_)
          refine z_icmp_eq hC 48 dX12_onOf_39 (by decide) (fun _ => ?_) (fun _ => ?_)
          · refine z_iincv hC (1 : Int32) 4 (fun x8 => [(0, .ref p0), (1, .int p1), (2, .int s3.1), (3, .int s1.2), (4, .int x8)]) [1, 2, 3, 4, 0] dX12_onOf_48 rfl (by decide) (by decide) (fun _ => rfl) (fun x8 => ?_)
            refine z_goto hC 13 dX12_onOf_51 (by decide) ?_
            exact z_leaf (fun h => h)
          · refine z_iload_n hC 2 dX12_onOf_42 rfl rfl ?_
            refine z_iconst hC (1 : Int32) dX12_onOf_43 (by decide) ?_
            refine z_iload_n hC 3 dX12_onOf_44 rfl rfl ?_
            refine z_ishl hC dX12_onOf_45 ?_
            refine z_ior hC dX12_onOf_46 ?_
            refine z_vli (fun x9 => ?_)
            refine z_istore_n hC [(0, .ref p0), (1, .int p1), (2, .int x9), (3, .int s1.2), (4, .int s3.2)] [1, 2, 0, 3, 4] dX12_onOf_47 rfl (by decide) rfl ?_
            refine z_iincv hC (1 : Int32) 4 (fun x10 => [(0, .ref p0), (1, .int p1), (2, .int x9), (3, .int s1.2), (4, .int x10)]) [1, 2, 3, 4, 0] dX12_onOf_48 rfl (by decide) (by decide) (fun _ => rfl) (fun x10 => ?_)
            refine z_goto hC 13 dX12_onOf_51 (by decide) ?_
            exact z_leaf (fun h => h)

theorem dX12_risingOf_0 : decode cX12_risingOf 0 = .ok (.aload_n 0, 1) := by decide +kernel
theorem dX12_risingOf_1 : decode cX12_risingOf 1 = .ok (.iload_n 1, 1) := by decide +kernel
theorem dX12_risingOf_2 : decode cX12_risingOf 2 = .ok (.invokevirtual 352, 3) := by decide +kernel
theorem dX12_risingOf_5 : decode cX12_risingOf 5 = .ok (.istore_n 2, 1) := by decide +kernel
theorem dX12_risingOf_6 : decode cX12_risingOf 6 = .ok (.iconst 0, 1) := by decide +kernel
theorem dX12_risingOf_7 : decode cX12_risingOf 7 = .ok (.istore_n 3, 1) := by decide +kernel
theorem dX12_risingOf_8 : decode cX12_risingOf 8 = .ok (.iload_n 3, 1) := by decide +kernel
theorem dX12_risingOf_9 : decode cX12_risingOf 9 = .ok (.bipush 10, 2) := by decide +kernel
theorem dX12_risingOf_11 : decode cX12_risingOf 11 = .ok (.if_icmp .ge 67, 3) := by decide +kernel
theorem dX12_risingOf_14 : decode cX12_risingOf 14 = .ok (.iconst 0, 1) := by decide +kernel
theorem dX12_risingOf_15 : decode cX12_risingOf 15 = .ok (.istore 4, 2) := by decide +kernel
theorem dX12_risingOf_17 : decode cX12_risingOf 17 = .ok (.iload 4, 2) := by decide +kernel
theorem dX12_risingOf_19 : decode cX12_risingOf 19 = .ok (.sipush 1024, 3) := by decide +kernel
theorem dX12_risingOf_22 : decode cX12_risingOf 22 = .ok (.if_icmp .ge 50, 3) := by decide +kernel
theorem dX12_risingOf_25 : decode cX12_risingOf 25 = .ok (.iload 4, 2) := by decide +kernel
theorem dX12_risingOf_27 : decode cX12_risingOf 27 = .ok (.iload_n 3, 1) := by decide +kernel
theorem dX12_risingOf_28 : decode cX12_risingOf 28 = .ok (.invokestatic 107, 3) := by decide +kernel
theorem dX12_risingOf_31 : decode cX12_risingOf 31 = .ok (.ifCond .ne 35, 3) := by decide +kernel
theorem dX12_risingOf_34 : decode cX12_risingOf 34 = .ok (.aload_n 0, 1) := by decide +kernel
theorem dX12_risingOf_35 : decode cX12_risingOf 35 = .ok (.iload_n 1, 1) := by decide +kernel
theorem dX12_risingOf_36 : decode cX12_risingOf 36 = .ok (.iload 4, 2) := by decide +kernel
theorem dX12_risingOf_38 : decode cX12_risingOf 38 = .ok (.invokevirtual 310, 3) := by decide +kernel
theorem dX12_risingOf_41 : decode cX12_risingOf 41 = .ok (.ifCond .eq 25, 3) := by decide +kernel
theorem dX12_risingOf_44 : decode cX12_risingOf 44 = .ok (.aload_n 0, 1) := by decide +kernel
theorem dX12_risingOf_45 : decode cX12_risingOf 45 = .ok (.iload_n 1, 1) := by decide +kernel
theorem dX12_risingOf_46 : decode cX12_risingOf 46 = .ok (.iload 4, 2) := by decide +kernel
theorem dX12_risingOf_48 : decode cX12_risingOf 48 = .ok (.iconst 1, 1) := by decide +kernel
theorem dX12_risingOf_49 : decode cX12_risingOf 49 = .ok (.iload_n 3, 1) := by decide +kernel
theorem dX12_risingOf_50 : decode cX12_risingOf 50 = .ok (.ishl, 1) := by decide +kernel
theorem dX12_risingOf_51 : decode cX12_risingOf 51 = .ok (.ior, 1) := by decide +kernel
theorem dX12_risingOf_52 : decode cX12_risingOf 52 = .ok (.invokevirtual 310, 3) := by decide +kernel
theorem dX12_risingOf_55 : decode cX12_risingOf 55 = .ok (.ifCond .ne 11, 3) := by decide +kernel
theorem dX12_risingOf_58 : decode cX12_risingOf 58 = .ok (.iload_n 2, 1) := by decide +kernel
theorem dX12_risingOf_59 : decode cX12_risingOf 59 = .ok (.iconst 1, 1) := by decide +kernel
theorem dX12_risingOf_60 : decode cX12_risingOf 60 = .ok (.iload_n 3, 1) := by decide +kernel
theorem dX12_risingOf_61 : decode cX12_risingOf 61 = .ok (.ishl, 1) := by decide +kernel
theorem dX12_risingOf_62 : decode cX12_risingOf 62 = .ok (.iconst (-1), 1) := by decide +kernel
theorem dX12_risingOf_63 : decode cX12_risingOf 63 = .ok (.ixor, 1) := by decide +kernel
theorem dX12_risingOf_64 : decode cX12_risingOf 64 = .ok (.iand, 1) := by decide +kernel
theorem dX12_risingOf_65 : decode cX12_risingOf 65 = .ok (.istore_n 2, 1) := by decide +kernel
theorem dX12_risingOf_66 : decode cX12_risingOf 66 = .ok (.iinc 4 1, 3) := by decide +kernel
theorem dX12_risingOf_69 : decode cX12_risingOf 69 = .ok (.goto (-52), 3) := by decide +kernel
theorem dX12_risingOf_72 : decode cX12_risingOf 72 = .ok (.iinc 3 1, 3) := by decide +kernel
theorem dX12_risingOf_75 : decode cX12_risingOf 75 = .ok (.goto (-67), 3) := by decide +kernel
theorem dX12_risingOf_78 : decode cX12_risingOf 78 = .ok (.iload_n 2, 1) := by decide +kernel
theorem dX12_risingOf_79 : decode cX12_risingOf 79 = .ok (.ireturn, 1) := by decide +kernel
def FX12_risingOf (hp : HP) (p0 : Nat) (p1 : Int32) : Option (Int32) := (rc [12] hp p0 (FX12_onOf hp p0 p1)).bind (fun v1 => (lp (fun (s2 : Int32 × Int32) => if (10 : Int32) ≤ s2.2 then some (Sum.inl s2.1) else (lp (fun (s4 : Int32 × Int32) => if (1024 : Int32) ≤ s4.2 then some (Sum.inl s4.1) else (FX12_has s4.2 s2.2).bind (fun v7 => if v7 = 0 then (rc [12] hp p0 (FX12_holdsIn hp p0 p1 s4.2)).bind (fun v8 => if v8 = 0 then vl (s4.2 + (1 : Int32)) (fun x9 => some (Sum.inr (s4.1, x9))) else (rc [12] hp p0 (FX12_holdsIn hp p0 p1 (s4.2 ||| ((1 : Int32) <<< (s2.2 &&& 31))))).bind (fun v10 => if v10 = 0 then vl (s4.1 &&& (((1 : Int32) <<< (s2.2 &&& 31)) ^^^ (-1 : Int32))) (fun x11 => vl (s4.2 + (1 : Int32)) (fun x12 => some (Sum.inr (x11, x12)))) else vl (s4.2 + (1 : Int32)) (fun x13 => some (Sum.inr (s4.1, x13))))) else vl (s4.2 + (1 : Int32)) (fun x14 => some (Sum.inr (s4.1, x14))))) FU (s2.1, (0 : Int32))).bind (fun (y5 : Int32) => vl (s2.2 + (1 : Int32)) (fun x6 => some (Sum.inr (y5, x6))))) FU (v1, (0 : Int32))).bind (fun (y3 : Int32) => some y3))
set_option maxHeartbeats 4000000 in
set_option maxRecDepth 100000 in
theorem ctX12_risingOf (l : Launch) (D : va_G) (tg : Nat → ClassId) (bs : Nat) (sa : Nat → Nat) (hp : HP) (p0 : Nat) (p1 : Int32) : Ct l D tg bs sa yX12_risingOf cX12_risingOf 5 (some .int) 2 [.ref p0, .int p1] hp (FX12_risingOf hp p0 p1) (fun r => some (.int r)) (fun _ => hp) := by
  refine Ct.of (by decide) (Nat.le_of_ble_eq_true rfl) ?_
  intro V Q hVl hVd hVt hVb hVs hC
  subst hVl; subst hVd; subst hVt; subst hVb; subst hVs
  unfold FX12_risingOf
  show Zs V Q (0, 0) 5 _ _ hp [(0, .ref p0), (1, .int p1)] 0 []
  refine z_aload_n hC 0 dX12_risingOf_0 rfl rfl ?_
  refine z_iload_n hC 1 dX12_risingOf_1 rfl rfl ?_
  refine z_callVi hC (ci := 12) rfl lmRX12_352 (ctX12_onOf (vLa V) (vDa V) (vTg V) (vBs V) (vSa V) hp p0 p1) (by decide) hn0 dX12_risingOf_2 rfl rfl (Nat.le_of_ble_eq_true rfl) (fun v1 => ?_)
  refine z_istore_n hC [(0, .ref p0), (1, .int p1), (2, .int v1)] [1, 2, 0] dX12_risingOf_5 rfl (by decide) rfl ?_
  refine z_iconst hC (0 : Int32) dX12_risingOf_6 (by decide) ?_
  refine z_istore_n hC [(0, .ref p0), (1, .int p1), (2, .int v1), (3, .int (0 : Int32))] [1, 2, 3, 0] dX12_risingOf_7 rfl (by decide) rfl ?_
  refine z_lp (S := Int32 × Int32) (Y := Int32) (fun s2 => hp) (fun s2 => [(0, .ref p0), (1, .int p1), (2, .int s2.1), (3, .int s2.2)]) (fun y3 => hp) (fun y3 => [(2, .int y3)]) 78 [] (fun y3 => ?_) (fun s2 => ?_) rfl rfl
  · refine z_iload_n hC 0 dX12_risingOf_78 rfl rfl ?_
    exact z_iret hC (fun h => h) dX12_risingOf_79
  · refine z_iload_n hC 3 dX12_risingOf_8 rfl rfl ?_
    refine z_bipush hC (10 : Int32) dX12_risingOf_9 (by decide) ?_
    refine z_icmp_ge hC 78 dX12_risingOf_11 (by decide) (fun _ => ?_) (fun _ => ?_)
    · refine z_weak [(2, .int s2.1)] [2] rfl ?_
      exact z_leaf (fun h => h)
    · refine z_iconst hC (0 : Int32) dX12_risingOf_14 (by decide) ?_
      refine z_istore hC [(0, .ref p0), (1, .int p1), (2, .int s2.1), (3, .int s2.2), (4, .int (0 : Int32))] [1, 2, 3, 4, 0] dX12_risingOf_15 (by decide) rfl ?_
      refine z_lp (S := Int32 × Int32) (Y := Int32) (fun s4 => hp) (fun s4 => [(0, .ref p0), (1, .int p1), (2, .int s4.1), (3, .int s2.2), (4, .int s4.2)]) (fun y5 => hp) (fun y5 => [(0, .ref p0), (1, .int p1), (2, .int y5), (3, .int s2.2)]) 72 [] (fun y5 => ?_) (fun s4 => ?_) rfl rfl
      · refine z_iincv hC (1 : Int32) 3 (fun x6 => [(0, .ref p0), (1, .int p1), (2, .int y5), (3, .int x6)]) [1, 2, 3, 0] dX12_risingOf_72 rfl (by decide) (by decide) (fun _ => rfl) (fun x6 => ?_)
        refine z_goto hC 8 dX12_risingOf_75 (by decide) ?_
        exact z_leaf (fun h => h)
      · refine z_iload hC 4 dX12_risingOf_17 rfl ?_
        refine z_sipush hC (1024 : Int32) dX12_risingOf_19 (by decide) ?_
        refine z_icmp_ge hC 72 dX12_risingOf_22 (by decide) (fun _ => ?_) (fun _ => ?_)
        · refine z_weak [(0, .ref p0), (1, .int p1), (2, .int s4.1), (3, .int s2.2)] [0, 1, 2, 3] rfl ?_
          exact z_leaf (fun h => h)
        · refine z_iload hC 4 dX12_risingOf_25 rfl ?_
          refine z_iload_n hC 3 dX12_risingOf_27 rfl rfl ?_
          refine z_callSi hC lmRX12_107 (ctX12_has (vLa V) (vDa V) (vTg V) (vBs V) (vSa V) hp s4.2 s2.2) (by decide) hn0 dX12_risingOf_28 rfl rfl (Nat.le_of_ble_eq_true rfl) (fun v7 => ?_)
          refine z_if_ne hC 66 dX12_risingOf_31 (by decide) (fun _ => ?_) (fun _ => ?_)
          · refine z_aload_n hC 0 dX12_risingOf_34 rfl rfl ?_
            refine z_iload_n hC 1 dX12_risingOf_35 rfl rfl ?_
            refine z_iload hC 4 dX12_risingOf_36 rfl ?_
            refine z_callVi hC (ci := 12) rfl lmRX12_310 (ctX12_holdsIn (vLa V) (vDa V) (vTg V) (vBs V) (vSa V) hp p0 p1 s4.2) (by decide) hn0 dX12_risingOf_38 rfl rfl (Nat.le_of_ble_eq_true rfl) (fun v8 => ?_)
            refine z_if_eq hC 66 dX12_risingOf_41 (by decide) (fun _ => ?_) (fun _ => ?_)
            · refine z_iincv hC (1 : Int32) 4 (fun x9 => [(0, .ref p0), (1, .int p1), (2, .int s4.1), (3, .int s2.2), (4, .int x9)]) [1, 2, 3, 4, 0] dX12_risingOf_66 rfl (by decide) (by decide) (fun _ => rfl) (fun x9 => ?_)
              refine z_goto hC 17 dX12_risingOf_69 (by decide) ?_
              exact z_leaf (fun h => h)
            · refine z_aload_n hC 0 dX12_risingOf_44 rfl rfl ?_
              refine z_iload_n hC 1 dX12_risingOf_45 rfl rfl ?_
              refine z_iload hC 4 dX12_risingOf_46 rfl ?_
              refine z_iconst hC (1 : Int32) dX12_risingOf_48 (by decide) ?_
              refine z_iload_n hC 3 dX12_risingOf_49 rfl rfl ?_
              refine z_ishl hC dX12_risingOf_50 ?_
              refine z_ior hC dX12_risingOf_51 ?_
              refine z_callVi hC (ci := 12) rfl lmRX12_310 (ctX12_holdsIn (vLa V) (vDa V) (vTg V) (vBs V) (vSa V) hp p0 p1 (s4.2 ||| ((1 : Int32) <<< (s2.2 &&& 31)))) (by decide) hn0 dX12_risingOf_52 rfl rfl (Nat.le_of_ble_eq_true rfl) (fun v10 => ?_)
              refine z_if_ne hC 66 dX12_risingOf_55 (by decide) (fun _ => ?_) (fun _ => ?_)
              · refine z_iload_n hC 2 dX12_risingOf_58 rfl rfl ?_
                refine z_iconst hC (1 : Int32) dX12_risingOf_59 (by decide) ?_
                refine z_iload_n hC 3 dX12_risingOf_60 rfl rfl ?_
                refine z_ishl hC dX12_risingOf_61 ?_
                refine z_iconst hC (-1 : Int32) dX12_risingOf_62 (by decide) ?_
                refine z_ixor hC dX12_risingOf_63 ?_
                refine z_iand hC dX12_risingOf_64 ?_
                refine z_vli (fun x11 => ?_)
                refine z_istore_n hC [(0, .ref p0), (1, .int p1), (2, .int x11), (3, .int s2.2), (4, .int s4.2)] [1, 2, 0, 3, 4] dX12_risingOf_65 rfl (by decide) rfl ?_
                refine z_iincv hC (1 : Int32) 4 (fun x12 => [(0, .ref p0), (1, .int p1), (2, .int x11), (3, .int s2.2), (4, .int x12)]) [1, 2, 3, 4, 0] dX12_risingOf_66 rfl (by decide) (by decide) (fun _ => rfl) (fun x12 => ?_)
                refine z_goto hC 17 dX12_risingOf_69 (by decide) ?_
                exact z_leaf (fun h => h)
              · refine z_iincv hC (1 : Int32) 4 (fun x13 => [(0, .ref p0), (1, .int p1), (2, .int s4.1), (3, .int s2.2), (4, .int x13)]) [1, 2, 3, 4, 0] dX12_risingOf_66 rfl (by decide) (by decide) (fun _ => rfl) (fun x13 => ?_)
                refine z_goto hC 17 dX12_risingOf_69 (by decide) ?_
                exact z_leaf (fun h => h)
          · refine z_iincv hC (1 : Int32) 4 (fun x14 => [(0, .ref p0), (1, .int p1), (2, .int s4.1), (3, .int s2.2), (4, .int x14)]) [1, 2, 3, 4, 0] dX12_risingOf_66 rfl (by decide) (by decide) (fun _ => rfl) (fun x14 => ?_)
            refine z_goto hC 17 dX12_risingOf_69 (by decide) ?_
            exact z_leaf (fun h => h)

theorem dX12_fitsWith_0 : decode cX12_fitsWith 0 = .ok (.iconst 0, 1) := by decide +kernel
theorem dX12_fitsWith_1 : decode cX12_fitsWith 1 = .ok (.istore_n 2, 1) := by decide +kernel
theorem dX12_fitsWith_2 : decode cX12_fitsWith 2 = .ok (.iconst 0, 1) := by decide +kernel
theorem dX12_fitsWith_3 : decode cX12_fitsWith 3 = .ok (.istore_n 3, 1) := by decide +kernel
theorem dX12_fitsWith_4 : decode cX12_fitsWith 4 = .ok (.iload_n 3, 1) := by decide +kernel
theorem dX12_fitsWith_5 : decode cX12_fitsWith 5 = .ok (.sipush 1024, 3) := by decide +kernel
theorem dX12_fitsWith_8 : decode cX12_fitsWith 8 = .ok (.if_icmp .ge 35, 3) := by decide +kernel
theorem dX12_fitsWith_11 : decode cX12_fitsWith 11 = .ok (.iload_n 2, 1) := by decide +kernel
theorem dX12_fitsWith_12 : decode cX12_fitsWith 12 = .ok (.aload_n 0, 1) := by decide +kernel
theorem dX12_fitsWith_13 : decode cX12_fitsWith 13 = .ok (.getfield 20, 3) := by decide +kernel
theorem dX12_fitsWith_16 : decode cX12_fitsWith 16 = .ok (.iload_n 3, 1) := by decide +kernel
theorem dX12_fitsWith_17 : decode cX12_fitsWith 17 = .ok (.baload, 1) := by decide +kernel
theorem dX12_fitsWith_18 : decode cX12_fitsWith 18 = .ok (.ifCond .eq 16, 3) := by decide +kernel
theorem dX12_fitsWith_21 : decode cX12_fitsWith 21 = .ok (.aload_n 0, 1) := by decide +kernel
theorem dX12_fitsWith_22 : decode cX12_fitsWith 22 = .ok (.iload_n 1, 1) := by decide +kernel
theorem dX12_fitsWith_23 : decode cX12_fitsWith 23 = .ok (.iload_n 3, 1) := by decide +kernel
theorem dX12_fitsWith_24 : decode cX12_fitsWith 24 = .ok (.invokevirtual 310, 3) := by decide +kernel
theorem dX12_fitsWith_27 : decode cX12_fitsWith 27 = .ok (.ifCond .eq 7, 3) := by decide +kernel
theorem dX12_fitsWith_30 : decode cX12_fitsWith 30 = .ok (.iconst 1, 1) := by decide +kernel
theorem dX12_fitsWith_31 : decode cX12_fitsWith 31 = .ok (.goto 4, 3) := by decide +kernel
theorem dX12_fitsWith_34 : decode cX12_fitsWith 34 = .ok (.iconst 0, 1) := by decide +kernel
theorem dX12_fitsWith_35 : decode cX12_fitsWith 35 = .ok (.iadd, 1) := by decide +kernel
theorem dX12_fitsWith_36 : decode cX12_fitsWith 36 = .ok (.istore_n 2, 1) := by decide +kernel
theorem dX12_fitsWith_37 : decode cX12_fitsWith 37 = .ok (.iinc 3 1, 3) := by decide +kernel
theorem dX12_fitsWith_40 : decode cX12_fitsWith 40 = .ok (.goto (-36), 3) := by decide +kernel
theorem dX12_fitsWith_43 : decode cX12_fitsWith 43 = .ok (.iload_n 2, 1) := by decide +kernel
theorem dX12_fitsWith_44 : decode cX12_fitsWith 44 = .ok (.ireturn, 1) := by decide +kernel
def FX12_fitsWith (hp : HP) (p0 : Nat) (p1 : Int32) : Option (Int32) := (lp (fun (s1 : Int32 × Int32) => if (1024 : Int32) ≤ s1.2 then some (Sum.inl s1.1) else (gR [12] 3 hp p0).bind (fun v3 => (rdN 2 hp v3 s1.2).bind (fun v4 => if v4 = 0 then vl (s1.1 + (0 : Int32)) (fun x5 => vl (s1.2 + (1 : Int32)) (fun x6 => some (Sum.inr (x5, x6)))) else (rc [12] hp p0 (FX12_holdsIn hp p0 p1 s1.2)).bind (fun v7 => if v7 = 0 then vl (s1.1 + (0 : Int32)) (fun x8 => vl (s1.2 + (1 : Int32)) (fun x9 => some (Sum.inr (x8, x9)))) else vl (s1.1 + (1 : Int32)) (fun x10 => vl (s1.2 + (1 : Int32)) (fun x11 => some (Sum.inr (x10, x11)))))))) FU ((0 : Int32), (0 : Int32))).bind (fun (y2 : Int32) => some y2)
set_option maxHeartbeats 4000000 in
set_option maxRecDepth 100000 in
theorem ctX12_fitsWith (l : Launch) (D : va_G) (tg : Nat → ClassId) (bs : Nat) (sa : Nat → Nat) (hp : HP) (p0 : Nat) (p1 : Int32) : Ct l D tg bs sa yX12_fitsWith cX12_fitsWith 4 (some .int) 1 [.ref p0, .int p1] hp (FX12_fitsWith hp p0 p1) (fun r => some (.int r)) (fun _ => hp) := by
  refine Ct.of (by decide) (Nat.le_of_ble_eq_true rfl) ?_
  intro V Q hVl hVd hVt hVb hVs hC
  subst hVl; subst hVd; subst hVt; subst hVb; subst hVs
  unfold FX12_fitsWith
  show Zs V Q (0, 0) 4 _ _ hp [(0, .ref p0), (1, .int p1)] 0 []
  refine z_iconst hC (0 : Int32) dX12_fitsWith_0 (by decide) ?_
  refine z_istore_n hC [(0, .ref p0), (1, .int p1), (2, .int (0 : Int32))] [1, 2, 0] dX12_fitsWith_1 rfl (by decide) rfl ?_
  refine z_iconst hC (0 : Int32) dX12_fitsWith_2 (by decide) ?_
  refine z_istore_n hC [(0, .ref p0), (1, .int p1), (2, .int (0 : Int32)), (3, .int (0 : Int32))] [1, 2, 3, 0] dX12_fitsWith_3 rfl (by decide) rfl ?_
  refine z_lp (S := Int32 × Int32) (Y := Int32) (fun s1 => hp) (fun s1 => [(0, .ref p0), (1, .int p1), (2, .int s1.1), (3, .int s1.2)]) (fun y2 => hp) (fun y2 => [(2, .int y2)]) 43 [] (fun y2 => ?_) (fun s1 => ?_) rfl rfl
  · refine z_iload_n hC 0 dX12_fitsWith_43 rfl rfl ?_
    exact z_iret hC (fun h => h) dX12_fitsWith_44
  · refine z_iload_n hC 3 dX12_fitsWith_4 rfl rfl ?_
    refine z_sipush hC (1024 : Int32) dX12_fitsWith_5 (by decide) ?_
    refine z_icmp_ge hC 43 dX12_fitsWith_8 (by decide) (fun _ => ?_) (fun _ => ?_)
    · refine z_weak [(2, .int s1.1)] [2] rfl ?_
      exact z_leaf (fun h => h)
    · refine z_iload_n hC 2 dX12_fitsWith_11 rfl rfl ?_
      refine z_aload_n hC 0 dX12_fitsWith_12 rfl rfl ?_
      refine z_getR hC lgRX12_20 dX12_fitsWith_13 (fun v3 => ?_)
      refine z_iload_n hC 3 dX12_fitsWith_16 rfl rfl ?_
      refine z_zald hC dX12_fitsWith_17 (fun v4 => ?_)
      refine z_if_eq hC 34 dX12_fitsWith_18 (by decide) (fun _ => ?_) (fun _ => ?_)
      · refine z_iconst hC (0 : Int32) dX12_fitsWith_34 (by decide) ?_
        refine z_iadd hC dX12_fitsWith_35 ?_
        refine z_vli (fun x5 => ?_)
        refine z_istore_n hC [(0, .ref p0), (1, .int p1), (2, .int x5), (3, .int s1.2)] [1, 2, 0, 3] dX12_fitsWith_36 rfl (by decide) rfl ?_
        refine z_iincv hC (1 : Int32) 3 (fun x6 => [(0, .ref p0), (1, .int p1), (2, .int x5), (3, .int x6)]) [1, 2, 3, 0] dX12_fitsWith_37 rfl (by decide) (by decide) (fun _ => rfl) (fun x6 => ?_)
        refine z_goto hC 4 dX12_fitsWith_40 (by decide) ?_
        exact z_leaf (fun h => h)
      · refine z_aload_n hC 0 dX12_fitsWith_21 rfl rfl ?_
        refine z_iload_n hC 1 dX12_fitsWith_22 rfl rfl ?_
        refine z_iload_n hC 3 dX12_fitsWith_23 rfl rfl ?_
        refine z_callVi hC (ci := 12) rfl lmRX12_310 (ctX12_holdsIn (vLa V) (vDa V) (vTg V) (vBs V) (vSa V) hp p0 p1 s1.2) (by decide) hn0 dX12_fitsWith_24 rfl rfl (Nat.le_of_ble_eq_true rfl) (fun v7 => ?_)
        refine z_if_eq hC 34 dX12_fitsWith_27 (by decide) (fun _ => ?_) (fun _ => ?_)
        · refine z_iconst hC (0 : Int32) dX12_fitsWith_34 (by decide) ?_
          refine z_iadd hC dX12_fitsWith_35 ?_
          refine z_vli (fun x8 => ?_)
          refine z_istore_n hC [(0, .ref p0), (1, .int p1), (2, .int x8), (3, .int s1.2)] [1, 2, 0, 3] dX12_fitsWith_36 rfl (by decide) rfl ?_
          refine z_iincv hC (1 : Int32) 3 (fun x9 => [(0, .ref p0), (1, .int p1), (2, .int x8), (3, .int x9)]) [1, 2, 3, 0] dX12_fitsWith_37 rfl (by decide) (by decide) (fun _ => rfl) (fun x9 => ?_)
          refine z_goto hC 4 dX12_fitsWith_40 (by decide) ?_
          exact z_leaf (fun h => h)
        · refine z_iconst hC (1 : Int32) dX12_fitsWith_30 (by decide) ?_
          refine z_goto hC 35 dX12_fitsWith_31 (by decide) ?_
          refine z_iadd hC dX12_fitsWith_35 ?_
          refine z_vli (fun x10 => ?_)
          refine z_istore_n hC [(0, .ref p0), (1, .int p1), (2, .int x10), (3, .int s1.2)] [1, 2, 0, 3] dX12_fitsWith_36 rfl (by decide) rfl ?_
          refine z_iincv hC (1 : Int32) 3 (fun x11 => [(0, .ref p0), (1, .int p1), (2, .int x10), (3, .int x11)]) [1, 2, 3, 0] dX12_fitsWith_37 rfl (by decide) (by decide) (fun _ => rfl) (fun x11 => ?_)
          refine z_goto hC 4 dX12_fitsWith_40 (by decide) ?_
          exact z_leaf (fun h => h)

theorem dX12_wishIs_0 : decode cX12_wishIs 0 = .ok (.aload_n 0, 1) := by decide +kernel
theorem dX12_wishIs_1 : decode cX12_wishIs 1 = .ok (.iload_n 1, 1) := by decide +kernel
theorem dX12_wishIs_2 : decode cX12_wishIs 2 = .ok (.invokevirtual 343, 3) := by decide +kernel
theorem dX12_wishIs_5 : decode cX12_wishIs 5 = .ok (.ifCond .ne 5, 3) := by decide +kernel
theorem dX12_wishIs_8 : decode cX12_wishIs 8 = .ok (.iconst (-1), 1) := by decide +kernel
theorem dX12_wishIs_9 : decode cX12_wishIs 9 = .ok (.ireturn, 1) := by decide +kernel
theorem dX12_wishIs_10 : decode cX12_wishIs 10 = .ok (.iload_n 2, 1) := by decide +kernel
theorem dX12_wishIs_11 : decode cX12_wishIs 11 = .ok (.tableswitch 86 0 4 #[33, 39, 57, 74, 80], 33) := by decide +kernel
theorem dX12_wishIs_44 : decode cX12_wishIs 44 = .ok (.aload_n 0, 1) := by decide +kernel
theorem dX12_wishIs_45 : decode cX12_wishIs 45 = .ok (.iload_n 1, 1) := by decide +kernel
theorem dX12_wishIs_46 : decode cX12_wishIs 46 = .ok (.invokevirtual 355, 3) := by decide +kernel
theorem dX12_wishIs_49 : decode cX12_wishIs 49 = .ok (.ireturn, 1) := by decide +kernel
theorem dX12_wishIs_50 : decode cX12_wishIs 50 = .ok (.aload_n 0, 1) := by decide +kernel
theorem dX12_wishIs_51 : decode cX12_wishIs 51 = .ok (.iload_n 1, 1) := by decide +kernel
theorem dX12_wishIs_52 : decode cX12_wishIs 52 = .ok (.aload_n 0, 1) := by decide +kernel
theorem dX12_wishIs_53 : decode cX12_wishIs 53 = .ok (.getfield 121, 3) := by decide +kernel
theorem dX12_wishIs_56 : decode cX12_wishIs 56 = .ok (.invokevirtual 310, 3) := by decide +kernel
theorem dX12_wishIs_59 : decode cX12_wishIs 59 = .ok (.ifCond .eq 7, 3) := by decide +kernel
theorem dX12_wishIs_62 : decode cX12_wishIs 62 = .ok (.iconst 1, 1) := by decide +kernel
theorem dX12_wishIs_63 : decode cX12_wishIs 63 = .ok (.goto 4, 3) := by decide +kernel
theorem dX12_wishIs_66 : decode cX12_wishIs 66 = .ok (.iconst 0, 1) := by decide +kernel
theorem dX12_wishIs_67 : decode cX12_wishIs 67 = .ok (.ireturn, 1) := by decide +kernel
theorem dX12_wishIs_68 : decode cX12_wishIs 68 = .ok (.aload_n 0, 1) := by decide +kernel
theorem dX12_wishIs_69 : decode cX12_wishIs 69 = .ok (.getfield 302, 3) := by decide +kernel
theorem dX12_wishIs_72 : decode cX12_wishIs 72 = .ok (.iload_n 1, 1) := by decide +kernel
theorem dX12_wishIs_73 : decode cX12_wishIs 73 = .ok (.invokestatic 107, 3) := by decide +kernel
theorem dX12_wishIs_76 : decode cX12_wishIs 76 = .ok (.ifCond .eq 7, 3) := by decide +kernel
theorem dX12_wishIs_79 : decode cX12_wishIs 79 = .ok (.iconst 1, 1) := by decide +kernel
theorem dX12_wishIs_80 : decode cX12_wishIs 80 = .ok (.goto 4, 3) := by decide +kernel
theorem dX12_wishIs_83 : decode cX12_wishIs 83 = .ok (.iconst 0, 1) := by decide +kernel
theorem dX12_wishIs_84 : decode cX12_wishIs 84 = .ok (.ireturn, 1) := by decide +kernel
theorem dX12_wishIs_85 : decode cX12_wishIs 85 = .ok (.aload_n 0, 1) := by decide +kernel
theorem dX12_wishIs_86 : decode cX12_wishIs 86 = .ok (.iload_n 1, 1) := by decide +kernel
theorem dX12_wishIs_87 : decode cX12_wishIs 87 = .ok (.invokevirtual 352, 3) := by decide +kernel
theorem dX12_wishIs_90 : decode cX12_wishIs 90 = .ok (.ireturn, 1) := by decide +kernel
theorem dX12_wishIs_91 : decode cX12_wishIs 91 = .ok (.aload_n 0, 1) := by decide +kernel
theorem dX12_wishIs_92 : decode cX12_wishIs 92 = .ok (.iload_n 1, 1) := by decide +kernel
theorem dX12_wishIs_93 : decode cX12_wishIs 93 = .ok (.invokevirtual 358, 3) := by decide +kernel
theorem dX12_wishIs_96 : decode cX12_wishIs 96 = .ok (.ireturn, 1) := by decide +kernel
theorem dX12_wishIs_97 : decode cX12_wishIs 97 = .ok (.iconst (-1), 1) := by decide +kernel
theorem dX12_wishIs_98 : decode cX12_wishIs 98 = .ok (.ireturn, 1) := by decide +kernel
def FX12_wishIs (hp : HP) (p0 : Nat) (p1 : Int32) (p2 : Int32) : Option (Int32) := (rc [12] hp p0 (FX12_isWish hp p0 p1)).bind (fun v1 => if v1 = 0 then some (-1 : Int32) else if p2 = (0 : Int32) then (rc [12] hp p0 (FX12_fitsWith hp p0 p1)).bind (fun v3 => some v3) else if p2 = (1 : Int32) then (gI [12] 7 hp p0).bind (fun v5 => (rc [12] hp p0 (FX12_holdsIn hp p0 p1 v5)).bind (fun v6 => if v6 = 0 then some (0 : Int32) else some (1 : Int32))) else if p2 = (2 : Int32) then (gI [12] 11 hp p0).bind (fun v8 => (FX12_has v8 p1).bind (fun v9 => if v9 = 0 then some (0 : Int32) else some (1 : Int32))) else if p2 = (3 : Int32) then (rc [12] hp p0 (FX12_onOf hp p0 p1)).bind (fun v11 => some v11) else if p2 = (4 : Int32) then (rc [12] hp p0 (FX12_risingOf hp p0 p1)).bind (fun v13 => some v13) else some (-1 : Int32))
set_option maxHeartbeats 4000000 in
set_option maxRecDepth 100000 in
theorem ctX12_wishIs (l : Launch) (D : va_G) (tg : Nat → ClassId) (bs : Nat) (sa : Nat → Nat) (hp : HP) (p0 : Nat) (p1 : Int32) (p2 : Int32) : Ct l D tg bs sa yX12_wishIs cX12_wishIs 3 (some .int) 3 [.ref p0, .int p1, .int p2] hp (FX12_wishIs hp p0 p1 p2) (fun r => some (.int r)) (fun _ => hp) := by
  refine Ct.of (by decide) (Nat.le_of_ble_eq_true rfl) ?_
  intro V Q hVl hVd hVt hVb hVs hC
  subst hVl; subst hVd; subst hVt; subst hVb; subst hVs
  unfold FX12_wishIs
  show Zs V Q (0, 0) 3 _ _ hp [(0, .ref p0), (1, .int p1), (2, .int p2)] 0 []
  refine z_aload_n hC 0 dX12_wishIs_0 rfl rfl ?_
  refine z_iload_n hC 1 dX12_wishIs_1 rfl rfl ?_
  refine z_callVi hC (ci := 12) rfl lmRX12_343 (ctX12_isWish (vLa V) (vDa V) (vTg V) (vBs V) (vSa V) hp p0 p1) (by decide) hn0 dX12_wishIs_2 rfl rfl (Nat.le_of_ble_eq_true rfl) (fun v1 => ?_)
  refine z_if_ne hC 10 dX12_wishIs_5 (by decide) (fun _ => ?_) (fun _ => ?_)
  · refine z_iconst hC (-1 : Int32) dX12_wishIs_8 (by decide) ?_
    exact z_iret hC (fun h => h) dX12_wishIs_9
  · refine z_iload_n hC 2 dX12_wishIs_10 rfl rfl ?_
    refine z_tsw hC (0 : Int32) 44 (33) dX12_wishIs_11 (by decide) (by decide) (by decide) (by decide) (fun _ => ?_) (fun q2 => ?_)
    · refine z_aload_n hC 0 dX12_wishIs_44 rfl rfl ?_
      refine z_iload_n hC 1 dX12_wishIs_45 rfl rfl ?_
      refine z_callVi hC (ci := 12) rfl lmRX12_355 (ctX12_fitsWith (vLa V) (vDa V) (vTg V) (vBs V) (vSa V) hp p0 p1) (by decide) hn0 dX12_wishIs_46 rfl rfl (Nat.le_of_ble_eq_true rfl) (fun v3 => ?_)
      exact z_iret hC (fun h => h) dX12_wishIs_49
    refine z_tsw hC (1 : Int32) 50 (39) dX12_wishIs_11 (by decide) (by decide) (by decide) (by decide) (fun _ => ?_) (fun q4 => ?_)
    · refine z_aload_n hC 0 dX12_wishIs_50 rfl rfl ?_
      refine z_iload_n hC 1 dX12_wishIs_51 rfl rfl ?_
      refine z_aload_n hC 0 dX12_wishIs_52 rfl rfl ?_
      refine z_getI hC lgRX12_121 dX12_wishIs_53 (fun v5 => ?_)
      refine z_callVi hC (ci := 12) rfl lmRX12_310 (ctX12_holdsIn (vLa V) (vDa V) (vTg V) (vBs V) (vSa V) hp p0 p1 v5) (by decide) hn0 dX12_wishIs_56 rfl rfl (Nat.le_of_ble_eq_true rfl) (fun v6 => ?_)
      refine z_if_eq hC 66 dX12_wishIs_59 (by decide) (fun _ => ?_) (fun _ => ?_)
      · refine z_iconst hC (0 : Int32) dX12_wishIs_66 (by decide) ?_
        exact z_iret hC (fun h => h) dX12_wishIs_67
      · refine z_iconst hC (1 : Int32) dX12_wishIs_62 (by decide) ?_
        refine z_goto hC 67 dX12_wishIs_63 (by decide) ?_
        exact z_iret hC (fun h => h) dX12_wishIs_67
    refine z_tsw hC (2 : Int32) 68 (57) dX12_wishIs_11 (by decide) (by decide) (by decide) (by decide) (fun _ => ?_) (fun q7 => ?_)
    · refine z_aload_n hC 0 dX12_wishIs_68 rfl rfl ?_
      refine z_getI hC lgRX12_302 dX12_wishIs_69 (fun v8 => ?_)
      refine z_iload_n hC 1 dX12_wishIs_72 rfl rfl ?_
      refine z_callSi hC lmRX12_107 (ctX12_has (vLa V) (vDa V) (vTg V) (vBs V) (vSa V) hp v8 p1) (by decide) hn0 dX12_wishIs_73 rfl rfl (Nat.le_of_ble_eq_true rfl) (fun v9 => ?_)
      refine z_if_eq hC 83 dX12_wishIs_76 (by decide) (fun _ => ?_) (fun _ => ?_)
      · refine z_iconst hC (0 : Int32) dX12_wishIs_83 (by decide) ?_
        exact z_iret hC (fun h => h) dX12_wishIs_84
      · refine z_iconst hC (1 : Int32) dX12_wishIs_79 (by decide) ?_
        refine z_goto hC 84 dX12_wishIs_80 (by decide) ?_
        exact z_iret hC (fun h => h) dX12_wishIs_84
    refine z_tsw hC (3 : Int32) 85 (74) dX12_wishIs_11 (by decide) (by decide) (by decide) (by decide) (fun _ => ?_) (fun q10 => ?_)
    · refine z_aload_n hC 0 dX12_wishIs_85 rfl rfl ?_
      refine z_iload_n hC 1 dX12_wishIs_86 rfl rfl ?_
      refine z_callVi hC (ci := 12) rfl lmRX12_352 (ctX12_onOf (vLa V) (vDa V) (vTg V) (vBs V) (vSa V) hp p0 p1) (by decide) hn0 dX12_wishIs_87 rfl rfl (Nat.le_of_ble_eq_true rfl) (fun v11 => ?_)
      exact z_iret hC (fun h => h) dX12_wishIs_90
    refine z_tsw hC (4 : Int32) 91 (80) dX12_wishIs_11 (by decide) (by decide) (by decide) (by decide) (fun _ => ?_) (fun q12 => ?_)
    · refine z_aload_n hC 0 dX12_wishIs_91 rfl rfl ?_
      refine z_iload_n hC 1 dX12_wishIs_92 rfl rfl ?_
      refine z_callVi hC (ci := 12) rfl lmRX12_358 (ctX12_risingOf (vLa V) (vDa V) (vTg V) (vBs V) (vSa V) hp p0 p1) (by decide) hn0 dX12_wishIs_93 rfl rfl (Nat.le_of_ble_eq_true rfl) (fun v13 => ?_)
      exact z_iret hC (fun h => h) dX12_wishIs_96
    refine z_tswd hC 97 dX12_wishIs_11 (by decide) (by have eq2 := sw_ne q2 (z := 0) (by decide); have eq4 := sw_ne q4 (z := 1) (by decide); have eq7 := sw_ne q7 (z := 2) (by decide); have eq10 := sw_ne q10 (z := 3) (by decide); have eq12 := sw_ne q12 (z := 4) (by decide); omega) ?_
    refine z_iconst hC (-1 : Int32) dX12_wishIs_97 (by decide) ?_
    exact z_iret hC (fun h => h) dX12_wishIs_98

theorem dX12_canBeBy_0 : decode cX12_canBeBy 0 = .ok (.iconst 0, 1) := by decide +kernel
theorem dX12_canBeBy_1 : decode cX12_canBeBy 1 = .ok (.istore_n 3, 1) := by decide +kernel
theorem dX12_canBeBy_2 : decode cX12_canBeBy 2 = .ok (.iload_n 3, 1) := by decide +kernel
theorem dX12_canBeBy_3 : decode cX12_canBeBy 3 = .ok (.sipush 1024, 3) := by decide +kernel
theorem dX12_canBeBy_6 : decode cX12_canBeBy 6 = .ok (.if_icmp .ge 29, 3) := by decide +kernel
theorem dX12_canBeBy_9 : decode cX12_canBeBy 9 = .ok (.aload_n 0, 1) := by decide +kernel
theorem dX12_canBeBy_10 : decode cX12_canBeBy 10 = .ok (.iload_n 1, 1) := by decide +kernel
theorem dX12_canBeBy_11 : decode cX12_canBeBy 11 = .ok (.iload_n 3, 1) := by decide +kernel
theorem dX12_canBeBy_12 : decode cX12_canBeBy 12 = .ok (.invokevirtual 310, 3) := by decide +kernel
theorem dX12_canBeBy_15 : decode cX12_canBeBy 15 = .ok (.ifCond .eq 14, 3) := by decide +kernel
theorem dX12_canBeBy_18 : decode cX12_canBeBy 18 = .ok (.aload_n 0, 1) := by decide +kernel
theorem dX12_canBeBy_19 : decode cX12_canBeBy 19 = .ok (.iload_n 2, 1) := by decide +kernel
theorem dX12_canBeBy_20 : decode cX12_canBeBy 20 = .ok (.iload_n 3, 1) := by decide +kernel
theorem dX12_canBeBy_21 : decode cX12_canBeBy 21 = .ok (.invokevirtual 118, 3) := by decide +kernel
theorem dX12_canBeBy_24 : decode cX12_canBeBy 24 = .ok (.ifCond .eq 5, 3) := by decide +kernel
theorem dX12_canBeBy_27 : decode cX12_canBeBy 27 = .ok (.iconst 1, 1) := by decide +kernel
theorem dX12_canBeBy_28 : decode cX12_canBeBy 28 = .ok (.ireturn, 1) := by decide +kernel
theorem dX12_canBeBy_29 : decode cX12_canBeBy 29 = .ok (.iinc 3 1, 3) := by decide +kernel
theorem dX12_canBeBy_32 : decode cX12_canBeBy 32 = .ok (.goto (-30), 3) := by decide +kernel
theorem dX12_canBeBy_35 : decode cX12_canBeBy 35 = .ok (.iconst 0, 1) := by decide +kernel
theorem dX12_canBeBy_36 : decode cX12_canBeBy 36 = .ok (.ireturn, 1) := by decide +kernel
def FX12_canBeBy (hp : HP) (p0 : Nat) (p1 : Int32) (p2 : Int32) : Option (Int32) := (lp (fun (s1 : Int32) => if (1024 : Int32) ≤ s1 then some (Sum.inl (Sum.inr ())) else (rc [12] hp p0 (FX12_holdsIn hp p0 p1 s1)).bind (fun v3 => if v3 = 0 then vl (s1 + (1 : Int32)) (fun x4 => some (Sum.inr x4)) else (rc [12] hp p0 (FX12_allowsBy hp p0 p2 s1)).bind (fun v5 => if v5 = 0 then vl (s1 + (1 : Int32)) (fun x6 => some (Sum.inr x6)) else some (Sum.inl (Sum.inl (1 : Int32)))))) FU (0 : Int32)).bind (lk (P := Int32) (fun r => r) (fun (y2 : Unit) => some (0 : Int32)))
set_option maxHeartbeats 4000000 in
set_option maxRecDepth 100000 in
theorem ctX12_canBeBy (l : Launch) (D : va_G) (tg : Nat → ClassId) (bs : Nat) (sa : Nat → Nat) (hp : HP) (p0 : Nat) (p1 : Int32) (p2 : Int32) : Ct l D tg bs sa yX12_canBeBy cX12_canBeBy 4 (some .boolean) 2 [.ref p0, .int p1, .int p2] hp (FX12_canBeBy hp p0 p1 p2) (fun r => some (.int r)) (fun _ => hp) := by
  refine Ct.of (by decide) (Nat.le_of_ble_eq_true rfl) ?_
  intro V Q hVl hVd hVt hVb hVs hC
  subst hVl; subst hVd; subst hVt; subst hVb; subst hVs
  unfold FX12_canBeBy
  show Zs V Q (0, 0) 4 _ _ hp [(0, .ref p0), (1, .int p1), (2, .int p2)] 0 []
  refine z_iconst hC (0 : Int32) dX12_canBeBy_0 (by decide) ?_
  refine z_istore_n hC [(0, .ref p0), (1, .int p1), (2, .int p2), (3, .int (0 : Int32))] [1, 2, 3, 0] dX12_canBeBy_1 rfl (by decide) rfl ?_
  refine z_lpR (S := Int32) (Y := Unit) (fun s1 => hp) (fun s1 => [(0, .ref p0), (1, .int p1), (2, .int p2), (3, .int s1)]) (fun y2 => hp) (fun y2 => []) 35 [] (fun y2 => ?_) (fun s1 => ?_) rfl rfl
  · refine z_iconst hC (0 : Int32) dX12_canBeBy_35 (by decide) ?_
    exact z_zret hC (by decide) (fun h => h) dX12_canBeBy_36
  · refine z_iload_n hC 3 dX12_canBeBy_2 rfl rfl ?_
    refine z_sipush hC (1024 : Int32) dX12_canBeBy_3 (by decide) ?_
    refine z_icmp_ge hC 35 dX12_canBeBy_6 (by decide) (fun _ => ?_) (fun _ => ?_)
    · refine z_weak [] [] rfl ?_
      exact z_leaf (fun h => h)
    · refine z_aload_n hC 0 dX12_canBeBy_9 rfl rfl ?_
      refine z_iload_n hC 1 dX12_canBeBy_10 rfl rfl ?_
      refine z_iload_n hC 3 dX12_canBeBy_11 rfl rfl ?_
      refine z_callVi hC (ci := 12) rfl lmRX12_310 (ctX12_holdsIn (vLa V) (vDa V) (vTg V) (vBs V) (vSa V) hp p0 p1 s1) (by decide) hn0 dX12_canBeBy_12 rfl rfl (Nat.le_of_ble_eq_true rfl) (fun v3 => ?_)
      refine z_if_eq hC 29 dX12_canBeBy_15 (by decide) (fun _ => ?_) (fun _ => ?_)
      · refine z_iincv hC (1 : Int32) 3 (fun x4 => [(0, .ref p0), (1, .int p1), (2, .int p2), (3, .int x4)]) [1, 2, 3, 0] dX12_canBeBy_29 rfl (by decide) (by decide) (fun _ => rfl) (fun x4 => ?_)
        refine z_goto hC 2 dX12_canBeBy_32 (by decide) ?_
        exact z_leaf (fun h => h)
      · refine z_aload_n hC 0 dX12_canBeBy_18 rfl rfl ?_
        refine z_iload_n hC 2 dX12_canBeBy_19 rfl rfl ?_
        refine z_iload_n hC 3 dX12_canBeBy_20 rfl rfl ?_
        refine z_callVi hC (ci := 12) rfl lmRX12_118 (ctX12_allowsBy (vLa V) (vDa V) (vTg V) (vBs V) (vSa V) hp p0 p2 s1) (by decide) hn0 dX12_canBeBy_21 rfl rfl (Nat.le_of_ble_eq_true rfl) (fun v5 => ?_)
        refine z_if_eq hC 29 dX12_canBeBy_24 (by decide) (fun _ => ?_) (fun _ => ?_)
        · refine z_iincv hC (1 : Int32) 3 (fun x6 => [(0, .ref p0), (1, .int p1), (2, .int p2), (3, .int x6)]) [1, 2, 3, 0] dX12_canBeBy_29 rfl (by decide) (by decide) (fun _ => rfl) (fun x6 => ?_)
          refine z_goto hC 2 dX12_canBeBy_32 (by decide) ?_
          exact z_leaf (fun h => h)
        · refine z_iconst hC (1 : Int32) dX12_canBeBy_27 (by decide) ?_
          exact z_zret hC (by decide) (fun h => h) dX12_canBeBy_28

