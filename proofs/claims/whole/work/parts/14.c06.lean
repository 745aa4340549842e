theorem dX7_mayChangePlaces_0 : decode cX7_mayChangePlaces 0 = .ok (.lconst 0, 1) := by decide +kernel
theorem dX7_mayChangePlaces_1 : decode cX7_mayChangePlaces 1 = .ok (.lstore_n 3, 1) := by decide +kernel
theorem dX7_mayChangePlaces_2 : decode cX7_mayChangePlaces 2 = .ok (.iconst 0, 1) := by decide +kernel
theorem dX7_mayChangePlaces_3 : decode cX7_mayChangePlaces 3 = .ok (.istore 5, 2) := by decide +kernel
theorem dX7_mayChangePlaces_5 : decode cX7_mayChangePlaces 5 = .ok (.iload 5, 2) := by decide +kernel
theorem dX7_mayChangePlaces_7 : decode cX7_mayChangePlaces 7 = .ok (.bipush 16, 2) := by decide +kernel
theorem dX7_mayChangePlaces_9 : decode cX7_mayChangePlaces 9 = .ok (.if_icmp .ge 48, 3) := by decide +kernel
theorem dX7_mayChangePlaces_12 : decode cX7_mayChangePlaces 12 = .ok (.iload_n 1, 1) := by decide +kernel
theorem dX7_mayChangePlaces_13 : decode cX7_mayChangePlaces 13 = .ok (.iload 5, 2) := by decide +kernel
theorem dX7_mayChangePlaces_15 : decode cX7_mayChangePlaces 15 = .ok (.invokestatic 23, 3) := by decide +kernel
theorem dX7_mayChangePlaces_18 : decode cX7_mayChangePlaces 18 = .ok (.iload_n 2, 1) := by decide +kernel
theorem dX7_mayChangePlaces_19 : decode cX7_mayChangePlaces 19 = .ok (.iload 5, 2) := by decide +kernel
theorem dX7_mayChangePlaces_21 : decode cX7_mayChangePlaces 21 = .ok (.invokestatic 23, 3) := by decide +kernel
theorem dX7_mayChangePlaces_24 : decode cX7_mayChangePlaces 24 = .ok (.lxor, 1) := by decide +kernel
theorem dX7_mayChangePlaces_25 : decode cX7_mayChangePlaces 25 = .ok (.lstore 6, 2) := by decide +kernel
theorem dX7_mayChangePlaces_27 : decode cX7_mayChangePlaces 27 = .ok (.lload_n 3, 1) := by decide +kernel
theorem dX7_mayChangePlaces_28 : decode cX7_mayChangePlaces 28 = .ok (.aload_n 0, 1) := by decide +kernel
theorem dX7_mayChangePlaces_29 : decode cX7_mayChangePlaces 29 = .ok (.iload 5, 2) := by decide +kernel
theorem dX7_mayChangePlaces_31 : decode cX7_mayChangePlaces 31 = .ok (.laload, 1) := by decide +kernel
theorem dX7_mayChangePlaces_32 : decode cX7_mayChangePlaces 32 = .ok (.aload_n 0, 1) := by decide +kernel
theorem dX7_mayChangePlaces_33 : decode cX7_mayChangePlaces 33 = .ok (.iload 5, 2) := by decide +kernel
theorem dX7_mayChangePlaces_35 : decode cX7_mayChangePlaces 35 = .ok (.iconst 1, 1) := by decide +kernel
theorem dX7_mayChangePlaces_36 : decode cX7_mayChangePlaces 36 = .ok (.iload_n 1, 1) := by decide +kernel
theorem dX7_mayChangePlaces_37 : decode cX7_mayChangePlaces 37 = .ok (.ishl, 1) := by decide +kernel
theorem dX7_mayChangePlaces_38 : decode cX7_mayChangePlaces 38 = .ok (.iconst 1, 1) := by decide +kernel
theorem dX7_mayChangePlaces_39 : decode cX7_mayChangePlaces 39 = .ok (.iload_n 2, 1) := by decide +kernel
theorem dX7_mayChangePlaces_40 : decode cX7_mayChangePlaces 40 = .ok (.ishl, 1) := by decide +kernel
theorem dX7_mayChangePlaces_41 : decode cX7_mayChangePlaces 41 = .ok (.ior, 1) := by decide +kernel
theorem dX7_mayChangePlaces_42 : decode cX7_mayChangePlaces 42 = .ok (.invokestatic 42, 3) := by decide +kernel
theorem dX7_mayChangePlaces_45 : decode cX7_mayChangePlaces 45 = .ok (.lxor, 1) := by decide +kernel
theorem dX7_mayChangePlaces_46 : decode cX7_mayChangePlaces 46 = .ok (.lload 6, 2) := by decide +kernel
theorem dX7_mayChangePlaces_48 : decode cX7_mayChangePlaces 48 = .ok (.land, 1) := by decide +kernel
theorem dX7_mayChangePlaces_49 : decode cX7_mayChangePlaces 49 = .ok (.lor, 1) := by decide +kernel
theorem dX7_mayChangePlaces_50 : decode cX7_mayChangePlaces 50 = .ok (.lstore_n 3, 1) := by decide +kernel
theorem dX7_mayChangePlaces_51 : decode cX7_mayChangePlaces 51 = .ok (.iinc 5 1, 3) := by decide +kernel
theorem dX7_mayChangePlaces_54 : decode cX7_mayChangePlaces 54 = .ok (.goto (-49), 3) := by decide +kernel
theorem dX7_mayChangePlaces_57 : decode cX7_mayChangePlaces 57 = .ok (.lload_n 3, 1) := by decide +kernel
theorem dX7_mayChangePlaces_58 : decode cX7_mayChangePlaces 58 = .ok (.lconst 0, 1) := by decide +kernel
theorem dX7_mayChangePlaces_59 : decode cX7_mayChangePlaces 59 = .ok (.lcmp, 1) := by decide +kernel
theorem dX7_mayChangePlaces_60 : decode cX7_mayChangePlaces 60 = .ok (.ifCond .ne 7, 3) := by decide +kernel
theorem dX7_mayChangePlaces_63 : decode cX7_mayChangePlaces 63 = .ok (.iconst 1, 1) := by decide +kernel
theorem dX7_mayChangePlaces_64 : decode cX7_mayChangePlaces 64 = .ok (.goto 4, 3) := by decide +kernel
theorem dX7_mayChangePlaces_67 : decode cX7_mayChangePlaces 67 = .ok (.iconst 0, 1) := by decide +kernel
theorem dX7_mayChangePlaces_68 : decode cX7_mayChangePlaces 68 = .ok (.ireturn, 1) := by decide +kernel
def FX7_mayChangePlaces (hp : HP) (p0 : Nat) (p1 : Int32) (p2 : Int32) : Option (Int32) := (lp (fun (s1 : Int64 × Int32) => if (16 : Int32) ≤ s1.2 then some (Sum.inl s1.1) else (FX7_soWord hp p1 s1.2).bind (fun v3 => (FX7_soWord hp p2 s1.2).bind (fun v4 => vl (v3 ^^^ v4) (fun x5 => (rdL hp p0 s1.2).bind (fun v6 => (FX7_changed hp p0 s1.2 (((1 : Int32) <<< (p1 &&& 31)) ||| ((1 : Int32) <<< (p2 &&& 31)))).bind (fun v7 => vl (s1.1 ||| ((v6 ^^^ v7) &&& x5)) (fun x8 => vl (s1.2 + (1 : Int32)) (fun x9 => some (Sum.inr (x8, x9)))))))))) FU ((0 : Int64), (0 : Int32))).bind (fun (y2 : Int64) => if (lg_cmp y2 (0 : Int64)) = 0 then some (1 : Int32) else some (0 : Int32))
set_option maxHeartbeats 4000000 in
set_option maxRecDepth 100000 in
theorem ctX7_mayChangePlaces (l : Launch) (D : va_G) (tg : Nat → ClassId) (bs : Nat) (sa : Nat → Nat) (hp : HP) (p0 : Nat) (p1 : Int32) (p2 : Int32) : Ct l D tg bs sa yX7_mayChangePlaces cX7_mayChangePlaces 8 (some .boolean) 1 [.ref p0, .int p1, .int p2] hp (FX7_mayChangePlaces hp p0 p1 p2) (fun r => some (.int r)) (fun _ => hp) := by
  refine Ct.of (by decide) (Nat.le_of_ble_eq_true rfl) ?_
  intro V Q hVl hVd hVt hVb hVs hC
  subst hVl; subst hVd; subst hVt; subst hVb; subst hVs
  unfold FX7_mayChangePlaces
  show Zs V Q (0, 0) 8 _ _ hp [(0, .ref p0), (1, .int p1), (2, .int p2)] 0 []
  refine z_lconst hC (0 : Int64) dX7_mayChangePlaces_0 (by decide) ?_
  refine z_lstore_n hC [(0, .ref p0), (1, .int p1), (2, .int p2), (3, .long (0 : Int64))] [1, 2, 3, 0] dX7_mayChangePlaces_1 rfl (by decide) rfl ?_
  refine z_iconst hC (0 : Int32) dX7_mayChangePlaces_2 (by decide) ?_
  refine z_istore hC [(0, .ref p0), (1, .int p1), (2, .int p2), (3, .long (0 : Int64)), (5, .int (0 : Int32))] [1, 2, 3, 4, 0] dX7_mayChangePlaces_3 (by decide) rfl ?_
  refine z_lp (S := Int64 × Int32) (Y := Int64) (fun s1 => hp) (fun s1 => [(0, .ref p0), (1, .int p1), (2, .int p2), (3, .long s1.1), (5, .int s1.2)]) (fun y2 => hp) (fun y2 => [(3, .long y2)]) 57 [] (fun y2 => ?_) (fun s1 => ?_) rfl rfl
  · refine z_lload_n hC 0 dX7_mayChangePlaces_57 rfl rfl ?_
    refine z_lconst hC (0 : Int64) dX7_mayChangePlaces_58 (by decide) ?_
    refine z_lcmp hC dX7_mayChangePlaces_59 ?_
    refine z_if_ne hC 67 dX7_mayChangePlaces_60 (by decide) (fun _ => ?_) (fun _ => ?_)
    · refine z_iconst hC (1 : Int32) dX7_mayChangePlaces_63 (by decide) ?_
      refine z_goto hC 68 dX7_mayChangePlaces_64 (by decide) ?_
      exact z_zret hC (by decide) (fun h => h) dX7_mayChangePlaces_68
    · refine z_iconst hC (0 : Int32) dX7_mayChangePlaces_67 (by decide) ?_
      exact z_zret hC (by decide) (fun h => h) dX7_mayChangePlaces_68
  · refine z_iload hC 4 dX7_mayChangePlaces_5 rfl ?_
    refine z_bipush hC (16 : Int32) dX7_mayChangePlaces_7 (by decide) ?_
    refine z_icmp_ge hC 57 dX7_mayChangePlaces_9 (by decide) (fun _ => ?_) (fun _ => ?_)
    · refine z_weak [(3, .long s1.1)] [3] rfl ?_
      exact z_leaf (fun h => h)
    · refine z_iload_n hC 1 dX7_mayChangePlaces_12 rfl rfl ?_
      refine z_iload hC 4 dX7_mayChangePlaces_13 rfl ?_
      refine z_callSl hC lmRX7_23 (ctX7_soWord (vLa V) (vDa V) (vTg V) (vBs V) (vSa V) hp p1 s1.2) (by decide) hn0 dX7_mayChangePlaces_15 rfl rfl (Nat.le_of_ble_eq_true rfl) (fun v3 => ?_)
      refine z_iload_n hC 2 dX7_mayChangePlaces_18 rfl rfl ?_
      refine z_iload hC 4 dX7_mayChangePlaces_19 rfl ?_
      refine z_callSl hC lmRX7_23 (ctX7_soWord (vLa V) (vDa V) (vTg V) (vBs V) (vSa V) hp p2 s1.2) (by decide) hn0 dX7_mayChangePlaces_21 rfl rfl (Nat.le_of_ble_eq_true rfl) (fun v4 => ?_)
      refine z_lxor hC dX7_mayChangePlaces_24 ?_
      refine z_vll (fun x5 => ?_)
      refine z_lstore hC [(0, .ref p0), (1, .int p1), (2, .int p2), (3, .long s1.1), (5, .int s1.2), (6, .long x5)] [1, 2, 3, 4, 5, 0] dX7_mayChangePlaces_25 (by decide) rfl ?_
      refine z_lload_n hC 3 dX7_mayChangePlaces_27 rfl rfl ?_
      refine z_aload_n hC 0 dX7_mayChangePlaces_28 rfl rfl ?_
      refine z_iload hC 4 dX7_mayChangePlaces_29 rfl ?_
      refine z_lald hC dX7_mayChangePlaces_31 (fun v6 => ?_)
      refine z_aload_n hC 0 dX7_mayChangePlaces_32 rfl rfl ?_
      refine z_iload hC 4 dX7_mayChangePlaces_33 rfl ?_
      refine z_iconst hC (1 : Int32) dX7_mayChangePlaces_35 (by decide) ?_
      refine z_iload_n hC 1 dX7_mayChangePlaces_36 rfl rfl ?_
      refine z_ishl hC dX7_mayChangePlaces_37 ?_
      refine z_iconst hC (1 : Int32) dX7_mayChangePlaces_38 (by decide) ?_
      refine z_iload_n hC 2 dX7_mayChangePlaces_39 rfl rfl ?_
      refine z_ishl hC dX7_mayChangePlaces_40 ?_
      refine z_ior hC dX7_mayChangePlaces_41 ?_
      refine z_callSl hC lmRX7_42 (ctX7_changed (vLa V) (vDa V) (vTg V) (vBs V) (vSa V) hp p0 s1.2 (((1 : Int32) <<< (p1 &&& 31)) ||| ((1 : Int32) <<< (p2 &&& 31)))) (by decide) hn0 dX7_mayChangePlaces_42 rfl rfl (Nat.le_of_ble_eq_true rfl) (fun v7 => ?_)
      refine z_lxor hC dX7_mayChangePlaces_45 ?_
      refine z_lload hC 5 dX7_mayChangePlaces_46 rfl ?_
      refine z_land hC dX7_mayChangePlaces_48 ?_
      refine z_lor hC dX7_mayChangePlaces_49 ?_
      refine z_vll (fun x8 => ?_)
      refine z_lstore_n hC [(0, .ref p0), (1, .int p1), (2, .int p2), (3, .long x8), (5, .int s1.2), (6, .long x5)] [1, 2, 3, 0, 4, 5] dX7_mayChangePlaces_50 rfl (by decide) rfl ?_
      refine z_iincv hC (1 : Int32) 4 (fun x9 => [(0, .ref p0), (1, .int p1), (2, .int p2), (3, .long x8), (5, .int x9), (6, .long x5)]) [1, 2, 3, 4, 0, 5] dX7_mayChangePlaces_51 rfl (by decide) (by decide) (fun _ => rfl) (fun x9 => ?_)
      refine z_goto hC 5 dX7_mayChangePlaces_54 (by decide) ?_
      refine z_weak [(0, .ref p0), (1, .int p1), (2, .int p2), (3, .long x8), (5, .int x9)] [0, 1, 2, 3, 4] rfl ?_
      exact z_leaf (fun h => h)

theorem dX8_add_0 : decode cX8_add 0 = .ok (.bipush 24, 2) := by decide +kernel
theorem dX8_add_2 : decode cX8_add 2 = .ok (.istore_n 2, 1) := by decide +kernel
theorem dX8_add_3 : decode cX8_add 3 = .ok (.iload_n 2, 1) := by decide +kernel
theorem dX8_add_4 : decode cX8_add 4 = .ok (.ifCond .lt 42, 3) := by decide +kernel
theorem dX8_add_7 : decode cX8_add 7 = .ok (.aload_n 0, 1) := by decide +kernel
theorem dX8_add_8 : decode cX8_add 8 = .ok (.getfield 15, 3) := by decide +kernel
theorem dX8_add_11 : decode cX8_add 11 = .ok (.sipush 260, 3) := by decide +kernel
theorem dX8_add_14 : decode cX8_add 14 = .ok (.if_icmp .ge 32, 3) := by decide +kernel
theorem dX8_add_17 : decode cX8_add 17 = .ok (.aload_n 0, 1) := by decide +kernel
theorem dX8_add_18 : decode cX8_add 18 = .ok (.getfield 9, 3) := by decide +kernel
theorem dX8_add_21 : decode cX8_add 21 = .ok (.aload_n 0, 1) := by decide +kernel
theorem dX8_add_22 : decode cX8_add 22 = .ok (.getfield 15, 3) := by decide +kernel
theorem dX8_add_25 : decode cX8_add 25 = .ok (.iload_n 1, 1) := by decide +kernel
theorem dX8_add_26 : decode cX8_add 26 = .ok (.iload_n 2, 1) := by decide +kernel
theorem dX8_add_27 : decode cX8_add 27 = .ok (.ishr, 1) := by decide +kernel
theorem dX8_add_28 : decode cX8_add 28 = .ok (.i2b, 1) := by decide +kernel
theorem dX8_add_29 : decode cX8_add 29 = .ok (.bastore, 1) := by decide +kernel
theorem dX8_add_30 : decode cX8_add 30 = .ok (.aload_n 0, 1) := by decide +kernel
theorem dX8_add_31 : decode cX8_add 31 = .ok (.dup, 1) := by decide +kernel
theorem dX8_add_32 : decode cX8_add 32 = .ok (.getfield 15, 3) := by decide +kernel
theorem dX8_add_35 : decode cX8_add 35 = .ok (.iconst 1, 1) := by decide +kernel
theorem dX8_add_36 : decode cX8_add 36 = .ok (.iadd, 1) := by decide +kernel
theorem dX8_add_37 : decode cX8_add 37 = .ok (.putfield 15, 3) := by decide +kernel
theorem dX8_add_40 : decode cX8_add 40 = .ok (.iinc 2 (-8), 3) := by decide +kernel
theorem dX8_add_43 : decode cX8_add 43 = .ok (.goto (-40), 3) := by decide +kernel
theorem dX8_add_46 : decode cX8_add 46 = .ok (.return_, 1) := by decide +kernel
def FX8_add (hp : HP) (p0 : Nat) (p1 : Int32) : Option (HP) := (lp (fun (s1 : Int32 × HP) => if s1.1 < 0 then some (Sum.inl s1.2) else (gI [8] 1 s1.2 p0).bind (fun v3 => if (260 : Int32) ≤ v3 then some (Sum.inl s1.2) else (gR [8] 0 s1.2 p0).bind (fun v4 => (gI [8] 1 s1.2 p0).bind (fun v5 => (wrB s1.2 v4 v5 (((p1 >>> (s1.1 &&& 31))).toInt8.toInt32)).bind (fun hp6 => (gI [8] 1 hp6 p0).bind (fun v7 => (sI [8] 1 hp6 p0 (v7 + (1 : Int32))).bind (fun hp8 => vl (s1.1 + (-8 : Int32)) (fun x9 => some (Sum.inr (x9, hp8)))))))))) FU ((24 : Int32), hp)).bind (fun (y2 : HP) => some y2)
set_option maxHeartbeats 4000000 in
set_option maxRecDepth 100000 in
theorem ctX8_add (l : Launch) (D : va_G) (tg : Nat → ClassId) (bs : Nat) (sa : Nat → Nat) (hp : HP) (p0 : Nat) (p1 : Int32) : Ct l D tg bs sa yX8_add cX8_add 3 none 0 [.ref p0, .int p1] hp (FX8_add hp p0 p1) (fun _ => none) (fun r => r) := by
  refine Ct.of (by decide) (Nat.le_of_ble_eq_true rfl) ?_
  intro V Q hVl hVd hVt hVb hVs hC
  subst hVl; subst hVd; subst hVt; subst hVb; subst hVs
  unfold FX8_add
  show Zs V Q (0, 0) 3 _ _ hp [(0, .ref p0), (1, .int p1)] 0 []
  refine z_bipush hC (24 : Int32) dX8_add_0 (by decide) ?_
  refine z_istore_n hC [(0, .ref p0), (1, .int p1), (2, .int (24 : Int32))] [1, 2, 0] dX8_add_2 rfl (by decide) rfl ?_
  refine z_lp (S := Int32 × HP) (Y := HP) (fun s1 => s1.2) (fun s1 => [(0, .ref p0), (1, .int p1), (2, .int s1.1)]) (fun y2 => y2) (fun y2 => []) 46 [] (fun y2 => ?_) (fun s1 => ?_) rfl rfl
  · exact z_vret hC (fun h => h) dX8_add_46
  · refine z_iload_n hC 2 dX8_add_3 rfl rfl ?_
    refine z_if_lt hC 46 dX8_add_4 (by decide) (fun _ => ?_) (fun _ => ?_)
    · refine z_weak [] [] rfl ?_
      exact z_leaf (fun h => h)
    · refine z_aload_n hC 0 dX8_add_7 rfl rfl ?_
      refine z_getI hC lgRX8_15 dX8_add_8 (fun v3 => ?_)
      refine z_sipush hC (260 : Int32) dX8_add_11 (by decide) ?_
      refine z_icmp_ge hC 46 dX8_add_14 (by decide) (fun _ => ?_) (fun _ => ?_)
      · refine z_weak [] [] rfl ?_
        exact z_leaf (fun h => h)
      · refine z_aload_n hC 0 dX8_add_17 rfl rfl ?_
        refine z_getR hC lgRX8_9 dX8_add_18 (fun v4 => ?_)
        refine z_aload_n hC 0 dX8_add_21 rfl rfl ?_
        refine z_getI hC lgRX8_15 dX8_add_22 (fun v5 => ?_)
        refine z_iload_n hC 1 dX8_add_25 rfl rfl ?_
        refine z_iload_n hC 2 dX8_add_26 rfl rfl ?_
        refine z_ishr hC dX8_add_27 ?_
        refine z_i2b hC dX8_add_28 ?_
        refine z_bast hC dX8_add_29 (fun hp6 => ?_)
        refine z_aload_n hC 0 dX8_add_30 rfl rfl ?_
        refine z_dup hC dX8_add_31 rfl ?_
        refine z_getI hC lgRX8_15 dX8_add_32 (fun v7 => ?_)
        refine z_iconst hC (1 : Int32) dX8_add_35 (by decide) ?_
        refine z_iadd hC dX8_add_36 ?_
        refine z_putI hC lpRX8_15 dX8_add_37 (fun hp8 => ?_)
        refine z_iincv hC (-8 : Int32) 2 (fun x9 => [(0, .ref p0), (1, .int p1), (2, .int x9)]) [1, 2, 0] dX8_add_40 rfl (by decide) (by decide) (fun _ => rfl) (fun x9 => ?_)
        refine z_goto hC 3 dX8_add_43 (by decide) ?_
        exact z_leaf (fun h => h)

theorem dX9_throughNext_0 : decode cX9_throughNext 0 = .ok (.iload_n 1, 1) := by decide +kernel
theorem dX9_throughNext_1 : decode cX9_throughNext 1 = .ok (.iconst 1, 1) := by decide +kernel
theorem dX9_throughNext_2 : decode cX9_throughNext 2 = .ok (.iload_n 3, 1) := by decide +kernel
theorem dX9_throughNext_3 : decode cX9_throughNext 3 = .ok (.ishl, 1) := by decide +kernel
theorem dX9_throughNext_4 : decode cX9_throughNext 4 = .ok (.ior, 1) := by decide +kernel
theorem dX9_throughNext_5 : decode cX9_throughNext 5 = .ok (.bipush 8, 2) := by decide +kernel
theorem dX9_throughNext_7 : decode cX9_throughNext 7 = .ok (.imul, 1) := by decide +kernel
theorem dX9_throughNext_8 : decode cX9_throughNext 8 = .ok (.iload_n 3, 1) := by decide +kernel
theorem dX9_throughNext_9 : decode cX9_throughNext 9 = .ok (.iadd, 1) := by decide +kernel
theorem dX9_throughNext_10 : decode cX9_throughNext 10 = .ok (.sipush 2047, 3) := by decide +kernel
theorem dX9_throughNext_13 : decode cX9_throughNext 13 = .ok (.iand, 1) := by decide +kernel
theorem dX9_throughNext_14 : decode cX9_throughNext 14 = .ok (.istore 5, 2) := by decide +kernel
theorem dX9_throughNext_16 : decode cX9_throughNext 16 = .ok (.aload 4, 2) := by decide +kernel
theorem dX9_throughNext_18 : decode cX9_throughNext 18 = .ok (.iload_n 2, 1) := by decide +kernel
theorem dX9_throughNext_19 : decode cX9_throughNext 19 = .ok (.aload_n 0, 1) := by decide +kernel
theorem dX9_throughNext_20 : decode cX9_throughNext 20 = .ok (.getfield 9, 3) := by decide +kernel
theorem dX9_throughNext_23 : decode cX9_throughNext 23 = .ok (.iload_n 3, 1) := by decide +kernel
theorem dX9_throughNext_24 : decode cX9_throughNext 24 = .ok (.bipush 7, 2) := by decide +kernel
theorem dX9_throughNext_26 : decode cX9_throughNext 26 = .ok (.iand, 1) := by decide +kernel
theorem dX9_throughNext_27 : decode cX9_throughNext 27 = .ok (.iaload, 1) := by decide +kernel
theorem dX9_throughNext_28 : decode cX9_throughNext 28 = .ok (.ixor, 1) := by decide +kernel
theorem dX9_throughNext_29 : decode cX9_throughNext 29 = .ok (.invokevirtual 41, 3) := by decide +kernel
theorem dX9_throughNext_32 : decode cX9_throughNext 32 = .ok (.aload_n 0, 1) := by decide +kernel
theorem dX9_throughNext_33 : decode cX9_throughNext 33 = .ok (.getfield 18, 3) := by decide +kernel
theorem dX9_throughNext_36 : decode cX9_throughNext 36 = .ok (.iload 5, 2) := by decide +kernel
theorem dX9_throughNext_38 : decode cX9_throughNext 38 = .ok (.iaload, 1) := by decide +kernel
theorem dX9_throughNext_39 : decode cX9_throughNext 39 = .ok (.iadd, 1) := by decide +kernel
theorem dX9_throughNext_40 : decode cX9_throughNext 40 = .ok (.ireturn, 1) := by decide +kernel
def FX9_throughNext (hp : HP) (p0 : Nat) (p1 : Int32) (p2 : Int32) (p3 : Int32) (p4 : Nat) : Option (Int32) := vl ((((p1 ||| ((1 : Int32) <<< (p3 &&& 31))) * (8 : Int32)) + p3) &&& (2047 : Int32)) (fun x1 => (gR [9] 0 hp p0).bind (fun v2 => (rdN 0 hp v2 (p3 &&& (7 : Int32))).bind (fun v3 => (rc [3] hp p4 (FX3_of hp p4 (p2 ^^^ v3))).bind (fun v4 => (gR [9] 2 hp p0).bind (fun v5 => (rdN 0 hp v5 x1).bind (fun v6 => some (v4 + v6)))))))
set_option maxHeartbeats 4000000 in
set_option maxRecDepth 100000 in
theorem ctX9_throughNext (l : Launch) (D : va_G) (tg : Nat → ClassId) (bs : Nat) (sa : Nat → Nat) (hp : HP) (p0 : Nat) (p1 : Int32) (p2 : Int32) (p3 : Int32) (p4 : Nat) : Ct l D tg bs sa yX9_throughNext cX9_throughNext 6 (some .int) 1 [.ref p0, .int p1, .int p2, .int p3, .ref p4] hp (FX9_throughNext hp p0 p1 p2 p3 p4) (fun r => some (.int r)) (fun _ => hp) := by
  refine Ct.of (by decide) (Nat.le_of_ble_eq_true rfl) ?_
  intro V Q hVl hVd hVt hVb hVs hC
  subst hVl; subst hVd; subst hVt; subst hVb; subst hVs
  unfold FX9_throughNext
  show Zs V Q (0, 0) 6 _ _ hp [(0, .ref p0), (1, .int p1), (2, .int p2), (3, .int p3), (4, .ref p4)] 0 []
  refine z_iload_n hC 1 dX9_throughNext_0 rfl rfl ?_
  refine z_iconst hC (1 : Int32) dX9_throughNext_1 (by decide) ?_
  refine z_iload_n hC 3 dX9_throughNext_2 rfl rfl ?_
  refine z_ishl hC dX9_throughNext_3 ?_
  refine z_ior hC dX9_throughNext_4 ?_
  refine z_bipush hC (8 : Int32) dX9_throughNext_5 (by decide) ?_
  refine z_imul hC dX9_throughNext_7 ?_
  refine z_iload_n hC 3 dX9_throughNext_8 rfl rfl ?_
  refine z_iadd hC dX9_throughNext_9 ?_
  refine z_sipush hC (2047 : Int32) dX9_throughNext_10 (by decide) ?_
  refine z_iand hC dX9_throughNext_13 ?_
  refine z_vli (fun x1 => ?_)
  refine z_istore hC [(0, .ref p0), (1, .int p1), (2, .int p2), (3, .int p3), (4, .ref p4), (5, .int x1)] [1, 2, 3, 4, 5, 0] dX9_throughNext_14 (by decide) rfl ?_
  refine z_aload hC 4 dX9_throughNext_16 rfl ?_
  refine z_iload_n hC 2 dX9_throughNext_18 rfl rfl ?_
  refine z_aload_n hC 0 dX9_throughNext_19 rfl rfl ?_
  refine z_getR hC lgRX9_9 dX9_throughNext_20 (fun v2 => ?_)
  refine z_iload_n hC 3 dX9_throughNext_23 rfl rfl ?_
  refine z_bipush hC (7 : Int32) dX9_throughNext_24 (by decide) ?_
  refine z_iand hC dX9_throughNext_26 ?_
  refine z_iald hC dX9_throughNext_27 (fun v3 => ?_)
  refine z_ixor hC dX9_throughNext_28 ?_
  refine z_callVi hC (ci := 3) rfl lmRX9_41 (ctX3_of (vLa V) (vDa V) (vTg V) (vBs V) (vSa V) hp p4 (p2 ^^^ v3)) (by decide) hn0 dX9_throughNext_29 rfl rfl (Nat.le_of_ble_eq_true rfl) (fun v4 => ?_)
  refine z_aload_n hC 0 dX9_throughNext_32 rfl rfl ?_
  refine z_getR hC lgRX9_18 dX9_throughNext_33 (fun v5 => ?_)
  refine z_iload hC 5 dX9_throughNext_36 rfl ?_
  refine z_iald hC dX9_throughNext_38 (fun v6 => ?_)
  refine z_iadd hC dX9_throughNext_39 ?_
  exact z_iret hC (fun h => h) dX9_throughNext_40

theorem dX9_nextOf_0 : decode cX9_nextOf 0 = .ok (.iconst 0, 1) := by decide +kernel
theorem dX9_nextOf_1 : decode cX9_nextOf 1 = .ok (.istore 5, 2) := by decide +kernel
theorem dX9_nextOf_3 : decode cX9_nextOf 3 = .ok (.ldc 47, 2) := by decide +kernel
theorem dX9_nextOf_5 : decode cX9_nextOf 5 = .ok (.istore 6, 2) := by decide +kernel
theorem dX9_nextOf_7 : decode cX9_nextOf 7 = .ok (.iconst 0, 1) := by decide +kernel
theorem dX9_nextOf_8 : decode cX9_nextOf 8 = .ok (.istore 7, 2) := by decide +kernel
theorem dX9_nextOf_10 : decode cX9_nextOf 10 = .ok (.iload 7, 2) := by decide +kernel
theorem dX9_nextOf_12 : decode cX9_nextOf 12 = .ok (.iload_n 3, 1) := by decide +kernel
theorem dX9_nextOf_13 : decode cX9_nextOf 13 = .ok (.if_icmp .ge 52, 3) := by decide +kernel
theorem dX9_nextOf_16 : decode cX9_nextOf 16 = .ok (.iload 7, 2) := by decide +kernel
theorem dX9_nextOf_18 : decode cX9_nextOf 18 = .ok (.bipush 8, 2) := by decide +kernel
theorem dX9_nextOf_20 : decode cX9_nextOf 20 = .ok (.if_icmp .ge 45, 3) := by decide +kernel
theorem dX9_nextOf_23 : decode cX9_nextOf 23 = .ok (.iload_n 1, 1) := by decide +kernel
theorem dX9_nextOf_24 : decode cX9_nextOf 24 = .ok (.iload 7, 2) := by decide +kernel
theorem dX9_nextOf_26 : decode cX9_nextOf 26 = .ok (.ishr, 1) := by decide +kernel
theorem dX9_nextOf_27 : decode cX9_nextOf 27 = .ok (.iconst 1, 1) := by decide +kernel
theorem dX9_nextOf_28 : decode cX9_nextOf 28 = .ok (.iand, 1) := by decide +kernel
theorem dX9_nextOf_29 : decode cX9_nextOf 29 = .ok (.ifCond .ne 30, 3) := by decide +kernel
theorem dX9_nextOf_32 : decode cX9_nextOf 32 = .ok (.aload_n 0, 1) := by decide +kernel
theorem dX9_nextOf_33 : decode cX9_nextOf 33 = .ok (.iload_n 1, 1) := by decide +kernel
theorem dX9_nextOf_34 : decode cX9_nextOf 34 = .ok (.iload_n 2, 1) := by decide +kernel
theorem dX9_nextOf_35 : decode cX9_nextOf 35 = .ok (.iload 7, 2) := by decide +kernel
theorem dX9_nextOf_37 : decode cX9_nextOf 37 = .ok (.aload 4, 2) := by decide +kernel
theorem dX9_nextOf_39 : decode cX9_nextOf 39 = .ok (.invokevirtual 34, 3) := by decide +kernel
theorem dX9_nextOf_42 : decode cX9_nextOf 42 = .ok (.istore 8, 2) := by decide +kernel
theorem dX9_nextOf_44 : decode cX9_nextOf 44 = .ok (.iload 8, 2) := by decide +kernel
theorem dX9_nextOf_46 : decode cX9_nextOf 46 = .ok (.iload 6, 2) := by decide +kernel
theorem dX9_nextOf_48 : decode cX9_nextOf 48 = .ok (.if_icmp .ge 11, 3) := by decide +kernel
theorem dX9_nextOf_51 : decode cX9_nextOf 51 = .ok (.iload 8, 2) := by decide +kernel
theorem dX9_nextOf_53 : decode cX9_nextOf 53 = .ok (.istore 6, 2) := by decide +kernel
theorem dX9_nextOf_55 : decode cX9_nextOf 55 = .ok (.iload 7, 2) := by decide +kernel
theorem dX9_nextOf_57 : decode cX9_nextOf 57 = .ok (.istore 5, 2) := by decide +kernel
theorem dX9_nextOf_59 : decode cX9_nextOf 59 = .ok (.iinc 7 1, 3) := by decide +kernel
theorem dX9_nextOf_62 : decode cX9_nextOf 62 = .ok (.goto (-52), 3) := by decide +kernel
theorem dX9_nextOf_65 : decode cX9_nextOf 65 = .ok (.iload 5, 2) := by decide +kernel
theorem dX9_nextOf_67 : decode cX9_nextOf 67 = .ok (.ireturn, 1) := by decide +kernel
def FX9_nextOf (hp : HP) (p0 : Nat) (p1 : Int32) (p2 : Int32) (p3 : Int32) (p4 : Nat) : Option (Int32) := (lp (fun (s1 : Int32 × Int32 × Int32) => if p3 ≤ s1.2.2 then some (Sum.inl s1.1) else if (8 : Int32) ≤ s1.2.2 then some (Sum.inl s1.1) else if ((p1 >>> (s1.2.2 &&& 31)) &&& (1 : Int32)) = 0 then (rc [9] hp p0 (FX9_throughNext hp p0 p1 p2 s1.2.2 p4)).bind (fun v3 => if s1.2.1 ≤ v3 then vl (s1.2.2 + (1 : Int32)) (fun x4 => some (Sum.inr (s1.1, s1.2.1, x4))) else vl (s1.2.2 + (1 : Int32)) (fun x5 => some (Sum.inr (s1.2.2, v3, x5)))) else vl (s1.2.2 + (1 : Int32)) (fun x6 => some (Sum.inr (s1.1, s1.2.1, x6)))) FU ((0 : Int32), (1000000000 : Int32), (0 : Int32))).bind (fun (y2 : Int32) => some y2)
set_option maxHeartbeats 4000000 in
set_option maxRecDepth 100000 in
theorem ctX9_nextOf (l : Launch) (D : va_G) (tg : Nat → ClassId) (bs : Nat) (sa : Nat → Nat) (hp : HP) (p0 : Nat) (p1 : Int32) (p2 : Int32) (p3 : Int32) (p4 : Nat) : Ct l D tg bs sa yX9_nextOf cX9_nextOf 9 (some .int) 2 [.ref p0, .int p1, .int p2, .int p3, .ref p4] hp (FX9_nextOf hp p0 p1 p2 p3 p4) (fun r => some (.int r)) (fun _ => hp) := by
  refine Ct.of (by decide) (Nat.le_of_ble_eq_true rfl) ?_
  intro V Q hVl hVd hVt hVb hVs hC
  subst hVl; subst hVd; subst hVt; subst hVb; subst hVs
  unfold FX9_nextOf
  show Zs V Q (0, 0) 9 _ _ hp [(0, .ref p0), (1, .int p1), (2, .int p2), (3, .int p3), (4, .ref p4)] 0 []
  refine z_iconst hC (0 : Int32) dX9_nextOf_0 (by decide) ?_
  refine z_istore hC [(0, .ref p0), (1, .int p1), (2, .int p2), (3, .int p3), (4, .ref p4), (5, .int (0 : Int32))] [1, 2, 3, 4, 5, 0] dX9_nextOf_1 (by decide) rfl ?_
  refine z_ldc hC (1000000000 : Int32) lcRX9_47 dX9_nextOf_3 ?_
  refine z_istore hC [(0, .ref p0), (1, .int p1), (2, .int p2), (3, .int p3), (4, .ref p4), (5, .int (0 : Int32)), (6, .int (1000000000 : Int32))] [1, 2, 3, 4, 5, 6, 0] dX9_nextOf_5 (by decide) rfl ?_
  refine z_iconst hC (0 : Int32) dX9_nextOf_7 (by decide) ?_
  refine z_istore hC [(0, .ref p0), (1, .int p1), (2, .int p2), (3, .int p3), (4, .ref p4), (5, .int (0 : Int32)), (6, .int (1000000000 : Int32)), (7, .int (0 : Int32))] [1, 2, 3, 4, 5, 6, 7, 0] dX9_nextOf_8 (by decide) rfl ?_
  refine z_lp (S := Int32 × Int32 × Int32) (Y := Int32) (fun s1 => hp) (fun s1 => [(0, .ref p0), (1, .int p1), (2, .int p2), (3, .int p3), (4, .ref p4), (5, .int s1.1), (6, .int s1.2.1), (7, .int s1.2.2)]) (fun y2 => hp) (fun y2 => [(5, .int y2)]) 65 [] (fun y2 => ?_) (fun s1 => ?_) rfl rfl
  · refine z_iload hC 0 dX9_nextOf_65 rfl ?_
    exact z_iret hC (fun h => h) dX9_nextOf_67
  · refine z_iload hC 7 dX9_nextOf_10 rfl ?_
    refine z_iload_n hC 3 dX9_nextOf_12 rfl rfl ?_
    refine z_icmp_ge hC 65 dX9_nextOf_13 (by decide) (fun _ => ?_) (fun _ => ?_)
    · refine z_weak [(5, .int s1.1)] [5] rfl ?_
      exact z_leaf (fun h => h)
    · refine z_iload hC 7 dX9_nextOf_16 rfl ?_
      refine z_bipush hC (8 : Int32) dX9_nextOf_18 (by decide) ?_
      refine z_icmp_ge hC 65 dX9_nextOf_20 (by decide) (fun _ => ?_) (fun _ => ?_)
      · refine z_weak [(5, .int s1.1)] [5] rfl ?_
        exact z_leaf (fun h => h)
      · refine z_iload_n hC 1 dX9_nextOf_23 rfl rfl ?_
        refine z_iload hC 7 dX9_nextOf_24 rfl ?_
        refine z_ishr hC dX9_nextOf_26 ?_
        refine z_iconst hC (1 : Int32) dX9_nextOf_27 (by decide) ?_
        refine z_iand hC dX9_nextOf_28 ?_
        refine z_if_ne hC 59 dX9_nextOf_29 (by decide) (fun _ => ?_) (fun _ => ?_)
        · refine z_aload_n hC 0 dX9_nextOf_32 rfl rfl ?_
          refine z_iload_n hC 1 dX9_nextOf_33 rfl rfl ?_
          refine z_iload_n hC 2 dX9_nextOf_34 rfl rfl ?_
          refine z_iload hC 7 dX9_nextOf_35 rfl ?_
          refine z_aload hC 4 dX9_nextOf_37 rfl ?_
          refine z_callVi hC (ci := 9) rfl lmRX9_34 (ctX9_throughNext (vLa V) (vDa V) (vTg V) (vBs V) (vSa V) hp p0 p1 p2 s1.2.2 p4) (by decide) hn0 dX9_nextOf_39 rfl rfl (Nat.le_of_ble_eq_true rfl) (fun v3 => ?_)
          refine z_istore hC [(0, .ref p0), (1, .int p1), (2, .int p2), (3, .int p3), (4, .ref p4), (5, .int s1.1), (6, .int s1.2.1), (7, .int s1.2.2), (8, .int v3)] [1, 2, 3, 4, 5, 6, 7, 8, 0] dX9_nextOf_42 (by decide) rfl ?_
          refine z_iload hC 8 dX9_nextOf_44 rfl ?_
          refine z_iload hC 6 dX9_nextOf_46 rfl ?_
          refine z_icmp_ge hC 59 dX9_nextOf_48 (by decide) (fun _ => ?_) (fun _ => ?_)
          · refine z_iincv hC (1 : Int32) 7 (fun x4 => [(0, .ref p0), (1, .int p1), (2, .int p2), (3, .int p3), (4, .ref p4), (5, .int s1.1), (6, .int s1.2.1), (7, .int x4), (8, .int v3)]) [1, 2, 3, 4, 5, 6, 7, 0, 8] dX9_nextOf_59 rfl (by decide) (by decide) (fun _ => rfl) (fun x4 => ?_)
            refine z_goto hC 10 dX9_nextOf_62 (by decide) ?_
            refine z_weak [(0, .ref p0), (1, .int p1), (2, .int p2), (3, .int p3), (4, .ref p4), (5, .int s1.1), (6, .int s1.2.1), (7, .int x4)] [0, 1, 2, 3, 4, 5, 6, 7] rfl ?_
            exact z_leaf (fun h => h)
          · refine z_iload hC 8 dX9_nextOf_51 rfl ?_
            refine z_istore hC [(0, .ref p0), (1, .int p1), (2, .int p2), (3, .int p3), (4, .ref p4), (5, .int s1.1), (6, .int v3), (7, .int s1.2.2), (8, .int v3)] [1, 2, 3, 4, 5, 6, 0, 7, 8] dX9_nextOf_53 (by decide) rfl ?_
            refine z_iload hC 7 dX9_nextOf_55 rfl ?_
            refine z_istore hC [(0, .ref p0), (1, .int p1), (2, .int p2), (3, .int p3), (4, .ref p4), (5, .int s1.2.2), (6, .int v3), (7, .int s1.2.2), (8, .int v3)] [1, 2, 3, 4, 5, 0, 6, 7, 8] dX9_nextOf_57 (by decide) rfl ?_
            refine z_iincv hC (1 : Int32) 7 (fun x5 => [(0, .ref p0), (1, .int p1), (2, .int p2), (3, .int p3), (4, .ref p4), (5, .int s1.2.2), (6, .int v3), (7, .int x5), (8, .int v3)]) [1, 2, 3, 4, 5, 6, 7, 0, 8] dX9_nextOf_59 rfl (by decide) (by decide) (fun _ => rfl) (fun x5 => ?_)
            refine z_goto hC 10 dX9_nextOf_62 (by decide) ?_
            refine z_weak [(0, .ref p0), (1, .int p1), (2, .int p2), (3, .int p3), (4, .ref p4), (5, .int s1.2.2), (6, .int v3), (7, .int x5)] [0, 1, 2, 3, 4, 5, 6, 7] rfl ?_
            exact z_leaf (fun h => h)
        · refine z_iincv hC (1 : Int32) 7 (fun x6 => [(0, .ref p0), (1, .int p1), (2, .int p2), (3, .int p3), (4, .ref p4), (5, .int s1.1), (6, .int s1.2.1), (7, .int x6)]) [1, 2, 3, 4, 5, 6, 7, 0] dX9_nextOf_59 rfl (by decide) (by decide) (fun _ => rfl) (fun x6 => ?_)
          refine z_goto hC 10 dX9_nextOf_62 (by decide) ?_
          exact z_leaf (fun h => h)

theorem dX9_walk_0 : decode cX9_walk 0 = .ok (.iconst 0, 1) := by decide +kernel
theorem dX9_walk_1 : decode cX9_walk 1 = .ok (.istore 4, 2) := by decide +kernel
theorem dX9_walk_3 : decode cX9_walk 3 = .ok (.iload_n 1, 1) := by decide +kernel
theorem dX9_walk_4 : decode cX9_walk 4 = .ok (.istore 5, 2) := by decide +kernel
theorem dX9_walk_6 : decode cX9_walk 6 = .ok (.iconst 0, 1) := by decide +kernel
theorem dX9_walk_7 : decode cX9_walk 7 = .ok (.istore 6, 2) := by decide +kernel
theorem dX9_walk_9 : decode cX9_walk 9 = .ok (.iconst 0, 1) := by decide +kernel
theorem dX9_walk_10 : decode cX9_walk 10 = .ok (.istore 7, 2) := by decide +kernel
theorem dX9_walk_12 : decode cX9_walk 12 = .ok (.iload 7, 2) := by decide +kernel
theorem dX9_walk_14 : decode cX9_walk 14 = .ok (.iload_n 2, 1) := by decide +kernel
theorem dX9_walk_15 : decode cX9_walk 15 = .ok (.if_icmp .ge 77, 3) := by decide +kernel
theorem dX9_walk_18 : decode cX9_walk 18 = .ok (.iload 7, 2) := by decide +kernel
theorem dX9_walk_20 : decode cX9_walk 20 = .ok (.bipush 8, 2) := by decide +kernel
theorem dX9_walk_22 : decode cX9_walk 22 = .ok (.if_icmp .ge 70, 3) := by decide +kernel
theorem dX9_walk_25 : decode cX9_walk 25 = .ok (.aload_n 0, 1) := by decide +kernel
theorem dX9_walk_26 : decode cX9_walk 26 = .ok (.iload 4, 2) := by decide +kernel
theorem dX9_walk_28 : decode cX9_walk 28 = .ok (.iload 5, 2) := by decide +kernel
theorem dX9_walk_30 : decode cX9_walk 30 = .ok (.iload_n 2, 1) := by decide +kernel
theorem dX9_walk_31 : decode cX9_walk 31 = .ok (.aload_n 3, 1) := by decide +kernel
theorem dX9_walk_32 : decode cX9_walk 32 = .ok (.invokevirtual 30, 3) := by decide +kernel
theorem dX9_walk_35 : decode cX9_walk 35 = .ok (.bipush 7, 2) := by decide +kernel
theorem dX9_walk_37 : decode cX9_walk 37 = .ok (.iand, 1) := by decide +kernel
theorem dX9_walk_38 : decode cX9_walk 38 = .ok (.istore 8, 2) := by decide +kernel
theorem dX9_walk_40 : decode cX9_walk 40 = .ok (.aload_n 0, 1) := by decide +kernel
theorem dX9_walk_41 : decode cX9_walk 41 = .ok (.getfield 15, 3) := by decide +kernel
theorem dX9_walk_44 : decode cX9_walk 44 = .ok (.iload 7, 2) := by decide +kernel
theorem dX9_walk_46 : decode cX9_walk 46 = .ok (.iload 8, 2) := by decide +kernel
theorem dX9_walk_48 : decode cX9_walk 48 = .ok (.iastore, 1) := by decide +kernel
theorem dX9_walk_49 : decode cX9_walk 49 = .ok (.iload 6, 2) := by decide +kernel
theorem dX9_walk_51 : decode cX9_walk 51 = .ok (.aload_n 3, 1) := by decide +kernel
theorem dX9_walk_52 : decode cX9_walk 52 = .ok (.iload 5, 2) := by decide +kernel
theorem dX9_walk_54 : decode cX9_walk 54 = .ok (.aload_n 0, 1) := by decide +kernel
theorem dX9_walk_55 : decode cX9_walk 55 = .ok (.getfield 9, 3) := by decide +kernel
theorem dX9_walk_58 : decode cX9_walk 58 = .ok (.iload 8, 2) := by decide +kernel
theorem dX9_walk_60 : decode cX9_walk 60 = .ok (.iaload, 1) := by decide +kernel
theorem dX9_walk_61 : decode cX9_walk 61 = .ok (.ixor, 1) := by decide +kernel
theorem dX9_walk_62 : decode cX9_walk 62 = .ok (.invokevirtual 41, 3) := by decide +kernel
theorem dX9_walk_65 : decode cX9_walk 65 = .ok (.iadd, 1) := by decide +kernel
theorem dX9_walk_66 : decode cX9_walk 66 = .ok (.istore 6, 2) := by decide +kernel
theorem dX9_walk_68 : decode cX9_walk 68 = .ok (.aload_n 0, 1) := by decide +kernel
theorem dX9_walk_69 : decode cX9_walk 69 = .ok (.getfield 9, 3) := by decide +kernel
theorem dX9_walk_72 : decode cX9_walk 72 = .ok (.iload 8, 2) := by decide +kernel
theorem dX9_walk_74 : decode cX9_walk 74 = .ok (.iaload, 1) := by decide +kernel
theorem dX9_walk_75 : decode cX9_walk 75 = .ok (.istore 5, 2) := by decide +kernel
theorem dX9_walk_77 : decode cX9_walk 77 = .ok (.iload 4, 2) := by decide +kernel
theorem dX9_walk_79 : decode cX9_walk 79 = .ok (.iconst 1, 1) := by decide +kernel
theorem dX9_walk_80 : decode cX9_walk 80 = .ok (.iload 8, 2) := by decide +kernel
theorem dX9_walk_82 : decode cX9_walk 82 = .ok (.ishl, 1) := by decide +kernel
theorem dX9_walk_83 : decode cX9_walk 83 = .ok (.ior, 1) := by decide +kernel
theorem dX9_walk_84 : decode cX9_walk 84 = .ok (.istore 4, 2) := by decide +kernel
theorem dX9_walk_86 : decode cX9_walk 86 = .ok (.iinc 7 1, 3) := by decide +kernel
theorem dX9_walk_89 : decode cX9_walk 89 = .ok (.goto (-77), 3) := by decide +kernel
theorem dX9_walk_92 : decode cX9_walk 92 = .ok (.iload 6, 2) := by decide +kernel
theorem dX9_walk_94 : decode cX9_walk 94 = .ok (.ireturn, 1) := by decide +kernel
def FX9_walk (hp : HP) (p0 : Nat) (p1 : Int32) (p2 : Int32) (p3 : Nat) : Option (Int32 × HP) := (lp (fun (s1 : Int32 × Int32 × Int32 × Int32 × HP) => if p2 ≤ s1.2.2.2.1 then some (Sum.inl (s1.2.2.1, s1.2.2.2.2)) else if (8 : Int32) ≤ s1.2.2.2.1 then some (Sum.inl (s1.2.2.1, s1.2.2.2.2)) else (rc [9] s1.2.2.2.2 p0 (FX9_nextOf s1.2.2.2.2 p0 s1.1 s1.2.1 p2 p3)).bind (fun v3 => vl (v3 &&& (7 : Int32)) (fun x4 => (gR [9] 1 s1.2.2.2.2 p0).bind (fun v5 => (wrI s1.2.2.2.2 v5 s1.2.2.2.1 x4).bind (fun hp6 => (gR [9] 0 hp6 p0).bind (fun v7 => (rdN 0 hp6 v7 x4).bind (fun v8 => (rc [3] hp6 p3 (FX3_of hp6 p3 (s1.2.1 ^^^ v8))).bind (fun v9 => vl (s1.2.2.1 + v9) (fun x10 => (gR [9] 0 hp6 p0).bind (fun v11 => (rdN 0 hp6 v11 x4).bind (fun v12 => vl (s1.1 ||| ((1 : Int32) <<< (x4 &&& 31))) (fun x13 => vl (s1.2.2.2.1 + (1 : Int32)) (fun x14 => some (Sum.inr (x13, v12, x10, x14, hp6))))))))))))))) FU ((0 : Int32), p1, (0 : Int32), (0 : Int32), hp)).bind (fun (y2 : Int32 × HP) => some (y2.1, y2.2))
set_option maxHeartbeats 4000000 in
set_option maxRecDepth 100000 in
theorem ctX9_walk (l : Launch) (D : va_G) (tg : Nat → ClassId) (bs : Nat) (sa : Nat → Nat) (hp : HP) (p0 : Nat) (p1 : Int32) (p2 : Int32) (p3 : Nat) : Ct l D tg bs sa yX9_walk cX9_walk 9 (some .int) 3 [.ref p0, .int p1, .int p2, .ref p3] hp (FX9_walk hp p0 p1 p2 p3) (fun r => some (.int r.1)) (fun r => r.2) := by
  refine Ct.of (by decide) (Nat.le_of_ble_eq_true rfl) ?_
  intro V Q hVl hVd hVt hVb hVs hC
  subst hVl; subst hVd; subst hVt; subst hVb; subst hVs
  unfold FX9_walk
  show Zs V Q (0, 0) 9 _ _ hp [(0, .ref p0), (1, .int p1), (2, .int p2), (3, .ref p3)] 0 []
  refine z_iconst hC (0 : Int32) dX9_walk_0 (by decide) ?_
  refine z_istore hC [(0, .ref p0), (1, .int p1), (2, .int p2), (3, .ref p3), (4, .int (0 : Int32))] [1, 2, 3, 4, 0] dX9_walk_1 (by decide) rfl ?_
  refine z_iload_n hC 1 dX9_walk_3 rfl rfl ?_
  refine z_istore hC [(0, .ref p0), (1, .int p1), (2, .int p2), (3, .ref p3), (4, .int (0 : Int32)), (5, .int p1)] [1, 2, 3, 4, 5, 0] dX9_walk_4 (by decide) rfl ?_
  refine z_iconst hC (0 : Int32) dX9_walk_6 (by decide) ?_
  refine z_istore hC [(0, .ref p0), (1, .int p1), (2, .int p2), (3, .ref p3), (4, .int (0 : Int32)), (5, .int p1), (6, .int (0 : Int32))] [1, 2, 3, 4, 5, 6, 0] dX9_walk_7 (by decide) rfl ?_
  refine z_iconst hC (0 : Int32) dX9_walk_9 (by decide) ?_
  refine z_istore hC [(0, .ref p0), (1, .int p1), (2, .int p2), (3, .ref p3), (4, .int (0 : Int32)), (5, .int p1), (6, .int (0 : Int32)), (7, .int (0 : Int32))] [1, 2, 3, 4, 5, 6, 7, 0] dX9_walk_10 (by decide) rfl ?_
  refine z_weak [(0, .ref p0), (2, .int p2), (3, .ref p3), (4, .int (0 : Int32)), (5, .int p1), (6, .int (0 : Int32)), (7, .int (0 : Int32))] [0, 2, 3, 4, 5, 6, 7] rfl ?_
  refine z_lp (S := Int32 × Int32 × Int32 × Int32 × HP) (Y := Int32 × HP) (fun s1 => s1.2.2.2.2) (fun s1 => [(0, .ref p0), (2, .int p2), (3, .ref p3), (4, .int s1.1), (5, .int s1.2.1), (6, .int s1.2.2.1), (7, .int s1.2.2.2.1)]) (fun y2 => y2.2) (fun y2 => [(6, .int y2.1)]) 92 [] (fun y2 => ?_) (fun s1 => ?_) rfl rfl
  · refine z_iload hC 0 dX9_walk_92 rfl ?_
    exact z_iret hC (fun h => h) dX9_walk_94
  · refine z_iload hC 6 dX9_walk_12 rfl ?_
    refine z_iload_n hC 1 dX9_walk_14 rfl rfl ?_
    refine z_icmp_ge hC 92 dX9_walk_15 (by decide) (fun _ => ?_) (fun _ => ?_)
    · refine z_weak [(6, .int s1.2.2.1)] [5] rfl ?_
      exact z_leaf (fun h => h)
    · refine z_iload hC 6 dX9_walk_18 rfl ?_
      refine z_bipush hC (8 : Int32) dX9_walk_20 (by decide) ?_
      refine z_icmp_ge hC 92 dX9_walk_22 (by decide) (fun _ => ?_) (fun _ => ?_)
      · refine z_weak [(6, .int s1.2.2.1)] [5] rfl ?_
        exact z_leaf (fun h => h)
      · refine z_aload_n hC 0 dX9_walk_25 rfl rfl ?_
        refine z_iload hC 3 dX9_walk_26 rfl ?_
        refine z_iload hC 4 dX9_walk_28 rfl ?_
        refine z_iload_n hC 1 dX9_walk_30 rfl rfl ?_
        refine z_aload_n hC 2 dX9_walk_31 rfl rfl ?_
        refine z_callVi hC (ci := 9) rfl lmRX9_30 (ctX9_nextOf (vLa V) (vDa V) (vTg V) (vBs V) (vSa V) s1.2.2.2.2 p0 s1.1 s1.2.1 p2 p3) (by decide) hn0 dX9_walk_32 rfl rfl (Nat.le_of_ble_eq_true rfl) (fun v3 => ?_)
        refine z_bipush hC (7 : Int32) dX9_walk_35 (by decide) ?_
        refine z_iand hC dX9_walk_37 ?_
        refine z_vli (fun x4 => ?_)
        refine z_istore hC [(0, .ref p0), (2, .int p2), (3, .ref p3), (4, .int s1.1), (5, .int s1.2.1), (6, .int s1.2.2.1), (7, .int s1.2.2.2.1), (8, .int x4)] [1, 2, 3, 4, 5, 6, 7, 0] dX9_walk_38 (by decide) rfl ?_
        refine z_aload_n hC 0 dX9_walk_40 rfl rfl ?_
        refine z_getR hC lgRX9_15 dX9_walk_41 (fun v5 => ?_)
        refine z_iload hC 6 dX9_walk_44 rfl ?_
        refine z_iload hC 7 dX9_walk_46 rfl ?_
        refine z_iast hC dX9_walk_48 (fun hp6 => ?_)
        refine z_iload hC 5 dX9_walk_49 rfl ?_
        refine z_aload_n hC 2 dX9_walk_51 rfl rfl ?_
        refine z_iload hC 4 dX9_walk_52 rfl ?_
        refine z_aload_n hC 0 dX9_walk_54 rfl rfl ?_
        refine z_getR hC lgRX9_9 dX9_walk_55 (fun v7 => ?_)
        refine z_iload hC 7 dX9_walk_58 rfl ?_
        refine z_iald hC dX9_walk_60 (fun v8 => ?_)
        refine z_ixor hC dX9_walk_61 ?_
        refine z_callVi hC (ci := 3) rfl lmRX9_41 (ctX3_of (vLa V) (vDa V) (vTg V) (vBs V) (vSa V) hp6 p3 (s1.2.1 ^^^ v8)) (by decide) hn0 dX9_walk_62 rfl rfl (Nat.le_of_ble_eq_true rfl) (fun v9 => ?_)
        refine z_iadd hC dX9_walk_65 ?_
        refine z_vli (fun x10 => ?_)
        refine z_istore hC [(0, .ref p0), (2, .int p2), (3, .ref p3), (4, .int s1.1), (5, .int s1.2.1), (6, .int x10), (7, .int s1.2.2.2.1), (8, .int x4)] [1, 2, 3, 4, 5, 0, 6, 7] dX9_walk_66 (by decide) rfl ?_
        refine z_aload_n hC 0 dX9_walk_68 rfl rfl ?_
        refine z_getR hC lgRX9_9 dX9_walk_69 (fun v11 => ?_)
        refine z_iload hC 7 dX9_walk_72 rfl ?_
        refine z_iald hC dX9_walk_74 (fun v12 => ?_)
        refine z_istore hC [(0, .ref p0), (2, .int p2), (3, .ref p3), (4, .int s1.1), (5, .int v12), (6, .int x10), (7, .int s1.2.2.2.1), (8, .int x4)] [1, 2, 3, 4, 0, 5, 6, 7] dX9_walk_75 (by decide) rfl ?_
        refine z_iload hC 3 dX9_walk_77 rfl ?_
        refine z_iconst hC (1 : Int32) dX9_walk_79 (by decide) ?_
        refine z_iload hC 7 dX9_walk_80 rfl ?_
        refine z_ishl hC dX9_walk_82 ?_
        refine z_ior hC dX9_walk_83 ?_
        refine z_vli (fun x13 => ?_)
        refine z_istore hC [(0, .ref p0), (2, .int p2), (3, .ref p3), (4, .int x13), (5, .int v12), (6, .int x10), (7, .int s1.2.2.2.1), (8, .int x4)] [1, 2, 3, 0, 4, 5, 6, 7] dX9_walk_84 (by decide) rfl ?_
        refine z_iincv hC (1 : Int32) 6 (fun x14 => [(0, .ref p0), (2, .int p2), (3, .ref p3), (4, .int x13), (5, .int v12), (6, .int x10), (7, .int x14), (8, .int x4)]) [1, 2, 3, 4, 5, 6, 0, 7] dX9_walk_86 rfl (by decide) (by decide) (fun _ => rfl) (fun x14 => ?_)
        refine z_goto hC 12 dX9_walk_89 (by decide) ?_
        refine z_weak [(0, .ref p0), (2, .int p2), (3, .ref p3), (4, .int x13), (5, .int v12), (6, .int x10), (7, .int x14)] [0, 1, 2, 3, 4, 5, 6] rfl ?_
        exact z_leaf (fun h => h)

theorem dX9_find_0 : decode cX9_find 0 = .ok (.iconst 0, 1) := by decide +kernel
theorem dX9_find_1 : decode cX9_find 1 = .ok (.iload_n 2, 1) := by decide +kernel
theorem dX9_find_2 : decode cX9_find 2 = .ok (.bipush 8, 2) := by decide +kernel
theorem dX9_find_4 : decode cX9_find 4 = .ok (.invokestatic 21, 3) := by decide +kernel
theorem dX9_find_7 : decode cX9_find 7 = .ok (.invokestatic 27, 3) := by decide +kernel
theorem dX9_find_10 : decode cX9_find 10 = .ok (.istore 4, 2) := by decide +kernel
theorem dX9_find_12 : decode cX9_find 12 = .ok (.iconst 1, 1) := by decide +kernel
theorem dX9_find_13 : decode cX9_find 13 = .ok (.iload 4, 2) := by decide +kernel
theorem dX9_find_15 : decode cX9_find 15 = .ok (.ishl, 1) := by decide +kernel
theorem dX9_find_16 : decode cX9_find 16 = .ok (.iconst 1, 1) := by decide +kernel
theorem dX9_find_17 : decode cX9_find 17 = .ok (.isub, 1) := by decide +kernel
theorem dX9_find_18 : decode cX9_find 18 = .ok (.istore 5, 2) := by decide +kernel
theorem dX9_find_20 : decode cX9_find 20 = .ok (.iconst 0, 1) := by decide +kernel
theorem dX9_find_21 : decode cX9_find 21 = .ok (.istore 6, 2) := by decide +kernel
theorem dX9_find_23 : decode cX9_find 23 = .ok (.iload 6, 2) := by decide +kernel
theorem dX9_find_25 : decode cX9_find 25 = .ok (.iload 4, 2) := by decide +kernel
theorem dX9_find_27 : decode cX9_find 27 = .ok (.if_icmp .ge 23, 3) := by decide +kernel
theorem dX9_find_30 : decode cX9_find 30 = .ok (.aload_n 0, 1) := by decide +kernel
theorem dX9_find_31 : decode cX9_find 31 = .ok (.getfield 18, 3) := by decide +kernel
theorem dX9_find_34 : decode cX9_find 34 = .ok (.iload 5, 2) := by decide +kernel
theorem dX9_find_36 : decode cX9_find 36 = .ok (.bipush 8, 2) := by decide +kernel
theorem dX9_find_38 : decode cX9_find 38 = .ok (.imul, 1) := by decide +kernel
theorem dX9_find_39 : decode cX9_find 39 = .ok (.iload 6, 2) := by decide +kernel
theorem dX9_find_41 : decode cX9_find 41 = .ok (.iadd, 1) := by decide +kernel
theorem dX9_find_42 : decode cX9_find 42 = .ok (.iconst 0, 1) := by decide +kernel
theorem dX9_find_43 : decode cX9_find 43 = .ok (.iastore, 1) := by decide +kernel
theorem dX9_find_44 : decode cX9_find 44 = .ok (.iinc 6 1, 3) := by decide +kernel
theorem dX9_find_47 : decode cX9_find 47 = .ok (.goto (-24), 3) := by decide +kernel
theorem dX9_find_50 : decode cX9_find 50 = .ok (.iload 5, 2) := by decide +kernel
theorem dX9_find_52 : decode cX9_find 52 = .ok (.iconst 1, 1) := by decide +kernel
theorem dX9_find_53 : decode cX9_find 53 = .ok (.isub, 1) := by decide +kernel
theorem dX9_find_54 : decode cX9_find 54 = .ok (.istore 6, 2) := by decide +kernel
theorem dX9_find_56 : decode cX9_find 56 = .ok (.iload 6, 2) := by decide +kernel
theorem dX9_find_58 : decode cX9_find 58 = .ok (.ifCond .le 72, 3) := by decide +kernel
theorem dX9_find_61 : decode cX9_find 61 = .ok (.iconst 0, 1) := by decide +kernel
theorem dX9_find_62 : decode cX9_find 62 = .ok (.istore 7, 2) := by decide +kernel
theorem dX9_find_64 : decode cX9_find 64 = .ok (.iload 7, 2) := by decide +kernel
theorem dX9_find_66 : decode cX9_find 66 = .ok (.iload 4, 2) := by decide +kernel
theorem dX9_find_68 : decode cX9_find 68 = .ok (.if_icmp .ge 56, 3) := by decide +kernel
theorem dX9_find_71 : decode cX9_find 71 = .ok (.aload_n 0, 1) := by decide +kernel
theorem dX9_find_72 : decode cX9_find 72 = .ok (.iload 6, 2) := by decide +kernel
theorem dX9_find_74 : decode cX9_find 74 = .ok (.aload_n 0, 1) := by decide +kernel
theorem dX9_find_75 : decode cX9_find 75 = .ok (.getfield 9, 3) := by decide +kernel
theorem dX9_find_78 : decode cX9_find 78 = .ok (.iload 7, 2) := by decide +kernel
theorem dX9_find_80 : decode cX9_find 80 = .ok (.iaload, 1) := by decide +kernel
theorem dX9_find_81 : decode cX9_find 81 = .ok (.iload 4, 2) := by decide +kernel
theorem dX9_find_83 : decode cX9_find 83 = .ok (.aload_n 3, 1) := by decide +kernel
theorem dX9_find_84 : decode cX9_find 84 = .ok (.invokevirtual 30, 3) := by decide +kernel
theorem dX9_find_87 : decode cX9_find 87 = .ok (.istore 8, 2) := by decide +kernel
theorem dX9_find_89 : decode cX9_find 89 = .ok (.aload_n 0, 1) := by decide +kernel
theorem dX9_find_90 : decode cX9_find 90 = .ok (.getfield 18, 3) := by decide +kernel
theorem dX9_find_93 : decode cX9_find 93 = .ok (.iload 6, 2) := by decide +kernel
theorem dX9_find_95 : decode cX9_find 95 = .ok (.bipush 8, 2) := by decide +kernel
theorem dX9_find_97 : decode cX9_find 97 = .ok (.imul, 1) := by decide +kernel
theorem dX9_find_98 : decode cX9_find 98 = .ok (.iload 7, 2) := by decide +kernel
theorem dX9_find_100 : decode cX9_find 100 = .ok (.iadd, 1) := by decide +kernel
theorem dX9_find_101 : decode cX9_find 101 = .ok (.aload_n 0, 1) := by decide +kernel
theorem dX9_find_102 : decode cX9_find 102 = .ok (.iload 6, 2) := by decide +kernel
theorem dX9_find_104 : decode cX9_find 104 = .ok (.aload_n 0, 1) := by decide +kernel
theorem dX9_find_105 : decode cX9_find 105 = .ok (.getfield 9, 3) := by decide +kernel
theorem dX9_find_108 : decode cX9_find 108 = .ok (.iload 7, 2) := by decide +kernel
theorem dX9_find_110 : decode cX9_find 110 = .ok (.iaload, 1) := by decide +kernel
theorem dX9_find_111 : decode cX9_find 111 = .ok (.iload 8, 2) := by decide +kernel
theorem dX9_find_113 : decode cX9_find 113 = .ok (.aload_n 3, 1) := by decide +kernel
theorem dX9_find_114 : decode cX9_find 114 = .ok (.invokevirtual 34, 3) := by decide +kernel
theorem dX9_find_117 : decode cX9_find 117 = .ok (.iastore, 1) := by decide +kernel
theorem dX9_find_118 : decode cX9_find 118 = .ok (.iinc 7 1, 3) := by decide +kernel
theorem dX9_find_121 : decode cX9_find 121 = .ok (.goto (-57), 3) := by decide +kernel
theorem dX9_find_124 : decode cX9_find 124 = .ok (.iinc 6 (-1), 3) := by decide +kernel
theorem dX9_find_127 : decode cX9_find 127 = .ok (.goto (-71), 3) := by decide +kernel
theorem dX9_find_130 : decode cX9_find 130 = .ok (.aload_n 0, 1) := by decide +kernel
theorem dX9_find_131 : decode cX9_find 131 = .ok (.iload_n 1, 1) := by decide +kernel
theorem dX9_find_132 : decode cX9_find 132 = .ok (.iload 4, 2) := by decide +kernel
theorem dX9_find_134 : decode cX9_find 134 = .ok (.aload_n 3, 1) := by decide +kernel
theorem dX9_find_135 : decode cX9_find 135 = .ok (.invokevirtual 37, 3) := by decide +kernel
theorem dX9_find_138 : decode cX9_find 138 = .ok (.ireturn, 1) := by decide +kernel
def FX9_find (hp : HP) (p0 : Nat) (p1 : Int32) (p2 : Int32) (p3 : Nat) : Option (Int32 × HP) := vl (mxI (0 : Int32) (mnI p2 (8 : Int32))) (fun x1 => vl (((1 : Int32) <<< (x1 &&& 31)) - (1 : Int32)) (fun x2 => (lp (fun (s3 : Int32 × HP) => if x1 ≤ s3.1 then some (Sum.inl s3.2) else (gR [9] 2 s3.2 p0).bind (fun v21 => (wrI s3.2 v21 ((x2 * (8 : Int32)) + s3.1) (0 : Int32)).bind (fun hp22 => vl (s3.1 + (1 : Int32)) (fun x23 => some (Sum.inr (x23, hp22)))))) FU ((0 : Int32), hp)).bind (fun (y4 : HP) => vl (x2 - (1 : Int32)) (fun x5 => (lp (fun (s6 : Int32 × HP) => if s6.1 ≤ 0 then some (Sum.inl s6.2) else (lp (fun (s9 : Int32 × HP) => if x1 ≤ s9.1 then some (Sum.inl s9.2) else (gR [9] 0 s9.2 p0).bind (fun v12 => (rdN 0 s9.2 v12 s9.1).bind (fun v13 => (rc [9] s9.2 p0 (FX9_nextOf s9.2 p0 s6.1 v13 x1 p3)).bind (fun v14 => (gR [9] 2 s9.2 p0).bind (fun v15 => (gR [9] 0 s9.2 p0).bind (fun v16 => (rdN 0 s9.2 v16 s9.1).bind (fun v17 => (rc [9] s9.2 p0 (FX9_throughNext s9.2 p0 s6.1 v17 v14 p3)).bind (fun v18 => (wrI s9.2 v15 ((s6.1 * (8 : Int32)) + s9.1) v18).bind (fun hp19 => vl (s9.1 + (1 : Int32)) (fun x20 => some (Sum.inr (x20, hp19)))))))))))) FU ((0 : Int32), s6.2)).bind (fun (y10 : HP) => vl (s6.1 + (-1 : Int32)) (fun x11 => some (Sum.inr (x11, y10))))) FU (x5, y4)).bind (fun (y7 : HP) => (rc [9] y7 p0 (FX9_walk y7 p0 p1 x1 p3)).bind (fun w8 => some (w8.1, w8.2)))))))
set_option maxHeartbeats 4000000 in
set_option maxRecDepth 100000 in
theorem ctX9_find (l : Launch) (D : va_G) (tg : Nat → ClassId) (bs : Nat) (sa : Nat → Nat) (hp : HP) (p0 : Nat) (p1 : Int32) (p2 : Int32) (p3 : Nat) : Ct l D tg bs sa yX9_find cX9_find 9 (some .int) 4 [.ref p0, .int p1, .int p2, .ref p3] hp (FX9_find hp p0 p1 p2 p3) (fun r => some (.int r.1)) (fun r => r.2) := by
  refine Ct.of (by decide) (Nat.le_of_ble_eq_true rfl) ?_
  intro V Q hVl hVd hVt hVb hVs hC
  subst hVl; subst hVd; subst hVt; subst hVb; subst hVs
  unfold FX9_find
  show Zs V Q (0, 0) 9 _ _ hp [(0, .ref p0), (1, .int p1), (2, .int p2), (3, .ref p3)] 0 []
  refine z_iconst hC (0 : Int32) dX9_find_0 (by decide) ?_
  refine z_iload_n hC 2 dX9_find_1 rfl rfl ?_
  refine z_bipush hC (8 : Int32) dX9_find_2 (by decide) ?_
  refine z_mmin hC laRX9_21 hn0 (Nat.le_of_ble_eq_true rfl) dX9_find_4 ?_
  refine z_mmax hC laRX9_27 hn0 (Nat.le_of_ble_eq_true rfl) dX9_find_7 ?_
  refine z_vli (fun x1 => ?_)
  refine z_istore hC [(0, .ref p0), (1, .int p1), (2, .int p2), (3, .ref p3), (4, .int x1)] [1, 2, 3, 4, 0] dX9_find_10 (by decide) rfl ?_
  refine z_iconst hC (1 : Int32) dX9_find_12 (by decide) ?_
  refine z_iload hC 4 dX9_find_13 rfl ?_
  refine z_ishl hC dX9_find_15 ?_
  refine z_iconst hC (1 : Int32) dX9_find_16 (by decide) ?_
  refine z_isub hC dX9_find_17 ?_
  refine z_vli (fun x2 => ?_)
  refine z_istore hC [(0, .ref p0), (1, .int p1), (2, .int p2), (3, .ref p3), (4, .int x1), (5, .int x2)] [1, 2, 3, 4, 5, 0] dX9_find_18 (by decide) rfl ?_
  refine z_iconst hC (0 : Int32) dX9_find_20 (by decide) ?_
  refine z_istore hC [(0, .ref p0), (1, .int p1), (2, .int p2), (3, .ref p3), (4, .int x1), (5, .int x2), (6, .int (0 : Int32))] [1, 2, 3, 4, 5, 6, 0] dX9_find_21 (by decide) rfl ?_
  refine z_weak [(0, .ref p0), (1, .int p1), (3, .ref p3), (4, .int x1), (5, .int x2), (6, .int (0 : Int32))] [0, 1, 3, 4, 5, 6] rfl ?_
  refine z_lp (S := Int32 × HP) (Y := HP) (fun s3 => s3.2) (fun s3 => [(0, .ref p0), (1, .int p1), (3, .ref p3), (4, .int x1), (5, .int x2), (6, .int s3.1)]) (fun y4 => y4) (fun y4 => [(0, .ref p0), (1, .int p1), (3, .ref p3), (4, .int x1), (5, .int x2)]) 50 [] (fun y4 => ?_) (fun s3 => ?_) rfl rfl
  · refine z_iload hC 4 dX9_find_50 rfl ?_
    refine z_iconst hC (1 : Int32) dX9_find_52 (by decide) ?_
    refine z_isub hC dX9_find_53 ?_
    refine z_vli (fun x5 => ?_)
    refine z_istore hC [(0, .ref p0), (1, .int p1), (3, .ref p3), (4, .int x1), (5, .int x2), (6, .int x5)] [1, 2, 3, 4, 5, 0] dX9_find_54 (by decide) rfl ?_
    refine z_weak [(0, .ref p0), (1, .int p1), (3, .ref p3), (4, .int x1), (6, .int x5)] [0, 1, 2, 3, 5] rfl ?_
    refine z_lp (S := Int32 × HP) (Y := HP) (fun s6 => s6.2) (fun s6 => [(0, .ref p0), (1, .int p1), (3, .ref p3), (4, .int x1), (6, .int s6.1)]) (fun y7 => y7) (fun y7 => [(0, .ref p0), (1, .int p1), (3, .ref p3), (4, .int x1)]) 130 [] (fun y7 => ?_) (fun s6 => ?_) rfl rfl
    · refine z_aload_n hC 0 dX9_find_130 rfl rfl ?_
      refine z_iload_n hC 1 dX9_find_131 rfl rfl ?_
      refine z_iload hC 3 dX9_find_132 rfl ?_
      refine z_aload_n hC 2 dX9_find_134 rfl rfl ?_
      refine z_callVi hC (ci := 9) rfl lmRX9_37 (ctX9_walk (vLa V) (vDa V) (vTg V) (vBs V) (vSa V) y7 p0 p1 x1 p3) (by decide) hn0 dX9_find_135 rfl rfl (Nat.le_of_ble_eq_true rfl) (fun w8 => ?_)
      exact z_iret hC (fun h => h) dX9_find_138
    · refine z_iload hC 4 dX9_find_56 rfl ?_
      refine z_if_le hC 130 dX9_find_58 (by decide) (fun _ => ?_) (fun _ => ?_)
      · refine z_weak [(0, .ref p0), (1, .int p1), (3, .ref p3), (4, .int x1)] [0, 1, 2, 3] rfl ?_
        exact z_leaf (fun h => h)
      · refine z_iconst hC (0 : Int32) dX9_find_61 (by decide) ?_
        refine z_istore hC [(0, .ref p0), (1, .int p1), (3, .ref p3), (4, .int x1), (6, .int s6.1), (7, .int (0 : Int32))] [1, 2, 3, 4, 5, 0] dX9_find_62 (by decide) rfl ?_
        refine z_lp (S := Int32 × HP) (Y := HP) (fun s9 => s9.2) (fun s9 => [(0, .ref p0), (1, .int p1), (3, .ref p3), (4, .int x1), (6, .int s6.1), (7, .int s9.1)]) (fun y10 => y10) (fun y10 => [(0, .ref p0), (1, .int p1), (3, .ref p3), (4, .int x1), (6, .int s6.1)]) 124 [] (fun y10 => ?_) (fun s9 => ?_) rfl rfl
        · refine z_iincv hC (-1 : Int32) 4 (fun x11 => [(0, .ref p0), (1, .int p1), (3, .ref p3), (4, .int x1), (6, .int x11)]) [1, 2, 3, 4, 0] dX9_find_124 rfl (by decide) (by decide) (fun _ => rfl) (fun x11 => ?_)
          refine z_goto hC 56 dX9_find_127 (by decide) ?_
          exact z_leaf (fun h => h)
        · refine z_iload hC 5 dX9_find_64 rfl ?_
          refine z_iload hC 3 dX9_find_66 rfl ?_
          refine z_icmp_ge hC 124 dX9_find_68 (by decide) (fun _ => ?_) (fun _ => ?_)
          · refine z_weak [(0, .ref p0), (1, .int p1), (3, .ref p3), (4, .int x1), (6, .int s6.1)] [0, 1, 2, 3, 4] rfl ?_
            exact z_leaf (fun h => h)
          · refine z_aload_n hC 0 dX9_find_71 rfl rfl ?_
            refine z_iload hC 4 dX9_find_72 rfl ?_
            refine z_aload_n hC 0 dX9_find_74 rfl rfl ?_
            refine z_getR hC lgRX9_9 dX9_find_75 (fun v12 => ?_)
            refine z_iload hC 5 dX9_find_78 rfl ?_
            refine z_iald hC dX9_find_80 (fun v13 => ?_)
            refine z_iload hC 3 dX9_find_81 rfl ?_
            refine z_aload_n hC 2 dX9_find_83 rfl rfl ?_
            refine z_callVi hC (ci := 9) rfl lmRX9_30 (ctX9_nextOf (vLa V) (vDa V) (vTg V) (vBs V) (vSa V) s9.2 p0 s6.1 v13 x1 p3) (by decide) hn0 dX9_find_84 rfl rfl (Nat.le_of_ble_eq_true rfl) (fun v14 => ?_)
            refine z_istore hC [(0, .ref p0), (1, .int p1), (3, .ref p3), (4, .int x1), (6, .int s6.1), (7, .int s9.1), (8, .int v14)] [1, 2, 3, 4, 5, 6, 0] dX9_find_87 (by decide) rfl ?_
            refine z_aload_n hC 0 dX9_find_89 rfl rfl ?_
            refine z_getR hC lgRX9_18 dX9_find_90 (fun v15 => ?_)
            refine z_iload hC 4 dX9_find_93 rfl ?_
            refine z_bipush hC (8 : Int32) dX9_find_95 (by decide) ?_
            refine z_imul hC dX9_find_97 ?_
            refine z_iload hC 5 dX9_find_98 rfl ?_
            refine z_iadd hC dX9_find_100 ?_
            refine z_aload_n hC 0 dX9_find_101 rfl rfl ?_
            refine z_iload hC 4 dX9_find_102 rfl ?_
            refine z_aload_n hC 0 dX9_find_104 rfl rfl ?_
            refine z_getR hC lgRX9_9 dX9_find_105 (fun v16 => ?_)
            refine z_iload hC 5 dX9_find_108 rfl ?_
            refine z_iald hC dX9_find_110 (fun v17 => ?_)
            refine z_iload hC 6 dX9_find_111 rfl ?_
            refine z_aload_n hC 2 dX9_find_113 rfl rfl ?_
            refine z_callVi hC (ci := 9) rfl lmRX9_34 (ctX9_throughNext (vLa V) (vDa V) (vTg V) (vBs V) (vSa V) s9.2 p0 s6.1 v17 v14 p3) (by decide) hn0 dX9_find_114 rfl rfl (Nat.le_of_ble_eq_true rfl) (fun v18 => ?_)
            refine z_iast hC dX9_find_117 (fun hp19 => ?_)
            refine z_iincv hC (1 : Int32) 5 (fun x20 => [(0, .ref p0), (1, .int p1), (3, .ref p3), (4, .int x1), (6, .int s6.1), (7, .int x20), (8, .int v14)]) [1, 2, 3, 4, 5, 0, 6] dX9_find_118 rfl (by decide) (by decide) (fun _ => rfl) (fun x20 => ?_)
            refine z_goto hC 64 dX9_find_121 (by decide) ?_
            refine z_weak [(0, .ref p0), (1, .int p1), (3, .ref p3), (4, .int x1), (6, .int s6.1), (7, .int x20)] [0, 1, 2, 3, 4, 5] rfl ?_
            exact z_leaf (fun h => h)
  · refine z_iload hC 5 dX9_find_23 rfl ?_
    refine z_iload hC 3 dX9_find_25 rfl ?_
    refine z_icmp_ge hC 50 dX9_find_27 (by decide) (fun _ => ?_) (fun _ => ?_)
    · refine z_weak [(0, .ref p0), (1, .int p1), (3, .ref p3), (4, .int x1), (5, .int x2)] [0, 1, 2, 3, 4] rfl ?_
      exact z_leaf (fun h => h)
    · refine z_aload_n hC 0 dX9_find_30 rfl rfl ?_
      refine z_getR hC lgRX9_18 dX9_find_31 (fun v21 => ?_)
      refine z_iload hC 4 dX9_find_34 rfl ?_
      refine z_bipush hC (8 : Int32) dX9_find_36 (by decide) ?_
      refine z_imul hC dX9_find_38 ?_
      refine z_iload hC 5 dX9_find_39 rfl ?_
      refine z_iadd hC dX9_find_41 ?_
      refine z_iconst hC (0 : Int32) dX9_find_42 (by decide) ?_
      refine z_iast hC dX9_find_43 (fun hp22 => ?_)
      refine z_iincv hC (1 : Int32) 5 (fun x23 => [(0, .ref p0), (1, .int p1), (3, .ref p3), (4, .int x1), (5, .int x2), (6, .int x23)]) [1, 2, 3, 4, 5, 0] dX9_find_44 rfl (by decide) (by decide) (fun _ => rfl) (fun x23 => ?_)
      refine z_goto hC 23 dX9_find_47 (by decide) ?_
      exact z_leaf (fun h => h)

theorem dX10_mayBeBetter_0 : decode cX10_mayBeBetter 0 = .ok (.iload_n 1, 1) := by decide +kernel
theorem dX10_mayBeBetter_1 : decode cX10_mayBeBetter 1 = .ok (.invokestatic 57, 3) := by decide +kernel
theorem dX10_mayBeBetter_4 : decode cX10_mayBeBetter 4 = .ok (.aload_n 0, 1) := by decide +kernel
theorem dX10_mayBeBetter_5 : decode cX10_mayBeBetter 5 = .ok (.getfield 16, 3) := by decide +kernel
theorem dX10_mayBeBetter_8 : decode cX10_mayBeBetter 8 = .ok (.invokestatic 57, 3) := by decide +kernel
theorem dX10_mayBeBetter_11 : decode cX10_mayBeBetter 11 = .ok (.isub, 1) := by decide +kernel
theorem dX10_mayBeBetter_12 : decode cX10_mayBeBetter 12 = .ok (.istore_n 2, 1) := by decide +kernel
theorem dX10_mayBeBetter_13 : decode cX10_mayBeBetter 13 = .ok (.aload_n 0, 1) := by decide +kernel
theorem dX10_mayBeBetter_14 : decode cX10_mayBeBetter 14 = .ok (.getfield 16, 3) := by decide +kernel
theorem dX10_mayBeBetter_17 : decode cX10_mayBeBetter 17 = .ok (.ifCond .lt 19, 3) := by decide +kernel
theorem dX10_mayBeBetter_20 : decode cX10_mayBeBetter 20 = .ok (.iload_n 2, 1) := by decide +kernel
theorem dX10_mayBeBetter_21 : decode cX10_mayBeBetter 21 = .ok (.ifCond .lt 15, 3) := by decide +kernel
theorem dX10_mayBeBetter_24 : decode cX10_mayBeBetter 24 = .ok (.iload_n 2, 1) := by decide +kernel
theorem dX10_mayBeBetter_25 : decode cX10_mayBeBetter 25 = .ok (.ifCond .ne 15, 3) := by decide +kernel
theorem dX10_mayBeBetter_28 : decode cX10_mayBeBetter 28 = .ok (.iload_n 1, 1) := by decide +kernel
theorem dX10_mayBeBetter_29 : decode cX10_mayBeBetter 29 = .ok (.aload_n 0, 1) := by decide +kernel
theorem dX10_mayBeBetter_30 : decode cX10_mayBeBetter 30 = .ok (.getfield 16, 3) := by decide +kernel
theorem dX10_mayBeBetter_33 : decode cX10_mayBeBetter 33 = .ok (.if_icmp .ge 7, 3) := by decide +kernel
theorem dX10_mayBeBetter_36 : decode cX10_mayBeBetter 36 = .ok (.iconst 1, 1) := by decide +kernel
theorem dX10_mayBeBetter_37 : decode cX10_mayBeBetter 37 = .ok (.goto 4, 3) := by decide +kernel
theorem dX10_mayBeBetter_40 : decode cX10_mayBeBetter 40 = .ok (.iconst 0, 1) := by decide +kernel
theorem dX10_mayBeBetter_41 : decode cX10_mayBeBetter 41 = .ok (.ireturn, 1) := by decide +kernel
def FX10_mayBeBetter (hp : HP) (p0 : Nat) (p1 : Int32) : Option (Int32) := (FJ6_bitCount_0f7a4 p1).bind (fun v1 => (gI [10] 0 hp p0).bind (fun v2 => (FJ6_bitCount_0f7a4 v2).bind (fun v3 => vl (v1 - v3) (fun x4 => (gI [10] 0 hp p0).bind (fun v5 => if v5 < 0 then some (1 : Int32) else if x4 < 0 then some (1 : Int32) else if x4 = 0 then (gI [10] 0 hp p0).bind (fun v6 => if v6 ≤ p1 then some (0 : Int32) else some (1 : Int32)) else some (0 : Int32))))))
set_option maxHeartbeats 4000000 in
set_option maxRecDepth 100000 in
theorem ctX10_mayBeBetter (l : Launch) (D : va_G) (tg : Nat → ClassId) (bs : Nat) (sa : Nat → Nat) (hp : HP) (p0 : Nat) (p1 : Int32) : Ct l D tg bs sa yX10_mayBeBetter cX10_mayBeBetter 3 (some .boolean) 1 [.ref p0, .int p1] hp (FX10_mayBeBetter hp p0 p1) (fun r => some (.int r)) (fun _ => hp) := by
  refine Ct.of (by decide) (Nat.le_of_ble_eq_true rfl) ?_
  intro V Q hVl hVd hVt hVb hVs hC
  subst hVl; subst hVd; subst hVt; subst hVb; subst hVs
  unfold FX10_mayBeBetter
  show Zs V Q (0, 0) 3 _ _ hp [(0, .ref p0), (1, .int p1)] 0 []
  refine z_iload_n hC 1 dX10_mayBeBetter_0 rfl rfl ?_
  refine z_callSi hC lmRX10_57 (ctJ6_bitCount_0f7a4 (vLa V) (vDa V) (vTg V) (vBs V) (vSa V) hp p1) (by decide) hn0 dX10_mayBeBetter_1 rfl rfl (Nat.le_of_ble_eq_true rfl) (fun v1 => ?_)
  refine z_aload_n hC 0 dX10_mayBeBetter_4 rfl rfl ?_
  refine z_getI hC lgRX10_16 dX10_mayBeBetter_5 (fun v2 => ?_)
  refine z_callSi hC lmRX10_57 (ctJ6_bitCount_0f7a4 (vLa V) (vDa V) (vTg V) (vBs V) (vSa V) hp v2) (by decide) hn0 dX10_mayBeBetter_8 rfl rfl (Nat.le_of_ble_eq_true rfl) (fun v3 => ?_)
  refine z_isub hC dX10_mayBeBetter_11 ?_
  refine z_vli (fun x4 => ?_)
  refine z_istore_n hC [(0, .ref p0), (1, .int p1), (2, .int x4)] [1, 2, 0] dX10_mayBeBetter_12 rfl (by decide) rfl ?_
  refine z_aload_n hC 0 dX10_mayBeBetter_13 rfl rfl ?_
  refine z_getI hC lgRX10_16 dX10_mayBeBetter_14 (fun v5 => ?_)
  refine z_if_lt hC 36 dX10_mayBeBetter_17 (by decide) (fun _ => ?_) (fun _ => ?_)
  · refine z_iconst hC (1 : Int32) dX10_mayBeBetter_36 (by decide) ?_
    refine z_goto hC 41 dX10_mayBeBetter_37 (by decide) ?_
    exact z_zret hC (by decide) (fun h => h) dX10_mayBeBetter_41
  · refine z_iload_n hC 2 dX10_mayBeBetter_20 rfl rfl ?_
    refine z_if_lt hC 36 dX10_mayBeBetter_21 (by decide) (fun _ => ?_) (fun _ => ?_)
    · refine z_iconst hC (1 : Int32) dX10_mayBeBetter_36 (by decide) ?_
      refine z_goto hC 41 dX10_mayBeBetter_37 (by decide) ?_
      exact z_zret hC (by decide) (fun h => h) dX10_mayBeBetter_41
    · refine z_iload_n hC 2 dX10_mayBeBetter_24 rfl rfl ?_
      refine z_if_ne hC 40 dX10_mayBeBetter_25 (by decide) (fun _ => ?_) (fun _ => ?_)
      · refine z_iload_n hC 1 dX10_mayBeBetter_28 rfl rfl ?_
        refine z_aload_n hC 0 dX10_mayBeBetter_29 rfl rfl ?_
        refine z_getI hC lgRX10_16 dX10_mayBeBetter_30 (fun v6 => ?_)
        refine z_icmp_ge hC 40 dX10_mayBeBetter_33 (by decide) (fun _ => ?_) (fun _ => ?_)
        · refine z_iconst hC (0 : Int32) dX10_mayBeBetter_40 (by decide) ?_
          exact z_zret hC (by decide) (fun h => h) dX10_mayBeBetter_41
        · refine z_iconst hC (1 : Int32) dX10_mayBeBetter_36 (by decide) ?_
          refine z_goto hC 41 dX10_mayBeBetter_37 (by decide) ?_
          exact z_zret hC (by decide) (fun h => h) dX10_mayBeBetter_41
      · refine z_iconst hC (0 : Int32) dX10_mayBeBetter_40 (by decide) ?_
        exact z_zret hC (by decide) (fun h => h) dX10_mayBeBetter_41

theorem dX10_decide_0 : decode cX10_decide 0 = .ok (.iload_n 1, 1) := by decide +kernel
theorem dX10_decide_1 : decode cX10_decide 1 = .ok (.ifCond .lt 29, 3) := by decide +kernel
theorem dX10_decide_4 : decode cX10_decide 4 = .ok (.iload_n 1, 1) := by decide +kernel
theorem dX10_decide_5 : decode cX10_decide 5 = .ok (.bipush 10, 2) := by decide +kernel
theorem dX10_decide_7 : decode cX10_decide 7 = .ok (.if_icmp .gt 23, 3) := by decide +kernel
theorem dX10_decide_10 : decode cX10_decide 10 = .ok (.aload_n 0, 1) := by decide +kernel
theorem dX10_decide_11 : decode cX10_decide 11 = .ok (.getfield 11, 3) := by decide +kernel
theorem dX10_decide_14 : decode cX10_decide 14 = .ok (.iload_n 1, 1) := by decide +kernel
theorem dX10_decide_15 : decode cX10_decide 15 = .ok (.aaload, 1) := by decide +kernel
theorem dX10_decide_16 : decode cX10_decide 16 = .ok (.invokestatic 20, 3) := by decide +kernel
theorem dX10_decide_19 : decode cX10_decide 19 = .ok (.ifCond .ne 11, 3) := by decide +kernel
theorem dX10_decide_22 : decode cX10_decide 22 = .ok (.aload_n 0, 1) := by decide +kernel
theorem dX10_decide_23 : decode cX10_decide 23 = .ok (.iload_n 2, 1) := by decide +kernel
theorem dX10_decide_24 : decode cX10_decide 24 = .ok (.invokevirtual 43, 3) := by decide +kernel
theorem dX10_decide_27 : decode cX10_decide 27 = .ok (.ifCond .ne 4, 3) := by decide +kernel
theorem dX10_decide_30 : decode cX10_decide 30 = .ok (.return_, 1) := by decide +kernel
theorem dX10_decide_31 : decode cX10_decide 31 = .ok (.iload_n 1, 1) := by decide +kernel
theorem dX10_decide_32 : decode cX10_decide 32 = .ok (.bipush 10, 2) := by decide +kernel
theorem dX10_decide_34 : decode cX10_decide 34 = .ok (.if_icmp .ne 22, 3) := by decide +kernel
theorem dX10_decide_37 : decode cX10_decide 37 = .ok (.aload_n 0, 1) := by decide +kernel
theorem dX10_decide_38 : decode cX10_decide 38 = .ok (.iload_n 2, 1) := by decide +kernel
theorem dX10_decide_39 : decode cX10_decide 39 = .ok (.putfield 16, 3) := by decide +kernel
theorem dX10_decide_42 : decode cX10_decide 42 = .ok (.aload_n 0, 1) := by decide +kernel
theorem dX10_decide_43 : decode cX10_decide 43 = .ok (.aload_n 0, 1) := by decide +kernel
theorem dX10_decide_44 : decode cX10_decide 44 = .ok (.getfield 11, 3) := by decide +kernel
theorem dX10_decide_47 : decode cX10_decide 47 = .ok (.iload_n 1, 1) := by decide +kernel
theorem dX10_decide_48 : decode cX10_decide 48 = .ok (.aaload, 1) := by decide +kernel
theorem dX10_decide_49 : decode cX10_decide 49 = .ok (.invokestatic 47, 3) := by decide +kernel
theorem dX10_decide_52 : decode cX10_decide 52 = .ok (.putfield 50, 3) := by decide +kernel
theorem dX10_decide_55 : decode cX10_decide 55 = .ok (.return_, 1) := by decide +kernel
theorem dX10_decide_56 : decode cX10_decide 56 = .ok (.aload_n 0, 1) := by decide +kernel
theorem dX10_decide_57 : decode cX10_decide 57 = .ok (.getfield 30, 3) := by decide +kernel
theorem dX10_decide_60 : decode cX10_decide 60 = .ok (.iload_n 1, 1) := by decide +kernel
theorem dX10_decide_61 : decode cX10_decide 61 = .ok (.ishr, 1) := by decide +kernel
theorem dX10_decide_62 : decode cX10_decide 62 = .ok (.iconst 1, 1) := by decide +kernel
theorem dX10_decide_63 : decode cX10_decide 63 = .ok (.iand, 1) := by decide +kernel
theorem dX10_decide_64 : decode cX10_decide 64 = .ok (.ifCond .eq 7, 3) := by decide +kernel
theorem dX10_decide_67 : decode cX10_decide 67 = .ok (.iconst 1, 1) := by decide +kernel
theorem dX10_decide_68 : decode cX10_decide 68 = .ok (.goto 4, 3) := by decide +kernel
theorem dX10_decide_71 : decode cX10_decide 71 = .ok (.iconst 0, 1) := by decide +kernel
theorem dX10_decide_72 : decode cX10_decide 72 = .ok (.istore_n 3, 1) := by decide +kernel
theorem dX10_decide_73 : decode cX10_decide 73 = .ok (.iconst 0, 1) := by decide +kernel
theorem dX10_decide_74 : decode cX10_decide 74 = .ok (.istore 4, 2) := by decide +kernel
theorem dX10_decide_76 : decode cX10_decide 76 = .ok (.iload 4, 2) := by decide +kernel
theorem dX10_decide_78 : decode cX10_decide 78 = .ok (.bipush 16, 2) := by decide +kernel
theorem dX10_decide_80 : decode cX10_decide 80 = .ok (.if_icmp .ge 57, 3) := by decide +kernel
theorem dX10_decide_83 : decode cX10_decide 83 = .ok (.aload_n 0, 1) := by decide +kernel
theorem dX10_decide_84 : decode cX10_decide 84 = .ok (.getfield 11, 3) := by decide +kernel
theorem dX10_decide_87 : decode cX10_decide 87 = .ok (.iload_n 1, 1) := by decide +kernel
theorem dX10_decide_88 : decode cX10_decide 88 = .ok (.aaload, 1) := by decide +kernel
theorem dX10_decide_89 : decode cX10_decide 89 = .ok (.iload 4, 2) := by decide +kernel
theorem dX10_decide_91 : decode cX10_decide 91 = .ok (.laload, 1) := by decide +kernel
theorem dX10_decide_92 : decode cX10_decide 92 = .ok (.lstore 5, 2) := by decide +kernel
theorem dX10_decide_94 : decode cX10_decide 94 = .ok (.aload_n 0, 1) := by decide +kernel
theorem dX10_decide_95 : decode cX10_decide 95 = .ok (.getfield 11, 3) := by decide +kernel
theorem dX10_decide_98 : decode cX10_decide 98 = .ok (.iload_n 1, 1) := by decide +kernel
theorem dX10_decide_99 : decode cX10_decide 99 = .ok (.iconst 1, 1) := by decide +kernel
theorem dX10_decide_100 : decode cX10_decide 100 = .ok (.iadd, 1) := by decide +kernel
theorem dX10_decide_101 : decode cX10_decide 101 = .ok (.aaload, 1) := by decide +kernel
theorem dX10_decide_102 : decode cX10_decide 102 = .ok (.iload 4, 2) := by decide +kernel
theorem dX10_decide_104 : decode cX10_decide 104 = .ok (.iload_n 3, 1) := by decide +kernel
theorem dX10_decide_105 : decode cX10_decide 105 = .ok (.ifCond .eq 23, 3) := by decide +kernel
theorem dX10_decide_108 : decode cX10_decide 108 = .ok (.lload 5, 2) := by decide +kernel
theorem dX10_decide_110 : decode cX10_decide 110 = .ok (.aload_n 0, 1) := by decide +kernel
theorem dX10_decide_111 : decode cX10_decide 111 = .ok (.getfield 11, 3) := by decide +kernel
theorem dX10_decide_114 : decode cX10_decide 114 = .ok (.iload_n 1, 1) := by decide +kernel
theorem dX10_decide_115 : decode cX10_decide 115 = .ok (.aaload, 1) := by decide +kernel
theorem dX10_decide_116 : decode cX10_decide 116 = .ok (.iload 4, 2) := by decide +kernel
theorem dX10_decide_118 : decode cX10_decide 118 = .ok (.iconst 1, 1) := by decide +kernel
theorem dX10_decide_119 : decode cX10_decide 119 = .ok (.iload_n 1, 1) := by decide +kernel
theorem dX10_decide_120 : decode cX10_decide 120 = .ok (.ishl, 1) := by decide +kernel
theorem dX10_decide_121 : decode cX10_decide 121 = .ok (.invokestatic 53, 3) := by decide +kernel
theorem dX10_decide_124 : decode cX10_decide 124 = .ok (.land, 1) := by decide +kernel
theorem dX10_decide_125 : decode cX10_decide 125 = .ok (.goto 5, 3) := by decide +kernel
theorem dX10_decide_128 : decode cX10_decide 128 = .ok (.lload 5, 2) := by decide +kernel
theorem dX10_decide_130 : decode cX10_decide 130 = .ok (.lastore, 1) := by decide +kernel
theorem dX10_decide_131 : decode cX10_decide 131 = .ok (.iinc 4 1, 3) := by decide +kernel
theorem dX10_decide_134 : decode cX10_decide 134 = .ok (.goto (-58), 3) := by decide +kernel
theorem dX10_decide_137 : decode cX10_decide 137 = .ok (.aload_n 0, 1) := by decide +kernel
theorem dX10_decide_138 : decode cX10_decide 138 = .ok (.iload_n 1, 1) := by decide +kernel
theorem dX10_decide_139 : decode cX10_decide 139 = .ok (.iconst 1, 1) := by decide +kernel
theorem dX10_decide_140 : decode cX10_decide 140 = .ok (.iadd, 1) := by decide +kernel
theorem dX10_decide_141 : decode cX10_decide 141 = .ok (.iload_n 2, 1) := by decide +kernel
theorem dX10_decide_142 : decode cX10_decide 142 = .ok (.invokevirtual 39, 3) := by decide +kernel
theorem dX10_decide_145 : decode cX10_decide 145 = .ok (.iload_n 3, 1) := by decide +kernel
theorem dX10_decide_146 : decode cX10_decide 146 = .ok (.ifCond .eq 36, 3) := by decide +kernel
theorem dX10_decide_149 : decode cX10_decide 149 = .ok (.aload_n 0, 1) := by decide +kernel
theorem dX10_decide_150 : decode cX10_decide 150 = .ok (.getfield 11, 3) := by decide +kernel
theorem dX10_decide_153 : decode cX10_decide 153 = .ok (.iload_n 1, 1) := by decide +kernel
theorem dX10_decide_154 : decode cX10_decide 154 = .ok (.aaload, 1) := by decide +kernel
theorem dX10_decide_155 : decode cX10_decide 155 = .ok (.iconst 0, 1) := by decide +kernel
theorem dX10_decide_156 : decode cX10_decide 156 = .ok (.aload_n 0, 1) := by decide +kernel
theorem dX10_decide_157 : decode cX10_decide 157 = .ok (.getfield 11, 3) := by decide +kernel
theorem dX10_decide_160 : decode cX10_decide 160 = .ok (.iload_n 1, 1) := by decide +kernel
theorem dX10_decide_161 : decode cX10_decide 161 = .ok (.iconst 1, 1) := by decide +kernel
theorem dX10_decide_162 : decode cX10_decide 162 = .ok (.iadd, 1) := by decide +kernel
theorem dX10_decide_163 : decode cX10_decide 163 = .ok (.aaload, 1) := by decide +kernel
theorem dX10_decide_164 : decode cX10_decide 164 = .ok (.iconst 0, 1) := by decide +kernel
theorem dX10_decide_165 : decode cX10_decide 165 = .ok (.bipush 16, 2) := by decide +kernel
theorem dX10_decide_167 : decode cX10_decide 167 = .ok (.invokestatic 33, 3) := by decide +kernel
theorem dX10_decide_170 : decode cX10_decide 170 = .ok (.aload_n 0, 1) := by decide +kernel
theorem dX10_decide_171 : decode cX10_decide 171 = .ok (.iload_n 1, 1) := by decide +kernel
theorem dX10_decide_172 : decode cX10_decide 172 = .ok (.iconst 1, 1) := by decide +kernel
theorem dX10_decide_173 : decode cX10_decide 173 = .ok (.iadd, 1) := by decide +kernel
theorem dX10_decide_174 : decode cX10_decide 174 = .ok (.iload_n 2, 1) := by decide +kernel
theorem dX10_decide_175 : decode cX10_decide 175 = .ok (.iconst 1, 1) := by decide +kernel
theorem dX10_decide_176 : decode cX10_decide 176 = .ok (.iload_n 1, 1) := by decide +kernel
theorem dX10_decide_177 : decode cX10_decide 177 = .ok (.ishl, 1) := by decide +kernel
theorem dX10_decide_178 : decode cX10_decide 178 = .ok (.ior, 1) := by decide +kernel
theorem dX10_decide_179 : decode cX10_decide 179 = .ok (.invokevirtual 39, 3) := by decide +kernel
theorem dX10_decide_182 : decode cX10_decide 182 = .ok (.return_, 1) := by decide +kernel
def FBX10_decide (rX10_decide : HP → Nat → Int32 → Int32 → Option (HP)) (hp : HP) (p0 : Nat) (p1 : Int32) (p2 : Int32) : Option (HP) := if p1 < 0 then some hp else if (10 : Int32) < p1 then some hp else (gR [10] 3 hp p0).bind (fun v1 => (rdA 4 hp v1 p1).bind (fun v2 => (FX7_isEmpty hp v2).bind (fun v3 => if v3 = 0 then (rc [10] hp p0 (FX10_mayBeBetter hp p0 p2)).bind (fun v4 => if v4 = 0 then some hp else if p1 = (10 : Int32) then (sI [10] 0 hp p0 p2).bind (fun hp5 => (gR [10] 3 hp5 p0).bind (fun v6 => (rdA 4 hp5 v6 p1).bind (fun v7 => (FX7_first hp5 v7).bind (fun v8 => (sI [10] 1 hp5 p0 v8).bind (fun hp9 => some hp9))))) else (gI [10] 2 hp p0).bind (fun v10 => if ((v10 >>> (p1 &&& 31)) &&& (1 : Int32)) = 0 then (lp (fun (s11 : Int32 × HP) => if (16 : Int32) ≤ s11.1 then some (Sum.inl s11.2) else (gR [10] 3 s11.2 p0).bind (fun v20 => (rdA 4 s11.2 v20 p1).bind (fun v21 => (rdL s11.2 v21 s11.1).bind (fun v22 => (gR [10] 3 s11.2 p0).bind (fun v23 => (rdA 4 s11.2 v23 (p1 + (1 : Int32))).bind (fun v24 => jn (A := Int64) (fun a25 => (wrL s11.2 v24 s11.1 a25).bind (fun hp27 => vl (s11.1 + (1 : Int32)) (fun x28 => some (Sum.inr (x28, hp27))))) (fun J26 => if (0 : Int32) = 0 then J26 v22 else (gR [10] 3 s11.2 p0).bind (fun v29 => (rdA 4 s11.2 v29 p1).bind (fun v30 => (FX7_changed s11.2 v30 s11.1 ((1 : Int32) <<< (p1 &&& 31))).bind (fun v31 => vl (v22 &&& v31) (fun x32 => J26 x32))))))))))) FU ((0 : Int32), hp)).bind (fun (y12 : HP) => (rc [10] y12 p0 (rX10_decide y12 p0 (p1 + (1 : Int32)) p2)).bind (fun w13 => if (0 : Int32) = 0 then some w13 else (gR [10] 3 w13 p0).bind (fun v14 => (rdA 4 w13 v14 p1).bind (fun v15 => (gR [10] 3 w13 p0).bind (fun v16 => (rdA 4 w13 v16 (p1 + (1 : Int32))).bind (fun v17 => (cpL w13 v15 (0 : Int32) v17 (0 : Int32) (16 : Int32)).bind (fun hp18 => (rc [10] hp18 p0 (rX10_decide hp18 p0 (p1 + (1 : Int32)) (p2 ||| ((1 : Int32) <<< (p1 &&& 31))))).bind (fun w19 => some w19)))))))) else (lp (fun (s33 : Int32 × HP) => if (16 : Int32) ≤ s33.1 then some (Sum.inl s33.2) else (gR [10] 3 s33.2 p0).bind (fun v42 => (rdA 4 s33.2 v42 p1).bind (fun v43 => (rdL s33.2 v43 s33.1).bind (fun v44 => (gR [10] 3 s33.2 p0).bind (fun v45 => (rdA 4 s33.2 v45 (p1 + (1 : Int32))).bind (fun v46 => jn (A := Int64) (fun a47 => (wrL s33.2 v46 s33.1 a47).bind (fun hp49 => vl (s33.1 + (1 : Int32)) (fun x50 => some (Sum.inr (x50, hp49))))) (fun J48 => if (1 : Int32) = 0 then J48 v44 else (gR [10] 3 s33.2 p0).bind (fun v51 => (rdA 4 s33.2 v51 p1).bind (fun v52 => (FX7_changed s33.2 v52 s33.1 ((1 : Int32) <<< (p1 &&& 31))).bind (fun v53 => vl (v44 &&& v53) (fun x54 => J48 x54))))))))))) FU ((0 : Int32), hp)).bind (fun (y34 : HP) => (rc [10] y34 p0 (rX10_decide y34 p0 (p1 + (1 : Int32)) p2)).bind (fun w35 => if (1 : Int32) = 0 then some w35 else (gR [10] 3 w35 p0).bind (fun v36 => (rdA 4 w35 v36 p1).bind (fun v37 => (gR [10] 3 w35 p0).bind (fun v38 => (rdA 4 w35 v38 (p1 + (1 : Int32))).bind (fun v39 => (cpL w35 v37 (0 : Int32) v39 (0 : Int32) (16 : Int32)).bind (fun hp40 => (rc [10] hp40 p0 (rX10_decide hp40 p0 (p1 + (1 : Int32)) (p2 ||| ((1 : Int32) <<< (p1 &&& 31))))).bind (fun w41 => some w41)))))))))) else some hp)))
set_option maxHeartbeats 4000000 in
set_option maxRecDepth 100000 in
theorem cbX10_decide (l : Launch) (D : va_G) (tg : Nat → ClassId) (bs : Nat) (sa : Nat → Nat) (rX10_decide : HP → Nat → Int32 → Int32 → Option (HP)) (Lr : Nat) (hLr : 2 ≤ Lr) (hrX10_decide : ∀ (hp : HP) (p0 : Nat) (p1 : Int32) (p2 : Int32), Ct l D tg bs sa yX10_decide cX10_decide 7 none Lr [.ref p0, .int p1, .int p2] hp (rX10_decide hp p0 p1 p2) (fun _ => none) (fun r => r)) (hp : HP) (p0 : Nat) (p1 : Int32) (p2 : Int32) : Ct l D tg bs sa yX10_decide cX10_decide 7 none (Lr + 1) [.ref p0, .int p1, .int p2] hp (FBX10_decide rX10_decide hp p0 p1 p2) (fun _ => none) (fun r => r) := by
  refine Ct.of (by decide) (Nat.le_of_ble_eq_true rfl) ?_
  intro V Q hVl hVd hVt hVb hVs hC
  subst hVl; subst hVd; subst hVt; subst hVb; subst hVs
  unfold FBX10_decide
  show Zs V Q (0, 0) 7 _ _ hp [(0, .ref p0), (1, .int p1), (2, .int p2)] 0 []
  refine z_iload_n hC 1 dX10_decide_0 rfl rfl ?_
  refine z_if_lt hC 30 dX10_decide_1 (by decide) (fun _ => ?_) (fun _ => ?_)
  · exact z_vret hC (fun h => h) dX10_decide_30
  · refine z_iload_n hC 1 dX10_decide_4 rfl rfl ?_
    refine z_bipush hC (10 : Int32) dX10_decide_5 (by decide) ?_
    refine z_icmp_gt hC 30 dX10_decide_7 (by decide) (fun _ => ?_) (fun _ => ?_)
    · exact z_vret hC (fun h => h) dX10_decide_30
    · refine z_aload_n hC 0 dX10_decide_10 rfl rfl ?_
      refine z_getR hC lgRX10_11 dX10_decide_11 (fun v1 => ?_)
      refine z_iload_n hC 1 dX10_decide_14 rfl rfl ?_
      refine z_aald4 hC dX10_decide_15 (fun v2 => ?_)
      refine z_callSi hC lmRX10_20 (ctX7_isEmpty (vLa V) (vDa V) (vTg V) (vBs V) (vSa V) hp v2) (by have := hLr; omega) hn0 dX10_decide_16 rfl rfl (Nat.le_of_ble_eq_true rfl) (fun v3 => ?_)
      refine z_if_ne hC 30 dX10_decide_19 (by decide) (fun _ => ?_) (fun _ => ?_)
      · refine z_aload_n hC 0 dX10_decide_22 rfl rfl ?_
        refine z_iload_n hC 2 dX10_decide_23 rfl rfl ?_
        refine z_callVi hC (ci := 10) rfl lmRX10_43 (ctX10_mayBeBetter (vLa V) (vDa V) (vTg V) (vBs V) (vSa V) hp p0 p2) (by have := hLr; omega) hn0 dX10_decide_24 rfl rfl (Nat.le_of_ble_eq_true rfl) (fun v4 => ?_)
        refine z_if_ne hC 31 dX10_decide_27 (by decide) (fun _ => ?_) (fun _ => ?_)
        · exact z_vret hC (fun h => h) dX10_decide_30
        · refine z_iload_n hC 1 dX10_decide_31 rfl rfl ?_
          refine z_bipush hC (10 : Int32) dX10_decide_32 (by decide) ?_
          refine z_icmp_ne hC 56 dX10_decide_34 (by decide) (fun _ => ?_) (fun _ => ?_)
          · refine z_aload_n hC 0 dX10_decide_37 rfl rfl ?_
            refine z_iload_n hC 2 dX10_decide_38 rfl rfl ?_
            refine z_putI hC lpRX10_16 dX10_decide_39 (fun hp5 => ?_)
            refine z_aload_n hC 0 dX10_decide_42 rfl rfl ?_
            refine z_aload_n hC 0 dX10_decide_43 rfl rfl ?_
            refine z_getR hC lgRX10_11 dX10_decide_44 (fun v6 => ?_)
            refine z_iload_n hC 1 dX10_decide_47 rfl rfl ?_
            refine z_aald4 hC dX10_decide_48 (fun v7 => ?_)
            refine z_callSi hC lmRX10_47 (ctX7_first (vLa V) (vDa V) (vTg V) (vBs V) (vSa V) hp5 v7) (by have := hLr; omega) hn0 dX10_decide_49 rfl rfl (Nat.le_of_ble_eq_true rfl) (fun v8 => ?_)
            refine z_putI hC lpRX10_50 dX10_decide_52 (fun hp9 => ?_)
            exact z_vret hC (fun h => h) dX10_decide_55
          · refine z_aload_n hC 0 dX10_decide_56 rfl rfl ?_
            refine z_getI hC lgRX10_30 dX10_decide_57 (fun v10 => ?_)
            refine z_iload_n hC 1 dX10_decide_60 rfl rfl ?_
            refine z_ishr hC dX10_decide_61 ?_
            refine z_iconst hC (1 : Int32) dX10_decide_62 (by decide) ?_
            refine z_iand hC dX10_decide_63 ?_
            refine z_if_eq hC 71 dX10_decide_64 (by decide) (fun _ => ?_) (fun _ => ?_)
            · refine z_iconst hC (0 : Int32) dX10_decide_71 (by decide) ?_
              refine z_istore_n hC [(0, .ref p0), (1, .int p1), (2, .int p2), (3, .int (0 : Int32))] [1, 2, 3, 0] dX10_decide_72 rfl (by decide) rfl ?_
              refine z_iconst hC (0 : Int32) dX10_decide_73 (by decide) ?_
              refine z_istore hC [(0, .ref p0), (1, .int p1), (2, .int p2), (3, .int (0 : Int32)), (4, .int (0 : Int32))] [1, 2, 3, 4, 0] dX10_decide_74 (by decide) rfl ?_
              refine z_lp (S := Int32 × HP) (Y := HP) (fun s11 => s11.2) (fun s11 => [(0, .ref p0), (1, .int p1), (2, .int p2), (3, .int (0 : Int32)), (4, .int s11.1)]) (fun y12 => y12) (fun y12 => [(0, .ref p0), (1, .int p1), (2, .int p2), (3, .int (0 : Int32))]) 137 [] (fun y12 => ?_) (fun s11 => ?_) rfl rfl
              · refine z_aload_n hC 0 dX10_decide_137 rfl rfl ?_
                refine z_iload_n hC 1 dX10_decide_138 rfl rfl ?_
                refine z_iconst hC (1 : Int32) dX10_decide_139 (by decide) ?_
                refine z_iadd hC dX10_decide_140 ?_
                refine z_iload_n hC 2 dX10_decide_141 rfl rfl ?_
                refine z_callVv hC (ci := 10) rfl lmRX10_39 (hrX10_decide y12 p0 (p1 + (1 : Int32)) p2) (Nat.le_refl _) hn0 dX10_decide_142 rfl rfl (Nat.le_of_ble_eq_true rfl) (fun w13 => ?_)
                refine z_iload_n hC 3 dX10_decide_145 rfl rfl ?_
                refine z_if_eq hC 182 dX10_decide_146 (by decide) (fun _ => ?_) (fun _ => ?_)
                · exact z_vret hC (fun h => h) dX10_decide_182
                · refine z_aload_n hC 0 dX10_decide_149 rfl rfl ?_
                  refine z_getR hC lgRX10_11 dX10_decide_150 (fun v14 => ?_)
                  refine z_iload_n hC 1 dX10_decide_153 rfl rfl ?_
                  refine z_aald4 hC dX10_decide_154 (fun v15 => ?_)
                  refine z_iconst hC (0 : Int32) dX10_decide_155 (by decide) ?_
                  refine z_aload_n hC 0 dX10_decide_156 rfl rfl ?_
                  refine z_getR hC lgRX10_11 dX10_decide_157 (fun v16 => ?_)
                  refine z_iload_n hC 1 dX10_decide_160 rfl rfl ?_
                  refine z_iconst hC (1 : Int32) dX10_decide_161 (by decide) ?_
                  refine z_iadd hC dX10_decide_162 ?_
                  refine z_aald4 hC dX10_decide_163 (fun v17 => ?_)
                  refine z_iconst hC (0 : Int32) dX10_decide_164 (by decide) ?_
                  refine z_bipush hC (16 : Int32) dX10_decide_165 (by decide) ?_
                  refine z_cpL hC laRX10_33 dX10_decide_167 (fun hp18 => ?_)
                  refine z_aload_n hC 0 dX10_decide_170 rfl rfl ?_
                  refine z_iload_n hC 1 dX10_decide_171 rfl rfl ?_
                  refine z_iconst hC (1 : Int32) dX10_decide_172 (by decide) ?_
                  refine z_iadd hC dX10_decide_173 ?_
                  refine z_iload_n hC 2 dX10_decide_174 rfl rfl ?_
                  refine z_iconst hC (1 : Int32) dX10_decide_175 (by decide) ?_
                  refine z_iload_n hC 1 dX10_decide_176 rfl rfl ?_
                  refine z_ishl hC dX10_decide_177 ?_
                  refine z_ior hC dX10_decide_178 ?_
                  refine z_callVv hC (ci := 10) rfl lmRX10_39 (hrX10_decide hp18 p0 (p1 + (1 : Int32)) (p2 ||| ((1 : Int32) <<< (p1 &&& 31)))) (Nat.le_refl _) hn0 dX10_decide_179 rfl rfl (Nat.le_of_ble_eq_true rfl) (fun w19 => ?_)
                  exact z_vret hC (fun h => h) dX10_decide_182
              · refine z_iload hC 4 dX10_decide_76 rfl ?_
                refine z_bipush hC (16 : Int32) dX10_decide_78 (by decide) ?_
                refine z_icmp_ge hC 137 dX10_decide_80 (by decide) (fun _ => ?_) (fun _ => ?_)
                · refine z_weak [(0, .ref p0), (1, .int p1), (2, .int p2), (3, .int (0 : Int32))] [0, 1, 2, 3] rfl ?_
                  exact z_leaf (fun h => h)
                · refine z_aload_n hC 0 dX10_decide_83 rfl rfl ?_
                  refine z_getR hC lgRX10_11 dX10_decide_84 (fun v20 => ?_)
                  refine z_iload_n hC 1 dX10_decide_87 rfl rfl ?_
                  refine z_aald4 hC dX10_decide_88 (fun v21 => ?_)
                  refine z_iload hC 4 dX10_decide_89 rfl ?_
                  refine z_lald hC dX10_decide_91 (fun v22 => ?_)
                  refine z_lstore hC [(0, .ref p0), (1, .int p1), (2, .int p2), (3, .int (0 : Int32)), (4, .int s11.1), (5, .long v22)] [1, 2, 3, 4, 5, 0] dX10_decide_92 (by decide) rfl ?_
                  refine z_aload_n hC 0 dX10_decide_94 rfl rfl ?_
                  refine z_getR hC lgRX10_11 dX10_decide_95 (fun v23 => ?_)
                  refine z_iload_n hC 1 dX10_decide_98 rfl rfl ?_
                  refine z_iconst hC (1 : Int32) dX10_decide_99 (by decide) ?_
                  refine z_iadd hC dX10_decide_100 ?_
                  refine z_aald4 hC dX10_decide_101 (fun v24 => ?_)
                  refine z_iload hC 4 dX10_decide_102 rfl ?_
                  refine z_iload_n hC 3 dX10_decide_104 rfl rfl ?_
                  refine z_jn (A := Int64) (fun a25 => s11.2) (fun a25 => [(0, .ref p0), (1, .int p1), (2, .int p2), (3, .int (0 : Int32)), (4, .int s11.1)]) 130 (fun a25 => [.long a25, .int s11.1, .ref v24]) (fun a25 => ?_) (fun J26 hJ26 => ?_)
                  · refine z_last hC dX10_decide_130 (fun hp27 => ?_)
                    refine z_iincv hC (1 : Int32) 4 (fun x28 => [(0, .ref p0), (1, .int p1), (2, .int p2), (3, .int (0 : Int32)), (4, .int x28)]) [1, 2, 3, 4, 0] dX10_decide_131 rfl (by decide) (by decide) (fun _ => rfl) (fun x28 => ?_)
                    refine z_goto hC 76 dX10_decide_134 (by decide) ?_
                    exact z_leaf (fun h => h)
                  · refine z_if_eq hC 128 dX10_decide_105 (by decide) (fun _ => ?_) (fun _ => ?_)
                    · refine z_lload hC 5 dX10_decide_128 rfl ?_
                      refine z_weak [(0, .ref p0), (1, .int p1), (2, .int p2), (3, .int (0 : Int32)), (4, .int s11.1)] [0, 1, 2, 3, 4] rfl ?_
                      exact hJ26 v22
                    · refine z_lload hC 5 dX10_decide_108 rfl ?_
                      refine z_aload_n hC 0 dX10_decide_110 rfl rfl ?_
                      refine z_getR hC lgRX10_11 dX10_decide_111 (fun v29 => ?_)
                      refine z_iload_n hC 1 dX10_decide_114 rfl rfl ?_
                      refine z_aald4 hC dX10_decide_115 (fun v30 => ?_)
                      refine z_iload hC 4 dX10_decide_116 rfl ?_
                      refine z_iconst hC (1 : Int32) dX10_decide_118 (by decide) ?_
                      refine z_iload_n hC 1 dX10_decide_119 rfl rfl ?_
                      refine z_ishl hC dX10_decide_120 ?_
                      refine z_callSl hC lmRX10_53 (ctX7_changed (vLa V) (vDa V) (vTg V) (vBs V) (vSa V) s11.2 v30 s11.1 ((1 : Int32) <<< (p1 &&& 31))) (by have := hLr; omega) hn0 dX10_decide_121 rfl rfl (Nat.le_of_ble_eq_true rfl) (fun v31 => ?_)
                      refine z_land hC dX10_decide_124 ?_
                      refine z_goto hC 130 dX10_decide_125 (by decide) ?_
                      refine z_vll (fun x32 => ?_)
                      refine z_weak [(0, .ref p0), (1, .int p1), (2, .int p2), (3, .int (0 : Int32)), (4, .int s11.1)] [0, 1, 2, 3, 4] rfl ?_
                      exact hJ26 x32
            · refine z_iconst hC (1 : Int32) dX10_decide_67 (by decide) ?_
              refine z_goto hC 72 dX10_decide_68 (by decide) ?_
              refine z_istore_n hC [(0, .ref p0), (1, .int p1), (2, .int p2), (3, .int (1 : Int32))] [1, 2, 3, 0] dX10_decide_72 rfl (by decide) rfl ?_
              refine z_iconst hC (0 : Int32) dX10_decide_73 (by decide) ?_
              refine z_istore hC [(0, .ref p0), (1, .int p1), (2, .int p2), (3, .int (1 : Int32)), (4, .int (0 : Int32))] [1, 2, 3, 4, 0] dX10_decide_74 (by decide) rfl ?_
              refine z_lp (S := Int32 × HP) (Y := HP) (fun s33 => s33.2) (fun s33 => [(0, .ref p0), (1, .int p1), (2, .int p2), (3, .int (1 : Int32)), (4, .int s33.1)]) (fun y34 => y34) (fun y34 => [(0, .ref p0), (1, .int p1), (2, .int p2), (3, .int (1 : Int32))]) 137 [] (fun y34 => ?_) (fun s33 => ?_) rfl rfl
              · refine z_aload_n hC 0 dX10_decide_137 rfl rfl ?_
                refine z_iload_n hC 1 dX10_decide_138 rfl rfl ?_
                refine z_iconst hC (1 : Int32) dX10_decide_139 (by decide) ?_
                refine z_iadd hC dX10_decide_140 ?_
                refine z_iload_n hC 2 dX10_decide_141 rfl rfl ?_
                refine z_callVv hC (ci := 10) rfl lmRX10_39 (hrX10_decide y34 p0 (p1 + (1 : Int32)) p2) (Nat.le_refl _) hn0 dX10_decide_142 rfl rfl (Nat.le_of_ble_eq_true rfl) (fun w35 => ?_)
                refine z_iload_n hC 3 dX10_decide_145 rfl rfl ?_
                refine z_if_eq hC 182 dX10_decide_146 (by decide) (fun _ => ?_) (fun _ => ?_)
                · exact z_vret hC (fun h => h) dX10_decide_182
                · refine z_aload_n hC 0 dX10_decide_149 rfl rfl ?_
                  refine z_getR hC lgRX10_11 dX10_decide_150 (fun v36 => ?_)
                  refine z_iload_n hC 1 dX10_decide_153 rfl rfl ?_
                  refine z_aald4 hC dX10_decide_154 (fun v37 => ?_)
                  refine z_iconst hC (0 : Int32) dX10_decide_155 (by decide) ?_
                  refine z_aload_n hC 0 dX10_decide_156 rfl rfl ?_
                  refine z_getR hC lgRX10_11 dX10_decide_157 (fun v38 => ?_)
                  refine z_iload_n hC 1 dX10_decide_160 rfl rfl ?_
                  refine z_iconst hC (1 : Int32) dX10_decide_161 (by decide) ?_
                  refine z_iadd hC dX10_decide_162 ?_
                  refine z_aald4 hC dX10_decide_163 (fun v39 => ?_)
                  refine z_iconst hC (0 : Int32) dX10_decide_164 (by decide) ?_
                  refine z_bipush hC (16 : Int32) dX10_decide_165 (by decide) ?_
                  refine z_cpL hC laRX10_33 dX10_decide_167 (fun hp40 => ?_)
                  refine z_aload_n hC 0 dX10_decide_170 rfl rfl ?_
                  refine z_iload_n hC 1 dX10_decide_171 rfl rfl ?_
                  refine z_iconst hC (1 : Int32) dX10_decide_172 (by decide) ?_
                  refine z_iadd hC dX10_decide_173 ?_
                  refine z_iload_n hC 2 dX10_decide_174 rfl rfl ?_
                  refine z_iconst hC (1 : Int32) dX10_decide_175 (by decide) ?_
                  refine z_iload_n hC 1 dX10_decide_176 rfl rfl ?_
                  refine z_ishl hC dX10_decide_177 ?_
                  refine z_ior hC dX10_decide_178 ?_
                  refine z_callVv hC (ci := 10) rfl lmRX10_39 (hrX10_decide hp40 p0 (p1 + (1 : Int32)) (p2 ||| ((1 : Int32) <<< (p1 &&& 31)))) (Nat.le_refl _) hn0 dX10_decide_179 rfl rfl (Nat.le_of_ble_eq_true rfl) (fun w41 => ?_)
                  exact z_vret hC (fun h => h) dX10_decide_182
              · refine z_iload hC 4 dX10_decide_76 rfl ?_
                refine z_bipush hC (16 : Int32) dX10_decide_78 (by decide) ?_
                refine z_icmp_ge hC 137 dX10_decide_80 (by decide) (fun _ => ?_) (fun _ => ?_)
                · refine z_weak [(0, .ref p0), (1, .int p1), (2, .int p2), (3, .int (1 : Int32))] [0, 1, 2, 3] rfl ?_
                  exact z_leaf (fun h => h)
                · refine z_aload_n hC 0 dX10_decide_83 rfl rfl ?_
                  refine z_getR hC lgRX10_11 dX10_decide_84 (fun v42 => ?_)
                  refine z_iload_n hC 1 dX10_decide_87 rfl rfl ?_
                  refine z_aald4 hC dX10_decide_88 (fun v43 => ?_)
                  refine z_iload hC 4 dX10_decide_89 rfl ?_
                  refine z_lald hC dX10_decide_91 (fun v44 => ?_)
                  refine z_lstore hC [(0, .ref p0), (1, .int p1), (2, .int p2), (3, .int (1 : Int32)), (4, .int s33.1), (5, .long v44)] [1, 2, 3, 4, 5, 0] dX10_decide_92 (by decide) rfl ?_
                  refine z_aload_n hC 0 dX10_decide_94 rfl rfl ?_
                  refine z_getR hC lgRX10_11 dX10_decide_95 (fun v45 => ?_)
                  refine z_iload_n hC 1 dX10_decide_98 rfl rfl ?_
                  refine z_iconst hC (1 : Int32) dX10_decide_99 (by decide) ?_
                  refine z_iadd hC dX10_decide_100 ?_
                  refine z_aald4 hC dX10_decide_101 (fun v46 => ?_)
                  refine z_iload hC 4 dX10_decide_102 rfl ?_
                  refine z_iload_n hC 3 dX10_decide_104 rfl rfl ?_
                  refine z_jn (A := Int64) (fun a47 => s33.2) (fun a47 => [(0, .ref p0), (1, .int p1), (2, .int p2), (3, .int (1 : Int32)), (4, .int s33.1)]) 130 (fun a47 => [.long a47, .int s33.1, .ref v46]) (fun a47 => ?_) (fun J48 hJ48 => ?_)
                  · refine z_last hC dX10_decide_130 (fun hp49 => ?_)
                    refine z_iincv hC (1 : Int32) 4 (fun x50 => [(0, .ref p0), (1, .int p1), (2, .int p2), (3, .int (1 : Int32)), (4, .int x50)]) [1, 2, 3, 4, 0] dX10_decide_131 rfl (by decide) (by decide) (fun _ => rfl) (fun x50 => ?_)
                    refine z_goto hC 76 dX10_decide_134 (by decide) ?_
                    exact z_leaf (fun h => h)
                  · refine z_if_eq hC 128 dX10_decide_105 (by decide) (fun _ => ?_) (fun _ => ?_)
                    · refine z_lload hC 5 dX10_decide_128 rfl ?_
                      refine z_weak [(0, .ref p0), (1, .int p1), (2, .int p2), (3, .int (1 : Int32)), (4, .int s33.1)] [0, 1, 2, 3, 4] rfl ?_
                      exact hJ48 v44
                    · refine z_lload hC 5 dX10_decide_108 rfl ?_
                      refine z_aload_n hC 0 dX10_decide_110 rfl rfl ?_
                      refine z_getR hC lgRX10_11 dX10_decide_111 (fun v51 => ?_)
                      refine z_iload_n hC 1 dX10_decide_114 rfl rfl ?_
                      refine z_aald4 hC dX10_decide_115 (fun v52 => ?_)
                      refine z_iload hC 4 dX10_decide_116 rfl ?_
                      refine z_iconst hC (1 : Int32) dX10_decide_118 (by decide) ?_
                      refine z_iload_n hC 1 dX10_decide_119 rfl rfl ?_
                      refine z_ishl hC dX10_decide_120 ?_
                      refine z_callSl hC lmRX10_53 (ctX7_changed (vLa V) (vDa V) (vTg V) (vBs V) (vSa V) s33.2 v52 s33.1 ((1 : Int32) <<< (p1 &&& 31))) (by have := hLr; omega) hn0 dX10_decide_121 rfl rfl (Nat.le_of_ble_eq_true rfl) (fun v53 => ?_)
                      refine z_land hC dX10_decide_124 ?_
                      refine z_goto hC 130 dX10_decide_125 (by decide) ?_
                      refine z_vll (fun x54 => ?_)
                      refine z_weak [(0, .ref p0), (1, .int p1), (2, .int p2), (3, .int (1 : Int32)), (4, .int s33.1)] [0, 1, 2, 3, 4] rfl ?_
                      exact hJ48 x54
      · exact z_vret hC (fun h => h) dX10_decide_30
def FGX10_decide : Nat → (HP → Nat → Int32 → Int32 → Option (HP))
  | 0 => (fun _ _ _ _ => none)
  | d + 1 => FBX10_decide (FGX10_decide d)
def FX10_decide (d : Nat) : HP → Nat → Int32 → Int32 → Option (HP) := (FGX10_decide d)
theorem cgX10_decide (l : Launch) (D : va_G) (tg : Nat → ClassId) (bs : Nat) (sa : Nat → Nat) : ∀ d : Nat, (∀ (hp : HP) (p0 : Nat) (p1 : Int32) (p2 : Int32), Ct l D tg bs sa yX10_decide cX10_decide 7 none (2 + d) [.ref p0, .int p1, .int p2] hp (FX10_decide d hp p0 p1 p2) (fun _ => none) (fun r => r)) := by
  intro d
  induction d with
  | zero => exact (fun hp _ _ _ x hx => by cases hx)
  | succ d ih =>
    exact cbX10_decide l D tg bs sa (FX10_decide d) (2 + d) (Nat.le_add_right _ _) ih
theorem ctX10_decide (l : Launch) (D : va_G) (tg : Nat → ClassId) (bs : Nat) (sa : Nat → Nat) (d : Nat) (hp : HP) (p0 : Nat) (p1 : Int32) (p2 : Int32) : Ct l D tg bs sa yX10_decide cX10_decide 7 none (2 + d) [.ref p0, .int p1, .int p2] hp (FX10_decide d hp p0 p1 p2) (fun _ => none) (fun r => r) := (cgX10_decide l D tg bs sa d) hp p0 p1 p2
theorem dX10_find_0 : decode cX10_find 0 = .ok (.aload_n 0, 1) := by decide +kernel
theorem dX10_find_1 : decode cX10_find 1 = .ok (.iconst (-1), 1) := by decide +kernel
theorem dX10_find_2 : decode cX10_find 2 = .ok (.putfield 16, 3) := by decide +kernel
theorem dX10_find_5 : decode cX10_find 5 = .ok (.aload_n 1, 1) := by decide +kernel
theorem dX10_find_6 : decode cX10_find 6 = .ok (.invokestatic 20, 3) := by decide +kernel
theorem dX10_find_9 : decode cX10_find 9 = .ok (.ifCond .eq 5, 3) := by decide +kernel
theorem dX10_find_12 : decode cX10_find 12 = .ok (.iconst 0, 1) := by decide +kernel
theorem dX10_find_13 : decode cX10_find 13 = .ok (.ireturn, 1) := by decide +kernel
theorem dX10_find_14 : decode cX10_find 14 = .ok (.aload_n 0, 1) := by decide +kernel
theorem dX10_find_15 : decode cX10_find 15 = .ok (.aload_n 1, 1) := by decide +kernel
theorem dX10_find_16 : decode cX10_find 16 = .ok (.invokestatic 26, 3) := by decide +kernel
theorem dX10_find_19 : decode cX10_find 19 = .ok (.putfield 30, 3) := by decide +kernel
theorem dX10_find_22 : decode cX10_find 22 = .ok (.aload_n 1, 1) := by decide +kernel
theorem dX10_find_23 : decode cX10_find 23 = .ok (.iconst 0, 1) := by decide +kernel
theorem dX10_find_24 : decode cX10_find 24 = .ok (.aload_n 0, 1) := by decide +kernel
theorem dX10_find_25 : decode cX10_find 25 = .ok (.getfield 11, 3) := by decide +kernel
theorem dX10_find_28 : decode cX10_find 28 = .ok (.iconst 0, 1) := by decide +kernel
theorem dX10_find_29 : decode cX10_find 29 = .ok (.aaload, 1) := by decide +kernel
theorem dX10_find_30 : decode cX10_find 30 = .ok (.iconst 0, 1) := by decide +kernel
theorem dX10_find_31 : decode cX10_find 31 = .ok (.bipush 16, 2) := by decide +kernel
theorem dX10_find_33 : decode cX10_find 33 = .ok (.invokestatic 33, 3) := by decide +kernel
theorem dX10_find_36 : decode cX10_find 36 = .ok (.aload_n 0, 1) := by decide +kernel
theorem dX10_find_37 : decode cX10_find 37 = .ok (.iconst 0, 1) := by decide +kernel
theorem dX10_find_38 : decode cX10_find 38 = .ok (.iconst 0, 1) := by decide +kernel
theorem dX10_find_39 : decode cX10_find 39 = .ok (.invokevirtual 39, 3) := by decide +kernel
theorem dX10_find_42 : decode cX10_find 42 = .ok (.iconst 1, 1) := by decide +kernel
theorem dX10_find_43 : decode cX10_find 43 = .ok (.ireturn, 1) := by decide +kernel
def FX10_find (hp : HP) (p0 : Nat) (p1 : Nat) : Option (Int32 × HP) := (sI [10] 0 hp p0 (-1 : Int32)).bind (fun hp1 => (FX7_isEmpty hp1 p1).bind (fun v2 => if v2 = 0 then (FX7_dependsOn hp1 p1).bind (fun v3 => (sI [10] 2 hp1 p0 v3).bind (fun hp4 => (gR [10] 3 hp4 p0).bind (fun v5 => (rdA 4 hp4 v5 (0 : Int32)).bind (fun v6 => (cpL hp4 p1 (0 : Int32) v6 (0 : Int32) (16 : Int32)).bind (fun hp7 => (rc [10] hp7 p0 (FX10_decide 14 hp7 p0 (0 : Int32) (0 : Int32))).bind (fun w8 => some ((1 : Int32), w8))))))) else some ((0 : Int32), hp1)))
set_option maxHeartbeats 4000000 in
set_option maxRecDepth 100000 in
theorem ctX10_find (l : Launch) (D : va_G) (tg : Nat → ClassId) (bs : Nat) (sa : Nat → Nat) (hp : HP) (p0 : Nat) (p1 : Nat) : Ct l D tg bs sa yX10_find cX10_find 2 (some .boolean) 17 [.ref p0, .ref p1] hp (FX10_find hp p0 p1) (fun r => some (.int r.1)) (fun r => r.2) := by
  refine Ct.of (by decide) (Nat.le_of_ble_eq_true rfl) ?_
  intro V Q hVl hVd hVt hVb hVs hC
  subst hVl; subst hVd; subst hVt; subst hVb; subst hVs
  unfold FX10_find
  show Zs V Q (0, 0) 2 _ _ hp [(0, .ref p0), (1, .ref p1)] 0 []
  refine z_aload_n hC 0 dX10_find_0 rfl rfl ?_
  refine z_iconst hC (-1 : Int32) dX10_find_1 (by decide) ?_
  refine z_putI hC lpRX10_16 dX10_find_2 (fun hp1 => ?_)
  refine z_aload_n hC 1 dX10_find_5 rfl rfl ?_
  refine z_callSi hC lmRX10_20 (ctX7_isEmpty (vLa V) (vDa V) (vTg V) (vBs V) (vSa V) hp1 p1) (by decide) hn0 dX10_find_6 rfl rfl (Nat.le_of_ble_eq_true rfl) (fun v2 => ?_)
  refine z_if_eq hC 14 dX10_find_9 (by decide) (fun _ => ?_) (fun _ => ?_)
  · refine z_aload_n hC 0 dX10_find_14 rfl rfl ?_
    refine z_aload_n hC 1 dX10_find_15 rfl rfl ?_
    refine z_callSi hC lmRX10_26 (ctX7_dependsOn (vLa V) (vDa V) (vTg V) (vBs V) (vSa V) hp1 p1) (by decide) hn0 dX10_find_16 rfl rfl (Nat.le_of_ble_eq_true rfl) (fun v3 => ?_)
    refine z_putI hC lpRX10_30 dX10_find_19 (fun hp4 => ?_)
    refine z_aload_n hC 1 dX10_find_22 rfl rfl ?_
    refine z_iconst hC (0 : Int32) dX10_find_23 (by decide) ?_
    refine z_aload_n hC 0 dX10_find_24 rfl rfl ?_
    refine z_getR hC lgRX10_11 dX10_find_25 (fun v5 => ?_)
    refine z_iconst hC (0 : Int32) dX10_find_28 (by decide) ?_
    refine z_aald4 hC dX10_find_29 (fun v6 => ?_)
    refine z_iconst hC (0 : Int32) dX10_find_30 (by decide) ?_
    refine z_bipush hC (16 : Int32) dX10_find_31 (by decide) ?_
    refine z_cpL hC laRX10_33 dX10_find_33 (fun hp7 => ?_)
    refine z_aload_n hC 0 dX10_find_36 rfl rfl ?_
    refine z_iconst hC (0 : Int32) dX10_find_37 (by decide) ?_
    refine z_iconst hC (0 : Int32) dX10_find_38 (by decide) ?_
    refine z_callVv hC (ci := 10) rfl lmRX10_39 (ctX10_decide (vLa V) (vDa V) (vTg V) (vBs V) (vSa V) 14 hp7 p0 (0 : Int32) (0 : Int32)) (by decide) hn0 dX10_find_39 rfl rfl (Nat.le_of_ble_eq_true rfl) (fun w8 => ?_)
    refine z_iconst hC (1 : Int32) dX10_find_42 (by decide) ?_
    exact z_zret hC (by decide) (fun h => h) dX10_find_43
  · refine z_iconst hC (0 : Int32) dX10_find_12 (by decide) ?_
    exact z_zret hC (by decide) (fun h => h) dX10_find_13

theorem dX11_isFact_0 : decode cX11_isFact 0 = .ok (.iload_n 0, 1) := by decide +kernel
theorem dX11_isFact_1 : decode cX11_isFact 1 = .ok (.ifCond .lt 13, 3) := by decide +kernel
theorem dX11_isFact_4 : decode cX11_isFact 4 = .ok (.iload_n 0, 1) := by decide +kernel
theorem dX11_isFact_5 : decode cX11_isFact 5 = .ok (.bipush 10, 2) := by decide +kernel
theorem dX11_isFact_7 : decode cX11_isFact 7 = .ok (.if_icmp .ge 7, 3) := by decide +kernel
theorem dX11_isFact_10 : decode cX11_isFact 10 = .ok (.iconst 1, 1) := by decide +kernel
theorem dX11_isFact_11 : decode cX11_isFact 11 = .ok (.goto 4, 3) := by decide +kernel
theorem dX11_isFact_14 : decode cX11_isFact 14 = .ok (.iconst 0, 1) := by decide +kernel
theorem dX11_isFact_15 : decode cX11_isFact 15 = .ok (.ireturn, 1) := by decide +kernel
def FX11_isFact (p0 : Int32) : Option (Int32) := if p0 < 0 then some (0 : Int32) else if (10 : Int32) ≤ p0 then some (0 : Int32) else some (1 : Int32)
set_option maxHeartbeats 4000000 in
set_option maxRecDepth 100000 in
theorem ctX11_isFact (l : Launch) (D : va_G) (tg : Nat → ClassId) (bs : Nat) (sa : Nat → Nat) (hp : HP) (p0 : Int32) : Ct l D tg bs sa yX11_isFact cX11_isFact 1 (some .boolean) 0 [.int p0] hp (FX11_isFact p0) (fun r => some (.int r)) (fun _ => hp) := by
  refine Ct.of (by decide) (Nat.le_of_ble_eq_true rfl) ?_
  intro V Q hVl hVd hVt hVb hVs hC
  subst hVl; subst hVd; subst hVt; subst hVb; subst hVs
  unfold FX11_isFact
  show Zs V Q (0, 0) 1 _ _ hp [(0, .int p0)] 0 []
  refine z_iload_n hC 0 dX11_isFact_0 rfl rfl ?_
  refine z_if_lt hC 14 dX11_isFact_1 (by decide) (fun _ => ?_) (fun _ => ?_)
  · refine z_iconst hC (0 : Int32) dX11_isFact_14 (by decide) ?_
    exact z_zret hC (by decide) (fun h => h) dX11_isFact_15
  · refine z_iload_n hC 0 dX11_isFact_4 rfl rfl ?_
    refine z_bipush hC (10 : Int32) dX11_isFact_5 (by decide) ?_
    refine z_icmp_ge hC 14 dX11_isFact_7 (by decide) (fun _ => ?_) (fun _ => ?_)
    · refine z_iconst hC (0 : Int32) dX11_isFact_14 (by decide) ?_
      exact z_zret hC (by decide) (fun h => h) dX11_isFact_15
    · refine z_iconst hC (1 : Int32) dX11_isFact_10 (by decide) ?_
      refine z_goto hC 15 dX11_isFact_11 (by decide) ?_
      exact z_zret hC (by decide) (fun h => h) dX11_isFact_15

