theorem dJ6_bitCount_0f7a4_0 : decode cJ6_bitCount_0f7a4 0 = .ok (.iload_n 0, 1) := by decide +kernel
theorem dJ6_bitCount_0f7a4_1 : decode cJ6_bitCount_0f7a4 1 = .ok (.iload_n 0, 1) := by decide +kernel
theorem dJ6_bitCount_0f7a4_2 : decode cJ6_bitCount_0f7a4 2 = .ok (.iconst 1, 1) := by decide +kernel
theorem dJ6_bitCount_0f7a4_3 : decode cJ6_bitCount_0f7a4 3 = .ok (.iushr, 1) := by decide +kernel
theorem dJ6_bitCount_0f7a4_4 : decode cJ6_bitCount_0f7a4 4 = .ok (.ldc_w 265, 3) := by decide +kernel
theorem dJ6_bitCount_0f7a4_7 : decode cJ6_bitCount_0f7a4 7 = .ok (.iand, 1) := by decide +kernel
theorem dJ6_bitCount_0f7a4_8 : decode cJ6_bitCount_0f7a4 8 = .ok (.isub, 1) := by decide +kernel
theorem dJ6_bitCount_0f7a4_9 : decode cJ6_bitCount_0f7a4 9 = .ok (.istore_n 0, 1) := by decide +kernel
theorem dJ6_bitCount_0f7a4_10 : decode cJ6_bitCount_0f7a4 10 = .ok (.iload_n 0, 1) := by decide +kernel
theorem dJ6_bitCount_0f7a4_11 : decode cJ6_bitCount_0f7a4 11 = .ok (.ldc_w 266, 3) := by decide +kernel
theorem dJ6_bitCount_0f7a4_14 : decode cJ6_bitCount_0f7a4 14 = .ok (.iand, 1) := by decide +kernel
theorem dJ6_bitCount_0f7a4_15 : decode cJ6_bitCount_0f7a4 15 = .ok (.iload_n 0, 1) := by decide +kernel
theorem dJ6_bitCount_0f7a4_16 : decode cJ6_bitCount_0f7a4 16 = .ok (.iconst 2, 1) := by decide +kernel
theorem dJ6_bitCount_0f7a4_17 : decode cJ6_bitCount_0f7a4 17 = .ok (.iushr, 1) := by decide +kernel
theorem dJ6_bitCount_0f7a4_18 : decode cJ6_bitCount_0f7a4 18 = .ok (.ldc_w 266, 3) := by decide +kernel
theorem dJ6_bitCount_0f7a4_21 : decode cJ6_bitCount_0f7a4 21 = .ok (.iand, 1) := by decide +kernel
theorem dJ6_bitCount_0f7a4_22 : decode cJ6_bitCount_0f7a4 22 = .ok (.iadd, 1) := by decide +kernel
theorem dJ6_bitCount_0f7a4_23 : decode cJ6_bitCount_0f7a4 23 = .ok (.istore_n 0, 1) := by decide +kernel
theorem dJ6_bitCount_0f7a4_24 : decode cJ6_bitCount_0f7a4 24 = .ok (.iload_n 0, 1) := by decide +kernel
theorem dJ6_bitCount_0f7a4_25 : decode cJ6_bitCount_0f7a4 25 = .ok (.iload_n 0, 1) := by decide +kernel
theorem dJ6_bitCount_0f7a4_26 : decode cJ6_bitCount_0f7a4 26 = .ok (.iconst 4, 1) := by decide +kernel
theorem dJ6_bitCount_0f7a4_27 : decode cJ6_bitCount_0f7a4 27 = .ok (.iushr, 1) := by decide +kernel
theorem dJ6_bitCount_0f7a4_28 : decode cJ6_bitCount_0f7a4 28 = .ok (.iadd, 1) := by decide +kernel
theorem dJ6_bitCount_0f7a4_29 : decode cJ6_bitCount_0f7a4 29 = .ok (.ldc_w 267, 3) := by decide +kernel
theorem dJ6_bitCount_0f7a4_32 : decode cJ6_bitCount_0f7a4 32 = .ok (.iand, 1) := by decide +kernel
theorem dJ6_bitCount_0f7a4_33 : decode cJ6_bitCount_0f7a4 33 = .ok (.istore_n 0, 1) := by decide +kernel
theorem dJ6_bitCount_0f7a4_34 : decode cJ6_bitCount_0f7a4 34 = .ok (.iload_n 0, 1) := by decide +kernel
theorem dJ6_bitCount_0f7a4_35 : decode cJ6_bitCount_0f7a4 35 = .ok (.iload_n 0, 1) := by decide +kernel
theorem dJ6_bitCount_0f7a4_36 : decode cJ6_bitCount_0f7a4 36 = .ok (.bipush 8, 2) := by decide +kernel
theorem dJ6_bitCount_0f7a4_38 : decode cJ6_bitCount_0f7a4 38 = .ok (.iushr, 1) := by decide +kernel
theorem dJ6_bitCount_0f7a4_39 : decode cJ6_bitCount_0f7a4 39 = .ok (.iadd, 1) := by decide +kernel
theorem dJ6_bitCount_0f7a4_40 : decode cJ6_bitCount_0f7a4 40 = .ok (.istore_n 0, 1) := by decide +kernel
theorem dJ6_bitCount_0f7a4_41 : decode cJ6_bitCount_0f7a4 41 = .ok (.iload_n 0, 1) := by decide +kernel
theorem dJ6_bitCount_0f7a4_42 : decode cJ6_bitCount_0f7a4 42 = .ok (.iload_n 0, 1) := by decide +kernel
theorem dJ6_bitCount_0f7a4_43 : decode cJ6_bitCount_0f7a4 43 = .ok (.bipush 16, 2) := by decide +kernel
theorem dJ6_bitCount_0f7a4_45 : decode cJ6_bitCount_0f7a4 45 = .ok (.iushr, 1) := by decide +kernel
theorem dJ6_bitCount_0f7a4_46 : decode cJ6_bitCount_0f7a4 46 = .ok (.iadd, 1) := by decide +kernel
theorem dJ6_bitCount_0f7a4_47 : decode cJ6_bitCount_0f7a4 47 = .ok (.istore_n 0, 1) := by decide +kernel
theorem dJ6_bitCount_0f7a4_48 : decode cJ6_bitCount_0f7a4 48 = .ok (.iload_n 0, 1) := by decide +kernel
theorem dJ6_bitCount_0f7a4_49 : decode cJ6_bitCount_0f7a4 49 = .ok (.bipush 63, 2) := by decide +kernel
theorem dJ6_bitCount_0f7a4_51 : decode cJ6_bitCount_0f7a4 51 = .ok (.iand, 1) := by decide +kernel
theorem dJ6_bitCount_0f7a4_52 : decode cJ6_bitCount_0f7a4 52 = .ok (.ireturn, 1) := by decide +kernel
def FJ6_bitCount_0f7a4 (p0 : Int32) : Option (Int32) := vl (p0 - (((p0).toUInt32 >>> (((1 : Int32)).toUInt32 &&& Int32.toUInt32 31)).toInt32 &&& (1431655765 : Int32))) (fun x1 => vl ((x1 &&& (858993459 : Int32)) + (((x1).toUInt32 >>> (((2 : Int32)).toUInt32 &&& Int32.toUInt32 31)).toInt32 &&& (858993459 : Int32))) (fun x2 => vl ((x2 + ((x2).toUInt32 >>> (((4 : Int32)).toUInt32 &&& Int32.toUInt32 31)).toInt32) &&& (252645135 : Int32)) (fun x3 => vl (x3 + ((x3).toUInt32 >>> (((8 : Int32)).toUInt32 &&& Int32.toUInt32 31)).toInt32) (fun x4 => vl (x4 + ((x4).toUInt32 >>> (((16 : Int32)).toUInt32 &&& Int32.toUInt32 31)).toInt32) (fun x5 => some (x5 &&& (63 : Int32)))))))
set_option maxHeartbeats 4000000 in
set_option maxRecDepth 100000 in
theorem ctJ6_bitCount_0f7a4 (l : Launch) (D : va_G) (tg : Nat → ClassId) (bs : Nat) (sa : Nat → Nat) (hp : HP) (p0 : Int32) : Ct l D tg bs sa yJ6_bitCount_0f7a4 cJ6_bitCount_0f7a4 1 (some .int) 0 [.int p0] hp (FJ6_bitCount_0f7a4 p0) (fun r => some (.int r)) (fun _ => hp) := by
  refine Ct.of (by decide) (Nat.le_of_ble_eq_true rfl) ?_
  intro V Q hVl hVd hVt hVb hVs hC
  subst hVl; subst hVd; subst hVt; subst hVb; subst hVs
  unfold FJ6_bitCount_0f7a4
  show Zs V Q (0, 0) 1 _ _ hp [(0, .int p0)] 0 []
  refine z_iload_n hC 0 dJ6_bitCount_0f7a4_0 rfl rfl ?_
  refine z_iload_n hC 0 dJ6_bitCount_0f7a4_1 rfl rfl ?_
  refine z_iconst hC (1 : Int32) dJ6_bitCount_0f7a4_2 (by decide) ?_
  refine z_iushr hC dJ6_bitCount_0f7a4_3 ?_
  refine z_ldcw hC (1431655765 : Int32) lcRJ6_265 dJ6_bitCount_0f7a4_4 ?_
  refine z_iand hC dJ6_bitCount_0f7a4_7 ?_
  refine z_isub hC dJ6_bitCount_0f7a4_8 ?_
  refine z_vli (fun x1 => ?_)
  refine z_istore_n hC [(0, .int x1)] [0] dJ6_bitCount_0f7a4_9 rfl (by decide) rfl ?_
  refine z_iload_n hC 0 dJ6_bitCount_0f7a4_10 rfl rfl ?_
  refine z_ldcw hC (858993459 : Int32) lcRJ6_266 dJ6_bitCount_0f7a4_11 ?_
  refine z_iand hC dJ6_bitCount_0f7a4_14 ?_
  refine z_iload_n hC 0 dJ6_bitCount_0f7a4_15 rfl rfl ?_
  refine z_iconst hC (2 : Int32) dJ6_bitCount_0f7a4_16 (by decide) ?_
  refine z_iushr hC dJ6_bitCount_0f7a4_17 ?_
  refine z_ldcw hC (858993459 : Int32) lcRJ6_266 dJ6_bitCount_0f7a4_18 ?_
  refine z_iand hC dJ6_bitCount_0f7a4_21 ?_
  refine z_iadd hC dJ6_bitCount_0f7a4_22 ?_
  refine z_vli (fun x2 => ?_)
  refine z_istore_n hC [(0, .int x2)] [0] dJ6_bitCount_0f7a4_23 rfl (by decide) rfl ?_
  refine z_iload_n hC 0 dJ6_bitCount_0f7a4_24 rfl rfl ?_
  refine z_iload_n hC 0 dJ6_bitCount_0f7a4_25 rfl rfl ?_
  refine z_iconst hC (4 : Int32) dJ6_bitCount_0f7a4_26 (by decide) ?_
  refine z_iushr hC dJ6_bitCount_0f7a4_27 ?_
  refine z_iadd hC dJ6_bitCount_0f7a4_28 ?_
  refine z_ldcw hC (252645135 : Int32) lcRJ6_267 dJ6_bitCount_0f7a4_29 ?_
  refine z_iand hC dJ6_bitCount_0f7a4_32 ?_
  refine z_vli (fun x3 => ?_)
  refine z_istore_n hC [(0, .int x3)] [0] dJ6_bitCount_0f7a4_33 rfl (by decide) rfl ?_
  refine z_iload_n hC 0 dJ6_bitCount_0f7a4_34 rfl rfl ?_
  refine z_iload_n hC 0 dJ6_bitCount_0f7a4_35 rfl rfl ?_
  refine z_bipush hC (8 : Int32) dJ6_bitCount_0f7a4_36 (by decide) ?_
  refine z_iushr hC dJ6_bitCount_0f7a4_38 ?_
  refine z_iadd hC dJ6_bitCount_0f7a4_39 ?_
  refine z_vli (fun x4 => ?_)
  refine z_istore_n hC [(0, .int x4)] [0] dJ6_bitCount_0f7a4_40 rfl (by decide) rfl ?_
  refine z_iload_n hC 0 dJ6_bitCount_0f7a4_41 rfl rfl ?_
  refine z_iload_n hC 0 dJ6_bitCount_0f7a4_42 rfl rfl ?_
  refine z_bipush hC (16 : Int32) dJ6_bitCount_0f7a4_43 (by decide) ?_
  refine z_iushr hC dJ6_bitCount_0f7a4_45 ?_
  refine z_iadd hC dJ6_bitCount_0f7a4_46 ?_
  refine z_vli (fun x5 => ?_)
  refine z_istore_n hC [(0, .int x5)] [0] dJ6_bitCount_0f7a4_47 rfl (by decide) rfl ?_
  refine z_iload_n hC 0 dJ6_bitCount_0f7a4_48 rfl rfl ?_
  refine z_bipush hC (63 : Int32) dJ6_bitCount_0f7a4_49 (by decide) ?_
  refine z_iand hC dJ6_bitCount_0f7a4_51 ?_
  exact z_iret hC (fun h => h) dJ6_bitCount_0f7a4_52

theorem dJ13_bitCount_95d88_0 : decode cJ13_bitCount_95d88 0 = .ok (.lload_n 0, 1) := by decide +kernel
theorem dJ13_bitCount_95d88_1 : decode cJ13_bitCount_95d88 1 = .ok (.lload_n 0, 1) := by decide +kernel
theorem dJ13_bitCount_95d88_2 : decode cJ13_bitCount_95d88 2 = .ok (.iconst 1, 1) := by decide +kernel
theorem dJ13_bitCount_95d88_3 : decode cJ13_bitCount_95d88 3 = .ok (.lushr, 1) := by decide +kernel
theorem dJ13_bitCount_95d88_4 : decode cJ13_bitCount_95d88 4 = .ok (.ldc2_w 314, 3) := by decide +kernel
theorem dJ13_bitCount_95d88_7 : decode cJ13_bitCount_95d88 7 = .ok (.land, 1) := by decide +kernel
theorem dJ13_bitCount_95d88_8 : decode cJ13_bitCount_95d88 8 = .ok (.lsub, 1) := by decide +kernel
theorem dJ13_bitCount_95d88_9 : decode cJ13_bitCount_95d88 9 = .ok (.lstore_n 0, 1) := by decide +kernel
theorem dJ13_bitCount_95d88_10 : decode cJ13_bitCount_95d88 10 = .ok (.lload_n 0, 1) := by decide +kernel
theorem dJ13_bitCount_95d88_11 : decode cJ13_bitCount_95d88 11 = .ok (.ldc2_w 316, 3) := by decide +kernel
theorem dJ13_bitCount_95d88_14 : decode cJ13_bitCount_95d88 14 = .ok (.land, 1) := by decide +kernel
theorem dJ13_bitCount_95d88_15 : decode cJ13_bitCount_95d88 15 = .ok (.lload_n 0, 1) := by decide +kernel
theorem dJ13_bitCount_95d88_16 : decode cJ13_bitCount_95d88 16 = .ok (.iconst 2, 1) := by decide +kernel
theorem dJ13_bitCount_95d88_17 : decode cJ13_bitCount_95d88 17 = .ok (.lushr, 1) := by decide +kernel
theorem dJ13_bitCount_95d88_18 : decode cJ13_bitCount_95d88 18 = .ok (.ldc2_w 316, 3) := by decide +kernel
theorem dJ13_bitCount_95d88_21 : decode cJ13_bitCount_95d88 21 = .ok (.land, 1) := by decide +kernel
theorem dJ13_bitCount_95d88_22 : decode cJ13_bitCount_95d88 22 = .ok (.ladd, 1) := by decide +kernel
theorem dJ13_bitCount_95d88_23 : decode cJ13_bitCount_95d88 23 = .ok (.lstore_n 0, 1) := by decide +kernel
theorem dJ13_bitCount_95d88_24 : decode cJ13_bitCount_95d88 24 = .ok (.lload_n 0, 1) := by decide +kernel
theorem dJ13_bitCount_95d88_25 : decode cJ13_bitCount_95d88 25 = .ok (.lload_n 0, 1) := by decide +kernel
theorem dJ13_bitCount_95d88_26 : decode cJ13_bitCount_95d88 26 = .ok (.iconst 4, 1) := by decide +kernel
theorem dJ13_bitCount_95d88_27 : decode cJ13_bitCount_95d88 27 = .ok (.lushr, 1) := by decide +kernel
theorem dJ13_bitCount_95d88_28 : decode cJ13_bitCount_95d88 28 = .ok (.ladd, 1) := by decide +kernel
theorem dJ13_bitCount_95d88_29 : decode cJ13_bitCount_95d88 29 = .ok (.ldc2_w 318, 3) := by decide +kernel
theorem dJ13_bitCount_95d88_32 : decode cJ13_bitCount_95d88 32 = .ok (.land, 1) := by decide +kernel
theorem dJ13_bitCount_95d88_33 : decode cJ13_bitCount_95d88 33 = .ok (.lstore_n 0, 1) := by decide +kernel
theorem dJ13_bitCount_95d88_34 : decode cJ13_bitCount_95d88 34 = .ok (.lload_n 0, 1) := by decide +kernel
theorem dJ13_bitCount_95d88_35 : decode cJ13_bitCount_95d88 35 = .ok (.lload_n 0, 1) := by decide +kernel
theorem dJ13_bitCount_95d88_36 : decode cJ13_bitCount_95d88 36 = .ok (.bipush 8, 2) := by decide +kernel
theorem dJ13_bitCount_95d88_38 : decode cJ13_bitCount_95d88 38 = .ok (.lushr, 1) := by decide +kernel
theorem dJ13_bitCount_95d88_39 : decode cJ13_bitCount_95d88 39 = .ok (.ladd, 1) := by decide +kernel
theorem dJ13_bitCount_95d88_40 : decode cJ13_bitCount_95d88 40 = .ok (.lstore_n 0, 1) := by decide +kernel
theorem dJ13_bitCount_95d88_41 : decode cJ13_bitCount_95d88 41 = .ok (.lload_n 0, 1) := by decide +kernel
theorem dJ13_bitCount_95d88_42 : decode cJ13_bitCount_95d88 42 = .ok (.lload_n 0, 1) := by decide +kernel
theorem dJ13_bitCount_95d88_43 : decode cJ13_bitCount_95d88 43 = .ok (.bipush 16, 2) := by decide +kernel
theorem dJ13_bitCount_95d88_45 : decode cJ13_bitCount_95d88 45 = .ok (.lushr, 1) := by decide +kernel
theorem dJ13_bitCount_95d88_46 : decode cJ13_bitCount_95d88 46 = .ok (.ladd, 1) := by decide +kernel
theorem dJ13_bitCount_95d88_47 : decode cJ13_bitCount_95d88 47 = .ok (.lstore_n 0, 1) := by decide +kernel
theorem dJ13_bitCount_95d88_48 : decode cJ13_bitCount_95d88 48 = .ok (.lload_n 0, 1) := by decide +kernel
theorem dJ13_bitCount_95d88_49 : decode cJ13_bitCount_95d88 49 = .ok (.lload_n 0, 1) := by decide +kernel
theorem dJ13_bitCount_95d88_50 : decode cJ13_bitCount_95d88 50 = .ok (.bipush 32, 2) := by decide +kernel
theorem dJ13_bitCount_95d88_52 : decode cJ13_bitCount_95d88 52 = .ok (.lushr, 1) := by decide +kernel
theorem dJ13_bitCount_95d88_53 : decode cJ13_bitCount_95d88 53 = .ok (.ladd, 1) := by decide +kernel
theorem dJ13_bitCount_95d88_54 : decode cJ13_bitCount_95d88 54 = .ok (.lstore_n 0, 1) := by decide +kernel
theorem dJ13_bitCount_95d88_55 : decode cJ13_bitCount_95d88 55 = .ok (.lload_n 0, 1) := by decide +kernel
theorem dJ13_bitCount_95d88_56 : decode cJ13_bitCount_95d88 56 = .ok (.l2i, 1) := by decide +kernel
theorem dJ13_bitCount_95d88_57 : decode cJ13_bitCount_95d88 57 = .ok (.bipush 127, 2) := by decide +kernel
theorem dJ13_bitCount_95d88_59 : decode cJ13_bitCount_95d88 59 = .ok (.iand, 1) := by decide +kernel
theorem dJ13_bitCount_95d88_60 : decode cJ13_bitCount_95d88 60 = .ok (.ireturn, 1) := by decide +kernel
def FJ13_bitCount_95d88 (p0 : Int64) : Option (Int32) := vl (p0 - (((p0).toUInt64 >>> (((1 : Int32)).toInt64.toUInt64 &&& Int64.toUInt64 63)).toInt64 &&& (6148914691236517205 : Int64))) (fun x1 => vl ((x1 &&& (3689348814741910323 : Int64)) + (((x1).toUInt64 >>> (((2 : Int32)).toInt64.toUInt64 &&& Int64.toUInt64 63)).toInt64 &&& (3689348814741910323 : Int64))) (fun x2 => vl ((x2 + ((x2).toUInt64 >>> (((4 : Int32)).toInt64.toUInt64 &&& Int64.toUInt64 63)).toInt64) &&& (1085102592571150095 : Int64)) (fun x3 => vl (x3 + ((x3).toUInt64 >>> (((8 : Int32)).toInt64.toUInt64 &&& Int64.toUInt64 63)).toInt64) (fun x4 => vl (x4 + ((x4).toUInt64 >>> (((16 : Int32)).toInt64.toUInt64 &&& Int64.toUInt64 63)).toInt64) (fun x5 => vl (x5 + ((x5).toUInt64 >>> (((32 : Int32)).toInt64.toUInt64 &&& Int64.toUInt64 63)).toInt64) (fun x6 => some ((x6).toInt32 &&& (127 : Int32))))))))
set_option maxHeartbeats 4000000 in
set_option maxRecDepth 100000 in
theorem ctJ13_bitCount_95d88 (l : Launch) (D : va_G) (tg : Nat → ClassId) (bs : Nat) (sa : Nat → Nat) (hp : HP) (p0 : Int64) : Ct l D tg bs sa yJ13_bitCount_95d88 cJ13_bitCount_95d88 2 (some .int) 0 [.long p0] hp (FJ13_bitCount_95d88 p0) (fun r => some (.int r)) (fun _ => hp) := by
  refine Ct.of (by decide) (Nat.le_of_ble_eq_true rfl) ?_
  intro V Q hVl hVd hVt hVb hVs hC
  subst hVl; subst hVd; subst hVt; subst hVb; subst hVs
  unfold FJ13_bitCount_95d88
  show Zs V Q (0, 0) 2 _ _ hp [(0, .long p0)] 0 []
  refine z_lload_n hC 0 dJ13_bitCount_95d88_0 rfl rfl ?_
  refine z_lload_n hC 0 dJ13_bitCount_95d88_1 rfl rfl ?_
  refine z_iconst hC (1 : Int32) dJ13_bitCount_95d88_2 (by decide) ?_
  refine z_lushr hC dJ13_bitCount_95d88_3 ?_
  refine z_ldc2 hC (6148914691236517205 : Int64) lcRJ13_314 dJ13_bitCount_95d88_4 ?_
  refine z_land hC dJ13_bitCount_95d88_7 ?_
  refine z_lsub hC dJ13_bitCount_95d88_8 ?_
  refine z_vll (fun x1 => ?_)
  refine z_lstore_n hC [(0, .long x1)] [0] dJ13_bitCount_95d88_9 rfl (by decide) rfl ?_
  refine z_lload_n hC 0 dJ13_bitCount_95d88_10 rfl rfl ?_
  refine z_ldc2 hC (3689348814741910323 : Int64) lcRJ13_316 dJ13_bitCount_95d88_11 ?_
  refine z_land hC dJ13_bitCount_95d88_14 ?_
  refine z_lload_n hC 0 dJ13_bitCount_95d88_15 rfl rfl ?_
  refine z_iconst hC (2 : Int32) dJ13_bitCount_95d88_16 (by decide) ?_
  refine z_lushr hC dJ13_bitCount_95d88_17 ?_
  refine z_ldc2 hC (3689348814741910323 : Int64) lcRJ13_316 dJ13_bitCount_95d88_18 ?_
  refine z_land hC dJ13_bitCount_95d88_21 ?_
  refine z_ladd hC dJ13_bitCount_95d88_22 ?_
  refine z_vll (fun x2 => ?_)
  refine z_lstore_n hC [(0, .long x2)] [0] dJ13_bitCount_95d88_23 rfl (by decide) rfl ?_
  refine z_lload_n hC 0 dJ13_bitCount_95d88_24 rfl rfl ?_
  refine z_lload_n hC 0 dJ13_bitCount_95d88_25 rfl rfl ?_
  refine z_iconst hC (4 : Int32) dJ13_bitCount_95d88_26 (by decide) ?_
  refine z_lushr hC dJ13_bitCount_95d88_27 ?_
  refine z_ladd hC dJ13_bitCount_95d88_28 ?_
  refine z_ldc2 hC (1085102592571150095 : Int64) lcRJ13_318 dJ13_bitCount_95d88_29 ?_
  refine z_land hC dJ13_bitCount_95d88_32 ?_
  refine z_vll (fun x3 => ?_)
  refine z_lstore_n hC [(0, .long x3)] [0] dJ13_bitCount_95d88_33 rfl (by decide) rfl ?_
  refine z_lload_n hC 0 dJ13_bitCount_95d88_34 rfl rfl ?_
  refine z_lload_n hC 0 dJ13_bitCount_95d88_35 rfl rfl ?_
  refine z_bipush hC (8 : Int32) dJ13_bitCount_95d88_36 (by decide) ?_
  refine z_lushr hC dJ13_bitCount_95d88_38 ?_
  refine z_ladd hC dJ13_bitCount_95d88_39 ?_
  refine z_vll (fun x4 => ?_)
  refine z_lstore_n hC [(0, .long x4)] [0] dJ13_bitCount_95d88_40 rfl (by decide) rfl ?_
  refine z_lload_n hC 0 dJ13_bitCount_95d88_41 rfl rfl ?_
  refine z_lload_n hC 0 dJ13_bitCount_95d88_42 rfl rfl ?_
  refine z_bipush hC (16 : Int32) dJ13_bitCount_95d88_43 (by decide) ?_
  refine z_lushr hC dJ13_bitCount_95d88_45 ?_
  refine z_ladd hC dJ13_bitCount_95d88_46 ?_
  refine z_vll (fun x5 => ?_)
  refine z_lstore_n hC [(0, .long x5)] [0] dJ13_bitCount_95d88_47 rfl (by decide) rfl ?_
  refine z_lload_n hC 0 dJ13_bitCount_95d88_48 rfl rfl ?_
  refine z_lload_n hC 0 dJ13_bitCount_95d88_49 rfl rfl ?_
  refine z_bipush hC (32 : Int32) dJ13_bitCount_95d88_50 (by decide) ?_
  refine z_lushr hC dJ13_bitCount_95d88_52 ?_
  refine z_ladd hC dJ13_bitCount_95d88_53 ?_
  refine z_vll (fun x6 => ?_)
  refine z_lstore_n hC [(0, .long x6)] [0] dJ13_bitCount_95d88_54 rfl (by decide) rfl ?_
  refine z_lload_n hC 0 dJ13_bitCount_95d88_55 rfl rfl ?_
  refine z_l2i hC dJ13_bitCount_95d88_56 ?_
  refine z_bipush hC (127 : Int32) dJ13_bitCount_95d88_57 (by decide) ?_
  refine z_iand hC dJ13_bitCount_95d88_59 ?_
  exact z_iret hC (fun h => h) dJ13_bitCount_95d88_60

theorem dJ0_isLatin1_aae02_0 : decode cJ0_isLatin1_aae02 0 = .ok (.getstatic 38, 3) := by decide +kernel
theorem dJ0_isLatin1_aae02_3 : decode cJ0_isLatin1_aae02 3 = .ok (.ifCond .eq 14, 3) := by decide +kernel
theorem dJ0_isLatin1_aae02_6 : decode cJ0_isLatin1_aae02 6 = .ok (.aload_n 0, 1) := by decide +kernel
theorem dJ0_isLatin1_aae02_7 : decode cJ0_isLatin1_aae02 7 = .ok (.getfield 15, 3) := by decide +kernel
theorem dJ0_isLatin1_aae02_10 : decode cJ0_isLatin1_aae02 10 = .ok (.ifCond .ne 7, 3) := by decide +kernel
theorem dJ0_isLatin1_aae02_13 : decode cJ0_isLatin1_aae02 13 = .ok (.iconst 1, 1) := by decide +kernel
theorem dJ0_isLatin1_aae02_14 : decode cJ0_isLatin1_aae02 14 = .ok (.goto 4, 3) := by decide +kernel
theorem dJ0_isLatin1_aae02_17 : decode cJ0_isLatin1_aae02 17 = .ok (.iconst 0, 1) := by decide +kernel
theorem dJ0_isLatin1_aae02_18 : decode cJ0_isLatin1_aae02 18 = .ok (.ireturn, 1) := by decide +kernel
def FJ0_isLatin1_aae02 (hp : HP) : Option (Int32) := if (1 : Int32) = 0 then some (0 : Int32) else if (0 : Int32) = 0 then some (1 : Int32) else some (0 : Int32)
set_option maxHeartbeats 4000000 in
set_option maxRecDepth 100000 in
theorem ctJ0_isLatin1_aae02 (l : Launch) (D : va_G) (tg : Nat → ClassId) (bs : Nat) (sa : Nat → Nat) (hp : HP) : Ct l D tg bs sa yJ0_isLatin1_aae02 cJ0_isLatin1_aae02 1 (some .boolean) 0 [.ref (sa 1)] hp (FJ0_isLatin1_aae02 hp) (fun r => some (.int r)) (fun _ => hp) := by
  refine Ct.of (by decide) (Nat.le_of_ble_eq_true rfl) ?_
  intro V Q hVl hVd hVt hVb hVs hC
  subst hVl; subst hVd; subst hVt; subst hVb; subst hVs
  unfold FJ0_isLatin1_aae02
  show Zs V Q (0, 0) 1 _ _ hp [(0, .ref (vSa V 1))] 0 []
  refine z_getCS hC lqRJ0_38 dJ0_isLatin1_aae02_0 ?_
  refine z_if_eq hC 17 dJ0_isLatin1_aae02_3 (by decide) (fun _ => ?_) (fun _ => ?_)
  · refine z_iconst hC (0 : Int32) dJ0_isLatin1_aae02_17 (by decide) ?_
    exact z_zret hC (by decide) (fun h => h) dJ0_isLatin1_aae02_18
  · refine z_aload_n hC 0 dJ0_isLatin1_aae02_6 rfl rfl ?_
    refine z_strC hC lqRJ0_15 dJ0_isLatin1_aae02_7 ?_
    refine z_if_ne hC 17 dJ0_isLatin1_aae02_10 (by decide) (fun _ => ?_) (fun _ => ?_)
    · refine z_iconst hC (1 : Int32) dJ0_isLatin1_aae02_13 (by decide) ?_
      refine z_goto hC 18 dJ0_isLatin1_aae02_14 (by decide) ?_
      exact z_zret hC (by decide) (fun h => h) dJ0_isLatin1_aae02_18
    · refine z_iconst hC (0 : Int32) dJ0_isLatin1_aae02_17 (by decide) ?_
      exact z_zret hC (by decide) (fun h => h) dJ0_isLatin1_aae02_18

theorem dJ0_coder_7d493_0 : decode cJ0_coder_7d493 0 = .ok (.getstatic 38, 3) := by decide +kernel
theorem dJ0_coder_7d493_3 : decode cJ0_coder_7d493 3 = .ok (.ifCond .eq 10, 3) := by decide +kernel
theorem dJ0_coder_7d493_6 : decode cJ0_coder_7d493 6 = .ok (.aload_n 0, 1) := by decide +kernel
theorem dJ0_coder_7d493_7 : decode cJ0_coder_7d493 7 = .ok (.getfield 15, 3) := by decide +kernel
theorem dJ0_coder_7d493_10 : decode cJ0_coder_7d493 10 = .ok (.goto 4, 3) := by decide +kernel
theorem dJ0_coder_7d493_13 : decode cJ0_coder_7d493 13 = .ok (.iconst 1, 1) := by decide +kernel
theorem dJ0_coder_7d493_14 : decode cJ0_coder_7d493 14 = .ok (.ireturn, 1) := by decide +kernel
def FJ0_coder_7d493 (hp : HP) : Option (Int32) := if (1 : Int32) = 0 then some (1 : Int32) else some (0 : Int32)
set_option maxHeartbeats 4000000 in
set_option maxRecDepth 100000 in
theorem ctJ0_coder_7d493 (l : Launch) (D : va_G) (tg : Nat → ClassId) (bs : Nat) (sa : Nat → Nat) (hp : HP) : Ct l D tg bs sa yJ0_coder_7d493 cJ0_coder_7d493 1 (some .byte) 0 [.ref (sa 1)] hp (FJ0_coder_7d493 hp) (fun r => some (.int r)) (fun _ => hp) := by
  refine Ct.of (by decide) (Nat.le_of_ble_eq_true rfl) ?_
  intro V Q hVl hVd hVt hVb hVs hC
  subst hVl; subst hVd; subst hVt; subst hVb; subst hVs
  unfold FJ0_coder_7d493
  show Zs V Q (0, 0) 1 _ _ hp [(0, .ref (vSa V 1))] 0 []
  refine z_getCS hC lqRJ0_38 dJ0_coder_7d493_0 ?_
  refine z_if_eq hC 13 dJ0_coder_7d493_3 (by decide) (fun _ => ?_) (fun _ => ?_)
  · refine z_iconst hC (1 : Int32) dJ0_coder_7d493_13 (by decide) ?_
    exact z_bret hC rfl (fun h => h) dJ0_coder_7d493_14
  · refine z_aload_n hC 0 dJ0_coder_7d493_6 rfl rfl ?_
    refine z_strC hC lqRJ0_15 dJ0_coder_7d493_7 ?_
    refine z_goto hC 14 dJ0_coder_7d493_10 (by decide) ?_
    exact z_bret hC rfl (fun h => h) dJ0_coder_7d493_14

theorem dJ0_length_8abf5_0 : decode cJ0_length_8abf5 0 = .ok (.aload_n 0, 1) := by decide +kernel
theorem dJ0_length_8abf5_1 : decode cJ0_length_8abf5 1 = .ok (.getfield 9, 3) := by decide +kernel
theorem dJ0_length_8abf5_4 : decode cJ0_length_8abf5 4 = .ok (.arraylength, 1) := by decide +kernel
theorem dJ0_length_8abf5_5 : decode cJ0_length_8abf5 5 = .ok (.aload_n 0, 1) := by decide +kernel
theorem dJ0_length_8abf5_6 : decode cJ0_length_8abf5 6 = .ok (.invokevirtual 335, 3) := by decide +kernel
theorem dJ0_length_8abf5_9 : decode cJ0_length_8abf5 9 = .ok (.ishr, 1) := by decide +kernel
theorem dJ0_length_8abf5_10 : decode cJ0_length_8abf5 10 = .ok (.ireturn, 1) := by decide +kernel
def FJ0_length_8abf5 (hp : HP) : Option (Int32) := (FJ0_coder_7d493 hp).bind (fun v1 => some ((8 : Int32) >>> (v1 &&& 31)))
set_option maxHeartbeats 4000000 in
set_option maxRecDepth 100000 in
theorem ctJ0_length_8abf5 (l : Launch) (D : va_G) (tg : Nat → ClassId) (bs : Nat) (sa : Nat → Nat) (hp : HP) : Ct l D tg bs sa yJ0_length_8abf5 cJ0_length_8abf5 1 (some .int) 1 [.ref (sa 1)] hp (FJ0_length_8abf5 hp) (fun r => some (.int r)) (fun _ => hp) := by
  refine Ct.of (by decide) (Nat.le_of_ble_eq_true rfl) ?_
  intro V Q hVl hVd hVt hVb hVs hC
  subst hVl; subst hVd; subst hVt; subst hVb; subst hVs
  unfold FJ0_length_8abf5
  show Zs V Q (0, 0) 1 _ _ hp [(0, .ref (vSa V 1))] 0 []
  refine z_aload_n hC 0 dJ0_length_8abf5_0 rfl rfl ?_
  refine z_strV hC lqRJ0_9 dJ0_length_8abf5_1 ?_
  refine z_strL hC dJ0_length_8abf5_4 ?_
  refine z_aload_n hC 0 dJ0_length_8abf5_5 rfl rfl ?_
  refine z_callTi hC lmRJ0_335 (ctJ0_coder_7d493 (vLa V) (vDa V) (vTg V) (vBs V) (vSa V) hp) (by decide) hn0 dJ0_length_8abf5_6 rfl rfl (Nat.le_of_ble_eq_true rfl) (fun v1 => ?_)
  refine z_ishr hC dJ0_length_8abf5_9 ?_
  exact z_iret hC (fun h => h) dJ0_length_8abf5_10

theorem dJ1_canEncode_9a6ad_0 : decode cJ1_canEncode_9a6ad 0 = .ok (.iload_n 0, 1) := by decide +kernel
theorem dJ1_canEncode_9a6ad_1 : decode cJ1_canEncode_9a6ad 1 = .ok (.ifCond .lt 14, 3) := by decide +kernel
theorem dJ1_canEncode_9a6ad_4 : decode cJ1_canEncode_9a6ad 4 = .ok (.iload_n 0, 1) := by decide +kernel
theorem dJ1_canEncode_9a6ad_5 : decode cJ1_canEncode_9a6ad 5 = .ok (.sipush 255, 3) := by decide +kernel
theorem dJ1_canEncode_9a6ad_8 : decode cJ1_canEncode_9a6ad 8 = .ok (.if_icmp .gt 7, 3) := by decide +kernel
theorem dJ1_canEncode_9a6ad_11 : decode cJ1_canEncode_9a6ad 11 = .ok (.iconst 1, 1) := by decide +kernel
theorem dJ1_canEncode_9a6ad_12 : decode cJ1_canEncode_9a6ad 12 = .ok (.goto 4, 3) := by decide +kernel
theorem dJ1_canEncode_9a6ad_15 : decode cJ1_canEncode_9a6ad 15 = .ok (.iconst 0, 1) := by decide +kernel
theorem dJ1_canEncode_9a6ad_16 : decode cJ1_canEncode_9a6ad 16 = .ok (.ireturn, 1) := by decide +kernel
def FJ1_canEncode_9a6ad (p0 : Int32) : Option (Int32) := if p0 < 0 then some (0 : Int32) else if (255 : Int32) < p0 then some (0 : Int32) else some (1 : Int32)
set_option maxHeartbeats 4000000 in
set_option maxRecDepth 100000 in
theorem ctJ1_canEncode_9a6ad (l : Launch) (D : va_G) (tg : Nat → ClassId) (bs : Nat) (sa : Nat → Nat) (hp : HP) (p0 : Int32) : Ct l D tg bs sa yJ1_canEncode_9a6ad cJ1_canEncode_9a6ad 1 (some .boolean) 0 [.int p0] hp (FJ1_canEncode_9a6ad p0) (fun r => some (.int r)) (fun _ => hp) := by
  refine Ct.of (by decide) (Nat.le_of_ble_eq_true rfl) ?_
  intro V Q hVl hVd hVt hVb hVs hC
  subst hVl; subst hVd; subst hVt; subst hVb; subst hVs
  unfold FJ1_canEncode_9a6ad
  show Zs V Q (0, 0) 1 _ _ hp [(0, .int p0)] 0 []
  refine z_iload_n hC 0 dJ1_canEncode_9a6ad_0 rfl rfl ?_
  refine z_if_lt hC 15 dJ1_canEncode_9a6ad_1 (by decide) (fun _ => ?_) (fun _ => ?_)
  · refine z_iconst hC (0 : Int32) dJ1_canEncode_9a6ad_15 (by decide) ?_
    exact z_zret hC (by decide) (fun h => h) dJ1_canEncode_9a6ad_16
  · refine z_iload_n hC 0 dJ1_canEncode_9a6ad_4 rfl rfl ?_
    refine z_sipush hC (255 : Int32) dJ1_canEncode_9a6ad_5 (by decide) ?_
    refine z_icmp_gt hC 15 dJ1_canEncode_9a6ad_8 (by decide) (fun _ => ?_) (fun _ => ?_)
    · refine z_iconst hC (0 : Int32) dJ1_canEncode_9a6ad_15 (by decide) ?_
      exact z_zret hC (by decide) (fun h => h) dJ1_canEncode_9a6ad_16
    · refine z_iconst hC (1 : Int32) dJ1_canEncode_9a6ad_11 (by decide) ?_
      refine z_goto hC 16 dJ1_canEncode_9a6ad_12 (by decide) ?_
      exact z_zret hC (by decide) (fun h => h) dJ1_canEncode_9a6ad_16

theorem dJ1_indexOfChar_4cfef_0 : decode cJ1_indexOfChar_4cfef 0 = .ok (.iload_n 1, 1) := by decide +kernel
theorem dJ1_indexOfChar_4cfef_1 : decode cJ1_indexOfChar_4cfef 1 = .ok (.i2b, 1) := by decide +kernel
theorem dJ1_indexOfChar_4cfef_2 : decode cJ1_indexOfChar_4cfef 2 = .ok (.istore 4, 2) := by decide +kernel
theorem dJ1_indexOfChar_4cfef_4 : decode cJ1_indexOfChar_4cfef 4 = .ok (.iload_n 2, 1) := by decide +kernel
theorem dJ1_indexOfChar_4cfef_5 : decode cJ1_indexOfChar_4cfef 5 = .ok (.istore 5, 2) := by decide +kernel
theorem dJ1_indexOfChar_4cfef_7 : decode cJ1_indexOfChar_4cfef 7 = .ok (.iload 5, 2) := by decide +kernel
theorem dJ1_indexOfChar_4cfef_9 : decode cJ1_indexOfChar_4cfef 9 = .ok (.iload_n 3, 1) := by decide +kernel
theorem dJ1_indexOfChar_4cfef_10 : decode cJ1_indexOfChar_4cfef 10 = .ok (.if_icmp .ge 21, 3) := by decide +kernel
theorem dJ1_indexOfChar_4cfef_13 : decode cJ1_indexOfChar_4cfef 13 = .ok (.aload_n 0, 1) := by decide +kernel
theorem dJ1_indexOfChar_4cfef_14 : decode cJ1_indexOfChar_4cfef 14 = .ok (.iload 5, 2) := by decide +kernel
theorem dJ1_indexOfChar_4cfef_16 : decode cJ1_indexOfChar_4cfef 16 = .ok (.baload, 1) := by decide +kernel
theorem dJ1_indexOfChar_4cfef_17 : decode cJ1_indexOfChar_4cfef 17 = .ok (.iload 4, 2) := by decide +kernel
theorem dJ1_indexOfChar_4cfef_19 : decode cJ1_indexOfChar_4cfef 19 = .ok (.if_icmp .ne 6, 3) := by decide +kernel
theorem dJ1_indexOfChar_4cfef_22 : decode cJ1_indexOfChar_4cfef 22 = .ok (.iload 5, 2) := by decide +kernel
theorem dJ1_indexOfChar_4cfef_24 : decode cJ1_indexOfChar_4cfef 24 = .ok (.ireturn, 1) := by decide +kernel
theorem dJ1_indexOfChar_4cfef_25 : decode cJ1_indexOfChar_4cfef 25 = .ok (.iinc 5 1, 3) := by decide +kernel
theorem dJ1_indexOfChar_4cfef_28 : decode cJ1_indexOfChar_4cfef 28 = .ok (.goto (-21), 3) := by decide +kernel
theorem dJ1_indexOfChar_4cfef_31 : decode cJ1_indexOfChar_4cfef 31 = .ok (.iconst (-1), 1) := by decide +kernel
theorem dJ1_indexOfChar_4cfef_32 : decode cJ1_indexOfChar_4cfef 32 = .ok (.ireturn, 1) := by decide +kernel
def FJ1_indexOfChar_4cfef (hp : HP) (p1 : Int32) (p2 : Int32) (p3 : Int32) : Option (Int32) := vl ((p1).toInt8.toInt32) (fun x1 => (lp (fun (s2 : Int32) => if p3 ≤ s2 then some (Sum.inl (Sum.inr ())) else (rdS s2).bind (fun v4 => if v4 = x1 then some (Sum.inl (Sum.inl s2)) else vl (s2 + (1 : Int32)) (fun x5 => some (Sum.inr x5)))) FU p2).bind (lk (P := Int32) (fun r => r) (fun (y3 : Unit) => some (-1 : Int32))))
set_option maxHeartbeats 4000000 in
set_option maxRecDepth 100000 in
theorem ctJ1_indexOfChar_4cfef (l : Launch) (D : va_G) (tg : Nat → ClassId) (bs : Nat) (sa : Nat → Nat) (hp : HP) (p1 : Int32) (p2 : Int32) (p3 : Int32) : Ct l D tg bs sa yJ1_indexOfChar_4cfef cJ1_indexOfChar_4cfef 6 (some .int) 0 [.ref (sa 2), .int p1, .int p2, .int p3] hp (FJ1_indexOfChar_4cfef hp p1 p2 p3) (fun r => some (.int r)) (fun _ => hp) := by
  refine Ct.of (by decide) (Nat.le_of_ble_eq_true rfl) ?_
  intro V Q hVl hVd hVt hVb hVs hC
  subst hVl; subst hVd; subst hVt; subst hVb; subst hVs
  unfold FJ1_indexOfChar_4cfef
  show Zs V Q (0, 0) 6 _ _ hp [(0, .ref (vSa V 2)), (1, .int p1), (2, .int p2), (3, .int p3)] 0 []
  refine z_iload_n hC 1 dJ1_indexOfChar_4cfef_0 rfl rfl ?_
  refine z_i2b hC dJ1_indexOfChar_4cfef_1 ?_
  refine z_vli (fun x1 => ?_)
  refine z_istore hC [(0, .ref (vSa V 2)), (1, .int p1), (2, .int p2), (3, .int p3), (4, .int x1)] [1, 2, 3, 4, 0] dJ1_indexOfChar_4cfef_2 (by decide) rfl ?_
  refine z_iload_n hC 2 dJ1_indexOfChar_4cfef_4 rfl rfl ?_
  refine z_istore hC [(0, .ref (vSa V 2)), (1, .int p1), (2, .int p2), (3, .int p3), (4, .int x1), (5, .int p2)] [1, 2, 3, 4, 5, 0] dJ1_indexOfChar_4cfef_5 (by decide) rfl ?_
  refine z_weak [(0, .ref (vSa V 2)), (3, .int p3), (4, .int x1), (5, .int p2)] [0, 3, 4, 5] rfl ?_
  refine z_lpR (S := Int32) (Y := Unit) (fun s2 => hp) (fun s2 => [(0, .ref (vSa V 2)), (3, .int p3), (4, .int x1), (5, .int s2)]) (fun y3 => hp) (fun y3 => []) 31 [] (fun y3 => ?_) (fun s2 => ?_) rfl rfl
  · refine z_iconst hC (-1 : Int32) dJ1_indexOfChar_4cfef_31 (by decide) ?_
    exact z_iret hC (fun h => h) dJ1_indexOfChar_4cfef_32
  · refine z_iload hC 3 dJ1_indexOfChar_4cfef_7 rfl ?_
    refine z_iload_n hC 1 dJ1_indexOfChar_4cfef_9 rfl rfl ?_
    refine z_icmp_ge hC 31 dJ1_indexOfChar_4cfef_10 (by decide) (fun _ => ?_) (fun _ => ?_)
    · refine z_weak [] [] rfl ?_
      exact z_leaf (fun h => h)
    · refine z_aload_n hC 0 dJ1_indexOfChar_4cfef_13 rfl rfl ?_
      refine z_iload hC 3 dJ1_indexOfChar_4cfef_14 rfl ?_
      refine z_strB hC dJ1_indexOfChar_4cfef_16 (fun v4 => ?_)
      refine z_iload hC 2 dJ1_indexOfChar_4cfef_17 rfl ?_
      refine z_icmp_ne hC 25 dJ1_indexOfChar_4cfef_19 (by decide) (fun _ => ?_) (fun _ => ?_)
      · refine z_iload hC 3 dJ1_indexOfChar_4cfef_22 rfl ?_
        exact z_iret hC (fun h => h) dJ1_indexOfChar_4cfef_24
      · refine z_iincv hC (1 : Int32) 3 (fun x5 => [(0, .ref (vSa V 2)), (3, .int p3), (4, .int x1), (5, .int x5)]) [1, 2, 3, 0] dJ1_indexOfChar_4cfef_25 rfl (by decide) (by decide) (fun _ => rfl) (fun x5 => ?_)
        refine z_goto hC 7 dJ1_indexOfChar_4cfef_28 (by decide) ?_
        exact z_leaf (fun h => h)

theorem dJ1_indexOf_4cfef_0 : decode cJ1_indexOf_4cfef 0 = .ok (.iload_n 1, 1) := by decide +kernel
theorem dJ1_indexOf_4cfef_1 : decode cJ1_indexOf_4cfef 1 = .ok (.invokestatic 88, 3) := by decide +kernel
theorem dJ1_indexOf_4cfef_4 : decode cJ1_indexOf_4cfef 4 = .ok (.ifCond .ne 5, 3) := by decide +kernel
theorem dJ1_indexOf_4cfef_7 : decode cJ1_indexOf_4cfef 7 = .ok (.iconst (-1), 1) := by decide +kernel
theorem dJ1_indexOf_4cfef_8 : decode cJ1_indexOf_4cfef 8 = .ok (.ireturn, 1) := by decide +kernel
theorem dJ1_indexOf_4cfef_9 : decode cJ1_indexOf_4cfef 9 = .ok (.iload_n 2, 1) := by decide +kernel
theorem dJ1_indexOf_4cfef_10 : decode cJ1_indexOf_4cfef 10 = .ok (.iconst 0, 1) := by decide +kernel
theorem dJ1_indexOf_4cfef_11 : decode cJ1_indexOf_4cfef 11 = .ok (.invokestatic 92, 3) := by decide +kernel
theorem dJ1_indexOf_4cfef_14 : decode cJ1_indexOf_4cfef 14 = .ok (.istore_n 2, 1) := by decide +kernel
theorem dJ1_indexOf_4cfef_15 : decode cJ1_indexOf_4cfef 15 = .ok (.iload_n 3, 1) := by decide +kernel
theorem dJ1_indexOf_4cfef_16 : decode cJ1_indexOf_4cfef 16 = .ok (.aload_n 0, 1) := by decide +kernel
theorem dJ1_indexOf_4cfef_17 : decode cJ1_indexOf_4cfef 17 = .ok (.arraylength, 1) := by decide +kernel
theorem dJ1_indexOf_4cfef_18 : decode cJ1_indexOf_4cfef 18 = .ok (.invokestatic 38, 3) := by decide +kernel
theorem dJ1_indexOf_4cfef_21 : decode cJ1_indexOf_4cfef 21 = .ok (.istore_n 3, 1) := by decide +kernel
theorem dJ1_indexOf_4cfef_22 : decode cJ1_indexOf_4cfef 22 = .ok (.iload_n 2, 1) := by decide +kernel
theorem dJ1_indexOf_4cfef_23 : decode cJ1_indexOf_4cfef 23 = .ok (.iload_n 3, 1) := by decide +kernel
theorem dJ1_indexOf_4cfef_24 : decode cJ1_indexOf_4cfef 24 = .ok (.if_icmp .lt 5, 3) := by decide +kernel
theorem dJ1_indexOf_4cfef_27 : decode cJ1_indexOf_4cfef 27 = .ok (.iconst (-1), 1) := by decide +kernel
theorem dJ1_indexOf_4cfef_28 : decode cJ1_indexOf_4cfef 28 = .ok (.ireturn, 1) := by decide +kernel
theorem dJ1_indexOf_4cfef_29 : decode cJ1_indexOf_4cfef 29 = .ok (.aload_n 0, 1) := by decide +kernel
theorem dJ1_indexOf_4cfef_30 : decode cJ1_indexOf_4cfef 30 = .ok (.iload_n 1, 1) := by decide +kernel
theorem dJ1_indexOf_4cfef_31 : decode cJ1_indexOf_4cfef 31 = .ok (.iload_n 2, 1) := by decide +kernel
theorem dJ1_indexOf_4cfef_32 : decode cJ1_indexOf_4cfef 32 = .ok (.iload_n 3, 1) := by decide +kernel
theorem dJ1_indexOf_4cfef_33 : decode cJ1_indexOf_4cfef 33 = .ok (.invokestatic 95, 3) := by decide +kernel
theorem dJ1_indexOf_4cfef_36 : decode cJ1_indexOf_4cfef 36 = .ok (.ireturn, 1) := by decide +kernel
def FJ1_indexOf_4cfef (hp : HP) (p1 : Int32) (p2 : Int32) (p3 : Int32) : Option (Int32) := (FJ1_canEncode_9a6ad p1).bind (fun v1 => if v1 = 0 then some (-1 : Int32) else vl (mxI p2 (0 : Int32)) (fun x2 => vl (mnI p3 (8 : Int32)) (fun x3 => if x2 < x3 then (FJ1_indexOfChar_4cfef hp p1 x2 x3).bind (fun v4 => some v4) else some (-1 : Int32))))
set_option maxHeartbeats 4000000 in
set_option maxRecDepth 100000 in
theorem ctJ1_indexOf_4cfef (l : Launch) (D : va_G) (tg : Nat → ClassId) (bs : Nat) (sa : Nat → Nat) (hp : HP) (p1 : Int32) (p2 : Int32) (p3 : Int32) : Ct l D tg bs sa yJ1_indexOf_4cfef cJ1_indexOf_4cfef 4 (some .int) 1 [.ref (sa 2), .int p1, .int p2, .int p3] hp (FJ1_indexOf_4cfef hp p1 p2 p3) (fun r => some (.int r)) (fun _ => hp) := by
  refine Ct.of (by decide) (Nat.le_of_ble_eq_true rfl) ?_
  intro V Q hVl hVd hVt hVb hVs hC
  subst hVl; subst hVd; subst hVt; subst hVb; subst hVs
  unfold FJ1_indexOf_4cfef
  show Zs V Q (0, 0) 4 _ _ hp [(0, .ref (vSa V 2)), (1, .int p1), (2, .int p2), (3, .int p3)] 0 []
  refine z_iload_n hC 1 dJ1_indexOf_4cfef_0 rfl rfl ?_
  refine z_callSi hC lmRJ1_88 (ctJ1_canEncode_9a6ad (vLa V) (vDa V) (vTg V) (vBs V) (vSa V) hp p1) (by decide) hn0 dJ1_indexOf_4cfef_1 rfl rfl (Nat.le_of_ble_eq_true rfl) (fun v1 => ?_)
  refine z_if_ne hC 9 dJ1_indexOf_4cfef_4 (by decide) (fun _ => ?_) (fun _ => ?_)
  · refine z_iconst hC (-1 : Int32) dJ1_indexOf_4cfef_7 (by decide) ?_
    exact z_iret hC (fun h => h) dJ1_indexOf_4cfef_8
  · refine z_iload_n hC 2 dJ1_indexOf_4cfef_9 rfl rfl ?_
    refine z_iconst hC (0 : Int32) dJ1_indexOf_4cfef_10 (by decide) ?_
    refine z_mmax hC laRJ1_92 hn0 (Nat.le_of_ble_eq_true rfl) dJ1_indexOf_4cfef_11 ?_
    refine z_vli (fun x2 => ?_)
    refine z_istore_n hC [(0, .ref (vSa V 2)), (1, .int p1), (2, .int x2), (3, .int p3)] [1, 2, 0, 3] dJ1_indexOf_4cfef_14 rfl (by decide) rfl ?_
    refine z_iload_n hC 3 dJ1_indexOf_4cfef_15 rfl rfl ?_
    refine z_aload_n hC 0 dJ1_indexOf_4cfef_16 rfl rfl ?_
    refine z_strL hC dJ1_indexOf_4cfef_17 ?_
    refine z_mmin hC laRJ1_38 hn0 (Nat.le_of_ble_eq_true rfl) dJ1_indexOf_4cfef_18 ?_
    refine z_vli (fun x3 => ?_)
    refine z_istore_n hC [(0, .ref (vSa V 2)), (1, .int p1), (2, .int x2), (3, .int x3)] [1, 2, 3, 0] dJ1_indexOf_4cfef_21 rfl (by decide) rfl ?_
    refine z_iload_n hC 2 dJ1_indexOf_4cfef_22 rfl rfl ?_
    refine z_iload_n hC 3 dJ1_indexOf_4cfef_23 rfl rfl ?_
    refine z_icmp_lt hC 29 dJ1_indexOf_4cfef_24 (by decide) (fun _ => ?_) (fun _ => ?_)
    · refine z_aload_n hC 0 dJ1_indexOf_4cfef_29 rfl rfl ?_
      refine z_iload_n hC 1 dJ1_indexOf_4cfef_30 rfl rfl ?_
      refine z_iload_n hC 2 dJ1_indexOf_4cfef_31 rfl rfl ?_
      refine z_iload_n hC 3 dJ1_indexOf_4cfef_32 rfl rfl ?_
      refine z_callSi hC lmRJ1_95 (ctJ1_indexOfChar_4cfef (vLa V) (vDa V) (vTg V) (vBs V) (vSa V) hp p1 x2 x3) (by decide) hn0 dJ1_indexOf_4cfef_33 rfl rfl (Nat.le_of_ble_eq_true rfl) (fun v4 => ?_)
      exact z_iret hC (fun h => h) dJ1_indexOf_4cfef_36
    · refine z_iconst hC (-1 : Int32) dJ1_indexOf_4cfef_27 (by decide) ?_
      exact z_iret hC (fun h => h) dJ1_indexOf_4cfef_28

theorem dJ0_indexOf_7cf53_0 : decode cJ0_indexOf_7cf53 0 = .ok (.aload_n 0, 1) := by decide +kernel
theorem dJ0_indexOf_7cf53_1 : decode cJ0_indexOf_7cf53 1 = .ok (.invokevirtual 492, 3) := by decide +kernel
theorem dJ0_indexOf_7cf53_4 : decode cJ0_indexOf_7cf53 4 = .ok (.ifCond .eq 19, 3) := by decide +kernel
theorem dJ0_indexOf_7cf53_7 : decode cJ0_indexOf_7cf53 7 = .ok (.aload_n 0, 1) := by decide +kernel
theorem dJ0_indexOf_7cf53_8 : decode cJ0_indexOf_7cf53 8 = .ok (.getfield 9, 3) := by decide +kernel
theorem dJ0_indexOf_7cf53_11 : decode cJ0_indexOf_7cf53 11 = .ok (.iload_n 1, 1) := by decide +kernel
theorem dJ0_indexOf_7cf53_12 : decode cJ0_indexOf_7cf53 12 = .ok (.iload_n 2, 1) := by decide +kernel
theorem dJ0_indexOf_7cf53_13 : decode cJ0_indexOf_7cf53 13 = .ok (.aload_n 0, 1) := by decide +kernel
theorem dJ0_indexOf_7cf53_14 : decode cJ0_indexOf_7cf53 14 = .ok (.invokevirtual 505, 3) := by decide +kernel
theorem dJ0_indexOf_7cf53_17 : decode cJ0_indexOf_7cf53 17 = .ok (.invokestatic 637, 3) := by decide +kernel
theorem dJ0_indexOf_7cf53_20 : decode cJ0_indexOf_7cf53 20 = .ok (.goto 16, 3) := by decide +kernel
theorem dJ0_indexOf_7cf53_36 : decode cJ0_indexOf_7cf53 36 = .ok (.ireturn, 1) := by decide +kernel
def FJ0_indexOf_7cf53 (hp : HP) (p1 : Int32) (p2 : Int32) : Option (Int32) := (FJ0_isLatin1_aae02 hp).bind (fun v1 => if v1 = 0 then none else (FJ0_length_8abf5 hp).bind (fun v2 => (FJ1_indexOf_4cfef hp p1 p2 v2).bind (fun v3 => some v3)))
set_option maxHeartbeats 4000000 in
set_option maxRecDepth 100000 in
theorem ctJ0_indexOf_7cf53 (l : Launch) (D : va_G) (tg : Nat → ClassId) (bs : Nat) (sa : Nat → Nat) (hp : HP) (p1 : Int32) (p2 : Int32) : Ct l D tg bs sa yJ0_indexOf_7cf53 cJ0_indexOf_7cf53 3 (some .int) 5 [.ref (sa 1), .int p1, .int p2] hp (FJ0_indexOf_7cf53 hp p1 p2) (fun r => some (.int r)) (fun _ => hp) := by
  refine Ct.of (by decide) (Nat.le_of_ble_eq_true rfl) ?_
  intro V Q hVl hVd hVt hVb hVs hC
  subst hVl; subst hVd; subst hVt; subst hVb; subst hVs
  unfold FJ0_indexOf_7cf53
  show Zs V Q (0, 0) 3 _ _ hp [(0, .ref (vSa V 1)), (1, .int p1), (2, .int p2)] 0 []
  refine z_aload_n hC 0 dJ0_indexOf_7cf53_0 rfl rfl ?_
  refine z_callTi hC lmRJ0_492 (ctJ0_isLatin1_aae02 (vLa V) (vDa V) (vTg V) (vBs V) (vSa V) hp) (by decide) hn0 dJ0_indexOf_7cf53_1 rfl rfl (Nat.le_of_ble_eq_true rfl) (fun v1 => ?_)
  refine z_if_eq hC 23 dJ0_indexOf_7cf53_4 (by decide) (fun _ => ?_) (fun _ => ?_)
  · exact z_none
  · refine z_aload_n hC 0 dJ0_indexOf_7cf53_7 rfl rfl ?_
    refine z_strV hC lqRJ0_9 dJ0_indexOf_7cf53_8 ?_
    refine z_iload_n hC 1 dJ0_indexOf_7cf53_11 rfl rfl ?_
    refine z_iload_n hC 2 dJ0_indexOf_7cf53_12 rfl rfl ?_
    refine z_aload_n hC 0 dJ0_indexOf_7cf53_13 rfl rfl ?_
    refine z_callTi hC lmRJ0_505 (ctJ0_length_8abf5 (vLa V) (vDa V) (vTg V) (vBs V) (vSa V) hp) (by decide) hn0 dJ0_indexOf_7cf53_14 rfl rfl (Nat.le_of_ble_eq_true rfl) (fun v2 => ?_)
    refine z_callSi hC lmRJ0_637 (ctJ1_indexOf_4cfef (vLa V) (vDa V) (vTg V) (vBs V) (vSa V) hp p1 p2 v2) (by decide) hn0 dJ0_indexOf_7cf53_17 rfl rfl (Nat.le_of_ble_eq_true rfl) (fun v3 => ?_)
    refine z_goto hC 36 dJ0_indexOf_7cf53_20 (by decide) ?_
    exact z_iret hC (fun h => h) dJ0_indexOf_7cf53_36

theorem dJ0_indexOf_0f7a4_0 : decode cJ0_indexOf_0f7a4 0 = .ok (.aload_n 0, 1) := by decide +kernel
theorem dJ0_indexOf_0f7a4_1 : decode cJ0_indexOf_0f7a4 1 = .ok (.iload_n 1, 1) := by decide +kernel
theorem dJ0_indexOf_0f7a4_2 : decode cJ0_indexOf_0f7a4 2 = .ok (.iconst 0, 1) := by decide +kernel
theorem dJ0_indexOf_0f7a4_3 : decode cJ0_indexOf_0f7a4 3 = .ok (.invokevirtual 633, 3) := by decide +kernel
theorem dJ0_indexOf_0f7a4_6 : decode cJ0_indexOf_0f7a4 6 = .ok (.ireturn, 1) := by decide +kernel
def FJ0_indexOf_0f7a4 (hp : HP) (p1 : Int32) : Option (Int32) := (FJ0_indexOf_7cf53 hp p1 (0 : Int32)).bind (fun v1 => some v1)
set_option maxHeartbeats 4000000 in
set_option maxRecDepth 100000 in
theorem ctJ0_indexOf_0f7a4 (l : Launch) (D : va_G) (tg : Nat → ClassId) (bs : Nat) (sa : Nat → Nat) (hp : HP) (p1 : Int32) : Ct l D tg bs sa yJ0_indexOf_0f7a4 cJ0_indexOf_0f7a4 2 (some .int) 6 [.ref (sa 1), .int p1] hp (FJ0_indexOf_0f7a4 hp p1) (fun r => some (.int r)) (fun _ => hp) := by
  refine Ct.of (by decide) (Nat.le_of_ble_eq_true rfl) ?_
  intro V Q hVl hVd hVt hVb hVs hC
  subst hVl; subst hVd; subst hVt; subst hVb; subst hVs
  unfold FJ0_indexOf_0f7a4
  show Zs V Q (0, 0) 2 _ _ hp [(0, .ref (vSa V 1)), (1, .int p1)] 0 []
  refine z_aload_n hC 0 dJ0_indexOf_0f7a4_0 rfl rfl ?_
  refine z_iload_n hC 1 dJ0_indexOf_0f7a4_1 rfl rfl ?_
  refine z_iconst hC (0 : Int32) dJ0_indexOf_0f7a4_2 (by decide) ?_
  refine z_callTi hC lmRJ0_633 (ctJ0_indexOf_7cf53 (vLa V) (vDa V) (vTg V) (vBs V) (vSa V) hp p1 (0 : Int32)) (by decide) hn0 dJ0_indexOf_0f7a4_3 rfl rfl (Nat.le_of_ble_eq_true rfl) (fun v1 => ?_)
  exact z_iret hC (fun h => h) dJ0_indexOf_0f7a4_6

theorem dX0_has_0 : decode cX0_has 0 = .ok (.iload_n 1, 1) := by decide +kernel
theorem dX0_has_1 : decode cX0_has 1 = .ok (.ifCond .lt 24, 3) := by decide +kernel
theorem dX0_has_4 : decode cX0_has 4 = .ok (.iload_n 1, 1) := by decide +kernel
theorem dX0_has_5 : decode cX0_has 5 = .ok (.bipush 8, 2) := by decide +kernel
theorem dX0_has_7 : decode cX0_has 7 = .ok (.if_icmp .ge 18, 3) := by decide +kernel
theorem dX0_has_10 : decode cX0_has 10 = .ok (.aload_n 0, 1) := by decide +kernel
theorem dX0_has_11 : decode cX0_has 11 = .ok (.getfield 16, 3) := by decide +kernel
theorem dX0_has_14 : decode cX0_has 14 = .ok (.iload_n 1, 1) := by decide +kernel
theorem dX0_has_15 : decode cX0_has 15 = .ok (.ishr, 1) := by decide +kernel
theorem dX0_has_16 : decode cX0_has 16 = .ok (.iconst 1, 1) := by decide +kernel
theorem dX0_has_17 : decode cX0_has 17 = .ok (.iand, 1) := by decide +kernel
theorem dX0_has_18 : decode cX0_has 18 = .ok (.ifCond .eq 7, 3) := by decide +kernel
theorem dX0_has_21 : decode cX0_has 21 = .ok (.iconst 1, 1) := by decide +kernel
theorem dX0_has_22 : decode cX0_has 22 = .ok (.goto 4, 3) := by decide +kernel
theorem dX0_has_25 : decode cX0_has 25 = .ok (.iconst 0, 1) := by decide +kernel
theorem dX0_has_26 : decode cX0_has 26 = .ok (.ireturn, 1) := by decide +kernel
def FX0_has (hp : HP) (p0 : Nat) (p1 : Int32) : Option (Int32) := if p1 < 0 then some (0 : Int32) else if (8 : Int32) ≤ p1 then some (0 : Int32) else (gI [0] 1 hp p0).bind (fun v1 => if ((v1 >>> (p1 &&& 31)) &&& (1 : Int32)) = 0 then some (0 : Int32) else some (1 : Int32))
set_option maxHeartbeats 4000000 in
set_option maxRecDepth 100000 in
theorem ctX0_has (l : Launch) (D : va_G) (tg : Nat → ClassId) (bs : Nat) (sa : Nat → Nat) (hp : HP) (p0 : Nat) (p1 : Int32) : Ct l D tg bs sa yX0_has cX0_has 2 (some .boolean) 0 [.ref p0, .int p1] hp (FX0_has hp p0 p1) (fun r => some (.int r)) (fun _ => hp) := by
  refine Ct.of (by decide) (Nat.le_of_ble_eq_true rfl) ?_
  intro V Q hVl hVd hVt hVb hVs hC
  subst hVl; subst hVd; subst hVt; subst hVb; subst hVs
  unfold FX0_has
  show Zs V Q (0, 0) 2 _ _ hp [(0, .ref p0), (1, .int p1)] 0 []
  refine z_iload_n hC 1 dX0_has_0 rfl rfl ?_
  refine z_if_lt hC 25 dX0_has_1 (by decide) (fun _ => ?_) (fun _ => ?_)
  · refine z_iconst hC (0 : Int32) dX0_has_25 (by decide) ?_
    exact z_zret hC (by decide) (fun h => h) dX0_has_26
  · refine z_iload_n hC 1 dX0_has_4 rfl rfl ?_
    refine z_bipush hC (8 : Int32) dX0_has_5 (by decide) ?_
    refine z_icmp_ge hC 25 dX0_has_7 (by decide) (fun _ => ?_) (fun _ => ?_)
    · refine z_iconst hC (0 : Int32) dX0_has_25 (by decide) ?_
      exact z_zret hC (by decide) (fun h => h) dX0_has_26
    · refine z_aload_n hC 0 dX0_has_10 rfl rfl ?_
      refine z_getI hC lgRX0_16 dX0_has_11 (fun v1 => ?_)
      refine z_iload_n hC 1 dX0_has_14 rfl rfl ?_
      refine z_ishr hC dX0_has_15 ?_
      refine z_iconst hC (1 : Int32) dX0_has_16 (by decide) ?_
      refine z_iand hC dX0_has_17 ?_
      refine z_if_eq hC 25 dX0_has_18 (by decide) (fun _ => ?_) (fun _ => ?_)
      · refine z_iconst hC (0 : Int32) dX0_has_25 (by decide) ?_
        exact z_zret hC (by decide) (fun h => h) dX0_has_26
      · refine z_iconst hC (1 : Int32) dX0_has_21 (by decide) ?_
        refine z_goto hC 26 dX0_has_22 (by decide) ?_
        exact z_zret hC (by decide) (fun h => h) dX0_has_26

theorem dX0_howMany_0 : decode cX0_howMany 0 = .ok (.iload_n 1, 1) := by decide +kernel
theorem dX0_howMany_1 : decode cX0_howMany 1 = .ok (.aload_n 0, 1) := by decide +kernel
theorem dX0_howMany_2 : decode cX0_howMany 2 = .ok (.getfield 16, 3) := by decide +kernel
theorem dX0_howMany_5 : decode cX0_howMany 5 = .ok (.iconst (-1), 1) := by decide +kernel
theorem dX0_howMany_6 : decode cX0_howMany 6 = .ok (.ixor, 1) := by decide +kernel
theorem dX0_howMany_7 : decode cX0_howMany 7 = .ok (.iand, 1) := by decide +kernel
theorem dX0_howMany_8 : decode cX0_howMany 8 = .ok (.ifCond .ne 10, 3) := by decide +kernel
theorem dX0_howMany_11 : decode cX0_howMany 11 = .ok (.iload_n 1, 1) := by decide +kernel
theorem dX0_howMany_12 : decode cX0_howMany 12 = .ok (.invokestatic 20, 3) := by decide +kernel
theorem dX0_howMany_15 : decode cX0_howMany 15 = .ok (.goto 4, 3) := by decide +kernel
theorem dX0_howMany_18 : decode cX0_howMany 18 = .ok (.iconst (-1), 1) := by decide +kernel
theorem dX0_howMany_19 : decode cX0_howMany 19 = .ok (.ireturn, 1) := by decide +kernel
def FX0_howMany (hp : HP) (p0 : Nat) (p1 : Int32) : Option (Int32) := (gI [0] 1 hp p0).bind (fun v1 => if (p1 &&& (v1 ^^^ (-1 : Int32))) = 0 then (FJ6_bitCount_0f7a4 p1).bind (fun v2 => some v2) else some (-1 : Int32))
set_option maxHeartbeats 4000000 in
set_option maxRecDepth 100000 in
theorem ctX0_howMany (l : Launch) (D : va_G) (tg : Nat → ClassId) (bs : Nat) (sa : Nat → Nat) (hp : HP) (p0 : Nat) (p1 : Int32) : Ct l D tg bs sa yX0_howMany cX0_howMany 2 (some .int) 1 [.ref p0, .int p1] hp (FX0_howMany hp p0 p1) (fun r => some (.int r)) (fun _ => hp) := by
  refine Ct.of (by decide) (Nat.le_of_ble_eq_true rfl) ?_
  intro V Q hVl hVd hVt hVb hVs hC
  subst hVl; subst hVd; subst hVt; subst hVb; subst hVs
  unfold FX0_howMany
  show Zs V Q (0, 0) 2 _ _ hp [(0, .ref p0), (1, .int p1)] 0 []
  refine z_iload_n hC 1 dX0_howMany_0 rfl rfl ?_
  refine z_aload_n hC 0 dX0_howMany_1 rfl rfl ?_
  refine z_getI hC lgRX0_16 dX0_howMany_2 (fun v1 => ?_)
  refine z_iconst hC (-1 : Int32) dX0_howMany_5 (by decide) ?_
  refine z_ixor hC dX0_howMany_6 ?_
  refine z_iand hC dX0_howMany_7 ?_
  refine z_if_ne hC 18 dX0_howMany_8 (by decide) (fun _ => ?_) (fun _ => ?_)
  · refine z_iload_n hC 1 dX0_howMany_11 rfl rfl ?_
    refine z_callSi hC lmRX0_20 (ctJ6_bitCount_0f7a4 (vLa V) (vDa V) (vTg V) (vBs V) (vSa V) hp p1) (by decide) hn0 dX0_howMany_12 rfl rfl (Nat.le_of_ble_eq_true rfl) (fun v2 => ?_)
    refine z_goto hC 19 dX0_howMany_15 (by decide) ?_
    exact z_iret hC (fun h => h) dX0_howMany_19
  · refine z_iconst hC (-1 : Int32) dX0_howMany_18 (by decide) ?_
    exact z_iret hC (fun h => h) dX0_howMany_19

theorem dX0_write_0 : decode cX0_write 0 = .ok (.aload_n 2, 1) := by decide +kernel
theorem dX0_write_1 : decode cX0_write 1 = .ok (.iconst 0, 1) := by decide +kernel
theorem dX0_write_2 : decode cX0_write 2 = .ok (.aload_n 0, 1) := by decide +kernel
theorem dX0_write_3 : decode cX0_write 3 = .ok (.getfield 11, 3) := by decide +kernel
theorem dX0_write_6 : decode cX0_write 6 = .ok (.iload_n 1, 1) := by decide +kernel
theorem dX0_write_7 : decode cX0_write 7 = .ok (.aaload, 1) := by decide +kernel
theorem dX0_write_8 : decode cX0_write 8 = .ok (.iconst 0, 1) := by decide +kernel
theorem dX0_write_9 : decode cX0_write 9 = .ok (.bipush 16, 2) := by decide +kernel
theorem dX0_write_11 : decode cX0_write 11 = .ok (.invokestatic 26, 3) := by decide +kernel
theorem dX0_write_14 : decode cX0_write 14 = .ok (.aload_n 0, 1) := by decide +kernel
theorem dX0_write_15 : decode cX0_write 15 = .ok (.dup, 1) := by decide +kernel
theorem dX0_write_16 : decode cX0_write 16 = .ok (.getfield 16, 3) := by decide +kernel
theorem dX0_write_19 : decode cX0_write 19 = .ok (.iconst 1, 1) := by decide +kernel
theorem dX0_write_20 : decode cX0_write 20 = .ok (.iload_n 1, 1) := by decide +kernel
theorem dX0_write_21 : decode cX0_write 21 = .ok (.ishl, 1) := by decide +kernel
theorem dX0_write_22 : decode cX0_write 22 = .ok (.ior, 1) := by decide +kernel
theorem dX0_write_23 : decode cX0_write 23 = .ok (.putfield 16, 3) := by decide +kernel
theorem dX0_write_26 : decode cX0_write 26 = .ok (.return_, 1) := by decide +kernel
def FX0_write (hp : HP) (p0 : Nat) (p1 : Int32) (p2 : Nat) : Option (HP) := (gR [0] 0 hp p0).bind (fun v1 => (rdA 4 hp v1 p1).bind (fun v2 => (cpL hp p2 (0 : Int32) v2 (0 : Int32) (16 : Int32)).bind (fun hp3 => (gI [0] 1 hp3 p0).bind (fun v4 => (sI [0] 1 hp3 p0 (v4 ||| ((1 : Int32) <<< (p1 &&& 31)))).bind (fun hp5 => some hp5)))))
set_option maxHeartbeats 4000000 in
set_option maxRecDepth 100000 in
theorem ctX0_write (l : Launch) (D : va_G) (tg : Nat → ClassId) (bs : Nat) (sa : Nat → Nat) (hp : HP) (p0 : Nat) (p1 : Int32) (p2 : Nat) : Ct l D tg bs sa yX0_write cX0_write 3 none 1 [.ref p0, .int p1, .ref p2] hp (FX0_write hp p0 p1 p2) (fun _ => none) (fun r => r) := by
  refine Ct.of (by decide) (Nat.le_of_ble_eq_true rfl) ?_
  intro V Q hVl hVd hVt hVb hVs hC
  subst hVl; subst hVd; subst hVt; subst hVb; subst hVs
  unfold FX0_write
  show Zs V Q (0, 0) 3 _ _ hp [(0, .ref p0), (1, .int p1), (2, .ref p2)] 0 []
  refine z_aload_n hC 2 dX0_write_0 rfl rfl ?_
  refine z_iconst hC (0 : Int32) dX0_write_1 (by decide) ?_
  refine z_aload_n hC 0 dX0_write_2 rfl rfl ?_
  refine z_getR hC lgRX0_11 dX0_write_3 (fun v1 => ?_)
  refine z_iload_n hC 1 dX0_write_6 rfl rfl ?_
  refine z_aald4 hC dX0_write_7 (fun v2 => ?_)
  refine z_iconst hC (0 : Int32) dX0_write_8 (by decide) ?_
  refine z_bipush hC (16 : Int32) dX0_write_9 (by decide) ?_
  refine z_cpL hC laRX0_26 dX0_write_11 (fun hp3 => ?_)
  refine z_aload_n hC 0 dX0_write_14 rfl rfl ?_
  refine z_dup hC dX0_write_15 rfl ?_
  refine z_getI hC lgRX0_16 dX0_write_16 (fun v4 => ?_)
  refine z_iconst hC (1 : Int32) dX0_write_19 (by decide) ?_
  refine z_iload_n hC 1 dX0_write_20 rfl rfl ?_
  refine z_ishl hC dX0_write_21 ?_
  refine z_ior hC dX0_write_22 ?_
  refine z_putI hC lpRX0_16 dX0_write_23 (fun hp5 => ?_)
  exact z_vret hC (fun h => h) dX0_write_26

theorem dX0_erase_0 : decode cX0_erase 0 = .ok (.aload_n 0, 1) := by decide +kernel
theorem dX0_erase_1 : decode cX0_erase 1 = .ok (.dup, 1) := by decide +kernel
theorem dX0_erase_2 : decode cX0_erase 2 = .ok (.getfield 16, 3) := by decide +kernel
theorem dX0_erase_5 : decode cX0_erase 5 = .ok (.iconst 1, 1) := by decide +kernel
theorem dX0_erase_6 : decode cX0_erase 6 = .ok (.iload_n 1, 1) := by decide +kernel
theorem dX0_erase_7 : decode cX0_erase 7 = .ok (.ishl, 1) := by decide +kernel
theorem dX0_erase_8 : decode cX0_erase 8 = .ok (.iconst (-1), 1) := by decide +kernel
theorem dX0_erase_9 : decode cX0_erase 9 = .ok (.ixor, 1) := by decide +kernel
theorem dX0_erase_10 : decode cX0_erase 10 = .ok (.iand, 1) := by decide +kernel
theorem dX0_erase_11 : decode cX0_erase 11 = .ok (.putfield 16, 3) := by decide +kernel
theorem dX0_erase_14 : decode cX0_erase 14 = .ok (.return_, 1) := by decide +kernel
def FX0_erase (hp : HP) (p0 : Nat) (p1 : Int32) : Option (HP) := (gI [0] 1 hp p0).bind (fun v1 => (sI [0] 1 hp p0 (v1 &&& (((1 : Int32) <<< (p1 &&& 31)) ^^^ (-1 : Int32)))).bind (fun hp2 => some hp2))
set_option maxHeartbeats 4000000 in
set_option maxRecDepth 100000 in
theorem ctX0_erase (l : Launch) (D : va_G) (tg : Nat → ClassId) (bs : Nat) (sa : Nat → Nat) (hp : HP) (p0 : Nat) (p1 : Int32) : Ct l D tg bs sa yX0_erase cX0_erase 2 none 0 [.ref p0, .int p1] hp (FX0_erase hp p0 p1) (fun _ => none) (fun r => r) := by
  refine Ct.of (by decide) (Nat.le_of_ble_eq_true rfl) ?_
  intro V Q hVl hVd hVt hVb hVs hC
  subst hVl; subst hVd; subst hVt; subst hVb; subst hVs
  unfold FX0_erase
  show Zs V Q (0, 0) 2 _ _ hp [(0, .ref p0), (1, .int p1)] 0 []
  refine z_aload_n hC 0 dX0_erase_0 rfl rfl ?_
  refine z_dup hC dX0_erase_1 rfl ?_
  refine z_getI hC lgRX0_16 dX0_erase_2 (fun v1 => ?_)
  refine z_iconst hC (1 : Int32) dX0_erase_5 (by decide) ?_
  refine z_iload_n hC 1 dX0_erase_6 rfl rfl ?_
  refine z_ishl hC dX0_erase_7 ?_
  refine z_iconst hC (-1 : Int32) dX0_erase_8 (by decide) ?_
  refine z_ixor hC dX0_erase_9 ?_
  refine z_iand hC dX0_erase_10 ?_
  refine z_putI hC lpRX0_16 dX0_erase_11 (fun hp2 => ?_)
  exact z_vret hC (fun h => h) dX0_erase_14

theorem dX0_sharedWord_0 : decode cX0_sharedWord 0 = .ok (.ldc2_w 32, 3) := by decide +kernel
theorem dX0_sharedWord_3 : decode cX0_sharedWord 3 = .ok (.lstore_n 3, 1) := by decide +kernel
theorem dX0_sharedWord_4 : decode cX0_sharedWord 4 = .ok (.iconst 0, 1) := by decide +kernel
theorem dX0_sharedWord_5 : decode cX0_sharedWord 5 = .ok (.istore 5, 2) := by decide +kernel
theorem dX0_sharedWord_7 : decode cX0_sharedWord 7 = .ok (.iload 5, 2) := by decide +kernel
theorem dX0_sharedWord_9 : decode cX0_sharedWord 9 = .ok (.bipush 8, 2) := by decide +kernel
theorem dX0_sharedWord_11 : decode cX0_sharedWord 11 = .ok (.if_icmp .ge 33, 3) := by decide +kernel
theorem dX0_sharedWord_14 : decode cX0_sharedWord 14 = .ok (.iload_n 1, 1) := by decide +kernel
theorem dX0_sharedWord_15 : decode cX0_sharedWord 15 = .ok (.iload 5, 2) := by decide +kernel
theorem dX0_sharedWord_17 : decode cX0_sharedWord 17 = .ok (.ishr, 1) := by decide +kernel
theorem dX0_sharedWord_18 : decode cX0_sharedWord 18 = .ok (.iconst 1, 1) := by decide +kernel
theorem dX0_sharedWord_19 : decode cX0_sharedWord 19 = .ok (.iand, 1) := by decide +kernel
theorem dX0_sharedWord_20 : decode cX0_sharedWord 20 = .ok (.ifCond .eq 18, 3) := by decide +kernel
theorem dX0_sharedWord_23 : decode cX0_sharedWord 23 = .ok (.lload_n 3, 1) := by decide +kernel
theorem dX0_sharedWord_24 : decode cX0_sharedWord 24 = .ok (.aload_n 0, 1) := by decide +kernel
theorem dX0_sharedWord_25 : decode cX0_sharedWord 25 = .ok (.getfield 11, 3) := by decide +kernel
theorem dX0_sharedWord_28 : decode cX0_sharedWord 28 = .ok (.iload 5, 2) := by decide +kernel
theorem dX0_sharedWord_30 : decode cX0_sharedWord 30 = .ok (.aaload, 1) := by decide +kernel
theorem dX0_sharedWord_31 : decode cX0_sharedWord 31 = .ok (.iload_n 2, 1) := by decide +kernel
theorem dX0_sharedWord_32 : decode cX0_sharedWord 32 = .ok (.bipush 15, 2) := by decide +kernel
theorem dX0_sharedWord_34 : decode cX0_sharedWord 34 = .ok (.iand, 1) := by decide +kernel
theorem dX0_sharedWord_35 : decode cX0_sharedWord 35 = .ok (.laload, 1) := by decide +kernel
theorem dX0_sharedWord_36 : decode cX0_sharedWord 36 = .ok (.land, 1) := by decide +kernel
theorem dX0_sharedWord_37 : decode cX0_sharedWord 37 = .ok (.lstore_n 3, 1) := by decide +kernel
theorem dX0_sharedWord_38 : decode cX0_sharedWord 38 = .ok (.iinc 5 1, 3) := by decide +kernel
theorem dX0_sharedWord_41 : decode cX0_sharedWord 41 = .ok (.goto (-34), 3) := by decide +kernel
theorem dX0_sharedWord_44 : decode cX0_sharedWord 44 = .ok (.lload_n 3, 1) := by decide +kernel
theorem dX0_sharedWord_45 : decode cX0_sharedWord 45 = .ok (.lreturn, 1) := by decide +kernel
def FX0_sharedWord (hp : HP) (p0 : Nat) (p1 : Int32) (p2 : Int32) : Option (Int64) := (lp (fun (s1 : Int64 × Int32) => if (8 : Int32) ≤ s1.2 then some (Sum.inl s1.1) else if ((p1 >>> (s1.2 &&& 31)) &&& (1 : Int32)) = 0 then vl (s1.2 + (1 : Int32)) (fun x3 => some (Sum.inr (s1.1, x3))) else (gR [0] 0 hp p0).bind (fun v4 => (rdA 4 hp v4 s1.2).bind (fun v5 => (rdL hp v5 (p2 &&& (15 : Int32))).bind (fun v6 => vl (s1.1 &&& v6) (fun x7 => vl (s1.2 + (1 : Int32)) (fun x8 => some (Sum.inr (x7, x8)))))))) FU ((-1 : Int64), (0 : Int32))).bind (fun (y2 : Int64) => some y2)
set_option maxHeartbeats 4000000 in
set_option maxRecDepth 100000 in
theorem ctX0_sharedWord (l : Launch) (D : va_G) (tg : Nat → ClassId) (bs : Nat) (sa : Nat → Nat) (hp : HP) (p0 : Nat) (p1 : Int32) (p2 : Int32) : Ct l D tg bs sa yX0_sharedWord cX0_sharedWord 6 (some .long) 0 [.ref p0, .int p1, .int p2] hp (FX0_sharedWord hp p0 p1 p2) (fun r => some (.long r)) (fun _ => hp) := by
  refine Ct.of (by decide) (Nat.le_of_ble_eq_true rfl) ?_
  intro V Q hVl hVd hVt hVb hVs hC
  subst hVl; subst hVd; subst hVt; subst hVb; subst hVs
  unfold FX0_sharedWord
  show Zs V Q (0, 0) 6 _ _ hp [(0, .ref p0), (1, .int p1), (2, .int p2)] 0 []
  refine z_ldc2 hC (-1 : Int64) lcRX0_32 dX0_sharedWord_0 ?_
  refine z_lstore_n hC [(0, .ref p0), (1, .int p1), (2, .int p2), (3, .long (-1 : Int64))] [1, 2, 3, 0] dX0_sharedWord_3 rfl (by decide) rfl ?_
  refine z_iconst hC (0 : Int32) dX0_sharedWord_4 (by decide) ?_
  refine z_istore hC [(0, .ref p0), (1, .int p1), (2, .int p2), (3, .long (-1 : Int64)), (5, .int (0 : Int32))] [1, 2, 3, 4, 0] dX0_sharedWord_5 (by decide) rfl ?_
  refine z_lp (S := Int64 × Int32) (Y := Int64) (fun s1 => hp) (fun s1 => [(0, .ref p0), (1, .int p1), (2, .int p2), (3, .long s1.1), (5, .int s1.2)]) (fun y2 => hp) (fun y2 => [(3, .long y2)]) 44 [] (fun y2 => ?_) (fun s1 => ?_) rfl rfl
  · refine z_lload_n hC 0 dX0_sharedWord_44 rfl rfl ?_
    exact z_lret hC (fun h => h) dX0_sharedWord_45
  · refine z_iload hC 4 dX0_sharedWord_7 rfl ?_
    refine z_bipush hC (8 : Int32) dX0_sharedWord_9 (by decide) ?_
    refine z_icmp_ge hC 44 dX0_sharedWord_11 (by decide) (fun _ => ?_) (fun _ => ?_)
    · refine z_weak [(3, .long s1.1)] [3] rfl ?_
      exact z_leaf (fun h => h)
    · refine z_iload_n hC 1 dX0_sharedWord_14 rfl rfl ?_
      refine z_iload hC 4 dX0_sharedWord_15 rfl ?_
      refine z_ishr hC dX0_sharedWord_17 ?_
      refine z_iconst hC (1 : Int32) dX0_sharedWord_18 (by decide) ?_
      refine z_iand hC dX0_sharedWord_19 ?_
      refine z_if_eq hC 38 dX0_sharedWord_20 (by decide) (fun _ => ?_) (fun _ => ?_)
      · refine z_iincv hC (1 : Int32) 4 (fun x3 => [(0, .ref p0), (1, .int p1), (2, .int p2), (3, .long s1.1), (5, .int x3)]) [1, 2, 3, 4, 0] dX0_sharedWord_38 rfl (by decide) (by decide) (fun _ => rfl) (fun x3 => ?_)
        refine z_goto hC 7 dX0_sharedWord_41 (by decide) ?_
        exact z_leaf (fun h => h)
      · refine z_lload_n hC 3 dX0_sharedWord_23 rfl rfl ?_
        refine z_aload_n hC 0 dX0_sharedWord_24 rfl rfl ?_
        refine z_getR hC lgRX0_11 dX0_sharedWord_25 (fun v4 => ?_)
        refine z_iload hC 4 dX0_sharedWord_28 rfl ?_
        refine z_aald4 hC dX0_sharedWord_30 (fun v5 => ?_)
        refine z_iload_n hC 2 dX0_sharedWord_31 rfl rfl ?_
        refine z_bipush hC (15 : Int32) dX0_sharedWord_32 (by decide) ?_
        refine z_iand hC dX0_sharedWord_34 ?_
        refine z_lald hC dX0_sharedWord_35 (fun v6 => ?_)
        refine z_land hC dX0_sharedWord_36 ?_
        refine z_vll (fun x7 => ?_)
        refine z_lstore_n hC [(0, .ref p0), (1, .int p1), (2, .int p2), (3, .long x7), (5, .int s1.2)] [1, 2, 3, 0, 4] dX0_sharedWord_37 rfl (by decide) rfl ?_
        refine z_iincv hC (1 : Int32) 4 (fun x8 => [(0, .ref p0), (1, .int p1), (2, .int p2), (3, .long x7), (5, .int x8)]) [1, 2, 3, 4, 0] dX0_sharedWord_38 rfl (by decide) (by decide) (fun _ => rfl) (fun x8 => ?_)
        refine z_goto hC 7 dX0_sharedWord_41 (by decide) ?_
        exact z_leaf (fun h => h)

theorem dX0_meet_0 : decode cX0_meet 0 = .ok (.iconst 0, 1) := by decide +kernel
theorem dX0_meet_1 : decode cX0_meet 1 = .ok (.istore_n 3, 1) := by decide +kernel
theorem dX0_meet_2 : decode cX0_meet 2 = .ok (.iload_n 3, 1) := by decide +kernel
theorem dX0_meet_3 : decode cX0_meet 3 = .ok (.bipush 16, 2) := by decide +kernel
theorem dX0_meet_5 : decode cX0_meet 5 = .ok (.if_icmp .ge 18, 3) := by decide +kernel
theorem dX0_meet_8 : decode cX0_meet 8 = .ok (.aload_n 2, 1) := by decide +kernel
theorem dX0_meet_9 : decode cX0_meet 9 = .ok (.iload_n 3, 1) := by decide +kernel
theorem dX0_meet_10 : decode cX0_meet 10 = .ok (.aload_n 0, 1) := by decide +kernel
theorem dX0_meet_11 : decode cX0_meet 11 = .ok (.iload_n 1, 1) := by decide +kernel
theorem dX0_meet_12 : decode cX0_meet 12 = .ok (.iload_n 3, 1) := by decide +kernel
theorem dX0_meet_13 : decode cX0_meet 13 = .ok (.invokevirtual 34, 3) := by decide +kernel
theorem dX0_meet_16 : decode cX0_meet 16 = .ok (.lastore, 1) := by decide +kernel
theorem dX0_meet_17 : decode cX0_meet 17 = .ok (.iinc 3 1, 3) := by decide +kernel
theorem dX0_meet_20 : decode cX0_meet 20 = .ok (.goto (-18), 3) := by decide +kernel
theorem dX0_meet_23 : decode cX0_meet 23 = .ok (.return_, 1) := by decide +kernel
def FX0_meet (hp : HP) (p0 : Nat) (p1 : Int32) (p2 : Nat) : Option (HP) := (lp (fun (s1 : Int32 × HP) => if (16 : Int32) ≤ s1.1 then some (Sum.inl s1.2) else (rc [0] s1.2 p0 (FX0_sharedWord s1.2 p0 p1 s1.1)).bind (fun v3 => (wrL s1.2 p2 s1.1 v3).bind (fun hp4 => vl (s1.1 + (1 : Int32)) (fun x5 => some (Sum.inr (x5, hp4)))))) FU ((0 : Int32), hp)).bind (fun (y2 : HP) => some y2)
set_option maxHeartbeats 4000000 in
set_option maxRecDepth 100000 in
theorem ctX0_meet (l : Launch) (D : va_G) (tg : Nat → ClassId) (bs : Nat) (sa : Nat → Nat) (hp : HP) (p0 : Nat) (p1 : Int32) (p2 : Nat) : Ct l D tg bs sa yX0_meet cX0_meet 4 none 1 [.ref p0, .int p1, .ref p2] hp (FX0_meet hp p0 p1 p2) (fun _ => none) (fun r => r) := by
  refine Ct.of (by decide) (Nat.le_of_ble_eq_true rfl) ?_
  intro V Q hVl hVd hVt hVb hVs hC
  subst hVl; subst hVd; subst hVt; subst hVb; subst hVs
  unfold FX0_meet
  show Zs V Q (0, 0) 4 _ _ hp [(0, .ref p0), (1, .int p1), (2, .ref p2)] 0 []
  refine z_iconst hC (0 : Int32) dX0_meet_0 (by decide) ?_
  refine z_istore_n hC [(0, .ref p0), (1, .int p1), (2, .ref p2), (3, .int (0 : Int32))] [1, 2, 3, 0] dX0_meet_1 rfl (by decide) rfl ?_
  refine z_lp (S := Int32 × HP) (Y := HP) (fun s1 => s1.2) (fun s1 => [(0, .ref p0), (1, .int p1), (2, .ref p2), (3, .int s1.1)]) (fun y2 => y2) (fun y2 => []) 23 [] (fun y2 => ?_) (fun s1 => ?_) rfl rfl
  · exact z_vret hC (fun h => h) dX0_meet_23
  · refine z_iload_n hC 3 dX0_meet_2 rfl rfl ?_
    refine z_bipush hC (16 : Int32) dX0_meet_3 (by decide) ?_
    refine z_icmp_ge hC 23 dX0_meet_5 (by decide) (fun _ => ?_) (fun _ => ?_)
    · refine z_weak [] [] rfl ?_
      exact z_leaf (fun h => h)
    · refine z_aload_n hC 2 dX0_meet_8 rfl rfl ?_
      refine z_iload_n hC 3 dX0_meet_9 rfl rfl ?_
      refine z_aload_n hC 0 dX0_meet_10 rfl rfl ?_
      refine z_iload_n hC 1 dX0_meet_11 rfl rfl ?_
      refine z_iload_n hC 3 dX0_meet_12 rfl rfl ?_
      refine z_callVl hC (ci := 0) rfl lmRX0_34 (ctX0_sharedWord (vLa V) (vDa V) (vTg V) (vBs V) (vSa V) s1.2 p0 p1 s1.1) (by decide) hn0 dX0_meet_13 rfl rfl (Nat.le_of_ble_eq_true rfl) (fun v3 => ?_)
      refine z_last hC dX0_meet_16 (fun hp4 => ?_)
      refine z_iincv hC (1 : Int32) 3 (fun x5 => [(0, .ref p0), (1, .int p1), (2, .ref p2), (3, .int x5)]) [1, 2, 3, 0] dX0_meet_17 rfl (by decide) (by decide) (fun _ => rfl) (fun x5 => ?_)
      refine z_goto hC 2 dX0_meet_20 (by decide) ?_
      exact z_leaf (fun h => h)

theorem dX0_leavesSome_0 : decode cX0_leavesSome 0 = .ok (.iconst 0, 1) := by decide +kernel
theorem dX0_leavesSome_1 : decode cX0_leavesSome 1 = .ok (.istore_n 3, 1) := by decide +kernel
theorem dX0_leavesSome_2 : decode cX0_leavesSome 2 = .ok (.iload_n 3, 1) := by decide +kernel
theorem dX0_leavesSome_3 : decode cX0_leavesSome 3 = .ok (.bipush 16, 2) := by decide +kernel
theorem dX0_leavesSome_5 : decode cX0_leavesSome 5 = .ok (.if_icmp .ge 26, 3) := by decide +kernel
theorem dX0_leavesSome_8 : decode cX0_leavesSome 8 = .ok (.aload_n 1, 1) := by decide +kernel
theorem dX0_leavesSome_9 : decode cX0_leavesSome 9 = .ok (.iload_n 3, 1) := by decide +kernel
theorem dX0_leavesSome_10 : decode cX0_leavesSome 10 = .ok (.laload, 1) := by decide +kernel
theorem dX0_leavesSome_11 : decode cX0_leavesSome 11 = .ok (.aload_n 0, 1) := by decide +kernel
theorem dX0_leavesSome_12 : decode cX0_leavesSome 12 = .ok (.iload_n 2, 1) := by decide +kernel
theorem dX0_leavesSome_13 : decode cX0_leavesSome 13 = .ok (.iload_n 3, 1) := by decide +kernel
theorem dX0_leavesSome_14 : decode cX0_leavesSome 14 = .ok (.invokevirtual 34, 3) := by decide +kernel
theorem dX0_leavesSome_17 : decode cX0_leavesSome 17 = .ok (.land, 1) := by decide +kernel
theorem dX0_leavesSome_18 : decode cX0_leavesSome 18 = .ok (.lconst 0, 1) := by decide +kernel
theorem dX0_leavesSome_19 : decode cX0_leavesSome 19 = .ok (.lcmp, 1) := by decide +kernel
theorem dX0_leavesSome_20 : decode cX0_leavesSome 20 = .ok (.ifCond .eq 5, 3) := by decide +kernel
theorem dX0_leavesSome_23 : decode cX0_leavesSome 23 = .ok (.iconst 1, 1) := by decide +kernel
theorem dX0_leavesSome_24 : decode cX0_leavesSome 24 = .ok (.ireturn, 1) := by decide +kernel
theorem dX0_leavesSome_25 : decode cX0_leavesSome 25 = .ok (.iinc 3 1, 3) := by decide +kernel
theorem dX0_leavesSome_28 : decode cX0_leavesSome 28 = .ok (.goto (-26), 3) := by decide +kernel
theorem dX0_leavesSome_31 : decode cX0_leavesSome 31 = .ok (.iconst 0, 1) := by decide +kernel
theorem dX0_leavesSome_32 : decode cX0_leavesSome 32 = .ok (.ireturn, 1) := by decide +kernel
def FX0_leavesSome (hp : HP) (p0 : Nat) (p1 : Nat) (p2 : Int32) : Option (Int32) := (lp (fun (s1 : Int32) => if (16 : Int32) ≤ s1 then some (Sum.inl (Sum.inr ())) else (rdL hp p1 s1).bind (fun v3 => (rc [0] hp p0 (FX0_sharedWord hp p0 p2 s1)).bind (fun v4 => if (lg_cmp (v3 &&& v4) (0 : Int64)) = 0 then vl (s1 + (1 : Int32)) (fun x5 => some (Sum.inr x5)) else some (Sum.inl (Sum.inl (1 : Int32)))))) FU (0 : Int32)).bind (lk (P := Int32) (fun r => r) (fun (y2 : Unit) => some (0 : Int32)))
set_option maxHeartbeats 4000000 in
set_option maxRecDepth 100000 in
theorem ctX0_leavesSome (l : Launch) (D : va_G) (tg : Nat → ClassId) (bs : Nat) (sa : Nat → Nat) (hp : HP) (p0 : Nat) (p1 : Nat) (p2 : Int32) : Ct l D tg bs sa yX0_leavesSome cX0_leavesSome 4 (some .boolean) 1 [.ref p0, .ref p1, .int p2] hp (FX0_leavesSome hp p0 p1 p2) (fun r => some (.int r)) (fun _ => hp) := by
  refine Ct.of (by decide) (Nat.le_of_ble_eq_true rfl) ?_
  intro V Q hVl hVd hVt hVb hVs hC
  subst hVl; subst hVd; subst hVt; subst hVb; subst hVs
  unfold FX0_leavesSome
  show Zs V Q (0, 0) 4 _ _ hp [(0, .ref p0), (1, .ref p1), (2, .int p2)] 0 []
  refine z_iconst hC (0 : Int32) dX0_leavesSome_0 (by decide) ?_
  refine z_istore_n hC [(0, .ref p0), (1, .ref p1), (2, .int p2), (3, .int (0 : Int32))] [1, 2, 3, 0] dX0_leavesSome_1 rfl (by decide) rfl ?_
  refine z_lpR (S := Int32) (Y := Unit) (fun s1 => hp) (fun s1 => [(0, .ref p0), (1, .ref p1), (2, .int p2), (3, .int s1)]) (fun y2 => hp) (fun y2 => []) 31 [] (fun y2 => ?_) (fun s1 => ?_) rfl rfl
  · refine z_iconst hC (0 : Int32) dX0_leavesSome_31 (by decide) ?_
    exact z_zret hC (by decide) (fun h => h) dX0_leavesSome_32
  · refine z_iload_n hC 3 dX0_leavesSome_2 rfl rfl ?_
    refine z_bipush hC (16 : Int32) dX0_leavesSome_3 (by decide) ?_
    refine z_icmp_ge hC 31 dX0_leavesSome_5 (by decide) (fun _ => ?_) (fun _ => ?_)
    · refine z_weak [] [] rfl ?_
      exact z_leaf (fun h => h)
    · refine z_aload_n hC 1 dX0_leavesSome_8 rfl rfl ?_
      refine z_iload_n hC 3 dX0_leavesSome_9 rfl rfl ?_
      refine z_lald hC dX0_leavesSome_10 (fun v3 => ?_)
      refine z_aload_n hC 0 dX0_leavesSome_11 rfl rfl ?_
      refine z_iload_n hC 2 dX0_leavesSome_12 rfl rfl ?_
      refine z_iload_n hC 3 dX0_leavesSome_13 rfl rfl ?_
      refine z_callVl hC (ci := 0) rfl lmRX0_34 (ctX0_sharedWord (vLa V) (vDa V) (vTg V) (vBs V) (vSa V) hp p0 p2 s1) (by decide) hn0 dX0_leavesSome_14 rfl rfl (Nat.le_of_ble_eq_true rfl) (fun v4 => ?_)
      refine z_land hC dX0_leavesSome_17 ?_
      refine z_lconst hC (0 : Int64) dX0_leavesSome_18 (by decide) ?_
      refine z_lcmp hC dX0_leavesSome_19 ?_
      refine z_if_eq hC 25 dX0_leavesSome_20 (by decide) (fun _ => ?_) (fun _ => ?_)
      · refine z_iincv hC (1 : Int32) 3 (fun x5 => [(0, .ref p0), (1, .ref p1), (2, .int p2), (3, .int x5)]) [1, 2, 3, 0] dX0_leavesSome_25 rfl (by decide) (by decide) (fun _ => rfl) (fun x5 => ?_)
        refine z_goto hC 2 dX0_leavesSome_28 (by decide) ?_
        exact z_leaf (fun h => h)
      · refine z_iconst hC (1 : Int32) dX0_leavesSome_23 (by decide) ?_
        exact z_zret hC (by decide) (fun h => h) dX0_leavesSome_24

theorem dX4_begin_0 : decode cX4_begin 0 = .ok (.aload_n 0, 1) := by decide +kernel
theorem dX4_begin_1 : decode cX4_begin 1 = .ok (.iload_n 1, 1) := by decide +kernel
theorem dX4_begin_2 : decode cX4_begin 2 = .ok (.putfield 15, 3) := by decide +kernel
theorem dX4_begin_5 : decode cX4_begin 5 = .ok (.aload_n 0, 1) := by decide +kernel
theorem dX4_begin_6 : decode cX4_begin 6 = .ok (.iconst 0, 1) := by decide +kernel
theorem dX4_begin_7 : decode cX4_begin 7 = .ok (.putfield 19, 3) := by decide +kernel
theorem dX4_begin_10 : decode cX4_begin 10 = .ok (.aload_n 0, 1) := by decide +kernel
theorem dX4_begin_11 : decode cX4_begin 11 = .ok (.iconst 0, 1) := by decide +kernel
theorem dX4_begin_12 : decode cX4_begin 12 = .ok (.putfield 22, 3) := by decide +kernel
theorem dX4_begin_15 : decode cX4_begin 15 = .ok (.return_, 1) := by decide +kernel
def FX4_begin (hp : HP) (p0 : Nat) (p1 : Int32) : Option (HP) := (sI [1, 2] 1 hp p0 p1).bind (fun hp1 => (sI [1, 2] 2 hp1 p0 (0 : Int32)).bind (fun hp2 => (sI [1, 2] 3 hp2 p0 (0 : Int32)).bind (fun hp3 => some hp3)))
set_option maxHeartbeats 4000000 in
set_option maxRecDepth 100000 in
theorem ctX4_begin (l : Launch) (D : va_G) (tg : Nat → ClassId) (bs : Nat) (sa : Nat → Nat) (hp : HP) (p0 : Nat) (p1 : Int32) : Ct l D tg bs sa yX4_begin cX4_begin 2 none 0 [.ref p0, .int p1] hp (FX4_begin hp p0 p1) (fun _ => none) (fun r => r) := by
  refine Ct.of (by decide) (Nat.le_of_ble_eq_true rfl) ?_
  intro V Q hVl hVd hVt hVb hVs hC
  subst hVl; subst hVd; subst hVt; subst hVb; subst hVs
  unfold FX4_begin
  show Zs V Q (0, 0) 2 _ _ hp [(0, .ref p0), (1, .int p1)] 0 []
  refine z_aload_n hC 0 dX4_begin_0 rfl rfl ?_
  refine z_iload_n hC 1 dX4_begin_1 rfl rfl ?_
  refine z_putI hC lpRX4_15 dX4_begin_2 (fun hp1 => ?_)
  refine z_aload_n hC 0 dX4_begin_5 rfl rfl ?_
  refine z_iconst hC (0 : Int32) dX4_begin_6 (by decide) ?_
  refine z_putI hC lpRX4_19 dX4_begin_7 (fun hp2 => ?_)
  refine z_aload_n hC 0 dX4_begin_10 rfl rfl ?_
  refine z_iconst hC (0 : Int32) dX4_begin_11 (by decide) ?_
  refine z_putI hC lpRX4_22 dX4_begin_12 (fun hp3 => ?_)
  exact z_vret hC (fun h => h) dX4_begin_15

theorem dX8_at_0 : decode cX8_at 0 = .ok (.iload_n 1, 1) := by decide +kernel
theorem dX8_at_1 : decode cX8_at 1 = .ok (.ifCond .lt 23, 3) := by decide +kernel
theorem dX8_at_4 : decode cX8_at 4 = .ok (.iload_n 1, 1) := by decide +kernel
theorem dX8_at_5 : decode cX8_at 5 = .ok (.sipush 260, 3) := by decide +kernel
theorem dX8_at_8 : decode cX8_at 8 = .ok (.if_icmp .ge 16, 3) := by decide +kernel
theorem dX8_at_11 : decode cX8_at 11 = .ok (.aload_n 0, 1) := by decide +kernel
theorem dX8_at_12 : decode cX8_at 12 = .ok (.getfield 9, 3) := by decide +kernel
theorem dX8_at_15 : decode cX8_at 15 = .ok (.iload_n 1, 1) := by decide +kernel
theorem dX8_at_16 : decode cX8_at 16 = .ok (.baload, 1) := by decide +kernel
theorem dX8_at_17 : decode cX8_at 17 = .ok (.sipush 255, 3) := by decide +kernel
theorem dX8_at_20 : decode cX8_at 20 = .ok (.iand, 1) := by decide +kernel
theorem dX8_at_21 : decode cX8_at 21 = .ok (.goto 4, 3) := by decide +kernel
theorem dX8_at_24 : decode cX8_at 24 = .ok (.iconst 0, 1) := by decide +kernel
theorem dX8_at_25 : decode cX8_at 25 = .ok (.ireturn, 1) := by decide +kernel
def FX8_at (hp : HP) (p0 : Nat) (p1 : Int32) : Option (Int32) := if p1 < 0 then some (0 : Int32) else if (260 : Int32) ≤ p1 then some (0 : Int32) else (gR [8] 0 hp p0).bind (fun v1 => (rdN 1 hp v1 p1).bind (fun v2 => some (v2 &&& (255 : Int32))))
set_option maxHeartbeats 4000000 in
set_option maxRecDepth 100000 in
theorem ctX8_at (l : Launch) (D : va_G) (tg : Nat → ClassId) (bs : Nat) (sa : Nat → Nat) (hp : HP) (p0 : Nat) (p1 : Int32) : Ct l D tg bs sa yX8_at cX8_at 2 (some .int) 0 [.ref p0, .int p1] hp (FX8_at hp p0 p1) (fun r => some (.int r)) (fun _ => hp) := by
  refine Ct.of (by decide) (Nat.le_of_ble_eq_true rfl) ?_
  intro V Q hVl hVd hVt hVb hVs hC
  subst hVl; subst hVd; subst hVt; subst hVb; subst hVs
  unfold FX8_at
  show Zs V Q (0, 0) 2 _ _ hp [(0, .ref p0), (1, .int p1)] 0 []
  refine z_iload_n hC 1 dX8_at_0 rfl rfl ?_
  refine z_if_lt hC 24 dX8_at_1 (by decide) (fun _ => ?_) (fun _ => ?_)
  · refine z_iconst hC (0 : Int32) dX8_at_24 (by decide) ?_
    exact z_iret hC (fun h => h) dX8_at_25
  · refine z_iload_n hC 1 dX8_at_4 rfl rfl ?_
    refine z_sipush hC (260 : Int32) dX8_at_5 (by decide) ?_
    refine z_icmp_ge hC 24 dX8_at_8 (by decide) (fun _ => ?_) (fun _ => ?_)
    · refine z_iconst hC (0 : Int32) dX8_at_24 (by decide) ?_
      exact z_iret hC (fun h => h) dX8_at_25
    · refine z_aload_n hC 0 dX8_at_11 rfl rfl ?_
      refine z_getR hC lgRX8_9 dX8_at_12 (fun v1 => ?_)
      refine z_iload_n hC 1 dX8_at_15 rfl rfl ?_
      refine z_bald hC dX8_at_16 (fun v2 => ?_)
      refine z_sipush hC (255 : Int32) dX8_at_17 (by decide) ?_
      refine z_iand hC dX8_at_20 ?_
      refine z_goto hC 25 dX8_at_21 (by decide) ?_
      exact z_iret hC (fun h => h) dX8_at_25

theorem dX4_here_0 : decode cX4_here 0 = .ok (.aload_n 0, 1) := by decide +kernel
theorem dX4_here_1 : decode cX4_here 1 = .ok (.getfield 19, 3) := by decide +kernel
theorem dX4_here_4 : decode cX4_here 4 = .ok (.aload_n 0, 1) := by decide +kernel
theorem dX4_here_5 : decode cX4_here 5 = .ok (.getfield 15, 3) := by decide +kernel
theorem dX4_here_8 : decode cX4_here 8 = .ok (.if_icmp .ge 17, 3) := by decide +kernel
theorem dX4_here_11 : decode cX4_here 11 = .ok (.aload_n 0, 1) := by decide +kernel
theorem dX4_here_12 : decode cX4_here 12 = .ok (.getfield 9, 3) := by decide +kernel
theorem dX4_here_15 : decode cX4_here 15 = .ok (.aload_n 0, 1) := by decide +kernel
theorem dX4_here_16 : decode cX4_here 16 = .ok (.getfield 19, 3) := by decide +kernel
theorem dX4_here_19 : decode cX4_here 19 = .ok (.invokevirtual 25, 3) := by decide +kernel
theorem dX4_here_22 : decode cX4_here 22 = .ok (.goto 4, 3) := by decide +kernel
theorem dX4_here_25 : decode cX4_here 25 = .ok (.iconst (-1), 1) := by decide +kernel
theorem dX4_here_26 : decode cX4_here 26 = .ok (.ireturn, 1) := by decide +kernel
def FX4_here (hp : HP) (p0 : Nat) : Option (Int32) := (gI [1, 2] 2 hp p0).bind (fun v1 => (gI [1, 2] 1 hp p0).bind (fun v2 => if v2 ≤ v1 then some (-1 : Int32) else (gR [1, 2] 0 hp p0).bind (fun v3 => (gI [1, 2] 2 hp p0).bind (fun v4 => (rc [8] hp v3 (FX8_at hp v3 v4)).bind (fun v5 => some v5)))))
set_option maxHeartbeats 4000000 in
set_option maxRecDepth 100000 in
theorem ctX4_here (l : Launch) (D : va_G) (tg : Nat → ClassId) (bs : Nat) (sa : Nat → Nat) (hp : HP) (p0 : Nat) : Ct l D tg bs sa yX4_here cX4_here 1 (some .int) 1 [.ref p0] hp (FX4_here hp p0) (fun r => some (.int r)) (fun _ => hp) := by
  refine Ct.of (by decide) (Nat.le_of_ble_eq_true rfl) ?_
  intro V Q hVl hVd hVt hVb hVs hC
  subst hVl; subst hVd; subst hVt; subst hVb; subst hVs
  unfold FX4_here
  show Zs V Q (0, 0) 1 _ _ hp [(0, .ref p0)] 0 []
  refine z_aload_n hC 0 dX4_here_0 rfl rfl ?_
  refine z_getI hC lgRX4_19 dX4_here_1 (fun v1 => ?_)
  refine z_aload_n hC 0 dX4_here_4 rfl rfl ?_
  refine z_getI hC lgRX4_15 dX4_here_5 (fun v2 => ?_)
  refine z_icmp_ge hC 25 dX4_here_8 (by decide) (fun _ => ?_) (fun _ => ?_)
  · refine z_iconst hC (-1 : Int32) dX4_here_25 (by decide) ?_
    exact z_iret hC (fun h => h) dX4_here_26
  · refine z_aload_n hC 0 dX4_here_11 rfl rfl ?_
    refine z_getR hC lgRX4_9 dX4_here_12 (fun v3 => ?_)
    refine z_aload_n hC 0 dX4_here_15 rfl rfl ?_
    refine z_getI hC lgRX4_19 dX4_here_16 (fun v4 => ?_)
    refine z_callVi hC (ci := 8) rfl lmRX4_25 (ctX8_at (vLa V) (vDa V) (vTg V) (vBs V) (vSa V) hp v3 v4) (by decide) hn0 dX4_here_19 rfl rfl (Nat.le_of_ble_eq_true rfl) (fun v5 => ?_)
    refine z_goto hC 26 dX4_here_22 (by decide) ?_
    exact z_iret hC (fun h => h) dX4_here_26

theorem dX1_canBegin_0 : decode cX1_canBegin 0 = .ok (.iload_n 0, 1) := by decide +kernel
theorem dX1_canBegin_1 : decode cX1_canBegin 1 = .ok (.bipush 97, 2) := by decide +kernel
theorem dX1_canBegin_3 : decode cX1_canBegin 3 = .ok (.if_icmp .lt 9, 3) := by decide +kernel
theorem dX1_canBegin_6 : decode cX1_canBegin 6 = .ok (.iload_n 0, 1) := by decide +kernel
theorem dX1_canBegin_7 : decode cX1_canBegin 7 = .ok (.bipush 106, 2) := by decide +kernel
theorem dX1_canBegin_9 : decode cX1_canBegin 9 = .ok (.if_icmp .le 27, 3) := by decide +kernel
theorem dX1_canBegin_12 : decode cX1_canBegin 12 = .ok (.iload_n 0, 1) := by decide +kernel
theorem dX1_canBegin_13 : decode cX1_canBegin 13 = .ok (.bipush 48, 2) := by decide +kernel
theorem dX1_canBegin_15 : decode cX1_canBegin 15 = .ok (.if_icmp .lt 9, 3) := by decide +kernel
theorem dX1_canBegin_18 : decode cX1_canBegin 18 = .ok (.iload_n 0, 1) := by decide +kernel
theorem dX1_canBegin_19 : decode cX1_canBegin 19 = .ok (.bipush 57, 2) := by decide +kernel
theorem dX1_canBegin_21 : decode cX1_canBegin 21 = .ok (.if_icmp .le 15, 3) := by decide +kernel
theorem dX1_canBegin_24 : decode cX1_canBegin 24 = .ok (.iload_n 0, 1) := by decide +kernel
theorem dX1_canBegin_25 : decode cX1_canBegin 25 = .ok (.bipush 33, 2) := by decide +kernel
theorem dX1_canBegin_27 : decode cX1_canBegin 27 = .ok (.if_icmp .eq 9, 3) := by decide +kernel
theorem dX1_canBegin_30 : decode cX1_canBegin 30 = .ok (.iload_n 0, 1) := by decide +kernel
theorem dX1_canBegin_31 : decode cX1_canBegin 31 = .ok (.bipush 40, 2) := by decide +kernel
theorem dX1_canBegin_33 : decode cX1_canBegin 33 = .ok (.if_icmp .ne 7, 3) := by decide +kernel
theorem dX1_canBegin_36 : decode cX1_canBegin 36 = .ok (.iconst 1, 1) := by decide +kernel
theorem dX1_canBegin_37 : decode cX1_canBegin 37 = .ok (.goto 4, 3) := by decide +kernel
theorem dX1_canBegin_40 : decode cX1_canBegin 40 = .ok (.iconst 0, 1) := by decide +kernel
theorem dX1_canBegin_41 : decode cX1_canBegin 41 = .ok (.ireturn, 1) := by decide +kernel
def FX1_canBegin (p0 : Int32) : Option (Int32) := jn (A := Unit) (fun a1 => jn (A := Unit) (fun a3 => if p0 = (33 : Int32) then some (1 : Int32) else if p0 = (40 : Int32) then some (1 : Int32) else some (0 : Int32)) (fun J4 => if p0 < (48 : Int32) then J4 () else if p0 ≤ (57 : Int32) then some (1 : Int32) else J4 ())) (fun J2 => if p0 < (97 : Int32) then J2 () else if p0 ≤ (106 : Int32) then some (1 : Int32) else J2 ())
set_option maxHeartbeats 4000000 in
set_option maxRecDepth 100000 in
theorem ctX1_canBegin (l : Launch) (D : va_G) (tg : Nat → ClassId) (bs : Nat) (sa : Nat → Nat) (hp : HP) (p0 : Int32) : Ct l D tg bs sa yX1_canBegin cX1_canBegin 1 (some .boolean) 0 [.int p0] hp (FX1_canBegin p0) (fun r => some (.int r)) (fun _ => hp) := by
  refine Ct.of (by decide) (Nat.le_of_ble_eq_true rfl) ?_
  intro V Q hVl hVd hVt hVb hVs hC
  subst hVl; subst hVd; subst hVt; subst hVb; subst hVs
  unfold FX1_canBegin
  show Zs V Q (0, 0) 1 _ _ hp [(0, .int p0)] 0 []
  refine z_iload_n hC 0 dX1_canBegin_0 rfl rfl ?_
  refine z_bipush hC (97 : Int32) dX1_canBegin_1 (by decide) ?_
  refine z_jn (A := Unit) (fun a1 => hp) (fun a1 => [(0, .int p0)]) 12 (fun a1 => []) (fun a1 => ?_) (fun J2 hJ2 => ?_)
  · refine z_iload_n hC 0 dX1_canBegin_12 rfl rfl ?_
    refine z_bipush hC (48 : Int32) dX1_canBegin_13 (by decide) ?_
    refine z_jn (A := Unit) (fun a3 => hp) (fun a3 => [(0, .int p0)]) 24 (fun a3 => []) (fun a3 => ?_) (fun J4 hJ4 => ?_)
    · refine z_iload_n hC 0 dX1_canBegin_24 rfl rfl ?_
      refine z_bipush hC (33 : Int32) dX1_canBegin_25 (by decide) ?_
      refine z_icmp_eq hC 36 dX1_canBegin_27 (by decide) (fun _ => ?_) (fun _ => ?_)
      · refine z_iconst hC (1 : Int32) dX1_canBegin_36 (by decide) ?_
        refine z_goto hC 41 dX1_canBegin_37 (by decide) ?_
        exact z_zret hC (by decide) (fun h => h) dX1_canBegin_41
      · refine z_iload_n hC 0 dX1_canBegin_30 rfl rfl ?_
        refine z_bipush hC (40 : Int32) dX1_canBegin_31 (by decide) ?_
        refine z_icmp_ne hC 40 dX1_canBegin_33 (by decide) (fun _ => ?_) (fun _ => ?_)
        · refine z_iconst hC (1 : Int32) dX1_canBegin_36 (by decide) ?_
          refine z_goto hC 41 dX1_canBegin_37 (by decide) ?_
          exact z_zret hC (by decide) (fun h => h) dX1_canBegin_41
        · refine z_iconst hC (0 : Int32) dX1_canBegin_40 (by decide) ?_
          exact z_zret hC (by decide) (fun h => h) dX1_canBegin_41
    · refine z_icmp_lt hC 24 dX1_canBegin_15 (by decide) (fun _ => ?_) (fun _ => ?_)
      · exact hJ4 ()
      · refine z_iload_n hC 0 dX1_canBegin_18 rfl rfl ?_
        refine z_bipush hC (57 : Int32) dX1_canBegin_19 (by decide) ?_
        refine z_icmp_le hC 36 dX1_canBegin_21 (by decide) (fun _ => ?_) (fun _ => ?_)
        · refine z_iconst hC (1 : Int32) dX1_canBegin_36 (by decide) ?_
          refine z_goto hC 41 dX1_canBegin_37 (by decide) ?_
          exact z_zret hC (by decide) (fun h => h) dX1_canBegin_41
        · exact hJ4 ()
  · refine z_icmp_lt hC 12 dX1_canBegin_3 (by decide) (fun _ => ?_) (fun _ => ?_)
    · exact hJ2 ()
    · refine z_iload_n hC 0 dX1_canBegin_6 rfl rfl ?_
      refine z_bipush hC (106 : Int32) dX1_canBegin_7 (by decide) ?_
      refine z_icmp_le hC 36 dX1_canBegin_9 (by decide) (fun _ => ?_) (fun _ => ?_)
      · refine z_iconst hC (1 : Int32) dX1_canBegin_36 (by decide) ?_
        refine z_goto hC 41 dX1_canBegin_37 (by decide) ?_
        exact z_zret hC (by decide) (fun h => h) dX1_canBegin_41
      · exact hJ2 ()

theorem dX4_fail_0 : decode cX4_fail 0 = .ok (.aload_n 0, 1) := by decide +kernel
theorem dX4_fail_1 : decode cX4_fail 1 = .ok (.getfield 22, 3) := by decide +kernel
theorem dX4_fail_4 : decode cX4_fail 4 = .ok (.ifCond .ne 17, 3) := by decide +kernel
theorem dX4_fail_7 : decode cX4_fail 7 = .ok (.aload_n 0, 1) := by decide +kernel
theorem dX4_fail_8 : decode cX4_fail 8 = .ok (.sipush (-1000), 3) := by decide +kernel
theorem dX4_fail_11 : decode cX4_fail 11 = .ok (.iload_n 1, 1) := by decide +kernel
theorem dX4_fail_12 : decode cX4_fail 12 = .ok (.imul, 1) := by decide +kernel
theorem dX4_fail_13 : decode cX4_fail 13 = .ok (.aload_n 0, 1) := by decide +kernel
theorem dX4_fail_14 : decode cX4_fail 14 = .ok (.getfield 19, 3) := by decide +kernel
theorem dX4_fail_17 : decode cX4_fail 17 = .ok (.isub, 1) := by decide +kernel
theorem dX4_fail_18 : decode cX4_fail 18 = .ok (.putfield 22, 3) := by decide +kernel
theorem dX4_fail_21 : decode cX4_fail 21 = .ok (.return_, 1) := by decide +kernel
def FX4_fail (hp : HP) (p0 : Nat) (p1 : Int32) : Option (HP) := (gI [1, 2] 3 hp p0).bind (fun v1 => if v1 = 0 then (gI [1, 2] 2 hp p0).bind (fun v2 => (sI [1, 2] 3 hp p0 (((-1000 : Int32) * p1) - v2)).bind (fun hp3 => some hp3)) else some hp)
set_option maxHeartbeats 4000000 in
set_option maxRecDepth 100000 in
theorem ctX4_fail (l : Launch) (D : va_G) (tg : Nat → ClassId) (bs : Nat) (sa : Nat → Nat) (hp : HP) (p0 : Nat) (p1 : Int32) : Ct l D tg bs sa yX4_fail cX4_fail 2 none 0 [.ref p0, .int p1] hp (FX4_fail hp p0 p1) (fun _ => none) (fun r => r) := by
  refine Ct.of (by decide) (Nat.le_of_ble_eq_true rfl) ?_
  intro V Q hVl hVd hVt hVb hVs hC
  subst hVl; subst hVd; subst hVt; subst hVb; subst hVs
  unfold FX4_fail
  show Zs V Q (0, 0) 2 _ _ hp [(0, .ref p0), (1, .int p1)] 0 []
  refine z_aload_n hC 0 dX4_fail_0 rfl rfl ?_
  refine z_getI hC lgRX4_22 dX4_fail_1 (fun v1 => ?_)
  refine z_if_ne hC 21 dX4_fail_4 (by decide) (fun _ => ?_) (fun _ => ?_)
  · refine z_aload_n hC 0 dX4_fail_7 rfl rfl ?_
    refine z_sipush hC (-1000 : Int32) dX4_fail_8 (by decide) ?_
    refine z_iload_n hC 1 dX4_fail_11 rfl rfl ?_
    refine z_imul hC dX4_fail_12 ?_
    refine z_aload_n hC 0 dX4_fail_13 rfl rfl ?_
    refine z_getI hC lgRX4_19 dX4_fail_14 (fun v2 => ?_)
    refine z_isub hC dX4_fail_17 ?_
    refine z_putI hC lpRX4_22 dX4_fail_18 (fun hp3 => ?_)
    exact z_vret hC (fun h => h) dX4_fail_21
  · exact z_vret hC (fun h => h) dX4_fail_21

theorem dX7_soWord_0 : decode cX7_soWord 0 = .ok (.iload_n 0, 1) := by decide +kernel
theorem dX7_soWord_1 : decode cX7_soWord 1 = .ok (.ifCond .lt 15, 3) := by decide +kernel
theorem dX7_soWord_4 : decode cX7_soWord 4 = .ok (.iload_n 0, 1) := by decide +kernel
theorem dX7_soWord_5 : decode cX7_soWord 5 = .ok (.bipush 6, 2) := by decide +kernel
theorem dX7_soWord_7 : decode cX7_soWord 7 = .ok (.if_icmp .ge 9, 3) := by decide +kernel
theorem dX7_soWord_10 : decode cX7_soWord 10 = .ok (.getstatic 11, 3) := by decide +kernel
theorem dX7_soWord_13 : decode cX7_soWord 13 = .ok (.iload_n 0, 1) := by decide +kernel
theorem dX7_soWord_14 : decode cX7_soWord 14 = .ok (.laload, 1) := by decide +kernel
theorem dX7_soWord_15 : decode cX7_soWord 15 = .ok (.lreturn, 1) := by decide +kernel
theorem dX7_soWord_16 : decode cX7_soWord 16 = .ok (.iload_n 1, 1) := by decide +kernel
theorem dX7_soWord_17 : decode cX7_soWord 17 = .ok (.iload_n 0, 1) := by decide +kernel
theorem dX7_soWord_18 : decode cX7_soWord 18 = .ok (.bipush 6, 2) := by decide +kernel
theorem dX7_soWord_20 : decode cX7_soWord 20 = .ok (.isub, 1) := by decide +kernel
theorem dX7_soWord_21 : decode cX7_soWord 21 = .ok (.ishr, 1) := by decide +kernel
theorem dX7_soWord_22 : decode cX7_soWord 22 = .ok (.iconst 1, 1) := by decide +kernel
theorem dX7_soWord_23 : decode cX7_soWord 23 = .ok (.iand, 1) := by decide +kernel
theorem dX7_soWord_24 : decode cX7_soWord 24 = .ok (.ifCond .eq 9, 3) := by decide +kernel
theorem dX7_soWord_27 : decode cX7_soWord 27 = .ok (.ldc2_w 15, 3) := by decide +kernel
theorem dX7_soWord_30 : decode cX7_soWord 30 = .ok (.goto 4, 3) := by decide +kernel
theorem dX7_soWord_33 : decode cX7_soWord 33 = .ok (.lconst 0, 1) := by decide +kernel
theorem dX7_soWord_34 : decode cX7_soWord 34 = .ok (.lreturn, 1) := by decide +kernel
def FX7_soWord (hp : HP) (p0 : Int32) (p1 : Int32) : Option (Int64) := jn (A := Unit) (fun a1 => if ((p1 >>> ((p0 - (6 : Int32)) &&& 31)) &&& (1 : Int32)) = 0 then some (0 : Int64) else some (-1 : Int64)) (fun J2 => if p0 < 0 then J2 () else if (6 : Int32) ≤ p0 then J2 () else (soR p0).bind (fun v3 => some v3))
set_option maxHeartbeats 4000000 in
set_option maxRecDepth 100000 in
theorem ctX7_soWord (l : Launch) (D : va_G) (tg : Nat → ClassId) (bs : Nat) (sa : Nat → Nat) (hp : HP) (p0 : Int32) (p1 : Int32) : Ct l D tg bs sa yX7_soWord cX7_soWord 2 (some .long) 0 [.int p0, .int p1] hp (FX7_soWord hp p0 p1) (fun r => some (.long r)) (fun _ => hp) := by
  refine Ct.of (by decide) (Nat.le_of_ble_eq_true rfl) ?_
  intro V Q hVl hVd hVt hVb hVs hC
  subst hVl; subst hVd; subst hVt; subst hVb; subst hVs
  unfold FX7_soWord
  show Zs V Q (0, 0) 2 _ _ hp [(0, .int p0), (1, .int p1)] 0 []
  refine z_iload_n hC 0 dX7_soWord_0 rfl rfl ?_
  refine z_jn (A := Unit) (fun a1 => hp) (fun a1 => [(0, .int p0), (1, .int p1)]) 16 (fun a1 => []) (fun a1 => ?_) (fun J2 hJ2 => ?_)
  · refine z_iload_n hC 1 dX7_soWord_16 rfl rfl ?_
    refine z_iload_n hC 0 dX7_soWord_17 rfl rfl ?_
    refine z_bipush hC (6 : Int32) dX7_soWord_18 (by decide) ?_
    refine z_isub hC dX7_soWord_20 ?_
    refine z_ishr hC dX7_soWord_21 ?_
    refine z_iconst hC (1 : Int32) dX7_soWord_22 (by decide) ?_
    refine z_iand hC dX7_soWord_23 ?_
    refine z_if_eq hC 33 dX7_soWord_24 (by decide) (fun _ => ?_) (fun _ => ?_)
    · refine z_lconst hC (0 : Int64) dX7_soWord_33 (by decide) ?_
      exact z_lret hC (fun h => h) dX7_soWord_34
    · refine z_ldc2 hC (-1 : Int64) lcRX7_15 dX7_soWord_27 ?_
      refine z_goto hC 34 dX7_soWord_30 (by decide) ?_
      exact z_lret hC (fun h => h) dX7_soWord_34
  · refine z_if_lt hC 16 dX7_soWord_1 (by decide) (fun _ => ?_) (fun _ => ?_)
    · exact hJ2 ()
    · refine z_iload_n hC 0 dX7_soWord_4 rfl rfl ?_
      refine z_bipush hC (6 : Int32) dX7_soWord_5 (by decide) ?_
      refine z_icmp_ge hC 16 dX7_soWord_7 (by decide) (fun _ => ?_) (fun _ => ?_)
      · exact hJ2 ()
      · refine z_getSO hC lsRX7_11 dX7_soWord_10 ?_
        refine z_iload_n hC 0 dX7_soWord_13 rfl rfl ?_
        refine z_sold hC dX7_soWord_14 (fun v3 => ?_)
        exact z_lret hC (fun h => h) dX7_soWord_15

theorem dX4_open_0 : decode cX4_open 0 = .ok (.iload_n 1, 1) := by decide +kernel
theorem dX4_open_1 : decode cX4_open 1 = .ok (.bipush 6, 2) := by decide +kernel
theorem dX4_open_3 : decode cX4_open 3 = .ok (.if_icmp .lt 11, 3) := by decide +kernel
theorem dX4_open_6 : decode cX4_open 6 = .ok (.aload_n 0, 1) := by decide +kernel
theorem dX4_open_7 : decode cX4_open 7 = .ok (.iconst 5, 1) := by decide +kernel
theorem dX4_open_8 : decode cX4_open 8 = .ok (.invokevirtual 34, 3) := by decide +kernel
theorem dX4_open_11 : decode cX4_open 11 = .ok (.goto 13, 3) := by decide +kernel
theorem dX4_open_14 : decode cX4_open 14 = .ok (.aload_n 0, 1) := by decide +kernel
theorem dX4_open_15 : decode cX4_open 15 = .ok (.dup, 1) := by decide +kernel
theorem dX4_open_16 : decode cX4_open 16 = .ok (.getfield 19, 3) := by decide +kernel
theorem dX4_open_19 : decode cX4_open 19 = .ok (.iconst 1, 1) := by decide +kernel
theorem dX4_open_20 : decode cX4_open 20 = .ok (.iadd, 1) := by decide +kernel
theorem dX4_open_21 : decode cX4_open 21 = .ok (.putfield 19, 3) := by decide +kernel
theorem dX4_open_24 : decode cX4_open 24 = .ok (.return_, 1) := by decide +kernel
def FX4_open (hp : HP) (p0 : Nat) (p1 : Int32) : Option (HP) := if p1 < (6 : Int32) then (gI [1, 2] 2 hp p0).bind (fun v1 => (sI [1, 2] 2 hp p0 (v1 + (1 : Int32))).bind (fun hp2 => some hp2)) else (rc [1, 2] hp p0 (FX4_fail hp p0 (5 : Int32))).bind (fun w3 => some w3)
set_option maxHeartbeats 4000000 in
set_option maxRecDepth 100000 in
theorem ctX4_open (l : Launch) (D : va_G) (tg : Nat → ClassId) (bs : Nat) (sa : Nat → Nat) (hp : HP) (p0 : Nat) (p1 : Int32) : Ct l D tg bs sa yX4_open cX4_open 2 none 1 [.ref p0, .int p1] hp (FX4_open hp p0 p1) (fun _ => none) (fun r => r) := by
  refine Ct.of (by decide) (Nat.le_of_ble_eq_true rfl) ?_
  intro V Q hVl hVd hVt hVb hVs hC
  subst hVl; subst hVd; subst hVt; subst hVb; subst hVs
  unfold FX4_open
  show Zs V Q (0, 0) 2 _ _ hp [(0, .ref p0), (1, .int p1)] 0 []
  refine z_iload_n hC 1 dX4_open_0 rfl rfl ?_
  refine z_bipush hC (6 : Int32) dX4_open_1 (by decide) ?_
  refine z_icmp_lt hC 14 dX4_open_3 (by decide) (fun _ => ?_) (fun _ => ?_)
  · refine z_aload_n hC 0 dX4_open_14 rfl rfl ?_
    refine z_dup hC dX4_open_15 rfl ?_
    refine z_getI hC lgRX4_19 dX4_open_16 (fun v1 => ?_)
    refine z_iconst hC (1 : Int32) dX4_open_19 (by decide) ?_
    refine z_iadd hC dX4_open_20 ?_
    refine z_putI hC lpRX4_19 dX4_open_21 (fun hp2 => ?_)
    exact z_vret hC (fun h => h) dX4_open_24
  · refine z_aload_n hC 0 dX4_open_6 rfl rfl ?_
    refine z_iconst hC (5 : Int32) dX4_open_7 (by decide) ?_
    refine z_callUv hC lmRX4_34 (ctX4_fail (vLa V) (vDa V) (vTg V) (vBs V) (vSa V) hp p0 (5 : Int32)) (by decide) hn0 dX4_open_8 rfl rfl (Nat.le_of_ble_eq_true rfl) (fun w3 => ?_)
    refine z_goto hC 24 dX4_open_11 (by decide) ?_
    exact z_vret hC (fun h => h) dX4_open_24

theorem dX4_expect_0 : decode cX4_expect 0 = .ok (.aload_n 0, 1) := by decide +kernel
theorem dX4_expect_1 : decode cX4_expect 1 = .ok (.invokevirtual 30, 3) := by decide +kernel
theorem dX4_expect_4 : decode cX4_expect 4 = .ok (.iload_n 1, 1) := by decide +kernel
theorem dX4_expect_5 : decode cX4_expect 5 = .ok (.if_icmp .ne 16, 3) := by decide +kernel
theorem dX4_expect_8 : decode cX4_expect 8 = .ok (.aload_n 0, 1) := by decide +kernel
theorem dX4_expect_9 : decode cX4_expect 9 = .ok (.dup, 1) := by decide +kernel
theorem dX4_expect_10 : decode cX4_expect 10 = .ok (.getfield 19, 3) := by decide +kernel
theorem dX4_expect_13 : decode cX4_expect 13 = .ok (.iconst 1, 1) := by decide +kernel
theorem dX4_expect_14 : decode cX4_expect 14 = .ok (.iadd, 1) := by decide +kernel
theorem dX4_expect_15 : decode cX4_expect 15 = .ok (.putfield 19, 3) := by decide +kernel
theorem dX4_expect_18 : decode cX4_expect 18 = .ok (.goto 8, 3) := by decide +kernel
theorem dX4_expect_21 : decode cX4_expect 21 = .ok (.aload_n 0, 1) := by decide +kernel
theorem dX4_expect_22 : decode cX4_expect 22 = .ok (.iconst 1, 1) := by decide +kernel
theorem dX4_expect_23 : decode cX4_expect 23 = .ok (.invokevirtual 34, 3) := by decide +kernel
theorem dX4_expect_26 : decode cX4_expect 26 = .ok (.return_, 1) := by decide +kernel
def FX4_expect (hp : HP) (p0 : Nat) (p1 : Int32) : Option (HP) := (rc [1, 2] hp p0 (FX4_here hp p0)).bind (fun v1 => if v1 = p1 then (gI [1, 2] 2 hp p0).bind (fun v2 => (sI [1, 2] 2 hp p0 (v2 + (1 : Int32))).bind (fun hp3 => some hp3)) else (rc [1, 2] hp p0 (FX4_fail hp p0 (1 : Int32))).bind (fun w4 => some w4))
set_option maxHeartbeats 4000000 in
set_option maxRecDepth 100000 in
theorem ctX4_expect (l : Launch) (D : va_G) (tg : Nat → ClassId) (bs : Nat) (sa : Nat → Nat) (hp : HP) (p0 : Nat) (p1 : Int32) : Ct l D tg bs sa yX4_expect cX4_expect 2 none 2 [.ref p0, .int p1] hp (FX4_expect hp p0 p1) (fun _ => none) (fun r => r) := by
  refine Ct.of (by decide) (Nat.le_of_ble_eq_true rfl) ?_
  intro V Q hVl hVd hVt hVb hVs hC
  subst hVl; subst hVd; subst hVt; subst hVb; subst hVs
  unfold FX4_expect
  show Zs V Q (0, 0) 2 _ _ hp [(0, .ref p0), (1, .int p1)] 0 []
  refine z_aload_n hC 0 dX4_expect_0 rfl rfl ?_
  refine z_callUi hC lmRX4_30 (ctX4_here (vLa V) (vDa V) (vTg V) (vBs V) (vSa V) hp p0) (by decide) hn0 dX4_expect_1 rfl rfl (Nat.le_of_ble_eq_true rfl) (fun v1 => ?_)
  refine z_iload_n hC 1 dX4_expect_4 rfl rfl ?_
  refine z_icmp_ne hC 21 dX4_expect_5 (by decide) (fun _ => ?_) (fun _ => ?_)
  · refine z_aload_n hC 0 dX4_expect_8 rfl rfl ?_
    refine z_dup hC dX4_expect_9 rfl ?_
    refine z_getI hC lgRX4_19 dX4_expect_10 (fun v2 => ?_)
    refine z_iconst hC (1 : Int32) dX4_expect_13 (by decide) ?_
    refine z_iadd hC dX4_expect_14 ?_
    refine z_putI hC lpRX4_19 dX4_expect_15 (fun hp3 => ?_)
    refine z_goto hC 26 dX4_expect_18 (by decide) ?_
    exact z_vret hC (fun h => h) dX4_expect_26
  · refine z_aload_n hC 0 dX4_expect_21 rfl rfl ?_
    refine z_iconst hC (1 : Int32) dX4_expect_22 (by decide) ?_
    refine z_callUv hC lmRX4_34 (ctX4_fail (vLa V) (vDa V) (vTg V) (vBs V) (vSa V) hp p0 (1 : Int32)) (by decide) hn0 dX4_expect_23 rfl rfl (Nat.le_of_ble_eq_true rfl) (fun w4 => ?_)
    exact z_vret hC (fun h => h) dX4_expect_26

