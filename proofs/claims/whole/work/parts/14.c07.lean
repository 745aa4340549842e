theorem dX11_fact_0 : decode cX11_fact 0 = .ok (.iload_n 1, 1) := by decide +kernel
theorem dX11_fact_1 : decode cX11_fact 1 = .ok (.invokestatic 101, 3) := by decide +kernel
theorem dX11_fact_4 : decode cX11_fact 4 = .ok (.ifCond .ne 5, 3) := by decide +kernel
theorem dX11_fact_7 : decode cX11_fact 7 = .ok (.iconst 0, 1) := by decide +kernel
theorem dX11_fact_8 : decode cX11_fact 8 = .ok (.ireturn, 1) := by decide +kernel
theorem dX11_fact_9 : decode cX11_fact 9 = .ok (.iconst 1, 1) := by decide +kernel
theorem dX11_fact_10 : decode cX11_fact 10 = .ok (.iload_n 1, 1) := by decide +kernel
theorem dX11_fact_11 : decode cX11_fact 11 = .ok (.ishl, 1) := by decide +kernel
theorem dX11_fact_12 : decode cX11_fact 12 = .ok (.istore_n 3, 1) := by decide +kernel
theorem dX11_fact_13 : decode cX11_fact 13 = .ok (.aload_n 0, 1) := by decide +kernel
theorem dX11_fact_14 : decode cX11_fact 14 = .ok (.getfield 84, 3) := by decide +kernel
theorem dX11_fact_17 : decode cX11_fact 17 = .ok (.iload_n 2, 1) := by decide +kernel
theorem dX11_fact_18 : decode cX11_fact 18 = .ok (.ifCond .eq 15, 3) := by decide +kernel
theorem dX11_fact_21 : decode cX11_fact 21 = .ok (.aload_n 0, 1) := by decide +kernel
theorem dX11_fact_22 : decode cX11_fact 22 = .ok (.getfield 84, 3) := by decide +kernel
theorem dX11_fact_25 : decode cX11_fact 25 = .ok (.getfield 105, 3) := by decide +kernel
theorem dX11_fact_28 : decode cX11_fact 28 = .ok (.iload_n 3, 1) := by decide +kernel
theorem dX11_fact_29 : decode cX11_fact 29 = .ok (.ior, 1) := by decide +kernel
theorem dX11_fact_30 : decode cX11_fact 30 = .ok (.goto 14, 3) := by decide +kernel
theorem dX11_fact_33 : decode cX11_fact 33 = .ok (.aload_n 0, 1) := by decide +kernel
theorem dX11_fact_34 : decode cX11_fact 34 = .ok (.getfield 84, 3) := by decide +kernel
theorem dX11_fact_37 : decode cX11_fact 37 = .ok (.getfield 105, 3) := by decide +kernel
theorem dX11_fact_40 : decode cX11_fact 40 = .ok (.iload_n 3, 1) := by decide +kernel
theorem dX11_fact_41 : decode cX11_fact 41 = .ok (.iconst (-1), 1) := by decide +kernel
theorem dX11_fact_42 : decode cX11_fact 42 = .ok (.ixor, 1) := by decide +kernel
theorem dX11_fact_43 : decode cX11_fact 43 = .ok (.iand, 1) := by decide +kernel
theorem dX11_fact_44 : decode cX11_fact 44 = .ok (.putfield 105, 3) := by decide +kernel
theorem dX11_fact_47 : decode cX11_fact 47 = .ok (.iconst 1, 1) := by decide +kernel
theorem dX11_fact_48 : decode cX11_fact 48 = .ok (.ireturn, 1) := by decide +kernel
def FX11_fact (hp : HP) (p0 : Nat) (p1 : Int32) (p2 : Int32) : Option (Int32 × HP) := (FX11_isFact p1).bind (fun v1 => if v1 = 0 then some ((0 : Int32), hp) else vl ((1 : Int32) <<< (p1 &&& 31)) (fun x2 => (gR [11] 12 hp p0).bind (fun v3 => jn (A := Int32) (fun a4 => (sI [6] 0 hp v3 a4).bind (fun hp6 => some ((1 : Int32), hp6))) (fun J5 => if p2 = 0 then (gR [11] 12 hp p0).bind (fun v7 => (gI [6] 0 hp v7).bind (fun v8 => vl (v8 &&& (x2 ^^^ (-1 : Int32))) (fun x9 => J5 x9))) else (gR [11] 12 hp p0).bind (fun v10 => (gI [6] 0 hp v10).bind (fun v11 => vl (v11 ||| x2) (fun x12 => J5 x12)))))))
set_option maxHeartbeats 4000000 in
set_option maxRecDepth 100000 in
theorem ctX11_fact (l : Launch) (D : va_G) (tg : Nat → ClassId) (bs : Nat) (sa : Nat → Nat) (hp : HP) (p0 : Nat) (p1 : Int32) (p2 : Int32) : Ct l D tg bs sa yX11_fact cX11_fact 4 (some .boolean) 1 [.ref p0, .int p1, .int p2] hp (FX11_fact hp p0 p1 p2) (fun r => some (.int r.1)) (fun r => r.2) := by
  refine Ct.of (by decide) (Nat.le_of_ble_eq_true rfl) ?_
  intro V Q hVl hVd hVt hVb hVs hC
  subst hVl; subst hVd; subst hVt; subst hVb; subst hVs
  unfold FX11_fact
  show Zs V Q (0, 0) 4 _ _ hp [(0, .ref p0), (1, .int p1), (2, .int p2)] 0 []
  refine z_iload_n hC 1 dX11_fact_0 rfl rfl ?_
  refine z_callSi hC lmRX11_101 (ctX11_isFact (vLa V) (vDa V) (vTg V) (vBs V) (vSa V) hp p1) (by decide) hn0 dX11_fact_1 rfl rfl (Nat.le_of_ble_eq_true rfl) (fun v1 => ?_)
  refine z_if_ne hC 9 dX11_fact_4 (by decide) (fun _ => ?_) (fun _ => ?_)
  · refine z_iconst hC (0 : Int32) dX11_fact_7 (by decide) ?_
    exact z_zret hC (by decide) (fun h => h) dX11_fact_8
  · refine z_iconst hC (1 : Int32) dX11_fact_9 (by decide) ?_
    refine z_iload_n hC 1 dX11_fact_10 rfl rfl ?_
    refine z_ishl hC dX11_fact_11 ?_
    refine z_vli (fun x2 => ?_)
    refine z_istore_n hC [(0, .ref p0), (1, .int p1), (2, .int p2), (3, .int x2)] [1, 2, 3, 0] dX11_fact_12 rfl (by decide) rfl ?_
    refine z_aload_n hC 0 dX11_fact_13 rfl rfl ?_
    refine z_getR hC lgRX11_84 dX11_fact_14 (fun v3 => ?_)
    refine z_iload_n hC 2 dX11_fact_17 rfl rfl ?_
    refine z_jn (A := Int32) (fun a4 => hp) (fun a4 => []) 44 (fun a4 => [.int a4, .ref v3]) (fun a4 => ?_) (fun J5 hJ5 => ?_)
    · refine z_putI hC lpRX11_105 dX11_fact_44 (fun hp6 => ?_)
      refine z_iconst hC (1 : Int32) dX11_fact_47 (by decide) ?_
      exact z_zret hC (by decide) (fun h => h) dX11_fact_48
    · refine z_if_eq hC 33 dX11_fact_18 (by decide) (fun _ => ?_) (fun _ => ?_)
      · refine z_aload_n hC 0 dX11_fact_33 rfl rfl ?_
        refine z_getR hC lgRX11_84 dX11_fact_34 (fun v7 => ?_)
        refine z_getI hC lgRX11_105 dX11_fact_37 (fun v8 => ?_)
        refine z_iload_n hC 3 dX11_fact_40 rfl rfl ?_
        refine z_iconst hC (-1 : Int32) dX11_fact_41 (by decide) ?_
        refine z_ixor hC dX11_fact_42 ?_
        refine z_iand hC dX11_fact_43 ?_
        refine z_vli (fun x9 => ?_)
        refine z_weak [] [] rfl ?_
        exact hJ5 x9
      · refine z_aload_n hC 0 dX11_fact_21 rfl rfl ?_
        refine z_getR hC lgRX11_84 dX11_fact_22 (fun v10 => ?_)
        refine z_getI hC lgRX11_105 dX11_fact_25 (fun v11 => ?_)
        refine z_iload_n hC 3 dX11_fact_28 rfl rfl ?_
        refine z_ior hC dX11_fact_29 ?_
        refine z_goto hC 44 dX11_fact_30 (by decide) ?_
        refine z_vli (fun x12 => ?_)
        refine z_weak [] [] rfl ?_
        exact hJ5 x12

theorem dX11_price_0 : decode cX11_price 0 = .ok (.iload_n 1, 1) := by decide +kernel
theorem dX11_price_1 : decode cX11_price 1 = .ok (.invokestatic 101, 3) := by decide +kernel
theorem dX11_price_4 : decode cX11_price 4 = .ok (.ifCond .eq 13, 3) := by decide +kernel
theorem dX11_price_7 : decode cX11_price 7 = .ok (.iload_n 2, 1) := by decide +kernel
theorem dX11_price_8 : decode cX11_price 8 = .ok (.ifCond .lt 9, 3) := by decide +kernel
theorem dX11_price_11 : decode cX11_price 11 = .ok (.iload_n 2, 1) := by decide +kernel
theorem dX11_price_12 : decode cX11_price 12 = .ok (.bipush 99, 2) := by decide +kernel
theorem dX11_price_14 : decode cX11_price 14 = .ok (.if_icmp .le 5, 3) := by decide +kernel
theorem dX11_price_17 : decode cX11_price 17 = .ok (.iconst 0, 1) := by decide +kernel
theorem dX11_price_18 : decode cX11_price 18 = .ok (.ireturn, 1) := by decide +kernel
theorem dX11_price_19 : decode cX11_price 19 = .ok (.aload_n 0, 1) := by decide +kernel
theorem dX11_price_20 : decode cX11_price 20 = .ok (.getfield 38, 3) := by decide +kernel
theorem dX11_price_23 : decode cX11_price 23 = .ok (.iload_n 1, 1) := by decide +kernel
theorem dX11_price_24 : decode cX11_price 24 = .ok (.iload_n 2, 1) := by decide +kernel
theorem dX11_price_25 : decode cX11_price 25 = .ok (.invokevirtual 109, 3) := by decide +kernel
theorem dX11_price_28 : decode cX11_price 28 = .ok (.iconst 1, 1) := by decide +kernel
theorem dX11_price_29 : decode cX11_price 29 = .ok (.ireturn, 1) := by decide +kernel
def FX11_price (hp : HP) (p0 : Nat) (p1 : Int32) (p2 : Int32) : Option (Int32 × HP) := (FX11_isFact p1).bind (fun v1 => if v1 = 0 then some ((0 : Int32), hp) else if p2 < 0 then some ((0 : Int32), hp) else if p2 ≤ (99 : Int32) then (gR [11] 4 hp p0).bind (fun v2 => (rc [3] hp v2 (FX3_set hp v2 p1 p2)).bind (fun w3 => some ((1 : Int32), w3))) else some ((0 : Int32), hp))
set_option maxHeartbeats 4000000 in
set_option maxRecDepth 100000 in
theorem ctX11_price (l : Launch) (D : va_G) (tg : Nat → ClassId) (bs : Nat) (sa : Nat → Nat) (hp : HP) (p0 : Nat) (p1 : Int32) (p2 : Int32) : Ct l D tg bs sa yX11_price cX11_price 3 (some .boolean) 4 [.ref p0, .int p1, .int p2] hp (FX11_price hp p0 p1 p2) (fun r => some (.int r.1)) (fun r => r.2) := by
  refine Ct.of (by decide) (Nat.le_of_ble_eq_true rfl) ?_
  intro V Q hVl hVd hVt hVb hVs hC
  subst hVl; subst hVd; subst hVt; subst hVb; subst hVs
  unfold FX11_price
  show Zs V Q (0, 0) 3 _ _ hp [(0, .ref p0), (1, .int p1), (2, .int p2)] 0 []
  refine z_iload_n hC 1 dX11_price_0 rfl rfl ?_
  refine z_callSi hC lmRX11_101 (ctX11_isFact (vLa V) (vDa V) (vTg V) (vBs V) (vSa V) hp p1) (by decide) hn0 dX11_price_1 rfl rfl (Nat.le_of_ble_eq_true rfl) (fun v1 => ?_)
  refine z_if_eq hC 17 dX11_price_4 (by decide) (fun _ => ?_) (fun _ => ?_)
  · refine z_iconst hC (0 : Int32) dX11_price_17 (by decide) ?_
    exact z_zret hC (by decide) (fun h => h) dX11_price_18
  · refine z_iload_n hC 2 dX11_price_7 rfl rfl ?_
    refine z_if_lt hC 17 dX11_price_8 (by decide) (fun _ => ?_) (fun _ => ?_)
    · refine z_iconst hC (0 : Int32) dX11_price_17 (by decide) ?_
      exact z_zret hC (by decide) (fun h => h) dX11_price_18
    · refine z_iload_n hC 2 dX11_price_11 rfl rfl ?_
      refine z_bipush hC (99 : Int32) dX11_price_12 (by decide) ?_
      refine z_icmp_le hC 19 dX11_price_14 (by decide) (fun _ => ?_) (fun _ => ?_)
      · refine z_aload_n hC 0 dX11_price_19 rfl rfl ?_
        refine z_getR hC lgRX11_38 dX11_price_20 (fun v2 => ?_)
        refine z_iload_n hC 1 dX11_price_23 rfl rfl ?_
        refine z_iload_n hC 2 dX11_price_24 rfl rfl ?_
        refine z_callVv hC (ci := 3) rfl lmRX11_109 (ctX3_set (vLa V) (vDa V) (vTg V) (vBs V) (vSa V) hp v2 p1 p2) (by decide) hn0 dX11_price_25 rfl rfl (Nat.le_of_ble_eq_true rfl) (fun w3 => ?_)
        refine z_iconst hC (1 : Int32) dX11_price_28 (by decide) ?_
        exact z_zret hC (by decide) (fun h => h) dX11_price_29
      · refine z_iconst hC (0 : Int32) dX11_price_17 (by decide) ?_
        exact z_zret hC (by decide) (fun h => h) dX11_price_18

theorem dX11_feed_0 : decode cX11_feed 0 = .ok (.aload_n 0, 1) := by decide +kernel
theorem dX11_feed_1 : decode cX11_feed 1 = .ok (.getfield 10, 3) := by decide +kernel
theorem dX11_feed_4 : decode cX11_feed 4 = .ok (.getfield 113, 3) := by decide +kernel
theorem dX11_feed_7 : decode cX11_feed 7 = .ok (.bipush 20, 2) := by decide +kernel
theorem dX11_feed_9 : decode cX11_feed 9 = .ok (.iadd, 1) := by decide +kernel
theorem dX11_feed_10 : decode cX11_feed 10 = .ok (.sipush 260, 3) := by decide +kernel
theorem dX11_feed_13 : decode cX11_feed 13 = .ok (.if_icmp .le 5, 3) := by decide +kernel
theorem dX11_feed_16 : decode cX11_feed 16 = .ok (.iconst (-1), 1) := by decide +kernel
theorem dX11_feed_17 : decode cX11_feed 17 = .ok (.ireturn, 1) := by decide +kernel
theorem dX11_feed_18 : decode cX11_feed 18 = .ok (.aload_n 0, 1) := by decide +kernel
theorem dX11_feed_19 : decode cX11_feed 19 = .ok (.getfield 10, 3) := by decide +kernel
theorem dX11_feed_22 : decode cX11_feed 22 = .ok (.iload_n 1, 1) := by decide +kernel
theorem dX11_feed_23 : decode cX11_feed 23 = .ok (.invokevirtual 116, 3) := by decide +kernel
theorem dX11_feed_26 : decode cX11_feed 26 = .ok (.aload_n 0, 1) := by decide +kernel
theorem dX11_feed_27 : decode cX11_feed 27 = .ok (.getfield 10, 3) := by decide +kernel
theorem dX11_feed_30 : decode cX11_feed 30 = .ok (.iload_n 2, 1) := by decide +kernel
theorem dX11_feed_31 : decode cX11_feed 31 = .ok (.invokevirtual 116, 3) := by decide +kernel
theorem dX11_feed_34 : decode cX11_feed 34 = .ok (.aload_n 0, 1) := by decide +kernel
theorem dX11_feed_35 : decode cX11_feed 35 = .ok (.getfield 10, 3) := by decide +kernel
theorem dX11_feed_38 : decode cX11_feed 38 = .ok (.iload_n 3, 1) := by decide +kernel
theorem dX11_feed_39 : decode cX11_feed 39 = .ok (.invokevirtual 116, 3) := by decide +kernel
theorem dX11_feed_42 : decode cX11_feed 42 = .ok (.aload_n 0, 1) := by decide +kernel
theorem dX11_feed_43 : decode cX11_feed 43 = .ok (.getfield 10, 3) := by decide +kernel
theorem dX11_feed_46 : decode cX11_feed 46 = .ok (.iload 4, 2) := by decide +kernel
theorem dX11_feed_48 : decode cX11_feed 48 = .ok (.invokevirtual 116, 3) := by decide +kernel
theorem dX11_feed_51 : decode cX11_feed 51 = .ok (.aload_n 0, 1) := by decide +kernel
theorem dX11_feed_52 : decode cX11_feed 52 = .ok (.getfield 10, 3) := by decide +kernel
theorem dX11_feed_55 : decode cX11_feed 55 = .ok (.iload 5, 2) := by decide +kernel
theorem dX11_feed_57 : decode cX11_feed 57 = .ok (.invokevirtual 116, 3) := by decide +kernel
theorem dX11_feed_60 : decode cX11_feed 60 = .ok (.aload_n 0, 1) := by decide +kernel
theorem dX11_feed_61 : decode cX11_feed 61 = .ok (.getfield 10, 3) := by decide +kernel
theorem dX11_feed_64 : decode cX11_feed 64 = .ok (.getfield 113, 3) := by decide +kernel
theorem dX11_feed_67 : decode cX11_feed 67 = .ok (.ireturn, 1) := by decide +kernel
def FX11_feed (hp : HP) (p0 : Nat) (p1 : Int32) (p2 : Int32) (p3 : Int32) (p4 : Int32) (p5 : Int32) : Option (Int32 × HP) := (gR [11] 0 hp p0).bind (fun v1 => (gI [8] 1 hp v1).bind (fun v2 => if (v2 + (20 : Int32)) ≤ (260 : Int32) then (gR [11] 0 hp p0).bind (fun v3 => (rc [8] hp v3 (FX8_add hp v3 p1)).bind (fun w4 => (gR [11] 0 w4 p0).bind (fun v5 => (rc [8] w4 v5 (FX8_add w4 v5 p2)).bind (fun w6 => (gR [11] 0 w6 p0).bind (fun v7 => (rc [8] w6 v7 (FX8_add w6 v7 p3)).bind (fun w8 => (gR [11] 0 w8 p0).bind (fun v9 => (rc [8] w8 v9 (FX8_add w8 v9 p4)).bind (fun w10 => (gR [11] 0 w10 p0).bind (fun v11 => (rc [8] w10 v11 (FX8_add w10 v11 p5)).bind (fun w12 => (gR [11] 0 w12 p0).bind (fun v13 => (gI [8] 1 w12 v13).bind (fun v14 => some (v14, w12))))))))))))) else some ((-1 : Int32), hp)))
set_option maxHeartbeats 4000000 in
set_option maxRecDepth 100000 in
theorem ctX11_feed (l : Launch) (D : va_G) (tg : Nat → ClassId) (bs : Nat) (sa : Nat → Nat) (hp : HP) (p0 : Nat) (p1 : Int32) (p2 : Int32) (p3 : Int32) (p4 : Int32) (p5 : Int32) : Ct l D tg bs sa yX11_feed cX11_feed 6 (some .int) 1 [.ref p0, .int p1, .int p2, .int p3, .int p4, .int p5] hp (FX11_feed hp p0 p1 p2 p3 p4 p5) (fun r => some (.int r.1)) (fun r => r.2) := by
  refine Ct.of (by decide) (Nat.le_of_ble_eq_true rfl) ?_
  intro V Q hVl hVd hVt hVb hVs hC
  subst hVl; subst hVd; subst hVt; subst hVb; subst hVs
  unfold FX11_feed
  show Zs V Q (0, 0) 6 _ _ hp [(0, .ref p0), (1, .int p1), (2, .int p2), (3, .int p3), (4, .int p4), (5, .int p5)] 0 []
  refine z_aload_n hC 0 dX11_feed_0 rfl rfl ?_
  refine z_getR hC lgRX11_10 dX11_feed_1 (fun v1 => ?_)
  refine z_getI hC lgRX11_113 dX11_feed_4 (fun v2 => ?_)
  refine z_bipush hC (20 : Int32) dX11_feed_7 (by decide) ?_
  refine z_iadd hC dX11_feed_9 ?_
  refine z_sipush hC (260 : Int32) dX11_feed_10 (by decide) ?_
  refine z_icmp_le hC 18 dX11_feed_13 (by decide) (fun _ => ?_) (fun _ => ?_)
  · refine z_aload_n hC 0 dX11_feed_18 rfl rfl ?_
    refine z_getR hC lgRX11_10 dX11_feed_19 (fun v3 => ?_)
    refine z_iload_n hC 1 dX11_feed_22 rfl rfl ?_
    refine z_callVv hC (ci := 8) rfl lmRX11_116 (ctX8_add (vLa V) (vDa V) (vTg V) (vBs V) (vSa V) hp v3 p1) (by decide) hn0 dX11_feed_23 rfl rfl (Nat.le_of_ble_eq_true rfl) (fun w4 => ?_)
    refine z_aload_n hC 0 dX11_feed_26 rfl rfl ?_
    refine z_getR hC lgRX11_10 dX11_feed_27 (fun v5 => ?_)
    refine z_iload_n hC 2 dX11_feed_30 rfl rfl ?_
    refine z_callVv hC (ci := 8) rfl lmRX11_116 (ctX8_add (vLa V) (vDa V) (vTg V) (vBs V) (vSa V) w4 v5 p2) (by decide) hn0 dX11_feed_31 rfl rfl (Nat.le_of_ble_eq_true rfl) (fun w6 => ?_)
    refine z_aload_n hC 0 dX11_feed_34 rfl rfl ?_
    refine z_getR hC lgRX11_10 dX11_feed_35 (fun v7 => ?_)
    refine z_iload_n hC 3 dX11_feed_38 rfl rfl ?_
    refine z_callVv hC (ci := 8) rfl lmRX11_116 (ctX8_add (vLa V) (vDa V) (vTg V) (vBs V) (vSa V) w6 v7 p3) (by decide) hn0 dX11_feed_39 rfl rfl (Nat.le_of_ble_eq_true rfl) (fun w8 => ?_)
    refine z_aload_n hC 0 dX11_feed_42 rfl rfl ?_
    refine z_getR hC lgRX11_10 dX11_feed_43 (fun v9 => ?_)
    refine z_iload hC 4 dX11_feed_46 rfl ?_
    refine z_callVv hC (ci := 8) rfl lmRX11_116 (ctX8_add (vLa V) (vDa V) (vTg V) (vBs V) (vSa V) w8 v9 p4) (by decide) hn0 dX11_feed_48 rfl rfl (Nat.le_of_ble_eq_true rfl) (fun w10 => ?_)
    refine z_aload_n hC 0 dX11_feed_51 rfl rfl ?_
    refine z_getR hC lgRX11_10 dX11_feed_52 (fun v11 => ?_)
    refine z_iload hC 5 dX11_feed_55 rfl ?_
    refine z_callVv hC (ci := 8) rfl lmRX11_116 (ctX8_add (vLa V) (vDa V) (vTg V) (vBs V) (vSa V) w10 v11 p5) (by decide) hn0 dX11_feed_57 rfl rfl (Nat.le_of_ble_eq_true rfl) (fun w12 => ?_)
    refine z_aload_n hC 0 dX11_feed_60 rfl rfl ?_
    refine z_getR hC lgRX11_10 dX11_feed_61 (fun v13 => ?_)
    refine z_getI hC lgRX11_113 dX11_feed_64 (fun v14 => ?_)
    exact z_iret hC (fun h => h) dX11_feed_67
  · refine z_iconst hC (-1 : Int32) dX11_feed_16 (by decide) ?_
    exact z_iret hC (fun h => h) dX11_feed_17

theorem dX11_law_0 : decode cX11_law 0 = .ok (.iload_n 1, 1) := by decide +kernel
theorem dX11_law_1 : decode cX11_law 1 = .ok (.iconst 1, 1) := by decide +kernel
theorem dX11_law_2 : decode cX11_law 2 = .ok (.if_icmp .lt 21, 3) := by decide +kernel
theorem dX11_law_5 : decode cX11_law 5 = .ok (.iload_n 1, 1) := by decide +kernel
theorem dX11_law_6 : decode cX11_law 6 = .ok (.sipush 240, 3) := by decide +kernel
theorem dX11_law_9 : decode cX11_law 9 = .ok (.if_icmp .gt 14, 3) := by decide +kernel
theorem dX11_law_12 : decode cX11_law 12 = .ok (.iload_n 1, 1) := by decide +kernel
theorem dX11_law_13 : decode cX11_law 13 = .ok (.aload_n 0, 1) := by decide +kernel
theorem dX11_law_14 : decode cX11_law 14 = .ok (.getfield 10, 3) := by decide +kernel
theorem dX11_law_17 : decode cX11_law 17 = .ok (.getfield 113, 3) := by decide +kernel
theorem dX11_law_20 : decode cX11_law 20 = .ok (.if_icmp .le 5, 3) := by decide +kernel
theorem dX11_law_23 : decode cX11_law 23 = .ok (.iconst (-1), 1) := by decide +kernel
theorem dX11_law_24 : decode cX11_law 24 = .ok (.ireturn, 1) := by decide +kernel
theorem dX11_law_25 : decode cX11_law 25 = .ok (.aload_n 0, 1) := by decide +kernel
theorem dX11_law_26 : decode cX11_law 26 = .ok (.getfield 91, 3) := by decide +kernel
theorem dX11_law_29 : decode cX11_law 29 = .ok (.iload_n 1, 1) := by decide +kernel
theorem dX11_law_30 : decode cX11_law 30 = .ok (.invokevirtual 120, 3) := by decide +kernel
theorem dX11_law_33 : decode cX11_law 33 = .ok (.istore_n 2, 1) := by decide +kernel
theorem dX11_law_34 : decode cX11_law 34 = .ok (.aload_n 0, 1) := by decide +kernel
theorem dX11_law_35 : decode cX11_law 35 = .ok (.getfield 10, 3) := by decide +kernel
theorem dX11_law_38 : decode cX11_law 38 = .ok (.iconst 0, 1) := by decide +kernel
theorem dX11_law_39 : decode cX11_law 39 = .ok (.putfield 113, 3) := by decide +kernel
theorem dX11_law_42 : decode cX11_law 42 = .ok (.iload_n 2, 1) := by decide +kernel
theorem dX11_law_43 : decode cX11_law 43 = .ok (.ifCond .le 27, 3) := by decide +kernel
theorem dX11_law_46 : decode cX11_law 46 = .ok (.aload_n 0, 1) := by decide +kernel
theorem dX11_law_47 : decode cX11_law 47 = .ok (.getfield 63, 3) := by decide +kernel
theorem dX11_law_50 : decode cX11_law 50 = .ok (.getfield 124, 3) := by decide +kernel
theorem dX11_law_53 : decode cX11_law 53 = .ok (.astore_n 3, 1) := by decide +kernel
theorem dX11_law_54 : decode cX11_law 54 = .ok (.aload_n 0, 1) := by decide +kernel
theorem dX11_law_55 : decode cX11_law 55 = .ok (.getfield 63, 3) := by decide +kernel
theorem dX11_law_58 : decode cX11_law 58 = .ok (.aload_n 0, 1) := by decide +kernel
theorem dX11_law_59 : decode cX11_law 59 = .ok (.getfield 91, 3) := by decide +kernel
theorem dX11_law_62 : decode cX11_law 62 = .ok (.putfield 124, 3) := by decide +kernel
theorem dX11_law_65 : decode cX11_law 65 = .ok (.aload_n 0, 1) := by decide +kernel
theorem dX11_law_66 : decode cX11_law 66 = .ok (.aload_n 3, 1) := by decide +kernel
theorem dX11_law_67 : decode cX11_law 67 = .ok (.putfield 91, 3) := by decide +kernel
theorem dX11_law_70 : decode cX11_law 70 = .ok (.iload_n 2, 1) := by decide +kernel
theorem dX11_law_71 : decode cX11_law 71 = .ok (.ireturn, 1) := by decide +kernel
def FX11_law (hp : HP) (p0 : Nat) (p1 : Int32) : Option (Int32 × HP) := if p1 < (1 : Int32) then some ((-1 : Int32), hp) else if (240 : Int32) < p1 then some ((-1 : Int32), hp) else (gR [11] 0 hp p0).bind (fun v1 => (gI [8] 1 hp v1).bind (fun v2 => if p1 ≤ v2 then (gR [11] 15 hp p0).bind (fun v3 => (rc [2] hp v3 (FX2_read hp v3 p1)).bind (fun w4 => (gR [11] 0 w4.2 p0).bind (fun v5 => (sI [8] 1 w4.2 v5 (0 : Int32)).bind (fun hp6 => if w4.1 ≤ 0 then some (w4.1, hp6) else (gR [11] 9 hp6 p0).bind (fun v7 => (gR [5] 0 hp6 v7).bind (fun v8 => (gR [11] 9 hp6 p0).bind (fun v9 => (gR [11] 15 hp6 p0).bind (fun v10 => (sR [5] 0 hp6 v9 v10).bind (fun hp11 => (sR [11] 15 hp11 p0 v8).bind (fun hp12 => some (w4.1, hp12))))))))))) else some ((-1 : Int32), hp)))
set_option maxHeartbeats 4000000 in
set_option maxRecDepth 100000 in
theorem ctX11_law (l : Launch) (D : va_G) (tg : Nat → ClassId) (bs : Nat) (sa : Nat → Nat) (hp : HP) (p0 : Nat) (p1 : Int32) : Ct l D tg bs sa yX11_law cX11_law 4 (some .int) 49 [.ref p0, .int p1] hp (FX11_law hp p0 p1) (fun r => some (.int r.1)) (fun r => r.2) := by
  refine Ct.of (by decide) (Nat.le_of_ble_eq_true rfl) ?_
  intro V Q hVl hVd hVt hVb hVs hC
  subst hVl; subst hVd; subst hVt; subst hVb; subst hVs
  unfold FX11_law
  show Zs V Q (0, 0) 4 _ _ hp [(0, .ref p0), (1, .int p1)] 0 []
  refine z_iload_n hC 1 dX11_law_0 rfl rfl ?_
  refine z_iconst hC (1 : Int32) dX11_law_1 (by decide) ?_
  refine z_icmp_lt hC 23 dX11_law_2 (by decide) (fun _ => ?_) (fun _ => ?_)
  · refine z_iconst hC (-1 : Int32) dX11_law_23 (by decide) ?_
    exact z_iret hC (fun h => h) dX11_law_24
  · refine z_iload_n hC 1 dX11_law_5 rfl rfl ?_
    refine z_sipush hC (240 : Int32) dX11_law_6 (by decide) ?_
    refine z_icmp_gt hC 23 dX11_law_9 (by decide) (fun _ => ?_) (fun _ => ?_)
    · refine z_iconst hC (-1 : Int32) dX11_law_23 (by decide) ?_
      exact z_iret hC (fun h => h) dX11_law_24
    · refine z_iload_n hC 1 dX11_law_12 rfl rfl ?_
      refine z_aload_n hC 0 dX11_law_13 rfl rfl ?_
      refine z_getR hC lgRX11_10 dX11_law_14 (fun v1 => ?_)
      refine z_getI hC lgRX11_113 dX11_law_17 (fun v2 => ?_)
      refine z_icmp_le hC 25 dX11_law_20 (by decide) (fun _ => ?_) (fun _ => ?_)
      · refine z_aload_n hC 0 dX11_law_25 rfl rfl ?_
        refine z_getR hC lgRX11_91 dX11_law_26 (fun v3 => ?_)
        refine z_iload_n hC 1 dX11_law_29 rfl rfl ?_
        refine z_callVi hC (ci := 2) rfl lmRX11_120 (ctX2_read (vLa V) (vDa V) (vTg V) (vBs V) (vSa V) hp v3 p1) (by decide) hn0 dX11_law_30 rfl rfl (Nat.le_of_ble_eq_true rfl) (fun w4 => ?_)
        refine z_istore_n hC [(0, .ref p0), (1, .int p1), (2, .int w4.1)] [1, 2, 0] dX11_law_33 rfl (by decide) rfl ?_
        refine z_aload_n hC 0 dX11_law_34 rfl rfl ?_
        refine z_getR hC lgRX11_10 dX11_law_35 (fun v5 => ?_)
        refine z_iconst hC (0 : Int32) dX11_law_38 (by decide) ?_
        refine z_putI hC lpRX11_113 dX11_law_39 (fun hp6 => ?_)
        refine z_iload_n hC 2 dX11_law_42 rfl rfl ?_
        refine z_if_le hC 70 dX11_law_43 (by decide) (fun _ => ?_) (fun _ => ?_)
        · refine z_iload_n hC 2 dX11_law_70 rfl rfl ?_
          exact z_iret hC (fun h => h) dX11_law_71
        · refine z_aload_n hC 0 dX11_law_46 rfl rfl ?_
          refine z_getR hC lgRX11_63 dX11_law_47 (fun v7 => ?_)
          refine z_getR hC lgRX11_124 dX11_law_50 (fun v8 => ?_)
          refine z_astore_n hC [(0, .ref p0), (1, .int p1), (2, .int w4.1), (3, .ref v8)] [1, 2, 3, 0] dX11_law_53 rfl (by decide) rfl ?_
          refine z_aload_n hC 0 dX11_law_54 rfl rfl ?_
          refine z_getR hC lgRX11_63 dX11_law_55 (fun v9 => ?_)
          refine z_aload_n hC 0 dX11_law_58 rfl rfl ?_
          refine z_getR hC lgRX11_91 dX11_law_59 (fun v10 => ?_)
          refine z_putR hC lpRX11_124 dX11_law_62 (fun hp11 => ?_)
          refine z_aload_n hC 0 dX11_law_65 rfl rfl ?_
          refine z_aload_n hC 3 dX11_law_66 rfl rfl ?_
          refine z_putR hC lpRX11_91 dX11_law_67 (fun hp12 => ?_)
          refine z_iload_n hC 2 dX11_law_70 rfl rfl ?_
          exact z_iret hC (fun h => h) dX11_law_71
      · refine z_iconst hC (-1 : Int32) dX11_law_23 (by decide) ?_
        exact z_iret hC (fun h => h) dX11_law_24

theorem dX11_tell_0 : decode cX11_tell 0 = .ok (.iload_n 2, 1) := by decide +kernel
theorem dX11_tell_1 : decode cX11_tell 1 = .ok (.ifCond .lt 31, 3) := by decide +kernel
theorem dX11_tell_4 : decode cX11_tell 4 = .ok (.iload_n 2, 1) := by decide +kernel
theorem dX11_tell_5 : decode cX11_tell 5 = .ok (.bipush 8, 2) := by decide +kernel
theorem dX11_tell_7 : decode cX11_tell 7 = .ok (.if_icmp .ge 25, 3) := by decide +kernel
theorem dX11_tell_10 : decode cX11_tell 10 = .ok (.iload_n 3, 1) := by decide +kernel
theorem dX11_tell_11 : decode cX11_tell 11 = .ok (.iconst 1, 1) := by decide +kernel
theorem dX11_tell_12 : decode cX11_tell 12 = .ok (.if_icmp .lt 20, 3) := by decide +kernel
theorem dX11_tell_15 : decode cX11_tell 15 = .ok (.iload_n 3, 1) := by decide +kernel
theorem dX11_tell_16 : decode cX11_tell 16 = .ok (.bipush 100, 2) := by decide +kernel
theorem dX11_tell_18 : decode cX11_tell 18 = .ok (.if_icmp .gt 14, 3) := by decide +kernel
theorem dX11_tell_21 : decode cX11_tell 21 = .ok (.iload_n 3, 1) := by decide +kernel
theorem dX11_tell_22 : decode cX11_tell 22 = .ok (.aload_n 0, 1) := by decide +kernel
theorem dX11_tell_23 : decode cX11_tell 23 = .ok (.getfield 10, 3) := by decide +kernel
theorem dX11_tell_26 : decode cX11_tell 26 = .ok (.getfield 113, 3) := by decide +kernel
theorem dX11_tell_29 : decode cX11_tell 29 = .ok (.if_icmp .le 5, 3) := by decide +kernel
theorem dX11_tell_32 : decode cX11_tell 32 = .ok (.iconst (-1), 1) := by decide +kernel
theorem dX11_tell_33 : decode cX11_tell 33 = .ok (.ireturn, 1) := by decide +kernel
theorem dX11_tell_34 : decode cX11_tell 34 = .ok (.aload_n 0, 1) := by decide +kernel
theorem dX11_tell_35 : decode cX11_tell 35 = .ok (.getfield 21, 3) := by decide +kernel
theorem dX11_tell_38 : decode cX11_tell 38 = .ok (.iload_n 3, 1) := by decide +kernel
theorem dX11_tell_39 : decode cX11_tell 39 = .ok (.invokevirtual 359, 3) := by decide +kernel
theorem dX11_tell_42 : decode cX11_tell 42 = .ok (.istore 4, 2) := by decide +kernel
theorem dX11_tell_44 : decode cX11_tell 44 = .ok (.aload_n 0, 1) := by decide +kernel
theorem dX11_tell_45 : decode cX11_tell 45 = .ok (.getfield 10, 3) := by decide +kernel
theorem dX11_tell_48 : decode cX11_tell 48 = .ok (.iconst 0, 1) := by decide +kernel
theorem dX11_tell_49 : decode cX11_tell 49 = .ok (.putfield 113, 3) := by decide +kernel
theorem dX11_tell_52 : decode cX11_tell 52 = .ok (.iload 4, 2) := by decide +kernel
theorem dX11_tell_54 : decode cX11_tell 54 = .ok (.ifCond .eq 6, 3) := by decide +kernel
theorem dX11_tell_57 : decode cX11_tell 57 = .ok (.iload 4, 2) := by decide +kernel
theorem dX11_tell_59 : decode cX11_tell 59 = .ok (.ireturn, 1) := by decide +kernel
theorem dX11_tell_60 : decode cX11_tell 60 = .ok (.aload_n 1, 1) := by decide +kernel
theorem dX11_tell_61 : decode cX11_tell 61 = .ok (.iload_n 2, 1) := by decide +kernel
theorem dX11_tell_62 : decode cX11_tell 62 = .ok (.aload_n 0, 1) := by decide +kernel
theorem dX11_tell_63 : decode cX11_tell 63 = .ok (.getfield 21, 3) := by decide +kernel
theorem dX11_tell_66 : decode cX11_tell 66 = .ok (.getfield 360, 3) := by decide +kernel
theorem dX11_tell_69 : decode cX11_tell 69 = .ok (.invokevirtual 363, 3) := by decide +kernel
theorem dX11_tell_72 : decode cX11_tell 72 = .ok (.aload_n 0, 1) := by decide +kernel
theorem dX11_tell_73 : decode cX11_tell 73 = .ok (.getfield 21, 3) := by decide +kernel
theorem dX11_tell_76 : decode cX11_tell 76 = .ok (.getfield 360, 3) := by decide +kernel
theorem dX11_tell_79 : decode cX11_tell 79 = .ok (.invokestatic 173, 3) := by decide +kernel
theorem dX11_tell_82 : decode cX11_tell 82 = .ok (.ireturn, 1) := by decide +kernel
def FX11_tell (hp : HP) (p0 : Nat) (p1 : Nat) (p2 : Int32) (p3 : Int32) : Option (Int32 × HP) := if p2 < 0 then some ((-1 : Int32), hp) else if (8 : Int32) ≤ p2 then some ((-1 : Int32), hp) else if p3 < (1 : Int32) then some ((-1 : Int32), hp) else if (100 : Int32) < p3 then some ((-1 : Int32), hp) else (gR [11] 0 hp p0).bind (fun v1 => (gI [8] 1 hp v1).bind (fun v2 => if p3 ≤ v2 then (gR [11] 1 hp p0).bind (fun v3 => (rc [1] hp v3 (FX1_read hp v3 p3)).bind (fun w4 => (gR [11] 0 w4.2 p0).bind (fun v5 => (sI [8] 1 w4.2 v5 (0 : Int32)).bind (fun hp6 => if w4.1 = 0 then (gR [11] 1 hp6 p0).bind (fun v7 => (gR [1] 4 hp6 v7).bind (fun v8 => (rc [0] hp6 p1 (FX0_write hp6 p1 p2 v8)).bind (fun w9 => (gR [11] 1 w9 p0).bind (fun v10 => (gR [1] 4 w9 v10).bind (fun v11 => (FX7_size w9 v11).bind (fun v12 => some (v12, w9))))))) else some (w4.1, hp6))))) else some ((-1 : Int32), hp)))
set_option maxHeartbeats 4000000 in
set_option maxRecDepth 100000 in
theorem ctX11_tell (l : Launch) (D : va_G) (tg : Nat → ClassId) (bs : Nat) (sa : Nat → Nat) (hp : HP) (p0 : Nat) (p1 : Nat) (p2 : Int32) (p3 : Int32) : Ct l D tg bs sa yX11_tell cX11_tell 5 (some .int) 34 [.ref p0, .ref p1, .int p2, .int p3] hp (FX11_tell hp p0 p1 p2 p3) (fun r => some (.int r.1)) (fun r => r.2) := by
  refine Ct.of (by decide) (Nat.le_of_ble_eq_true rfl) ?_
  intro V Q hVl hVd hVt hVb hVs hC
  subst hVl; subst hVd; subst hVt; subst hVb; subst hVs
  unfold FX11_tell
  show Zs V Q (0, 0) 5 _ _ hp [(0, .ref p0), (1, .ref p1), (2, .int p2), (3, .int p3)] 0 []
  refine z_iload_n hC 2 dX11_tell_0 rfl rfl ?_
  refine z_if_lt hC 32 dX11_tell_1 (by decide) (fun _ => ?_) (fun _ => ?_)
  · refine z_iconst hC (-1 : Int32) dX11_tell_32 (by decide) ?_
    exact z_iret hC (fun h => h) dX11_tell_33
  · refine z_iload_n hC 2 dX11_tell_4 rfl rfl ?_
    refine z_bipush hC (8 : Int32) dX11_tell_5 (by decide) ?_
    refine z_icmp_ge hC 32 dX11_tell_7 (by decide) (fun _ => ?_) (fun _ => ?_)
    · refine z_iconst hC (-1 : Int32) dX11_tell_32 (by decide) ?_
      exact z_iret hC (fun h => h) dX11_tell_33
    · refine z_iload_n hC 3 dX11_tell_10 rfl rfl ?_
      refine z_iconst hC (1 : Int32) dX11_tell_11 (by decide) ?_
      refine z_icmp_lt hC 32 dX11_tell_12 (by decide) (fun _ => ?_) (fun _ => ?_)
      · refine z_iconst hC (-1 : Int32) dX11_tell_32 (by decide) ?_
        exact z_iret hC (fun h => h) dX11_tell_33
      · refine z_iload_n hC 3 dX11_tell_15 rfl rfl ?_
        refine z_bipush hC (100 : Int32) dX11_tell_16 (by decide) ?_
        refine z_icmp_gt hC 32 dX11_tell_18 (by decide) (fun _ => ?_) (fun _ => ?_)
        · refine z_iconst hC (-1 : Int32) dX11_tell_32 (by decide) ?_
          exact z_iret hC (fun h => h) dX11_tell_33
        · refine z_iload_n hC 3 dX11_tell_21 rfl rfl ?_
          refine z_aload_n hC 0 dX11_tell_22 rfl rfl ?_
          refine z_getR hC lgRX11_10 dX11_tell_23 (fun v1 => ?_)
          refine z_getI hC lgRX11_113 dX11_tell_26 (fun v2 => ?_)
          refine z_icmp_le hC 34 dX11_tell_29 (by decide) (fun _ => ?_) (fun _ => ?_)
          · refine z_aload_n hC 0 dX11_tell_34 rfl rfl ?_
            refine z_getR hC lgRX11_21 dX11_tell_35 (fun v3 => ?_)
            refine z_iload_n hC 3 dX11_tell_38 rfl rfl ?_
            refine z_callVi hC (ci := 1) rfl lmRX11_359 (ctX1_read (vLa V) (vDa V) (vTg V) (vBs V) (vSa V) hp v3 p3) (by decide) hn0 dX11_tell_39 rfl rfl (Nat.le_of_ble_eq_true rfl) (fun w4 => ?_)
            refine z_istore hC [(0, .ref p0), (1, .ref p1), (2, .int p2), (3, .int p3), (4, .int w4.1)] [1, 2, 3, 4, 0] dX11_tell_42 (by decide) rfl ?_
            refine z_aload_n hC 0 dX11_tell_44 rfl rfl ?_
            refine z_getR hC lgRX11_10 dX11_tell_45 (fun v5 => ?_)
            refine z_iconst hC (0 : Int32) dX11_tell_48 (by decide) ?_
            refine z_putI hC lpRX11_113 dX11_tell_49 (fun hp6 => ?_)
            refine z_iload hC 4 dX11_tell_52 rfl ?_
            refine z_if_eq hC 60 dX11_tell_54 (by decide) (fun _ => ?_) (fun _ => ?_)
            · refine z_aload_n hC 1 dX11_tell_60 rfl rfl ?_
              refine z_iload_n hC 2 dX11_tell_61 rfl rfl ?_
              refine z_aload_n hC 0 dX11_tell_62 rfl rfl ?_
              refine z_getR hC lgRX11_21 dX11_tell_63 (fun v7 => ?_)
              refine z_getR hC lgRX11_360 dX11_tell_66 (fun v8 => ?_)
              refine z_callVv hC (ci := 0) rfl lmRX11_363 (ctX0_write (vLa V) (vDa V) (vTg V) (vBs V) (vSa V) hp6 p1 p2 v8) (by decide) hn0 dX11_tell_69 rfl rfl (Nat.le_of_ble_eq_true rfl) (fun w9 => ?_)
              refine z_aload_n hC 0 dX11_tell_72 rfl rfl ?_
              refine z_getR hC lgRX11_21 dX11_tell_73 (fun v10 => ?_)
              refine z_getR hC lgRX11_360 dX11_tell_76 (fun v11 => ?_)
              refine z_callSi hC lmRX11_173 (ctX7_size (vLa V) (vDa V) (vTg V) (vBs V) (vSa V) w9 v11) (by decide) hn0 dX11_tell_79 rfl rfl (Nat.le_of_ble_eq_true rfl) (fun v12 => ?_)
              exact z_iret hC (fun h => h) dX11_tell_82
            · refine z_iload hC 4 dX11_tell_57 rfl ?_
              exact z_iret hC (fun h => h) dX11_tell_59
          · refine z_iconst hC (-1 : Int32) dX11_tell_32 (by decide) ?_
            exact z_iret hC (fun h => h) dX11_tell_33

theorem dX11_wish_0 : decode cX11_wish 0 = .ok (.aload_n 0, 1) := by decide +kernel
theorem dX11_wish_1 : decode cX11_wish 1 = .ok (.aload_n 0, 1) := by decide +kernel
theorem dX11_wish_2 : decode cX11_wish 2 = .ok (.getfield 28, 3) := by decide +kernel
theorem dX11_wish_5 : decode cX11_wish 5 = .ok (.iload_n 1, 1) := by decide +kernel
theorem dX11_wish_6 : decode cX11_wish 6 = .ok (.iload_n 2, 1) := by decide +kernel
theorem dX11_wish_7 : decode cX11_wish 7 = .ok (.invokevirtual 127, 3) := by decide +kernel
theorem dX11_wish_10 : decode cX11_wish 10 = .ok (.istore_n 3, 1) := by decide +kernel
theorem dX11_wish_11 : decode cX11_wish 11 = .ok (.iload_n 3, 1) := by decide +kernel
theorem dX11_wish_12 : decode cX11_wish 12 = .ok (.ifCond .lt 20, 3) := by decide +kernel
theorem dX11_wish_15 : decode cX11_wish 15 = .ok (.aload_n 0, 1) := by decide +kernel
theorem dX11_wish_16 : decode cX11_wish 16 = .ok (.getfield 84, 3) := by decide +kernel
theorem dX11_wish_19 : decode cX11_wish 19 = .ok (.dup, 1) := by decide +kernel
theorem dX11_wish_20 : decode cX11_wish 20 = .ok (.getfield 131, 3) := by decide +kernel
theorem dX11_wish_23 : decode cX11_wish 23 = .ok (.iconst 1, 1) := by decide +kernel
theorem dX11_wish_24 : decode cX11_wish 24 = .ok (.iload_n 1, 1) := by decide +kernel
theorem dX11_wish_25 : decode cX11_wish 25 = .ok (.ishl, 1) := by decide +kernel
theorem dX11_wish_26 : decode cX11_wish 26 = .ok (.iconst (-1), 1) := by decide +kernel
theorem dX11_wish_27 : decode cX11_wish 27 = .ok (.ixor, 1) := by decide +kernel
theorem dX11_wish_28 : decode cX11_wish 28 = .ok (.iand, 1) := by decide +kernel
theorem dX11_wish_29 : decode cX11_wish 29 = .ok (.putfield 131, 3) := by decide +kernel
theorem dX11_wish_32 : decode cX11_wish 32 = .ok (.iload_n 3, 1) := by decide +kernel
theorem dX11_wish_33 : decode cX11_wish 33 = .ok (.ireturn, 1) := by decide +kernel
def FX11_wish (hp : HP) (p0 : Nat) (p1 : Int32) (p2 : Int32) : Option (Int32 × HP) := (gR [11] 2 hp p0).bind (fun v1 => (rc [11] hp p0 (FX11_tell hp p0 v1 p1 p2)).bind (fun w2 => if w2.1 < 0 then some (w2.1, w2.2) else (gR [11] 12 w2.2 p0).bind (fun v3 => (gI [6] 4 w2.2 v3).bind (fun v4 => (sI [6] 4 w2.2 v3 (v4 &&& (((1 : Int32) <<< (p1 &&& 31)) ^^^ (-1 : Int32)))).bind (fun hp5 => some (w2.1, hp5))))))
set_option maxHeartbeats 4000000 in
set_option maxRecDepth 100000 in
theorem ctX11_wish (l : Launch) (D : va_G) (tg : Nat → ClassId) (bs : Nat) (sa : Nat → Nat) (hp : HP) (p0 : Nat) (p1 : Int32) (p2 : Int32) : Ct l D tg bs sa yX11_wish cX11_wish 4 (some .int) 35 [.ref p0, .int p1, .int p2] hp (FX11_wish hp p0 p1 p2) (fun r => some (.int r.1)) (fun r => r.2) := by
  refine Ct.of (by decide) (Nat.le_of_ble_eq_true rfl) ?_
  intro V Q hVl hVd hVt hVb hVs hC
  subst hVl; subst hVd; subst hVt; subst hVb; subst hVs
  unfold FX11_wish
  show Zs V Q (0, 0) 4 _ _ hp [(0, .ref p0), (1, .int p1), (2, .int p2)] 0 []
  refine z_aload_n hC 0 dX11_wish_0 rfl rfl ?_
  refine z_aload_n hC 0 dX11_wish_1 rfl rfl ?_
  refine z_getR hC lgRX11_28 dX11_wish_2 (fun v1 => ?_)
  refine z_iload_n hC 1 dX11_wish_5 rfl rfl ?_
  refine z_iload_n hC 2 dX11_wish_6 rfl rfl ?_
  refine z_callVi hC (ci := 11) rfl lmRX11_127 (ctX11_tell (vLa V) (vDa V) (vTg V) (vBs V) (vSa V) hp p0 v1 p1 p2) (by decide) hn0 dX11_wish_7 rfl rfl (Nat.le_of_ble_eq_true rfl) (fun w2 => ?_)
  refine z_istore_n hC [(0, .ref p0), (1, .int p1), (2, .int p2), (3, .int w2.1)] [1, 2, 3, 0] dX11_wish_10 rfl (by decide) rfl ?_
  refine z_iload_n hC 3 dX11_wish_11 rfl rfl ?_
  refine z_if_lt hC 32 dX11_wish_12 (by decide) (fun _ => ?_) (fun _ => ?_)
  · refine z_iload_n hC 3 dX11_wish_32 rfl rfl ?_
    exact z_iret hC (fun h => h) dX11_wish_33
  · refine z_aload_n hC 0 dX11_wish_15 rfl rfl ?_
    refine z_getR hC lgRX11_84 dX11_wish_16 (fun v3 => ?_)
    refine z_dup hC dX11_wish_19 rfl ?_
    refine z_getI hC lgRX11_131 dX11_wish_20 (fun v4 => ?_)
    refine z_iconst hC (1 : Int32) dX11_wish_23 (by decide) ?_
    refine z_iload_n hC 1 dX11_wish_24 rfl rfl ?_
    refine z_ishl hC dX11_wish_25 ?_
    refine z_iconst hC (-1 : Int32) dX11_wish_26 (by decide) ?_
    refine z_ixor hC dX11_wish_27 ?_
    refine z_iand hC dX11_wish_28 ?_
    refine z_putI hC lpRX11_131 dX11_wish_29 (fun hp5 => ?_)
    refine z_iload_n hC 3 dX11_wish_32 rfl rfl ?_
    exact z_iret hC (fun h => h) dX11_wish_33

theorem dX11_gatherFit_0 : decode cX11_gatherFit 0 = .ok (.aload_n 0, 1) := by decide +kernel
theorem dX11_gatherFit_1 : decode cX11_gatherFit 1 = .ok (.getfield 32, 3) := by decide +kernel
theorem dX11_gatherFit_4 : decode cX11_gatherFit 4 = .ok (.aload_n 0, 1) := by decide +kernel
theorem dX11_gatherFit_5 : decode cX11_gatherFit 5 = .ok (.getfield 32, 3) := by decide +kernel
theorem dX11_gatherFit_8 : decode cX11_gatherFit 8 = .ok (.getfield 207, 3) := by decide +kernel
theorem dX11_gatherFit_11 : decode cX11_gatherFit 11 = .ok (.aload_n 0, 1) := by decide +kernel
theorem dX11_gatherFit_12 : decode cX11_gatherFit 12 = .ok (.getfield 42, 3) := by decide +kernel
theorem dX11_gatherFit_15 : decode cX11_gatherFit 15 = .ok (.invokevirtual 219, 3) := by decide +kernel
theorem dX11_gatherFit_18 : decode cX11_gatherFit 18 = .ok (.return_, 1) := by decide +kernel
def FX11_gatherFit (hp : HP) (p0 : Nat) : Option (HP) := (gR [11] 3 hp p0).bind (fun v1 => (gR [11] 3 hp p0).bind (fun v2 => (gI [0] 1 hp v2).bind (fun v3 => (gR [11] 5 hp p0).bind (fun v4 => (rc [0] hp v1 (FX0_meet hp v1 v3 v4)).bind (fun w5 => some w5)))))
set_option maxHeartbeats 4000000 in
set_option maxRecDepth 100000 in
theorem ctX11_gatherFit (l : Launch) (D : va_G) (tg : Nat → ClassId) (bs : Nat) (sa : Nat → Nat) (hp : HP) (p0 : Nat) : Ct l D tg bs sa yX11_gatherFit cX11_gatherFit 1 none 2 [.ref p0] hp (FX11_gatherFit hp p0) (fun _ => none) (fun r => r) := by
  refine Ct.of (by decide) (Nat.le_of_ble_eq_true rfl) ?_
  intro V Q hVl hVd hVt hVb hVs hC
  subst hVl; subst hVd; subst hVt; subst hVb; subst hVs
  unfold FX11_gatherFit
  show Zs V Q (0, 0) 1 _ _ hp [(0, .ref p0)] 0 []
  refine z_aload_n hC 0 dX11_gatherFit_0 rfl rfl ?_
  refine z_getR hC lgRX11_32 dX11_gatherFit_1 (fun v1 => ?_)
  refine z_aload_n hC 0 dX11_gatherFit_4 rfl rfl ?_
  refine z_getR hC lgRX11_32 dX11_gatherFit_5 (fun v2 => ?_)
  refine z_getI hC lgRX11_207 dX11_gatherFit_8 (fun v3 => ?_)
  refine z_aload_n hC 0 dX11_gatherFit_11 rfl rfl ?_
  refine z_getR hC lgRX11_42 dX11_gatherFit_12 (fun v4 => ?_)
  refine z_callVv hC (ci := 0) rfl lmRX11_219 (ctX0_meet (vLa V) (vDa V) (vTg V) (vBs V) (vSa V) hp v1 v3 v4) (by decide) hn0 dX11_gatherFit_15 rfl rfl (Nat.le_of_ble_eq_true rfl) (fun w5 => ?_)
  exact z_vret hC (fun h => h) dX11_gatherFit_18

theorem dX11_clause_0 : decode cX11_clause 0 = .ok (.aload_n 0, 1) := by decide +kernel
theorem dX11_clause_1 : decode cX11_clause 1 = .ok (.aload_n 0, 1) := by decide +kernel
theorem dX11_clause_2 : decode cX11_clause 2 = .ok (.getfield 32, 3) := by decide +kernel
theorem dX11_clause_5 : decode cX11_clause 5 = .ok (.iload_n 1, 1) := by decide +kernel
theorem dX11_clause_6 : decode cX11_clause 6 = .ok (.iload_n 2, 1) := by decide +kernel
theorem dX11_clause_7 : decode cX11_clause 7 = .ok (.invokevirtual 127, 3) := by decide +kernel
theorem dX11_clause_10 : decode cX11_clause 10 = .ok (.istore_n 3, 1) := by decide +kernel
theorem dX11_clause_11 : decode cX11_clause 11 = .ok (.iload_n 3, 1) := by decide +kernel
theorem dX11_clause_12 : decode cX11_clause 12 = .ok (.ifCond .lt 7, 3) := by decide +kernel
theorem dX11_clause_15 : decode cX11_clause 15 = .ok (.aload_n 0, 1) := by decide +kernel
theorem dX11_clause_16 : decode cX11_clause 16 = .ok (.invokevirtual 134, 3) := by decide +kernel
theorem dX11_clause_19 : decode cX11_clause 19 = .ok (.iload_n 3, 1) := by decide +kernel
theorem dX11_clause_20 : decode cX11_clause 20 = .ok (.ireturn, 1) := by decide +kernel
def FX11_clause (hp : HP) (p0 : Nat) (p1 : Int32) (p2 : Int32) : Option (Int32 × HP) := (gR [11] 3 hp p0).bind (fun v1 => (rc [11] hp p0 (FX11_tell hp p0 v1 p1 p2)).bind (fun w2 => if w2.1 < 0 then some (w2.1, w2.2) else (rc [11] w2.2 p0 (FX11_gatherFit w2.2 p0)).bind (fun w3 => some (w2.1, w3))))
set_option maxHeartbeats 4000000 in
set_option maxRecDepth 100000 in
theorem ctX11_clause (l : Launch) (D : va_G) (tg : Nat → ClassId) (bs : Nat) (sa : Nat → Nat) (hp : HP) (p0 : Nat) (p1 : Int32) (p2 : Int32) : Ct l D tg bs sa yX11_clause cX11_clause 4 (some .int) 35 [.ref p0, .int p1, .int p2] hp (FX11_clause hp p0 p1 p2) (fun r => some (.int r.1)) (fun r => r.2) := by
  refine Ct.of (by decide) (Nat.le_of_ble_eq_true rfl) ?_
  intro V Q hVl hVd hVt hVb hVs hC
  subst hVl; subst hVd; subst hVt; subst hVb; subst hVs
  unfold FX11_clause
  show Zs V Q (0, 0) 4 _ _ hp [(0, .ref p0), (1, .int p1), (2, .int p2)] 0 []
  refine z_aload_n hC 0 dX11_clause_0 rfl rfl ?_
  refine z_aload_n hC 0 dX11_clause_1 rfl rfl ?_
  refine z_getR hC lgRX11_32 dX11_clause_2 (fun v1 => ?_)
  refine z_iload_n hC 1 dX11_clause_5 rfl rfl ?_
  refine z_iload_n hC 2 dX11_clause_6 rfl rfl ?_
  refine z_callVi hC (ci := 11) rfl lmRX11_127 (ctX11_tell (vLa V) (vDa V) (vTg V) (vBs V) (vSa V) hp p0 v1 p1 p2) (by decide) hn0 dX11_clause_7 rfl rfl (Nat.le_of_ble_eq_true rfl) (fun w2 => ?_)
  refine z_istore_n hC [(0, .ref p0), (1, .int p1), (2, .int p2), (3, .int w2.1)] [1, 2, 3, 0] dX11_clause_10 rfl (by decide) rfl ?_
  refine z_iload_n hC 3 dX11_clause_11 rfl rfl ?_
  refine z_if_lt hC 19 dX11_clause_12 (by decide) (fun _ => ?_) (fun _ => ?_)
  · refine z_iload_n hC 3 dX11_clause_19 rfl rfl ?_
    exact z_iret hC (fun h => h) dX11_clause_20
  · refine z_aload_n hC 0 dX11_clause_15 rfl rfl ?_
    refine z_callVv hC (ci := 11) rfl lmRX11_134 (ctX11_gatherFit (vLa V) (vDa V) (vTg V) (vBs V) (vSa V) w2.2 p0) (by decide) hn0 dX11_clause_16 rfl rfl (Nat.le_of_ble_eq_true rfl) (fun w3 => ?_)
    refine z_iload_n hC 3 dX11_clause_19 rfl rfl ?_
    exact z_iret hC (fun h => h) dX11_clause_20

theorem dX11_drop_0 : decode cX11_drop 0 = .ok (.aload_n 0, 1) := by decide +kernel
theorem dX11_drop_1 : decode cX11_drop 1 = .ok (.getfield 32, 3) := by decide +kernel
theorem dX11_drop_4 : decode cX11_drop 4 = .ok (.iload_n 1, 1) := by decide +kernel
theorem dX11_drop_5 : decode cX11_drop 5 = .ok (.invokevirtual 137, 3) := by decide +kernel
theorem dX11_drop_8 : decode cX11_drop 8 = .ok (.ifCond .ne 5, 3) := by decide +kernel
theorem dX11_drop_11 : decode cX11_drop 11 = .ok (.iconst 0, 1) := by decide +kernel
theorem dX11_drop_12 : decode cX11_drop 12 = .ok (.ireturn, 1) := by decide +kernel
theorem dX11_drop_13 : decode cX11_drop 13 = .ok (.aload_n 0, 1) := by decide +kernel
theorem dX11_drop_14 : decode cX11_drop 14 = .ok (.getfield 32, 3) := by decide +kernel
theorem dX11_drop_17 : decode cX11_drop 17 = .ok (.iload_n 1, 1) := by decide +kernel
theorem dX11_drop_18 : decode cX11_drop 18 = .ok (.invokevirtual 140, 3) := by decide +kernel
theorem dX11_drop_21 : decode cX11_drop 21 = .ok (.aload_n 0, 1) := by decide +kernel
theorem dX11_drop_22 : decode cX11_drop 22 = .ok (.invokevirtual 134, 3) := by decide +kernel
theorem dX11_drop_25 : decode cX11_drop 25 = .ok (.iconst 1, 1) := by decide +kernel
theorem dX11_drop_26 : decode cX11_drop 26 = .ok (.ireturn, 1) := by decide +kernel
def FX11_drop (hp : HP) (p0 : Nat) (p1 : Int32) : Option (Int32 × HP) := (gR [11] 3 hp p0).bind (fun v1 => (rc [0] hp v1 (FX0_has hp v1 p1)).bind (fun v2 => if v2 = 0 then some ((0 : Int32), hp) else (gR [11] 3 hp p0).bind (fun v3 => (rc [0] hp v3 (FX0_erase hp v3 p1)).bind (fun w4 => (rc [11] w4 p0 (FX11_gatherFit w4 p0)).bind (fun w5 => some ((1 : Int32), w5))))))
set_option maxHeartbeats 4000000 in
set_option maxRecDepth 100000 in
theorem ctX11_drop (l : Launch) (D : va_G) (tg : Nat → ClassId) (bs : Nat) (sa : Nat → Nat) (hp : HP) (p0 : Nat) (p1 : Int32) : Ct l D tg bs sa yX11_drop cX11_drop 2 (some .boolean) 3 [.ref p0, .int p1] hp (FX11_drop hp p0 p1) (fun r => some (.int r.1)) (fun r => r.2) := by
  refine Ct.of (by decide) (Nat.le_of_ble_eq_true rfl) ?_
  intro V Q hVl hVd hVt hVb hVs hC
  subst hVl; subst hVd; subst hVt; subst hVb; subst hVs
  unfold FX11_drop
  show Zs V Q (0, 0) 2 _ _ hp [(0, .ref p0), (1, .int p1)] 0 []
  refine z_aload_n hC 0 dX11_drop_0 rfl rfl ?_
  refine z_getR hC lgRX11_32 dX11_drop_1 (fun v1 => ?_)
  refine z_iload_n hC 1 dX11_drop_4 rfl rfl ?_
  refine z_callVi hC (ci := 0) rfl lmRX11_137 (ctX0_has (vLa V) (vDa V) (vTg V) (vBs V) (vSa V) hp v1 p1) (by decide) hn0 dX11_drop_5 rfl rfl (Nat.le_of_ble_eq_true rfl) (fun v2 => ?_)
  refine z_if_ne hC 13 dX11_drop_8 (by decide) (fun _ => ?_) (fun _ => ?_)
  · refine z_iconst hC (0 : Int32) dX11_drop_11 (by decide) ?_
    exact z_zret hC (by decide) (fun h => h) dX11_drop_12
  · refine z_aload_n hC 0 dX11_drop_13 rfl rfl ?_
    refine z_getR hC lgRX11_32 dX11_drop_14 (fun v3 => ?_)
    refine z_iload_n hC 1 dX11_drop_17 rfl rfl ?_
    refine z_callVv hC (ci := 0) rfl lmRX11_140 (ctX0_erase (vLa V) (vDa V) (vTg V) (vBs V) (vSa V) hp v3 p1) (by decide) hn0 dX11_drop_18 rfl rfl (Nat.le_of_ble_eq_true rfl) (fun w4 => ?_)
    refine z_aload_n hC 0 dX11_drop_21 rfl rfl ?_
    refine z_callVv hC (ci := 11) rfl lmRX11_134 (ctX11_gatherFit (vLa V) (vDa V) (vTg V) (vBs V) (vSa V) w4 p0) (by decide) hn0 dX11_drop_22 rfl rfl (Nat.le_of_ble_eq_true rfl) (fun w5 => ?_)
    refine z_iconst hC (1 : Int32) dX11_drop_25 (by decide) ?_
    exact z_zret hC (by decide) (fun h => h) dX11_drop_26

theorem dX11_wished_0 : decode cX11_wished 0 = .ok (.aload_n 0, 1) := by decide +kernel
theorem dX11_wished_1 : decode cX11_wished 1 = .ok (.getfield 28, 3) := by decide +kernel
theorem dX11_wished_4 : decode cX11_wished 4 = .ok (.iload_n 1, 1) := by decide +kernel
theorem dX11_wished_5 : decode cX11_wished 5 = .ok (.invokevirtual 137, 3) := by decide +kernel
theorem dX11_wished_8 : decode cX11_wished 8 = .ok (.ifCond .ne 5, 3) := by decide +kernel
theorem dX11_wished_11 : decode cX11_wished 11 = .ok (.iconst (-1), 1) := by decide +kernel
theorem dX11_wished_12 : decode cX11_wished 12 = .ok (.ireturn, 1) := by decide +kernel
theorem dX11_wished_13 : decode cX11_wished 13 = .ok (.aload_n 0, 1) := by decide +kernel
theorem dX11_wished_14 : decode cX11_wished 14 = .ok (.getfield 63, 3) := by decide +kernel
theorem dX11_wished_17 : decode cX11_wished 17 = .ok (.aload_n 0, 1) := by decide +kernel
theorem dX11_wished_18 : decode cX11_wished 18 = .ok (.getfield 84, 3) := by decide +kernel
theorem dX11_wished_21 : decode cX11_wished 21 = .ok (.iload_n 1, 1) := by decide +kernel
theorem dX11_wished_22 : decode cX11_wished 22 = .ok (.invokevirtual 143, 3) := by decide +kernel
theorem dX11_wished_25 : decode cX11_wished 25 = .ok (.aload_n 0, 1) := by decide +kernel
theorem dX11_wished_26 : decode cX11_wished 26 = .ok (.getfield 63, 3) := by decide +kernel
theorem dX11_wished_29 : decode cX11_wished 29 = .ok (.getfield 147, 3) := by decide +kernel
theorem dX11_wished_32 : decode cX11_wished 32 = .ok (.bipush (-2), 2) := by decide +kernel
theorem dX11_wished_34 : decode cX11_wished 34 = .ok (.if_icmp .ne 14, 3) := by decide +kernel
theorem dX11_wished_37 : decode cX11_wished 37 = .ok (.aload_n 0, 1) := by decide +kernel
theorem dX11_wished_38 : decode cX11_wished 38 = .ok (.getfield 84, 3) := by decide +kernel
theorem dX11_wished_41 : decode cX11_wished 41 = .ok (.iconst 1, 1) := by decide +kernel
theorem dX11_wished_42 : decode cX11_wished 42 = .ok (.putfield 150, 3) := by decide +kernel
theorem dX11_wished_45 : decode cX11_wished 45 = .ok (.goto 25, 3) := by decide +kernel
theorem dX11_wished_48 : decode cX11_wished 48 = .ok (.aload_n 0, 1) := by decide +kernel
theorem dX11_wished_49 : decode cX11_wished 49 = .ok (.getfield 63, 3) := by decide +kernel
theorem dX11_wished_52 : decode cX11_wished 52 = .ok (.getfield 147, 3) := by decide +kernel
theorem dX11_wished_55 : decode cX11_wished 55 = .ok (.ifCond .lt 15, 3) := by decide +kernel
theorem dX11_wished_58 : decode cX11_wished 58 = .ok (.aload_n 0, 1) := by decide +kernel
theorem dX11_wished_59 : decode cX11_wished 59 = .ok (.getfield 63, 3) := by decide +kernel
theorem dX11_wished_62 : decode cX11_wished 62 = .ok (.aload_n 0, 1) := by decide +kernel
theorem dX11_wished_63 : decode cX11_wished 63 = .ok (.getfield 84, 3) := by decide +kernel
theorem dX11_wished_66 : decode cX11_wished 66 = .ok (.iload_n 1, 1) := by decide +kernel
theorem dX11_wished_67 : decode cX11_wished 67 = .ok (.invokevirtual 154, 3) := by decide +kernel
theorem dX11_wished_70 : decode cX11_wished 70 = .ok (.aload_n 0, 1) := by decide +kernel
theorem dX11_wished_71 : decode cX11_wished 71 = .ok (.getfield 63, 3) := by decide +kernel
theorem dX11_wished_74 : decode cX11_wished 74 = .ok (.getfield 147, 3) := by decide +kernel
theorem dX11_wished_77 : decode cX11_wished 77 = .ok (.ireturn, 1) := by decide +kernel
def FX11_wished (hp : HP) (p0 : Nat) (p1 : Int32) : Option (Int32 × HP) := (gR [11] 2 hp p0).bind (fun v1 => (rc [0] hp v1 (FX0_has hp v1 p1)).bind (fun v2 => if v2 = 0 then some ((-1 : Int32), hp) else (gR [11] 9 hp p0).bind (fun v3 => (gR [11] 12 hp p0).bind (fun v4 => (rc [5] hp v3 (FX5_plan hp v3 v4 p1)).bind (fun w5 => (gR [11] 9 w5 p0).bind (fun v6 => (gI [5] 1 w5 v6).bind (fun v7 => jn (A := HP) (fun a8 => (gR [11] 9 a8 p0).bind (fun v10 => (gI [5] 1 a8 v10).bind (fun v11 => some (v11, a8)))) (fun J9 => if v7 = (-2 : Int32) then (gR [11] 12 w5 p0).bind (fun v12 => (sZ [6] 5 w5 v12 (1 : Int32)).bind (fun hp13 => J9 hp13)) else (gR [11] 9 w5 p0).bind (fun v14 => (gI [5] 1 w5 v14).bind (fun v15 => if v15 < 0 then J9 w5 else (gR [11] 9 w5 p0).bind (fun v16 => (gR [11] 12 w5 p0).bind (fun v17 => (rc [5] w5 v16 (FX5_grant w5 v16 v17 p1)).bind (fun w18 => J9 w18)))))))))))))
set_option maxHeartbeats 4000000 in
set_option maxRecDepth 100000 in
theorem ctX11_wished (l : Launch) (D : va_G) (tg : Nat → ClassId) (bs : Nat) (sa : Nat → Nat) (hp : HP) (p0 : Nat) (p1 : Int32) : Ct l D tg bs sa yX11_wished cX11_wished 2 (some .int) 4 [.ref p0, .int p1] hp (FX11_wished hp p0 p1) (fun r => some (.int r.1)) (fun r => r.2) := by
  refine Ct.of (by decide) (Nat.le_of_ble_eq_true rfl) ?_
  intro V Q hVl hVd hVt hVb hVs hC
  subst hVl; subst hVd; subst hVt; subst hVb; subst hVs
  unfold FX11_wished
  show Zs V Q (0, 0) 2 _ _ hp [(0, .ref p0), (1, .int p1)] 0 []
  refine z_aload_n hC 0 dX11_wished_0 rfl rfl ?_
  refine z_getR hC lgRX11_28 dX11_wished_1 (fun v1 => ?_)
  refine z_iload_n hC 1 dX11_wished_4 rfl rfl ?_
  refine z_callVi hC (ci := 0) rfl lmRX11_137 (ctX0_has (vLa V) (vDa V) (vTg V) (vBs V) (vSa V) hp v1 p1) (by decide) hn0 dX11_wished_5 rfl rfl (Nat.le_of_ble_eq_true rfl) (fun v2 => ?_)
  refine z_if_ne hC 13 dX11_wished_8 (by decide) (fun _ => ?_) (fun _ => ?_)
  · refine z_iconst hC (-1 : Int32) dX11_wished_11 (by decide) ?_
    exact z_iret hC (fun h => h) dX11_wished_12
  · refine z_aload_n hC 0 dX11_wished_13 rfl rfl ?_
    refine z_getR hC lgRX11_63 dX11_wished_14 (fun v3 => ?_)
    refine z_aload_n hC 0 dX11_wished_17 rfl rfl ?_
    refine z_getR hC lgRX11_84 dX11_wished_18 (fun v4 => ?_)
    refine z_iload_n hC 1 dX11_wished_21 rfl rfl ?_
    refine z_callVv hC (ci := 5) rfl lmRX11_143 (ctX5_plan (vLa V) (vDa V) (vTg V) (vBs V) (vSa V) hp v3 v4 p1) (by decide) hn0 dX11_wished_22 rfl rfl (Nat.le_of_ble_eq_true rfl) (fun w5 => ?_)
    refine z_aload_n hC 0 dX11_wished_25 rfl rfl ?_
    refine z_getR hC lgRX11_63 dX11_wished_26 (fun v6 => ?_)
    refine z_getI hC lgRX11_147 dX11_wished_29 (fun v7 => ?_)
    refine z_bipush hC (-2 : Int32) dX11_wished_32 (by decide) ?_
    refine z_jn (A := HP) (fun a8 => a8) (fun a8 => [(0, .ref p0)]) 70 (fun a8 => []) (fun a8 => ?_) (fun J9 hJ9 => ?_)
    · refine z_aload_n hC 0 dX11_wished_70 rfl rfl ?_
      refine z_getR hC lgRX11_63 dX11_wished_71 (fun v10 => ?_)
      refine z_getI hC lgRX11_147 dX11_wished_74 (fun v11 => ?_)
      exact z_iret hC (fun h => h) dX11_wished_77
    · refine z_icmp_ne hC 48 dX11_wished_34 (by decide) (fun _ => ?_) (fun _ => ?_)
      · refine z_aload_n hC 0 dX11_wished_37 rfl rfl ?_
        refine z_getR hC lgRX11_84 dX11_wished_38 (fun v12 => ?_)
        refine z_iconst hC (1 : Int32) dX11_wished_41 (by decide) ?_
        refine z_putZ hC lpRX11_150 dX11_wished_42 (fun hp13 => ?_)
        refine z_goto hC 70 dX11_wished_45 (by decide) ?_
        refine z_weak [(0, .ref p0)] [0] rfl ?_
        exact hJ9 hp13
      · refine z_aload_n hC 0 dX11_wished_48 rfl rfl ?_
        refine z_getR hC lgRX11_63 dX11_wished_49 (fun v14 => ?_)
        refine z_getI hC lgRX11_147 dX11_wished_52 (fun v15 => ?_)
        refine z_if_lt hC 70 dX11_wished_55 (by decide) (fun _ => ?_) (fun _ => ?_)
        · refine z_weak [(0, .ref p0)] [0] rfl ?_
          exact hJ9 w5
        · refine z_aload_n hC 0 dX11_wished_58 rfl rfl ?_
          refine z_getR hC lgRX11_63 dX11_wished_59 (fun v16 => ?_)
          refine z_aload_n hC 0 dX11_wished_62 rfl rfl ?_
          refine z_getR hC lgRX11_84 dX11_wished_63 (fun v17 => ?_)
          refine z_iload_n hC 1 dX11_wished_66 rfl rfl ?_
          refine z_callVv hC (ci := 5) rfl lmRX11_154 (ctX5_grant (vLa V) (vDa V) (vTg V) (vBs V) (vSa V) w5 v16 v17 p1) (by decide) hn0 dX11_wished_67 rfl rfl (Nat.le_of_ble_eq_true rfl) (fun w18 => ?_)
          refine z_weak [(0, .ref p0)] [0] rfl ?_
          exact hJ9 w18

theorem dX11_tried_0 : decode cX11_tried 0 = .ok (.aload_n 0, 1) := by decide +kernel
theorem dX11_tried_1 : decode cX11_tried 1 = .ok (.getfield 28, 3) := by decide +kernel
theorem dX11_tried_4 : decode cX11_tried 4 = .ok (.iload_n 1, 1) := by decide +kernel
theorem dX11_tried_5 : decode cX11_tried 5 = .ok (.invokevirtual 137, 3) := by decide +kernel
theorem dX11_tried_8 : decode cX11_tried 8 = .ok (.ifCond .eq 12, 3) := by decide +kernel
theorem dX11_tried_11 : decode cX11_tried 11 = .ok (.iload_n 2, 1) := by decide +kernel
theorem dX11_tried_12 : decode cX11_tried 12 = .ok (.ifCond .lt 8, 3) := by decide +kernel
theorem dX11_tried_15 : decode cX11_tried 15 = .ok (.iload_n 2, 1) := by decide +kernel
theorem dX11_tried_16 : decode cX11_tried 16 = .ok (.iconst 4, 1) := by decide +kernel
theorem dX11_tried_17 : decode cX11_tried 17 = .ok (.if_icmp .le 5, 3) := by decide +kernel
theorem dX11_tried_20 : decode cX11_tried 20 = .ok (.iconst (-1), 1) := by decide +kernel
theorem dX11_tried_21 : decode cX11_tried 21 = .ok (.ireturn, 1) := by decide +kernel
theorem dX11_tried_22 : decode cX11_tried 22 = .ok (.aload_n 0, 1) := by decide +kernel
theorem dX11_tried_23 : decode cX11_tried 23 = .ok (.getfield 63, 3) := by decide +kernel
theorem dX11_tried_26 : decode cX11_tried 26 = .ok (.aload_n 0, 1) := by decide +kernel
theorem dX11_tried_27 : decode cX11_tried 27 = .ok (.getfield 84, 3) := by decide +kernel
theorem dX11_tried_30 : decode cX11_tried 30 = .ok (.iload_n 1, 1) := by decide +kernel
theorem dX11_tried_31 : decode cX11_tried 31 = .ok (.invokevirtual 143, 3) := by decide +kernel
theorem dX11_tried_34 : decode cX11_tried 34 = .ok (.iload_n 2, 1) := by decide +kernel
theorem dX11_tried_35 : decode cX11_tried 35 = .ok (.tableswitch 61 0 3 #[29, 37, 45, 53], 29) := by decide +kernel
theorem dX11_tried_64 : decode cX11_tried 64 = .ok (.aload_n 0, 1) := by decide +kernel
theorem dX11_tried_65 : decode cX11_tried 65 = .ok (.getfield 63, 3) := by decide +kernel
theorem dX11_tried_68 : decode cX11_tried 68 = .ok (.getfield 147, 3) := by decide +kernel
theorem dX11_tried_71 : decode cX11_tried 71 = .ok (.ireturn, 1) := by decide +kernel
theorem dX11_tried_72 : decode cX11_tried 72 = .ok (.aload_n 0, 1) := by decide +kernel
theorem dX11_tried_73 : decode cX11_tried 73 = .ok (.getfield 63, 3) := by decide +kernel
theorem dX11_tried_76 : decode cX11_tried 76 = .ok (.getfield 157, 3) := by decide +kernel
theorem dX11_tried_79 : decode cX11_tried 79 = .ok (.ireturn, 1) := by decide +kernel
theorem dX11_tried_80 : decode cX11_tried 80 = .ok (.aload_n 0, 1) := by decide +kernel
theorem dX11_tried_81 : decode cX11_tried 81 = .ok (.getfield 63, 3) := by decide +kernel
theorem dX11_tried_84 : decode cX11_tried 84 = .ok (.getfield 158, 3) := by decide +kernel
theorem dX11_tried_87 : decode cX11_tried 87 = .ok (.ireturn, 1) := by decide +kernel
theorem dX11_tried_88 : decode cX11_tried 88 = .ok (.aload_n 0, 1) := by decide +kernel
theorem dX11_tried_89 : decode cX11_tried 89 = .ok (.getfield 63, 3) := by decide +kernel
theorem dX11_tried_92 : decode cX11_tried 92 = .ok (.getfield 161, 3) := by decide +kernel
theorem dX11_tried_95 : decode cX11_tried 95 = .ok (.ireturn, 1) := by decide +kernel
theorem dX11_tried_96 : decode cX11_tried 96 = .ok (.aload_n 0, 1) := by decide +kernel
theorem dX11_tried_97 : decode cX11_tried 97 = .ok (.getfield 63, 3) := by decide +kernel
theorem dX11_tried_100 : decode cX11_tried 100 = .ok (.getfield 164, 3) := by decide +kernel
theorem dX11_tried_103 : decode cX11_tried 103 = .ok (.ireturn, 1) := by decide +kernel
def FX11_tried (hp : HP) (p0 : Nat) (p1 : Int32) (p2 : Int32) : Option (Int32 × HP) := (gR [11] 2 hp p0).bind (fun v1 => (rc [0] hp v1 (FX0_has hp v1 p1)).bind (fun v2 => if v2 = 0 then some ((-1 : Int32), hp) else if p2 < 0 then some ((-1 : Int32), hp) else if p2 ≤ (4 : Int32) then (gR [11] 9 hp p0).bind (fun v3 => (gR [11] 12 hp p0).bind (fun v4 => (rc [5] hp v3 (FX5_plan hp v3 v4 p1)).bind (fun w5 => if p2 = (0 : Int32) then (gR [11] 9 w5 p0).bind (fun v7 => (gI [5] 1 w5 v7).bind (fun v8 => some (v8, w5))) else if p2 = (1 : Int32) then (gR [11] 9 w5 p0).bind (fun v10 => (gI [5] 2 w5 v10).bind (fun v11 => some (v11, w5))) else if p2 = (2 : Int32) then (gR [11] 9 w5 p0).bind (fun v13 => (gI [5] 3 w5 v13).bind (fun v14 => some (v14, w5))) else if p2 = (3 : Int32) then (gR [11] 9 w5 p0).bind (fun v16 => (gI [5] 4 w5 v16).bind (fun v17 => some (v17, w5))) else (gR [11] 9 w5 p0).bind (fun v18 => (gI [5] 5 w5 v18).bind (fun v19 => some (v19, w5)))))) else some ((-1 : Int32), hp)))
set_option maxHeartbeats 4000000 in
set_option maxRecDepth 100000 in
theorem ctX11_tried (l : Launch) (D : va_G) (tg : Nat → ClassId) (bs : Nat) (sa : Nat → Nat) (hp : HP) (p0 : Nat) (p1 : Int32) (p2 : Int32) : Ct l D tg bs sa yX11_tried cX11_tried 3 (some .int) 4 [.ref p0, .int p1, .int p2] hp (FX11_tried hp p0 p1 p2) (fun r => some (.int r.1)) (fun r => r.2) := by
  refine Ct.of (by decide) (Nat.le_of_ble_eq_true rfl) ?_
  intro V Q hVl hVd hVt hVb hVs hC
  subst hVl; subst hVd; subst hVt; subst hVb; subst hVs
  unfold FX11_tried
  show Zs V Q (0, 0) 3 _ _ hp [(0, .ref p0), (1, .int p1), (2, .int p2)] 0 []
  refine z_aload_n hC 0 dX11_tried_0 rfl rfl ?_
  refine z_getR hC lgRX11_28 dX11_tried_1 (fun v1 => ?_)
  refine z_iload_n hC 1 dX11_tried_4 rfl rfl ?_
  refine z_callVi hC (ci := 0) rfl lmRX11_137 (ctX0_has (vLa V) (vDa V) (vTg V) (vBs V) (vSa V) hp v1 p1) (by decide) hn0 dX11_tried_5 rfl rfl (Nat.le_of_ble_eq_true rfl) (fun v2 => ?_)
  refine z_if_eq hC 20 dX11_tried_8 (by decide) (fun _ => ?_) (fun _ => ?_)
  · refine z_iconst hC (-1 : Int32) dX11_tried_20 (by decide) ?_
    exact z_iret hC (fun h => h) dX11_tried_21
  · refine z_iload_n hC 2 dX11_tried_11 rfl rfl ?_
    refine z_if_lt hC 20 dX11_tried_12 (by decide) (fun _ => ?_) (fun _ => ?_)
    · refine z_iconst hC (-1 : Int32) dX11_tried_20 (by decide) ?_
      exact z_iret hC (fun h => h) dX11_tried_21
    · refine z_iload_n hC 2 dX11_tried_15 rfl rfl ?_
      refine z_iconst hC (4 : Int32) dX11_tried_16 (by decide) ?_
      refine z_icmp_le hC 22 dX11_tried_17 (by decide) (fun _ => ?_) (fun _ => ?_)
      · refine z_aload_n hC 0 dX11_tried_22 rfl rfl ?_
        refine z_getR hC lgRX11_63 dX11_tried_23 (fun v3 => ?_)
        refine z_aload_n hC 0 dX11_tried_26 rfl rfl ?_
        refine z_getR hC lgRX11_84 dX11_tried_27 (fun v4 => ?_)
        refine z_iload_n hC 1 dX11_tried_30 rfl rfl ?_
        refine z_callVv hC (ci := 5) rfl lmRX11_143 (ctX5_plan (vLa V) (vDa V) (vTg V) (vBs V) (vSa V) hp v3 v4 p1) (by decide) hn0 dX11_tried_31 rfl rfl (Nat.le_of_ble_eq_true rfl) (fun w5 => ?_)
        refine z_iload_n hC 2 dX11_tried_34 rfl rfl ?_
        refine z_tsw hC (0 : Int32) 64 (29) dX11_tried_35 (by decide) (by decide) (by decide) (by decide) (fun _ => ?_) (fun q6 => ?_)
        · refine z_aload_n hC 0 dX11_tried_64 rfl rfl ?_
          refine z_getR hC lgRX11_63 dX11_tried_65 (fun v7 => ?_)
          refine z_getI hC lgRX11_147 dX11_tried_68 (fun v8 => ?_)
          exact z_iret hC (fun h => h) dX11_tried_71
        refine z_tsw hC (1 : Int32) 72 (37) dX11_tried_35 (by decide) (by decide) (by decide) (by decide) (fun _ => ?_) (fun q9 => ?_)
        · refine z_aload_n hC 0 dX11_tried_72 rfl rfl ?_
          refine z_getR hC lgRX11_63 dX11_tried_73 (fun v10 => ?_)
          refine z_getI hC lgRX11_157 dX11_tried_76 (fun v11 => ?_)
          exact z_iret hC (fun h => h) dX11_tried_79
        refine z_tsw hC (2 : Int32) 80 (45) dX11_tried_35 (by decide) (by decide) (by decide) (by decide) (fun _ => ?_) (fun q12 => ?_)
        · refine z_aload_n hC 0 dX11_tried_80 rfl rfl ?_
          refine z_getR hC lgRX11_63 dX11_tried_81 (fun v13 => ?_)
          refine z_getI hC lgRX11_158 dX11_tried_84 (fun v14 => ?_)
          exact z_iret hC (fun h => h) dX11_tried_87
        refine z_tsw hC (3 : Int32) 88 (53) dX11_tried_35 (by decide) (by decide) (by decide) (by decide) (fun _ => ?_) (fun q15 => ?_)
        · refine z_aload_n hC 0 dX11_tried_88 rfl rfl ?_
          refine z_getR hC lgRX11_63 dX11_tried_89 (fun v16 => ?_)
          refine z_getI hC lgRX11_161 dX11_tried_92 (fun v17 => ?_)
          exact z_iret hC (fun h => h) dX11_tried_95
        refine z_tswd hC 96 dX11_tried_35 (by decide) (by have eq6 := sw_ne q6 (z := 0) (by decide); have eq9 := sw_ne q9 (z := 1) (by decide); have eq12 := sw_ne q12 (z := 2) (by decide); have eq15 := sw_ne q15 (z := 3) (by decide); omega) ?_
        refine z_aload_n hC 0 dX11_tried_96 rfl rfl ?_
        refine z_getR hC lgRX11_63 dX11_tried_97 (fun v18 => ?_)
        refine z_getI hC lgRX11_164 dX11_tried_100 (fun v19 => ?_)
        exact z_iret hC (fun h => h) dX11_tried_103
      · refine z_iconst hC (-1 : Int32) dX11_tried_20 (by decide) ?_
        exact z_iret hC (fun h => h) dX11_tried_21

theorem dX11_days_0 : decode cX11_days 0 = .ok (.iload_n 1, 1) := by decide +kernel
theorem dX11_days_1 : decode cX11_days 1 = .ok (.iconst 1, 1) := by decide +kernel
theorem dX11_days_2 : decode cX11_days 2 = .ok (.if_icmp .lt 10, 3) := by decide +kernel
theorem dX11_days_5 : decode cX11_days 5 = .ok (.iload_n 1, 1) := by decide +kernel
theorem dX11_days_6 : decode cX11_days 6 = .ok (.sipush 8640, 3) := by decide +kernel
theorem dX11_days_9 : decode cX11_days 9 = .ok (.if_icmp .le 5, 3) := by decide +kernel
theorem dX11_days_12 : decode cX11_days 12 = .ok (.iconst (-1), 1) := by decide +kernel
theorem dX11_days_13 : decode cX11_days 13 = .ok (.ireturn, 1) := by decide +kernel
theorem dX11_days_14 : decode cX11_days 14 = .ok (.aload_n 0, 1) := by decide +kernel
theorem dX11_days_15 : decode cX11_days 15 = .ok (.getfield 84, 3) := by decide +kernel
theorem dX11_days_18 : decode cX11_days 18 = .ok (.iload_n 1, 1) := by decide +kernel
theorem dX11_days_19 : decode cX11_days 19 = .ok (.invokevirtual 167, 3) := by decide +kernel
theorem dX11_days_22 : decode cX11_days 22 = .ok (.aload_n 0, 1) := by decide +kernel
theorem dX11_days_23 : decode cX11_days 23 = .ok (.getfield 84, 3) := by decide +kernel
theorem dX11_days_26 : decode cX11_days 26 = .ok (.getfield 170, 3) := by decide +kernel
theorem dX11_days_29 : decode cX11_days 29 = .ok (.ireturn, 1) := by decide +kernel
def FX11_days (hp : HP) (p0 : Nat) (p1 : Int32) : Option (Int32 × HP) := if p1 < (1 : Int32) then some ((-1 : Int32), hp) else if p1 ≤ (8640 : Int32) then (gR [11] 12 hp p0).bind (fun v1 => (rc [6] hp v1 (FX6_passDays hp v1 p1)).bind (fun w2 => (gR [11] 12 w2 p0).bind (fun v3 => (gI [6] 1 w2 v3).bind (fun v4 => some (v4, w2))))) else some ((-1 : Int32), hp)
set_option maxHeartbeats 4000000 in
set_option maxRecDepth 100000 in
theorem ctX11_days (l : Launch) (D : va_G) (tg : Nat → ClassId) (bs : Nat) (sa : Nat → Nat) (hp : HP) (p0 : Nat) (p1 : Int32) : Ct l D tg bs sa yX11_days cX11_days 2 (some .int) 2 [.ref p0, .int p1] hp (FX11_days hp p0 p1) (fun r => some (.int r.1)) (fun r => r.2) := by
  refine Ct.of (by decide) (Nat.le_of_ble_eq_true rfl) ?_
  intro V Q hVl hVd hVt hVb hVs hC
  subst hVl; subst hVd; subst hVt; subst hVb; subst hVs
  unfold FX11_days
  show Zs V Q (0, 0) 2 _ _ hp [(0, .ref p0), (1, .int p1)] 0 []
  refine z_iload_n hC 1 dX11_days_0 rfl rfl ?_
  refine z_iconst hC (1 : Int32) dX11_days_1 (by decide) ?_
  refine z_icmp_lt hC 12 dX11_days_2 (by decide) (fun _ => ?_) (fun _ => ?_)
  · refine z_iconst hC (-1 : Int32) dX11_days_12 (by decide) ?_
    exact z_iret hC (fun h => h) dX11_days_13
  · refine z_iload_n hC 1 dX11_days_5 rfl rfl ?_
    refine z_sipush hC (8640 : Int32) dX11_days_6 (by decide) ?_
    refine z_icmp_le hC 14 dX11_days_9 (by decide) (fun _ => ?_) (fun _ => ?_)
    · refine z_aload_n hC 0 dX11_days_14 rfl rfl ?_
      refine z_getR hC lgRX11_84 dX11_days_15 (fun v1 => ?_)
      refine z_iload_n hC 1 dX11_days_18 rfl rfl ?_
      refine z_callVv hC (ci := 6) rfl lmRX11_167 (ctX6_passDays (vLa V) (vDa V) (vTg V) (vBs V) (vSa V) hp v1 p1) (by decide) hn0 dX11_days_19 rfl rfl (Nat.le_of_ble_eq_true rfl) (fun w2 => ?_)
      refine z_aload_n hC 0 dX11_days_22 rfl rfl ?_
      refine z_getR hC lgRX11_84 dX11_days_23 (fun v3 => ?_)
      refine z_getI hC lgRX11_170 dX11_days_26 (fun v4 => ?_)
      exact z_iret hC (fun h => h) dX11_days_29
    · refine z_iconst hC (-1 : Int32) dX11_days_12 (by decide) ?_
      exact z_iret hC (fun h => h) dX11_days_13

theorem dX11_fits_0 : decode cX11_fits 0 = .ok (.iload_n 1, 1) := by decide +kernel
theorem dX11_fits_1 : decode cX11_fits 1 = .ok (.ifCond .lt 8, 3) := by decide +kernel
theorem dX11_fits_4 : decode cX11_fits 4 = .ok (.iload_n 1, 1) := by decide +kernel
theorem dX11_fits_5 : decode cX11_fits 5 = .ok (.iconst 5, 1) := by decide +kernel
theorem dX11_fits_6 : decode cX11_fits 6 = .ok (.if_icmp .le 5, 3) := by decide +kernel
theorem dX11_fits_9 : decode cX11_fits 9 = .ok (.iconst (-1), 1) := by decide +kernel
theorem dX11_fits_10 : decode cX11_fits 10 = .ok (.ireturn, 1) := by decide +kernel
theorem dX11_fits_11 : decode cX11_fits 11 = .ok (.iload_n 1, 1) := by decide +kernel
theorem dX11_fits_12 : decode cX11_fits 12 = .ok (.ifCond .ne 11, 3) := by decide +kernel
theorem dX11_fits_15 : decode cX11_fits 15 = .ok (.aload_n 0, 1) := by decide +kernel
theorem dX11_fits_16 : decode cX11_fits 16 = .ok (.getfield 42, 3) := by decide +kernel
theorem dX11_fits_19 : decode cX11_fits 19 = .ok (.invokestatic 173, 3) := by decide +kernel
theorem dX11_fits_22 : decode cX11_fits 22 = .ok (.ireturn, 1) := by decide +kernel
theorem dX11_fits_23 : decode cX11_fits 23 = .ok (.iload_n 1, 1) := by decide +kernel
theorem dX11_fits_24 : decode cX11_fits 24 = .ok (.iconst 5, 1) := by decide +kernel
theorem dX11_fits_25 : decode cX11_fits 25 = .ok (.if_icmp .ne 26, 3) := by decide +kernel
theorem dX11_fits_28 : decode cX11_fits 28 = .ok (.aload_n 0, 1) := by decide +kernel
theorem dX11_fits_29 : decode cX11_fits 29 = .ok (.getfield 42, 3) := by decide +kernel
theorem dX11_fits_32 : decode cX11_fits 32 = .ok (.aload_n 0, 1) := by decide +kernel
theorem dX11_fits_33 : decode cX11_fits 33 = .ok (.getfield 84, 3) := by decide +kernel
theorem dX11_fits_36 : decode cX11_fits 36 = .ok (.getfield 105, 3) := by decide +kernel
theorem dX11_fits_39 : decode cX11_fits 39 = .ok (.invokestatic 176, 3) := by decide +kernel
theorem dX11_fits_42 : decode cX11_fits 42 = .ok (.ifCond .eq 7, 3) := by decide +kernel
theorem dX11_fits_45 : decode cX11_fits 45 = .ok (.iconst 1, 1) := by decide +kernel
theorem dX11_fits_46 : decode cX11_fits 46 = .ok (.goto 4, 3) := by decide +kernel
theorem dX11_fits_49 : decode cX11_fits 49 = .ok (.iconst 0, 1) := by decide +kernel
theorem dX11_fits_50 : decode cX11_fits 50 = .ok (.ireturn, 1) := by decide +kernel
theorem dX11_fits_51 : decode cX11_fits 51 = .ok (.aload_n 0, 1) := by decide +kernel
theorem dX11_fits_52 : decode cX11_fits 52 = .ok (.getfield 42, 3) := by decide +kernel
theorem dX11_fits_55 : decode cX11_fits 55 = .ok (.invokestatic 179, 3) := by decide +kernel
theorem dX11_fits_58 : decode cX11_fits 58 = .ok (.ifCond .eq 6, 3) := by decide +kernel
theorem dX11_fits_61 : decode cX11_fits 61 = .ok (.bipush (-2), 2) := by decide +kernel
theorem dX11_fits_63 : decode cX11_fits 63 = .ok (.ireturn, 1) := by decide +kernel
theorem dX11_fits_64 : decode cX11_fits 64 = .ok (.iload_n 1, 1) := by decide +kernel
theorem dX11_fits_65 : decode cX11_fits 65 = .ok (.tableswitch 52 1 3 #[27, 35, 43], 27) := by decide +kernel
theorem dX11_fits_92 : decode cX11_fits 92 = .ok (.aload_n 0, 1) := by decide +kernel
theorem dX11_fits_93 : decode cX11_fits 93 = .ok (.getfield 42, 3) := by decide +kernel
theorem dX11_fits_96 : decode cX11_fits 96 = .ok (.invokestatic 183, 3) := by decide +kernel
theorem dX11_fits_99 : decode cX11_fits 99 = .ok (.ireturn, 1) := by decide +kernel
theorem dX11_fits_100 : decode cX11_fits 100 = .ok (.aload_n 0, 1) := by decide +kernel
theorem dX11_fits_101 : decode cX11_fits 101 = .ok (.getfield 42, 3) := by decide +kernel
theorem dX11_fits_104 : decode cX11_fits 104 = .ok (.invokestatic 186, 3) := by decide +kernel
theorem dX11_fits_107 : decode cX11_fits 107 = .ok (.ireturn, 1) := by decide +kernel
theorem dX11_fits_108 : decode cX11_fits 108 = .ok (.aload_n 0, 1) := by decide +kernel
theorem dX11_fits_109 : decode cX11_fits 109 = .ok (.getfield 42, 3) := by decide +kernel
theorem dX11_fits_112 : decode cX11_fits 112 = .ok (.iconst 1, 1) := by decide +kernel
theorem dX11_fits_113 : decode cX11_fits 113 = .ok (.invokestatic 189, 3) := by decide +kernel
theorem dX11_fits_116 : decode cX11_fits 116 = .ok (.ireturn, 1) := by decide +kernel
theorem dX11_fits_117 : decode cX11_fits 117 = .ok (.aload_n 0, 1) := by decide +kernel
theorem dX11_fits_118 : decode cX11_fits 118 = .ok (.getfield 42, 3) := by decide +kernel
theorem dX11_fits_121 : decode cX11_fits 121 = .ok (.iconst 0, 1) := by decide +kernel
theorem dX11_fits_122 : decode cX11_fits 122 = .ok (.invokestatic 189, 3) := by decide +kernel
theorem dX11_fits_125 : decode cX11_fits 125 = .ok (.ireturn, 1) := by decide +kernel
def FX11_fits (hp : HP) (p0 : Nat) (p1 : Int32) : Option (Int32) := if p1 < 0 then some (-1 : Int32) else if p1 ≤ (5 : Int32) then if p1 = 0 then (gR [11] 5 hp p0).bind (fun v1 => (FX7_size hp v1).bind (fun v2 => some v2)) else if p1 = (5 : Int32) then (gR [11] 5 hp p0).bind (fun v3 => (gR [11] 12 hp p0).bind (fun v4 => (gI [6] 0 hp v4).bind (fun v5 => (FX7_has hp v3 v5).bind (fun v6 => if v6 = 0 then some (0 : Int32) else some (1 : Int32))))) else (gR [11] 5 hp p0).bind (fun v7 => (FX7_isEmpty hp v7).bind (fun v8 => if v8 = 0 then if p1 = (1 : Int32) then (gR [11] 5 hp p0).bind (fun v10 => (FX7_first hp v10).bind (fun v11 => some v11)) else if p1 = (2 : Int32) then (gR [11] 5 hp p0).bind (fun v13 => (FX7_last hp v13).bind (fun v14 => some v14)) else if p1 = (3 : Int32) then (gR [11] 5 hp p0).bind (fun v16 => (FX7_sure hp v16 (1 : Int32)).bind (fun v17 => some v17)) else (gR [11] 5 hp p0).bind (fun v18 => (FX7_sure hp v18 (0 : Int32)).bind (fun v19 => some v19)) else some (-2 : Int32))) else some (-1 : Int32)
set_option maxHeartbeats 4000000 in
set_option maxRecDepth 100000 in
theorem ctX11_fits (l : Launch) (D : va_G) (tg : Nat → ClassId) (bs : Nat) (sa : Nat → Nat) (hp : HP) (p0 : Nat) (p1 : Int32) : Ct l D tg bs sa yX11_fits cX11_fits 2 (some .int) 3 [.ref p0, .int p1] hp (FX11_fits hp p0 p1) (fun r => some (.int r)) (fun _ => hp) := by
  refine Ct.of (by decide) (Nat.le_of_ble_eq_true rfl) ?_
  intro V Q hVl hVd hVt hVb hVs hC
  subst hVl; subst hVd; subst hVt; subst hVb; subst hVs
  unfold FX11_fits
  show Zs V Q (0, 0) 2 _ _ hp [(0, .ref p0), (1, .int p1)] 0 []
  refine z_iload_n hC 1 dX11_fits_0 rfl rfl ?_
  refine z_if_lt hC 9 dX11_fits_1 (by decide) (fun _ => ?_) (fun _ => ?_)
  · refine z_iconst hC (-1 : Int32) dX11_fits_9 (by decide) ?_
    exact z_iret hC (fun h => h) dX11_fits_10
  · refine z_iload_n hC 1 dX11_fits_4 rfl rfl ?_
    refine z_iconst hC (5 : Int32) dX11_fits_5 (by decide) ?_
    refine z_icmp_le hC 11 dX11_fits_6 (by decide) (fun _ => ?_) (fun _ => ?_)
    · refine z_iload_n hC 1 dX11_fits_11 rfl rfl ?_
      refine z_if_ne hC 23 dX11_fits_12 (by decide) (fun _ => ?_) (fun _ => ?_)
      · refine z_aload_n hC 0 dX11_fits_15 rfl rfl ?_
        refine z_getR hC lgRX11_42 dX11_fits_16 (fun v1 => ?_)
        refine z_callSi hC lmRX11_173 (ctX7_size (vLa V) (vDa V) (vTg V) (vBs V) (vSa V) hp v1) (by decide) hn0 dX11_fits_19 rfl rfl (Nat.le_of_ble_eq_true rfl) (fun v2 => ?_)
        exact z_iret hC (fun h => h) dX11_fits_22
      · refine z_iload_n hC 1 dX11_fits_23 rfl rfl ?_
        refine z_iconst hC (5 : Int32) dX11_fits_24 (by decide) ?_
        refine z_icmp_ne hC 51 dX11_fits_25 (by decide) (fun _ => ?_) (fun _ => ?_)
        · refine z_aload_n hC 0 dX11_fits_28 rfl rfl ?_
          refine z_getR hC lgRX11_42 dX11_fits_29 (fun v3 => ?_)
          refine z_aload_n hC 0 dX11_fits_32 rfl rfl ?_
          refine z_getR hC lgRX11_84 dX11_fits_33 (fun v4 => ?_)
          refine z_getI hC lgRX11_105 dX11_fits_36 (fun v5 => ?_)
          refine z_callSi hC lmRX11_176 (ctX7_has (vLa V) (vDa V) (vTg V) (vBs V) (vSa V) hp v3 v5) (by decide) hn0 dX11_fits_39 rfl rfl (Nat.le_of_ble_eq_true rfl) (fun v6 => ?_)
          refine z_if_eq hC 49 dX11_fits_42 (by decide) (fun _ => ?_) (fun _ => ?_)
          · refine z_iconst hC (0 : Int32) dX11_fits_49 (by decide) ?_
            exact z_iret hC (fun h => h) dX11_fits_50
          · refine z_iconst hC (1 : Int32) dX11_fits_45 (by decide) ?_
            refine z_goto hC 50 dX11_fits_46 (by decide) ?_
            exact z_iret hC (fun h => h) dX11_fits_50
        · refine z_aload_n hC 0 dX11_fits_51 rfl rfl ?_
          refine z_getR hC lgRX11_42 dX11_fits_52 (fun v7 => ?_)
          refine z_callSi hC lmRX11_179 (ctX7_isEmpty (vLa V) (vDa V) (vTg V) (vBs V) (vSa V) hp v7) (by decide) hn0 dX11_fits_55 rfl rfl (Nat.le_of_ble_eq_true rfl) (fun v8 => ?_)
          refine z_if_eq hC 64 dX11_fits_58 (by decide) (fun _ => ?_) (fun _ => ?_)
          · refine z_iload_n hC 1 dX11_fits_64 rfl rfl ?_
            refine z_tsw hC (1 : Int32) 92 (27) dX11_fits_65 (by decide) (by decide) (by decide) (by decide) (fun _ => ?_) (fun q9 => ?_)
            · refine z_aload_n hC 0 dX11_fits_92 rfl rfl ?_
              refine z_getR hC lgRX11_42 dX11_fits_93 (fun v10 => ?_)
              refine z_callSi hC lmRX11_183 (ctX7_first (vLa V) (vDa V) (vTg V) (vBs V) (vSa V) hp v10) (by decide) hn0 dX11_fits_96 rfl rfl (Nat.le_of_ble_eq_true rfl) (fun v11 => ?_)
              exact z_iret hC (fun h => h) dX11_fits_99
            refine z_tsw hC (2 : Int32) 100 (35) dX11_fits_65 (by decide) (by decide) (by decide) (by decide) (fun _ => ?_) (fun q12 => ?_)
            · refine z_aload_n hC 0 dX11_fits_100 rfl rfl ?_
              refine z_getR hC lgRX11_42 dX11_fits_101 (fun v13 => ?_)
              refine z_callSi hC lmRX11_186 (ctX7_last (vLa V) (vDa V) (vTg V) (vBs V) (vSa V) hp v13) (by decide) hn0 dX11_fits_104 rfl rfl (Nat.le_of_ble_eq_true rfl) (fun v14 => ?_)
              exact z_iret hC (fun h => h) dX11_fits_107
            refine z_tsw hC (3 : Int32) 108 (43) dX11_fits_65 (by decide) (by decide) (by decide) (by decide) (fun _ => ?_) (fun q15 => ?_)
            · refine z_aload_n hC 0 dX11_fits_108 rfl rfl ?_
              refine z_getR hC lgRX11_42 dX11_fits_109 (fun v16 => ?_)
              refine z_iconst hC (1 : Int32) dX11_fits_112 (by decide) ?_
              refine z_callSi hC lmRX11_189 (ctX7_sure (vLa V) (vDa V) (vTg V) (vBs V) (vSa V) hp v16 (1 : Int32)) (by decide) hn0 dX11_fits_113 rfl rfl (Nat.le_of_ble_eq_true rfl) (fun v17 => ?_)
              exact z_iret hC (fun h => h) dX11_fits_116
            refine z_tswd hC 117 dX11_fits_65 (by decide) (by have eq9 := sw_ne q9 (z := 1) (by decide); have eq12 := sw_ne q12 (z := 2) (by decide); have eq15 := sw_ne q15 (z := 3) (by decide); omega) ?_
            refine z_aload_n hC 0 dX11_fits_117 rfl rfl ?_
            refine z_getR hC lgRX11_42 dX11_fits_118 (fun v18 => ?_)
            refine z_iconst hC (0 : Int32) dX11_fits_121 (by decide) ?_
            refine z_callSi hC lmRX11_189 (ctX7_sure (vLa V) (vDa V) (vTg V) (vBs V) (vSa V) hp v18 (0 : Int32)) (by decide) hn0 dX11_fits_122 rfl rfl (Nat.le_of_ble_eq_true rfl) (fun v19 => ?_)
            exact z_iret hC (fun h => h) dX11_fits_125
          · refine z_bipush hC (-2 : Int32) dX11_fits_61 (by decide) ?_
            exact z_iret hC (fun h => h) dX11_fits_63
    · refine z_iconst hC (-1 : Int32) dX11_fits_9 (by decide) ?_
      exact z_iret hC (fun h => h) dX11_fits_10

theorem dX11_wishIs_0 : decode cX11_wishIs 0 = .ok (.aload_n 0, 1) := by decide +kernel
theorem dX11_wishIs_1 : decode cX11_wishIs 1 = .ok (.getfield 28, 3) := by decide +kernel
theorem dX11_wishIs_4 : decode cX11_wishIs 4 = .ok (.iload_n 1, 1) := by decide +kernel
theorem dX11_wishIs_5 : decode cX11_wishIs 5 = .ok (.invokevirtual 137, 3) := by decide +kernel
theorem dX11_wishIs_8 : decode cX11_wishIs 8 = .ok (.ifCond .eq 12, 3) := by decide +kernel
theorem dX11_wishIs_11 : decode cX11_wishIs 11 = .ok (.iload_n 2, 1) := by decide +kernel
theorem dX11_wishIs_12 : decode cX11_wishIs 12 = .ok (.ifCond .lt 8, 3) := by decide +kernel
theorem dX11_wishIs_15 : decode cX11_wishIs 15 = .ok (.iload_n 2, 1) := by decide +kernel
theorem dX11_wishIs_16 : decode cX11_wishIs 16 = .ok (.iconst 4, 1) := by decide +kernel
theorem dX11_wishIs_17 : decode cX11_wishIs 17 = .ok (.if_icmp .le 5, 3) := by decide +kernel
theorem dX11_wishIs_20 : decode cX11_wishIs 20 = .ok (.iconst (-1), 1) := by decide +kernel
theorem dX11_wishIs_21 : decode cX11_wishIs 21 = .ok (.ireturn, 1) := by decide +kernel
theorem dX11_wishIs_22 : decode cX11_wishIs 22 = .ok (.aload_n 0, 1) := by decide +kernel
theorem dX11_wishIs_23 : decode cX11_wishIs 23 = .ok (.getfield 28, 3) := by decide +kernel
theorem dX11_wishIs_26 : decode cX11_wishIs 26 = .ok (.getfield 193, 3) := by decide +kernel
theorem dX11_wishIs_29 : decode cX11_wishIs 29 = .ok (.iload_n 1, 1) := by decide +kernel
theorem dX11_wishIs_30 : decode cX11_wishIs 30 = .ok (.aaload, 1) := by decide +kernel
theorem dX11_wishIs_31 : decode cX11_wishIs 31 = .ok (.astore_n 3, 1) := by decide +kernel
theorem dX11_wishIs_32 : decode cX11_wishIs 32 = .ok (.iload_n 2, 1) := by decide +kernel
theorem dX11_wishIs_33 : decode cX11_wishIs 33 = .ok (.tableswitch 77 0 3 #[31, 40, 60, 72], 31) := by decide +kernel
theorem dX11_wishIs_64 : decode cX11_wishIs 64 = .ok (.aload_n 0, 1) := by decide +kernel
theorem dX11_wishIs_65 : decode cX11_wishIs 65 = .ok (.getfield 42, 3) := by decide +kernel
theorem dX11_wishIs_68 : decode cX11_wishIs 68 = .ok (.aload_n 3, 1) := by decide +kernel
theorem dX11_wishIs_69 : decode cX11_wishIs 69 = .ok (.invokestatic 197, 3) := by decide +kernel
theorem dX11_wishIs_72 : decode cX11_wishIs 72 = .ok (.ireturn, 1) := by decide +kernel
theorem dX11_wishIs_73 : decode cX11_wishIs 73 = .ok (.aload_n 3, 1) := by decide +kernel
theorem dX11_wishIs_74 : decode cX11_wishIs 74 = .ok (.aload_n 0, 1) := by decide +kernel
theorem dX11_wishIs_75 : decode cX11_wishIs 75 = .ok (.getfield 84, 3) := by decide +kernel
theorem dX11_wishIs_78 : decode cX11_wishIs 78 = .ok (.getfield 105, 3) := by decide +kernel
theorem dX11_wishIs_81 : decode cX11_wishIs 81 = .ok (.invokestatic 176, 3) := by decide +kernel
theorem dX11_wishIs_84 : decode cX11_wishIs 84 = .ok (.ifCond .eq 7, 3) := by decide +kernel
theorem dX11_wishIs_87 : decode cX11_wishIs 87 = .ok (.iconst 1, 1) := by decide +kernel
theorem dX11_wishIs_88 : decode cX11_wishIs 88 = .ok (.goto 4, 3) := by decide +kernel
theorem dX11_wishIs_91 : decode cX11_wishIs 91 = .ok (.iconst 0, 1) := by decide +kernel
theorem dX11_wishIs_92 : decode cX11_wishIs 92 = .ok (.ireturn, 1) := by decide +kernel
theorem dX11_wishIs_93 : decode cX11_wishIs 93 = .ok (.aload_n 0, 1) := by decide +kernel
theorem dX11_wishIs_94 : decode cX11_wishIs 94 = .ok (.getfield 84, 3) := by decide +kernel
theorem dX11_wishIs_97 : decode cX11_wishIs 97 = .ok (.getfield 131, 3) := by decide +kernel
theorem dX11_wishIs_100 : decode cX11_wishIs 100 = .ok (.iload_n 1, 1) := by decide +kernel
theorem dX11_wishIs_101 : decode cX11_wishIs 101 = .ok (.ishr, 1) := by decide +kernel
theorem dX11_wishIs_102 : decode cX11_wishIs 102 = .ok (.iconst 1, 1) := by decide +kernel
theorem dX11_wishIs_103 : decode cX11_wishIs 103 = .ok (.iand, 1) := by decide +kernel
theorem dX11_wishIs_104 : decode cX11_wishIs 104 = .ok (.ireturn, 1) := by decide +kernel
theorem dX11_wishIs_105 : decode cX11_wishIs 105 = .ok (.aload_n 3, 1) := by decide +kernel
theorem dX11_wishIs_106 : decode cX11_wishIs 106 = .ok (.invokestatic 201, 3) := by decide +kernel
theorem dX11_wishIs_109 : decode cX11_wishIs 109 = .ok (.ireturn, 1) := by decide +kernel
theorem dX11_wishIs_110 : decode cX11_wishIs 110 = .ok (.aload_n 3, 1) := by decide +kernel
theorem dX11_wishIs_111 : decode cX11_wishIs 111 = .ok (.invokestatic 204, 3) := by decide +kernel
theorem dX11_wishIs_114 : decode cX11_wishIs 114 = .ok (.ireturn, 1) := by decide +kernel
def FX11_wishIs (hp : HP) (p0 : Nat) (p1 : Int32) (p2 : Int32) : Option (Int32) := (gR [11] 2 hp p0).bind (fun v1 => (rc [0] hp v1 (FX0_has hp v1 p1)).bind (fun v2 => if v2 = 0 then some (-1 : Int32) else if p2 < 0 then some (-1 : Int32) else if p2 ≤ (4 : Int32) then (gR [11] 2 hp p0).bind (fun v3 => (gR [0] 0 hp v3).bind (fun v4 => (rdA 4 hp v4 p1).bind (fun v5 => if p2 = (0 : Int32) then (gR [11] 5 hp p0).bind (fun v7 => (FX7_sharedSize hp v7 v5).bind (fun v8 => some v8)) else if p2 = (1 : Int32) then (gR [11] 12 hp p0).bind (fun v10 => (gI [6] 0 hp v10).bind (fun v11 => (FX7_has hp v5 v11).bind (fun v12 => if v12 = 0 then some (0 : Int32) else some (1 : Int32)))) else if p2 = (2 : Int32) then (gR [11] 12 hp p0).bind (fun v14 => (gI [6] 4 hp v14).bind (fun v15 => some ((v15 >>> (p1 &&& 31)) &&& (1 : Int32)))) else if p2 = (3 : Int32) then (FX7_dependsOn hp v5).bind (fun v17 => some v17) else (FX7_rising hp v5).bind (fun v18 => some v18)))) else some (-1 : Int32)))
set_option maxHeartbeats 4000000 in
set_option maxRecDepth 100000 in
theorem ctX11_wishIs (l : Launch) (D : va_G) (tg : Nat → ClassId) (bs : Nat) (sa : Nat → Nat) (hp : HP) (p0 : Nat) (p1 : Int32) (p2 : Int32) : Ct l D tg bs sa yX11_wishIs cX11_wishIs 4 (some .int) 4 [.ref p0, .int p1, .int p2] hp (FX11_wishIs hp p0 p1 p2) (fun r => some (.int r)) (fun _ => hp) := by
  refine Ct.of (by decide) (Nat.le_of_ble_eq_true rfl) ?_
  intro V Q hVl hVd hVt hVb hVs hC
  subst hVl; subst hVd; subst hVt; subst hVb; subst hVs
  unfold FX11_wishIs
  show Zs V Q (0, 0) 4 _ _ hp [(0, .ref p0), (1, .int p1), (2, .int p2)] 0 []
  refine z_aload_n hC 0 dX11_wishIs_0 rfl rfl ?_
  refine z_getR hC lgRX11_28 dX11_wishIs_1 (fun v1 => ?_)
  refine z_iload_n hC 1 dX11_wishIs_4 rfl rfl ?_
  refine z_callVi hC (ci := 0) rfl lmRX11_137 (ctX0_has (vLa V) (vDa V) (vTg V) (vBs V) (vSa V) hp v1 p1) (by decide) hn0 dX11_wishIs_5 rfl rfl (Nat.le_of_ble_eq_true rfl) (fun v2 => ?_)
  refine z_if_eq hC 20 dX11_wishIs_8 (by decide) (fun _ => ?_) (fun _ => ?_)
  · refine z_iconst hC (-1 : Int32) dX11_wishIs_20 (by decide) ?_
    exact z_iret hC (fun h => h) dX11_wishIs_21
  · refine z_iload_n hC 2 dX11_wishIs_11 rfl rfl ?_
    refine z_if_lt hC 20 dX11_wishIs_12 (by decide) (fun _ => ?_) (fun _ => ?_)
    · refine z_iconst hC (-1 : Int32) dX11_wishIs_20 (by decide) ?_
      exact z_iret hC (fun h => h) dX11_wishIs_21
    · refine z_iload_n hC 2 dX11_wishIs_15 rfl rfl ?_
      refine z_iconst hC (4 : Int32) dX11_wishIs_16 (by decide) ?_
      refine z_icmp_le hC 22 dX11_wishIs_17 (by decide) (fun _ => ?_) (fun _ => ?_)
      · refine z_aload_n hC 0 dX11_wishIs_22 rfl rfl ?_
        refine z_getR hC lgRX11_28 dX11_wishIs_23 (fun v3 => ?_)
        refine z_getR hC lgRX11_193 dX11_wishIs_26 (fun v4 => ?_)
        refine z_iload_n hC 1 dX11_wishIs_29 rfl rfl ?_
        refine z_aald4 hC dX11_wishIs_30 (fun v5 => ?_)
        refine z_astore_n hC [(0, .ref p0), (1, .int p1), (2, .int p2), (3, .ref v5)] [1, 2, 3, 0] dX11_wishIs_31 rfl (by decide) rfl ?_
        refine z_iload_n hC 2 dX11_wishIs_32 rfl rfl ?_
        refine z_tsw hC (0 : Int32) 64 (31) dX11_wishIs_33 (by decide) (by decide) (by decide) (by decide) (fun _ => ?_) (fun q6 => ?_)
        · refine z_aload_n hC 0 dX11_wishIs_64 rfl rfl ?_
          refine z_getR hC lgRX11_42 dX11_wishIs_65 (fun v7 => ?_)
          refine z_aload_n hC 3 dX11_wishIs_68 rfl rfl ?_
          refine z_callSi hC lmRX11_197 (ctX7_sharedSize (vLa V) (vDa V) (vTg V) (vBs V) (vSa V) hp v7 v5) (by decide) hn0 dX11_wishIs_69 rfl rfl (Nat.le_of_ble_eq_true rfl) (fun v8 => ?_)
          exact z_iret hC (fun h => h) dX11_wishIs_72
        refine z_tsw hC (1 : Int32) 73 (40) dX11_wishIs_33 (by decide) (by decide) (by decide) (by decide) (fun _ => ?_) (fun q9 => ?_)
        · refine z_aload_n hC 3 dX11_wishIs_73 rfl rfl ?_
          refine z_aload_n hC 0 dX11_wishIs_74 rfl rfl ?_
          refine z_getR hC lgRX11_84 dX11_wishIs_75 (fun v10 => ?_)
          refine z_getI hC lgRX11_105 dX11_wishIs_78 (fun v11 => ?_)
          refine z_callSi hC lmRX11_176 (ctX7_has (vLa V) (vDa V) (vTg V) (vBs V) (vSa V) hp v5 v11) (by decide) hn0 dX11_wishIs_81 rfl rfl (Nat.le_of_ble_eq_true rfl) (fun v12 => ?_)
          refine z_if_eq hC 91 dX11_wishIs_84 (by decide) (fun _ => ?_) (fun _ => ?_)
          · refine z_iconst hC (0 : Int32) dX11_wishIs_91 (by decide) ?_
            exact z_iret hC (fun h => h) dX11_wishIs_92
          · refine z_iconst hC (1 : Int32) dX11_wishIs_87 (by decide) ?_
            refine z_goto hC 92 dX11_wishIs_88 (by decide) ?_
            exact z_iret hC (fun h => h) dX11_wishIs_92
        refine z_tsw hC (2 : Int32) 93 (60) dX11_wishIs_33 (by decide) (by decide) (by decide) (by decide) (fun _ => ?_) (fun q13 => ?_)
        · refine z_aload_n hC 0 dX11_wishIs_93 rfl rfl ?_
          refine z_getR hC lgRX11_84 dX11_wishIs_94 (fun v14 => ?_)
          refine z_getI hC lgRX11_131 dX11_wishIs_97 (fun v15 => ?_)
          refine z_iload_n hC 1 dX11_wishIs_100 rfl rfl ?_
          refine z_ishr hC dX11_wishIs_101 ?_
          refine z_iconst hC (1 : Int32) dX11_wishIs_102 (by decide) ?_
          refine z_iand hC dX11_wishIs_103 ?_
          exact z_iret hC (fun h => h) dX11_wishIs_104
        refine z_tsw hC (3 : Int32) 105 (72) dX11_wishIs_33 (by decide) (by decide) (by decide) (by decide) (fun _ => ?_) (fun q16 => ?_)
        · refine z_aload_n hC 3 dX11_wishIs_105 rfl rfl ?_
          refine z_callSi hC lmRX11_201 (ctX7_dependsOn (vLa V) (vDa V) (vTg V) (vBs V) (vSa V) hp v5) (by decide) hn0 dX11_wishIs_106 rfl rfl (Nat.le_of_ble_eq_true rfl) (fun v17 => ?_)
          exact z_iret hC (fun h => h) dX11_wishIs_109
        refine z_tswd hC 110 dX11_wishIs_33 (by decide) (by have eq6 := sw_ne q6 (z := 0) (by decide); have eq9 := sw_ne q9 (z := 1) (by decide); have eq13 := sw_ne q13 (z := 2) (by decide); have eq16 := sw_ne q16 (z := 3) (by decide); omega) ?_
        refine z_aload_n hC 3 dX11_wishIs_110 rfl rfl ?_
        refine z_callSi hC lmRX11_204 (ctX7_rising (vLa V) (vDa V) (vTg V) (vBs V) (vSa V) hp v5) (by decide) hn0 dX11_wishIs_111 rfl rfl (Nat.le_of_ble_eq_true rfl) (fun v18 => ?_)
        exact z_iret hC (fun h => h) dX11_wishIs_114
      · refine z_iconst hC (-1 : Int32) dX11_wishIs_20 (by decide) ?_
        exact z_iret hC (fun h => h) dX11_wishIs_21

