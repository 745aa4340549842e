theorem dX12_has_0 : decode cX12_has 0 = .ok (.iload_n 0, 1) := by decide +kernel
theorem dX12_has_1 : decode cX12_has 1 = .ok (.iload_n 1, 1) := by decide +kernel
theorem dX12_has_2 : decode cX12_has 2 = .ok (.ishr, 1) := by decide +kernel
theorem dX12_has_3 : decode cX12_has 3 = .ok (.iconst 1, 1) := by decide +kernel
theorem dX12_has_4 : decode cX12_has 4 = .ok (.iand, 1) := by decide +kernel
theorem dX12_has_5 : decode cX12_has 5 = .ok (.iconst 1, 1) := by decide +kernel
theorem dX12_has_6 : decode cX12_has 6 = .ok (.if_icmp .ne 7, 3) := by decide +kernel
theorem dX12_has_9 : decode cX12_has 9 = .ok (.iconst 1, 1) := by decide +kernel
theorem dX12_has_10 : decode cX12_has 10 = .ok (.goto 4, 3) := by decide +kernel
theorem dX12_has_13 : decode cX12_has 13 = .ok (.iconst 0, 1) := by decide +kernel
theorem dX12_has_14 : decode cX12_has 14 = .ok (.ireturn, 1) := by decide +kernel
def FX12_has (p0 : Int32) (p1 : Int32) : Option (Int32) := if ((p0 >>> (p1 &&& 31)) &&& (1 : Int32)) = (1 : Int32) then some (1 : Int32) else some (0 : Int32)
set_option maxHeartbeats 4000000 in
set_option maxRecDepth 100000 in
theorem ctX12_has (l : Launch) (D : va_G) (tg : Nat → ClassId) (bs : Nat) (sa : Nat → Nat) (hp : HP) (p0 : Int32) (p1 : Int32) : Ct l D tg bs sa yX12_has cX12_has 2 (some .boolean) 0 [.int p0, .int p1] hp (FX12_has p0 p1) (fun r => some (.int r)) (fun _ => hp) := by
  refine Ct.of (by decide) (Nat.le_of_ble_eq_true rfl) ?_
  intro V Q hVl hVd hVt hVb hVs hC
  subst hVl; subst hVd; subst hVt; subst hVb; subst hVs
  unfold FX12_has
  show Zs V Q (0, 0) 2 _ _ hp [(0, .int p0), (1, .int p1)] 0 []
  refine z_iload_n hC 0 dX12_has_0 rfl rfl ?_
  refine z_iload_n hC 1 dX12_has_1 rfl rfl ?_
  refine z_ishr hC dX12_has_2 ?_
  refine z_iconst hC (1 : Int32) dX12_has_3 (by decide) ?_
  refine z_iand hC dX12_has_4 ?_
  refine z_iconst hC (1 : Int32) dX12_has_5 (by decide) ?_
  refine z_icmp_ne hC 13 dX12_has_6 (by decide) (fun _ => ?_) (fun _ => ?_)
  · refine z_iconst hC (1 : Int32) dX12_has_9 (by decide) ?_
    refine z_goto hC 14 dX12_has_10 (by decide) ?_
    exact z_zret hC (by decide) (fun h => h) dX12_has_14
  · refine z_iconst hC (0 : Int32) dX12_has_13 (by decide) ?_
    exact z_zret hC (by decide) (fun h => h) dX12_has_14

theorem dX12_allowsBy_0 : decode cX12_allowsBy 0 = .ok (.iconst 0, 1) := by decide +kernel
theorem dX12_allowsBy_1 : decode cX12_allowsBy 1 = .ok (.istore_n 3, 1) := by decide +kernel
theorem dX12_allowsBy_2 : decode cX12_allowsBy 2 = .ok (.iload_n 3, 1) := by decide +kernel
theorem dX12_allowsBy_3 : decode cX12_allowsBy 3 = .ok (.bipush 8, 2) := by decide +kernel
theorem dX12_allowsBy_5 : decode cX12_allowsBy 5 = .ok (.if_icmp .ge 34, 3) := by decide +kernel
theorem dX12_allowsBy_8 : decode cX12_allowsBy 8 = .ok (.iload_n 1, 1) := by decide +kernel
theorem dX12_allowsBy_9 : decode cX12_allowsBy 9 = .ok (.iload_n 3, 1) := by decide +kernel
theorem dX12_allowsBy_10 : decode cX12_allowsBy 10 = .ok (.invokestatic 107, 3) := by decide +kernel
theorem dX12_allowsBy_13 : decode cX12_allowsBy 13 = .ok (.ifCond .eq 20, 3) := by decide +kernel
theorem dX12_allowsBy_16 : decode cX12_allowsBy 16 = .ok (.aload_n 0, 1) := by decide +kernel
theorem dX12_allowsBy_17 : decode cX12_allowsBy 17 = .ok (.getfield 17, 3) := by decide +kernel
theorem dX12_allowsBy_20 : decode cX12_allowsBy 20 = .ok (.sipush 1024, 3) := by decide +kernel
theorem dX12_allowsBy_23 : decode cX12_allowsBy 23 = .ok (.iload_n 3, 1) := by decide +kernel
theorem dX12_allowsBy_24 : decode cX12_allowsBy 24 = .ok (.imul, 1) := by decide +kernel
theorem dX12_allowsBy_25 : decode cX12_allowsBy 25 = .ok (.iload_n 2, 1) := by decide +kernel
theorem dX12_allowsBy_26 : decode cX12_allowsBy 26 = .ok (.iadd, 1) := by decide +kernel
theorem dX12_allowsBy_27 : decode cX12_allowsBy 27 = .ok (.baload, 1) := by decide +kernel
theorem dX12_allowsBy_28 : decode cX12_allowsBy 28 = .ok (.ifCond .ne 5, 3) := by decide +kernel
theorem dX12_allowsBy_31 : decode cX12_allowsBy 31 = .ok (.iconst 0, 1) := by decide +kernel
theorem dX12_allowsBy_32 : decode cX12_allowsBy 32 = .ok (.ireturn, 1) := by decide +kernel
theorem dX12_allowsBy_33 : decode cX12_allowsBy 33 = .ok (.iinc 3 1, 3) := by decide +kernel
theorem dX12_allowsBy_36 : decode cX12_allowsBy 36 = .ok (.goto (-34), 3) := by decide +kernel
theorem dX12_allowsBy_39 : decode cX12_allowsBy 39 = .ok (.iconst 1, 1) := by decide +kernel
theorem dX12_allowsBy_40 : decode cX12_allowsBy 40 = .ok (.ireturn, 1) := by decide +kernel
def FX12_allowsBy (hp : HP) (p0 : Nat) (p1 : Int32) (p2 : Int32) : Option (Int32) := (lp (fun (s1 : Int32) => if (8 : Int32) ≤ s1 then some (Sum.inl (Sum.inr ())) else (FX12_has p1 s1).bind (fun v3 => if v3 = 0 then vl (s1 + (1 : Int32)) (fun x4 => some (Sum.inr x4)) else (gR [12] 2 hp p0).bind (fun v5 => (rdN 2 hp v5 (((1024 : Int32) * s1) + p2)).bind (fun v6 => if v6 = 0 then some (Sum.inl (Sum.inl (0 : Int32))) else vl (s1 + (1 : Int32)) (fun x7 => some (Sum.inr x7)))))) FU (0 : Int32)).bind (lk (P := Int32) (fun r => r) (fun (y2 : Unit) => some (1 : Int32)))
set_option maxHeartbeats 4000000 in
set_option maxRecDepth 100000 in
theorem ctX12_allowsBy (l : Launch) (D : va_G) (tg : Nat → ClassId) (bs : Nat) (sa : Nat → Nat) (hp : HP) (p0 : Nat) (p1 : Int32) (p2 : Int32) : Ct l D tg bs sa yX12_allowsBy cX12_allowsBy 4 (some .boolean) 1 [.ref p0, .int p1, .int p2] hp (FX12_allowsBy hp p0 p1 p2) (fun r => some (.int r)) (fun _ => hp) := by
  refine Ct.of (by decide) (Nat.le_of_ble_eq_true rfl) ?_
  intro V Q hVl hVd hVt hVb hVs hC
  subst hVl; subst hVd; subst hVt; subst hVb; subst hVs
  unfold FX12_allowsBy
  show Zs V Q (0, 0) 4 _ _ hp [(0, .ref p0), (1, .int p1), (2, .int p2)] 0 []
  refine z_iconst hC (0 : Int32) dX12_allowsBy_0 (by decide) ?_
  refine z_istore_n hC [(0, .ref p0), (1, .int p1), (2, .int p2), (3, .int (0 : Int32))] [1, 2, 3, 0] dX12_allowsBy_1 rfl (by decide) rfl ?_
  refine z_lpR (S := Int32) (Y := Unit) (fun s1 => hp) (fun s1 => [(0, .ref p0), (1, .int p1), (2, .int p2), (3, .int s1)]) (fun y2 => hp) (fun y2 => []) 39 [] (fun y2 => ?_) (fun s1 => ?_) rfl rfl
  · refine z_iconst hC (1 : Int32) dX12_allowsBy_39 (by decide) ?_
    exact z_zret hC (by decide) (fun h => h) dX12_allowsBy_40
  · refine z_iload_n hC 3 dX12_allowsBy_2 rfl rfl ?_
    refine z_bipush hC (8 : Int32) dX12_allowsBy_3 (by decide) ?_
    refine z_icmp_ge hC 39 dX12_allowsBy_5 (by decide) (fun _ => ?_) (fun _ => ?_)
    · refine z_weak [] [] rfl ?_
      exact z_leaf (fun h => h)
    · refine z_iload_n hC 1 dX12_allowsBy_8 rfl rfl ?_
      refine z_iload_n hC 3 dX12_allowsBy_9 rfl rfl ?_
      refine z_callSi hC lmRX12_107 (ctX12_has (vLa V) (vDa V) (vTg V) (vBs V) (vSa V) hp p1 s1) (by decide) hn0 dX12_allowsBy_10 rfl rfl (Nat.le_of_ble_eq_true rfl) (fun v3 => ?_)
      refine z_if_eq hC 33 dX12_allowsBy_13 (by decide) (fun _ => ?_) (fun _ => ?_)
      · refine z_iincv hC (1 : Int32) 3 (fun x4 => [(0, .ref p0), (1, .int p1), (2, .int p2), (3, .int x4)]) [1, 2, 3, 0] dX12_allowsBy_33 rfl (by decide) (by decide) (fun _ => rfl) (fun x4 => ?_)
        refine z_goto hC 2 dX12_allowsBy_36 (by decide) ?_
        exact z_leaf (fun h => h)
      · refine z_aload_n hC 0 dX12_allowsBy_16 rfl rfl ?_
        refine z_getR hC lgRX12_17 dX12_allowsBy_17 (fun v5 => ?_)
        refine z_sipush hC (1024 : Int32) dX12_allowsBy_20 (by decide) ?_
        refine z_iload_n hC 3 dX12_allowsBy_23 rfl rfl ?_
        refine z_imul hC dX12_allowsBy_24 ?_
        refine z_iload_n hC 2 dX12_allowsBy_25 rfl rfl ?_
        refine z_iadd hC dX12_allowsBy_26 ?_
        refine z_zald hC dX12_allowsBy_27 (fun v6 => ?_)
        refine z_if_ne hC 33 dX12_allowsBy_28 (by decide) (fun _ => ?_) (fun _ => ?_)
        · refine z_iconst hC (0 : Int32) dX12_allowsBy_31 (by decide) ?_
          exact z_zret hC (by decide) (fun h => h) dX12_allowsBy_32
        · refine z_iincv hC (1 : Int32) 3 (fun x7 => [(0, .ref p0), (1, .int p1), (2, .int p2), (3, .int x7)]) [1, 2, 3, 0] dX12_allowsBy_33 rfl (by decide) (by decide) (fun _ => rfl) (fun x7 => ?_)
          refine z_goto hC 2 dX12_allowsBy_36 (by decide) ?_
          exact z_leaf (fun h => h)

theorem dX12_laysFits_0 : decode cX12_laysFits 0 = .ok (.iconst 0, 1) := by decide +kernel
theorem dX12_laysFits_1 : decode cX12_laysFits 1 = .ok (.istore_n 1, 1) := by decide +kernel
theorem dX12_laysFits_2 : decode cX12_laysFits 2 = .ok (.iload_n 1, 1) := by decide +kernel
theorem dX12_laysFits_3 : decode cX12_laysFits 3 = .ok (.sipush 1024, 3) := by decide +kernel
theorem dX12_laysFits_6 : decode cX12_laysFits 6 = .ok (.if_icmp .ge 24, 3) := by decide +kernel
theorem dX12_laysFits_9 : decode cX12_laysFits 9 = .ok (.aload_n 0, 1) := by decide +kernel
theorem dX12_laysFits_10 : decode cX12_laysFits 10 = .ok (.getfield 20, 3) := by decide +kernel
theorem dX12_laysFits_13 : decode cX12_laysFits 13 = .ok (.iload_n 1, 1) := by decide +kernel
theorem dX12_laysFits_14 : decode cX12_laysFits 14 = .ok (.aload_n 0, 1) := by decide +kernel
theorem dX12_laysFits_15 : decode cX12_laysFits 15 = .ok (.aload_n 0, 1) := by decide +kernel
theorem dX12_laysFits_16 : decode cX12_laysFits 16 = .ok (.getfield 115, 3) := by decide +kernel
theorem dX12_laysFits_19 : decode cX12_laysFits 19 = .ok (.iload_n 1, 1) := by decide +kernel
theorem dX12_laysFits_20 : decode cX12_laysFits 20 = .ok (.invokevirtual 118, 3) := by decide +kernel
theorem dX12_laysFits_23 : decode cX12_laysFits 23 = .ok (.bastore, 1) := by decide +kernel
theorem dX12_laysFits_24 : decode cX12_laysFits 24 = .ok (.iinc 1 1, 3) := by decide +kernel
theorem dX12_laysFits_27 : decode cX12_laysFits 27 = .ok (.goto (-25), 3) := by decide +kernel
theorem dX12_laysFits_30 : decode cX12_laysFits 30 = .ok (.return_, 1) := by decide +kernel
def FX12_laysFits (hp : HP) (p0 : Nat) : Option (HP) := (lp (fun (s1 : Int32 × HP) => if (1024 : Int32) ≤ s1.1 then some (Sum.inl s1.2) else (gR [12] 3 s1.2 p0).bind (fun v3 => (gI [12] 6 s1.2 p0).bind (fun v4 => (rc [12] s1.2 p0 (FX12_allowsBy s1.2 p0 v4 s1.1)).bind (fun v5 => (wrZ s1.2 v3 s1.1 v5).bind (fun hp6 => vl (s1.1 + (1 : Int32)) (fun x7 => some (Sum.inr (x7, hp6)))))))) FU ((0 : Int32), hp)).bind (fun (y2 : HP) => some y2)
set_option maxHeartbeats 4000000 in
set_option maxRecDepth 100000 in
theorem ctX12_laysFits (l : Launch) (D : va_G) (tg : Nat → ClassId) (bs : Nat) (sa : Nat → Nat) (hp : HP) (p0 : Nat) : Ct l D tg bs sa yX12_laysFits cX12_laysFits 2 none 2 [.ref p0] hp (FX12_laysFits hp p0) (fun _ => none) (fun r => r) := by
  refine Ct.of (by decide) (Nat.le_of_ble_eq_true rfl) ?_
  intro V Q hVl hVd hVt hVb hVs hC
  subst hVl; subst hVd; subst hVt; subst hVb; subst hVs
  unfold FX12_laysFits
  show Zs V Q (0, 0) 2 _ _ hp [(0, .ref p0)] 0 []
  refine z_iconst hC (0 : Int32) dX12_laysFits_0 (by decide) ?_
  refine z_istore_n hC [(0, .ref p0), (1, .int (0 : Int32))] [1, 0] dX12_laysFits_1 rfl (by decide) rfl ?_
  refine z_lp (S := Int32 × HP) (Y := HP) (fun s1 => s1.2) (fun s1 => [(0, .ref p0), (1, .int s1.1)]) (fun y2 => y2) (fun y2 => []) 30 [] (fun y2 => ?_) (fun s1 => ?_) rfl rfl
  · exact z_vret hC (fun h => h) dX12_laysFits_30
  · refine z_iload_n hC 1 dX12_laysFits_2 rfl rfl ?_
    refine z_sipush hC (1024 : Int32) dX12_laysFits_3 (by decide) ?_
    refine z_icmp_ge hC 30 dX12_laysFits_6 (by decide) (fun _ => ?_) (fun _ => ?_)
    · refine z_weak [] [] rfl ?_
      exact z_leaf (fun h => h)
    · refine z_aload_n hC 0 dX12_laysFits_9 rfl rfl ?_
      refine z_getR hC lgRX12_20 dX12_laysFits_10 (fun v3 => ?_)
      refine z_iload_n hC 1 dX12_laysFits_13 rfl rfl ?_
      refine z_aload_n hC 0 dX12_laysFits_14 rfl rfl ?_
      refine z_aload_n hC 0 dX12_laysFits_15 rfl rfl ?_
      refine z_getI hC lgRX12_115 dX12_laysFits_16 (fun v4 => ?_)
      refine z_iload_n hC 1 dX12_laysFits_19 rfl rfl ?_
      refine z_callVi hC (ci := 12) rfl lmRX12_118 (ctX12_allowsBy (vLa V) (vDa V) (vTg V) (vBs V) (vSa V) s1.2 p0 v4 s1.1) (by decide) hn0 dX12_laysFits_20 rfl rfl (Nat.le_of_ble_eq_true rfl) (fun v5 => ?_)
      refine z_zast hC dX12_laysFits_23 (fun hp6 => ?_)
      refine z_iincv hC (1 : Int32) 1 (fun x7 => [(0, .ref p0), (1, .int x7)]) [1, 0] dX12_laysFits_24 rfl (by decide) (by decide) (fun _ => rfl) (fun x7 => ?_)
      refine z_goto hC 2 dX12_laysFits_27 (by decide) ?_
      exact z_leaf (fun h => h)

theorem dX12_in_0 : decode cX12_in 0 = .ok (.iload_n 0, 1) := by decide +kernel
theorem dX12_in_1 : decode cX12_in 1 = .ok (.iload_n 1, 1) := by decide +kernel
theorem dX12_in_2 : decode cX12_in 2 = .ok (.if_icmp .lt 12, 3) := by decide +kernel
theorem dX12_in_5 : decode cX12_in 5 = .ok (.iload_n 0, 1) := by decide +kernel
theorem dX12_in_6 : decode cX12_in 6 = .ok (.iload_n 2, 1) := by decide +kernel
theorem dX12_in_7 : decode cX12_in 7 = .ok (.if_icmp .gt 7, 3) := by decide +kernel
theorem dX12_in_10 : decode cX12_in 10 = .ok (.iconst 1, 1) := by decide +kernel
theorem dX12_in_11 : decode cX12_in 11 = .ok (.goto 4, 3) := by decide +kernel
theorem dX12_in_14 : decode cX12_in 14 = .ok (.iconst 0, 1) := by decide +kernel
theorem dX12_in_15 : decode cX12_in 15 = .ok (.ireturn, 1) := by decide +kernel
def FX12_in (p0 : Int32) (p1 : Int32) (p2 : Int32) : Option (Int32) := if p0 < p1 then some (0 : Int32) else if p2 < p0 then some (0 : Int32) else some (1 : Int32)
set_option maxHeartbeats 4000000 in
set_option maxRecDepth 100000 in
theorem ctX12_in (l : Launch) (D : va_G) (tg : Nat → ClassId) (bs : Nat) (sa : Nat → Nat) (hp : HP) (p0 : Int32) (p1 : Int32) (p2 : Int32) : Ct l D tg bs sa yX12_in cX12_in 3 (some .boolean) 0 [.int p0, .int p1, .int p2] hp (FX12_in p0 p1 p2) (fun r => some (.int r)) (fun _ => hp) := by
  refine Ct.of (by decide) (Nat.le_of_ble_eq_true rfl) ?_
  intro V Q hVl hVd hVt hVb hVs hC
  subst hVl; subst hVd; subst hVt; subst hVb; subst hVs
  unfold FX12_in
  show Zs V Q (0, 0) 3 _ _ hp [(0, .int p0), (1, .int p1), (2, .int p2)] 0 []
  refine z_iload_n hC 0 dX12_in_0 rfl rfl ?_
  refine z_iload_n hC 1 dX12_in_1 rfl rfl ?_
  refine z_icmp_lt hC 14 dX12_in_2 (by decide) (fun _ => ?_) (fun _ => ?_)
  · refine z_iconst hC (0 : Int32) dX12_in_14 (by decide) ?_
    exact z_zret hC (by decide) (fun h => h) dX12_in_15
  · refine z_iload_n hC 0 dX12_in_5 rfl rfl ?_
    refine z_iload_n hC 2 dX12_in_6 rfl rfl ?_
    refine z_icmp_gt hC 14 dX12_in_7 (by decide) (fun _ => ?_) (fun _ => ?_)
    · refine z_iconst hC (0 : Int32) dX12_in_14 (by decide) ?_
      exact z_zret hC (by decide) (fun h => h) dX12_in_15
    · refine z_iconst hC (1 : Int32) dX12_in_10 (by decide) ?_
      refine z_goto hC 15 dX12_in_11 (by decide) ?_
      exact z_zret hC (by decide) (fun h => h) dX12_in_15

theorem dX12_min_0 : decode cX12_min 0 = .ok (.iload_n 0, 1) := by decide +kernel
theorem dX12_min_1 : decode cX12_min 1 = .ok (.iload_n 1, 1) := by decide +kernel
theorem dX12_min_2 : decode cX12_min 2 = .ok (.if_icmp .ge 7, 3) := by decide +kernel
theorem dX12_min_5 : decode cX12_min 5 = .ok (.iload_n 0, 1) := by decide +kernel
theorem dX12_min_6 : decode cX12_min 6 = .ok (.goto 4, 3) := by decide +kernel
theorem dX12_min_9 : decode cX12_min 9 = .ok (.iload_n 1, 1) := by decide +kernel
theorem dX12_min_10 : decode cX12_min 10 = .ok (.ireturn, 1) := by decide +kernel
def FX12_min (p0 : Int32) (p1 : Int32) : Option (Int32) := if p1 ≤ p0 then some p1 else some p0
set_option maxHeartbeats 4000000 in
set_option maxRecDepth 100000 in
theorem ctX12_min (l : Launch) (D : va_G) (tg : Nat → ClassId) (bs : Nat) (sa : Nat → Nat) (hp : HP) (p0 : Int32) (p1 : Int32) : Ct l D tg bs sa yX12_min cX12_min 2 (some .int) 0 [.int p0, .int p1] hp (FX12_min p0 p1) (fun r => some (.int r)) (fun _ => hp) := by
  refine Ct.of (by decide) (Nat.le_of_ble_eq_true rfl) ?_
  intro V Q hVl hVd hVt hVb hVs hC
  subst hVl; subst hVd; subst hVt; subst hVb; subst hVs
  unfold FX12_min
  show Zs V Q (0, 0) 2 _ _ hp [(0, .int p0), (1, .int p1)] 0 []
  refine z_iload_n hC 0 dX12_min_0 rfl rfl ?_
  refine z_iload_n hC 1 dX12_min_1 rfl rfl ?_
  refine z_icmp_ge hC 9 dX12_min_2 (by decide) (fun _ => ?_) (fun _ => ?_)
  · refine z_iload_n hC 1 dX12_min_9 rfl rfl ?_
    exact z_iret hC (fun h => h) dX12_min_10
  · refine z_iload_n hC 0 dX12_min_5 rfl rfl ?_
    refine z_goto hC 10 dX12_min_6 (by decide) ?_
    exact z_iret hC (fun h => h) dX12_min_10

theorem dX12_max_0 : decode cX12_max 0 = .ok (.iload_n 0, 1) := by decide +kernel
theorem dX12_max_1 : decode cX12_max 1 = .ok (.iload_n 1, 1) := by decide +kernel
theorem dX12_max_2 : decode cX12_max 2 = .ok (.if_icmp .le 7, 3) := by decide +kernel
theorem dX12_max_5 : decode cX12_max 5 = .ok (.iload_n 0, 1) := by decide +kernel
theorem dX12_max_6 : decode cX12_max 6 = .ok (.goto 4, 3) := by decide +kernel
theorem dX12_max_9 : decode cX12_max 9 = .ok (.iload_n 1, 1) := by decide +kernel
theorem dX12_max_10 : decode cX12_max 10 = .ok (.ireturn, 1) := by decide +kernel
def FX12_max (p0 : Int32) (p1 : Int32) : Option (Int32) := if p0 ≤ p1 then some p1 else some p0
set_option maxHeartbeats 4000000 in
set_option maxRecDepth 100000 in
theorem ctX12_max (l : Launch) (D : va_G) (tg : Nat → ClassId) (bs : Nat) (sa : Nat → Nat) (hp : HP) (p0 : Int32) (p1 : Int32) : Ct l D tg bs sa yX12_max cX12_max 2 (some .int) 0 [.int p0, .int p1] hp (FX12_max p0 p1) (fun r => some (.int r)) (fun _ => hp) := by
  refine Ct.of (by decide) (Nat.le_of_ble_eq_true rfl) ?_
  intro V Q hVl hVd hVt hVb hVs hC
  subst hVl; subst hVd; subst hVt; subst hVb; subst hVs
  unfold FX12_max
  show Zs V Q (0, 0) 2 _ _ hp [(0, .int p0), (1, .int p1)] 0 []
  refine z_iload_n hC 0 dX12_max_0 rfl rfl ?_
  refine z_iload_n hC 1 dX12_max_1 rfl rfl ?_
  refine z_icmp_le hC 9 dX12_max_2 (by decide) (fun _ => ?_) (fun _ => ?_)
  · refine z_iload_n hC 1 dX12_max_9 rfl rfl ?_
    exact z_iret hC (fun h => h) dX12_max_10
  · refine z_iload_n hC 0 dX12_max_5 rfl rfl ?_
    refine z_goto hC 10 dX12_max_6 (by decide) ?_
    exact z_iret hC (fun h => h) dX12_max_10

theorem dX12_bits_0 : decode cX12_bits 0 = .ok (.iconst 0, 1) := by decide +kernel
theorem dX12_bits_1 : decode cX12_bits 1 = .ok (.istore_n 1, 1) := by decide +kernel
theorem dX12_bits_2 : decode cX12_bits 2 = .ok (.iconst 0, 1) := by decide +kernel
theorem dX12_bits_3 : decode cX12_bits 3 = .ok (.istore_n 2, 1) := by decide +kernel
theorem dX12_bits_4 : decode cX12_bits 4 = .ok (.iload_n 2, 1) := by decide +kernel
theorem dX12_bits_5 : decode cX12_bits 5 = .ok (.bipush 10, 2) := by decide +kernel
theorem dX12_bits_7 : decode cX12_bits 7 = .ok (.if_icmp .ge 17, 3) := by decide +kernel
theorem dX12_bits_10 : decode cX12_bits 10 = .ok (.iload_n 1, 1) := by decide +kernel
theorem dX12_bits_11 : decode cX12_bits 11 = .ok (.iload_n 0, 1) := by decide +kernel
theorem dX12_bits_12 : decode cX12_bits 12 = .ok (.iload_n 2, 1) := by decide +kernel
theorem dX12_bits_13 : decode cX12_bits 13 = .ok (.ishr, 1) := by decide +kernel
theorem dX12_bits_14 : decode cX12_bits 14 = .ok (.iconst 1, 1) := by decide +kernel
theorem dX12_bits_15 : decode cX12_bits 15 = .ok (.iand, 1) := by decide +kernel
theorem dX12_bits_16 : decode cX12_bits 16 = .ok (.iadd, 1) := by decide +kernel
theorem dX12_bits_17 : decode cX12_bits 17 = .ok (.istore_n 1, 1) := by decide +kernel
theorem dX12_bits_18 : decode cX12_bits 18 = .ok (.iinc 2 1, 3) := by decide +kernel
theorem dX12_bits_21 : decode cX12_bits 21 = .ok (.goto (-17), 3) := by decide +kernel
theorem dX12_bits_24 : decode cX12_bits 24 = .ok (.iload_n 1, 1) := by decide +kernel
theorem dX12_bits_25 : decode cX12_bits 25 = .ok (.ireturn, 1) := by decide +kernel
def FX12_bits (p0 : Int32) : Option (Int32) := (lp (fun (s1 : Int32 × Int32) => if (10 : Int32) ≤ s1.2 then some (Sum.inl s1.1) else vl (s1.1 + ((p0 >>> (s1.2 &&& 31)) &&& (1 : Int32))) (fun x3 => vl (s1.2 + (1 : Int32)) (fun x4 => some (Sum.inr (x3, x4))))) FU ((0 : Int32), (0 : Int32))).bind (fun (y2 : Int32) => some y2)
set_option maxHeartbeats 4000000 in
set_option maxRecDepth 100000 in
theorem ctX12_bits (l : Launch) (D : va_G) (tg : Nat → ClassId) (bs : Nat) (sa : Nat → Nat) (hp : HP) (p0 : Int32) : Ct l D tg bs sa yX12_bits cX12_bits 3 (some .int) 0 [.int p0] hp (FX12_bits p0) (fun r => some (.int r)) (fun _ => hp) := by
  refine Ct.of (by decide) (Nat.le_of_ble_eq_true rfl) ?_
  intro V Q hVl hVd hVt hVb hVs hC
  subst hVl; subst hVd; subst hVt; subst hVb; subst hVs
  unfold FX12_bits
  show Zs V Q (0, 0) 3 _ _ hp [(0, .int p0)] 0 []
  refine z_iconst hC (0 : Int32) dX12_bits_0 (by decide) ?_
  refine z_istore_n hC [(0, .int p0), (1, .int (0 : Int32))] [1, 0] dX12_bits_1 rfl (by decide) rfl ?_
  refine z_iconst hC (0 : Int32) dX12_bits_2 (by decide) ?_
  refine z_istore_n hC [(0, .int p0), (1, .int (0 : Int32)), (2, .int (0 : Int32))] [1, 2, 0] dX12_bits_3 rfl (by decide) rfl ?_
  refine z_lp (S := Int32 × Int32) (Y := Int32) (fun s1 => hp) (fun s1 => [(0, .int p0), (1, .int s1.1), (2, .int s1.2)]) (fun y2 => hp) (fun y2 => [(1, .int y2)]) 24 [] (fun y2 => ?_) (fun s1 => ?_) rfl rfl
  · refine z_iload_n hC 0 dX12_bits_24 rfl rfl ?_
    exact z_iret hC (fun h => h) dX12_bits_25
  · refine z_iload_n hC 2 dX12_bits_4 rfl rfl ?_
    refine z_bipush hC (10 : Int32) dX12_bits_5 (by decide) ?_
    refine z_icmp_ge hC 24 dX12_bits_7 (by decide) (fun _ => ?_) (fun _ => ?_)
    · refine z_weak [(1, .int s1.1)] [1] rfl ?_
      exact z_leaf (fun h => h)
    · refine z_iload_n hC 1 dX12_bits_10 rfl rfl ?_
      refine z_iload_n hC 0 dX12_bits_11 rfl rfl ?_
      refine z_iload_n hC 2 dX12_bits_12 rfl rfl ?_
      refine z_ishr hC dX12_bits_13 ?_
      refine z_iconst hC (1 : Int32) dX12_bits_14 (by decide) ?_
      refine z_iand hC dX12_bits_15 ?_
      refine z_iadd hC dX12_bits_16 ?_
      refine z_vli (fun x3 => ?_)
      refine z_istore_n hC [(0, .int p0), (1, .int x3), (2, .int s1.2)] [1, 0, 2] dX12_bits_17 rfl (by decide) rfl ?_
      refine z_iincv hC (1 : Int32) 2 (fun x4 => [(0, .int p0), (1, .int x3), (2, .int x4)]) [1, 2, 0] dX12_bits_18 rfl (by decide) (by decide) (fun _ => rfl) (fun x4 => ?_)
      refine z_goto hC 4 dX12_bits_21 (by decide) ?_
      exact z_leaf (fun h => h)

theorem dX12_isWish_0 : decode cX12_isWish 0 = .ok (.iload_n 1, 1) := by decide +kernel
theorem dX12_isWish_1 : decode cX12_isWish 1 = .ok (.iconst 0, 1) := by decide +kernel
theorem dX12_isWish_2 : decode cX12_isWish 2 = .ok (.bipush 7, 2) := by decide +kernel
theorem dX12_isWish_4 : decode cX12_isWish 4 = .ok (.invokestatic 99, 3) := by decide +kernel
theorem dX12_isWish_7 : decode cX12_isWish 7 = .ok (.ifCond .eq 18, 3) := by decide +kernel
theorem dX12_isWish_10 : decode cX12_isWish 10 = .ok (.aload_n 0, 1) := by decide +kernel
theorem dX12_isWish_11 : decode cX12_isWish 11 = .ok (.getfield 103, 3) := by decide +kernel
theorem dX12_isWish_14 : decode cX12_isWish 14 = .ok (.iload_n 1, 1) := by decide +kernel
theorem dX12_isWish_15 : decode cX12_isWish 15 = .ok (.invokestatic 107, 3) := by decide +kernel
theorem dX12_isWish_18 : decode cX12_isWish 18 = .ok (.ifCond .eq 7, 3) := by decide +kernel
theorem dX12_isWish_21 : decode cX12_isWish 21 = .ok (.iconst 1, 1) := by decide +kernel
theorem dX12_isWish_22 : decode cX12_isWish 22 = .ok (.goto 4, 3) := by decide +kernel
theorem dX12_isWish_25 : decode cX12_isWish 25 = .ok (.iconst 0, 1) := by decide +kernel
theorem dX12_isWish_26 : decode cX12_isWish 26 = .ok (.ireturn, 1) := by decide +kernel
def FX12_isWish (hp : HP) (p0 : Nat) (p1 : Int32) : Option (Int32) := (FX12_in p1 (0 : Int32) (7 : Int32)).bind (fun v1 => if v1 = 0 then some (0 : Int32) else (gI [12] 5 hp p0).bind (fun v2 => (FX12_has v2 p1).bind (fun v3 => if v3 = 0 then some (0 : Int32) else some (1 : Int32))))
set_option maxHeartbeats 4000000 in
set_option maxRecDepth 100000 in
theorem ctX12_isWish (l : Launch) (D : va_G) (tg : Nat → ClassId) (bs : Nat) (sa : Nat → Nat) (hp : HP) (p0 : Nat) (p1 : Int32) : Ct l D tg bs sa yX12_isWish cX12_isWish 2 (some .boolean) 1 [.ref p0, .int p1] hp (FX12_isWish hp p0 p1) (fun r => some (.int r)) (fun _ => hp) := by
  refine Ct.of (by decide) (Nat.le_of_ble_eq_true rfl) ?_
  intro V Q hVl hVd hVt hVb hVs hC
  subst hVl; subst hVd; subst hVt; subst hVb; subst hVs
  unfold FX12_isWish
  show Zs V Q (0, 0) 2 _ _ hp [(0, .ref p0), (1, .int p1)] 0 []
  refine z_iload_n hC 1 dX12_isWish_0 rfl rfl ?_
  refine z_iconst hC (0 : Int32) dX12_isWish_1 (by decide) ?_
  refine z_bipush hC (7 : Int32) dX12_isWish_2 (by decide) ?_
  refine z_callSi hC lmRX12_99 (ctX12_in (vLa V) (vDa V) (vTg V) (vBs V) (vSa V) hp p1 (0 : Int32) (7 : Int32)) (by decide) hn0 dX12_isWish_4 rfl rfl (Nat.le_of_ble_eq_true rfl) (fun v1 => ?_)
  refine z_if_eq hC 25 dX12_isWish_7 (by decide) (fun _ => ?_) (fun _ => ?_)
  · refine z_iconst hC (0 : Int32) dX12_isWish_25 (by decide) ?_
    exact z_zret hC (by decide) (fun h => h) dX12_isWish_26
  · refine z_aload_n hC 0 dX12_isWish_10 rfl rfl ?_
    refine z_getI hC lgRX12_103 dX12_isWish_11 (fun v2 => ?_)
    refine z_iload_n hC 1 dX12_isWish_14 rfl rfl ?_
    refine z_callSi hC lmRX12_107 (ctX12_has (vLa V) (vDa V) (vTg V) (vBs V) (vSa V) hp v2 p1) (by decide) hn0 dX12_isWish_15 rfl rfl (Nat.le_of_ble_eq_true rfl) (fun v3 => ?_)
    refine z_if_eq hC 25 dX12_isWish_18 (by decide) (fun _ => ?_) (fun _ => ?_)
    · refine z_iconst hC (0 : Int32) dX12_isWish_25 (by decide) ?_
      exact z_zret hC (by decide) (fun h => h) dX12_isWish_26
    · refine z_iconst hC (1 : Int32) dX12_isWish_21 (by decide) ?_
      refine z_goto hC 26 dX12_isWish_22 (by decide) ?_
      exact z_zret hC (by decide) (fun h => h) dX12_isWish_26

theorem dX12_areWishes_0 : decode cX12_areWishes 0 = .ok (.iload_n 1, 1) := by decide +kernel
theorem dX12_areWishes_1 : decode cX12_areWishes 1 = .ok (.ifCond .le 30, 3) := by decide +kernel
theorem dX12_areWishes_4 : decode cX12_areWishes 4 = .ok (.iload_n 1, 1) := by decide +kernel
theorem dX12_areWishes_5 : decode cX12_areWishes 5 = .ok (.aload_n 0, 1) := by decide +kernel
theorem dX12_areWishes_6 : decode cX12_areWishes 6 = .ok (.getfield 103, 3) := by decide +kernel
theorem dX12_areWishes_9 : decode cX12_areWishes 9 = .ok (.iconst (-1), 1) := by decide +kernel
theorem dX12_areWishes_10 : decode cX12_areWishes 10 = .ok (.ixor, 1) := by decide +kernel
theorem dX12_areWishes_11 : decode cX12_areWishes 11 = .ok (.iand, 1) := by decide +kernel
theorem dX12_areWishes_12 : decode cX12_areWishes 12 = .ok (.ifCond .ne 19, 3) := by decide +kernel
theorem dX12_areWishes_15 : decode cX12_areWishes 15 = .ok (.iload_n 1, 1) := by decide +kernel
theorem dX12_areWishes_16 : decode cX12_areWishes 16 = .ok (.invokestatic 111, 3) := by decide +kernel
theorem dX12_areWishes_19 : decode cX12_areWishes 19 = .ok (.iload_n 2, 1) := by decide +kernel
theorem dX12_areWishes_20 : decode cX12_areWishes 20 = .ok (.iload_n 3, 1) := by decide +kernel
theorem dX12_areWishes_21 : decode cX12_areWishes 21 = .ok (.invokestatic 99, 3) := by decide +kernel
theorem dX12_areWishes_24 : decode cX12_areWishes 24 = .ok (.ifCond .eq 7, 3) := by decide +kernel
theorem dX12_areWishes_27 : decode cX12_areWishes 27 = .ok (.iconst 1, 1) := by decide +kernel
theorem dX12_areWishes_28 : decode cX12_areWishes 28 = .ok (.goto 4, 3) := by decide +kernel
theorem dX12_areWishes_31 : decode cX12_areWishes 31 = .ok (.iconst 0, 1) := by decide +kernel
theorem dX12_areWishes_32 : decode cX12_areWishes 32 = .ok (.ireturn, 1) := by decide +kernel
def FX12_areWishes (hp : HP) (p0 : Nat) (p1 : Int32) (p2 : Int32) (p3 : Int32) : Option (Int32) := if p1 ≤ 0 then some (0 : Int32) else (gI [12] 5 hp p0).bind (fun v1 => if (p1 &&& (v1 ^^^ (-1 : Int32))) = 0 then (FX12_bits p1).bind (fun v2 => (FX12_in v2 p2 p3).bind (fun v3 => if v3 = 0 then some (0 : Int32) else some (1 : Int32))) else some (0 : Int32))
set_option maxHeartbeats 4000000 in
set_option maxRecDepth 100000 in
theorem ctX12_areWishes (l : Launch) (D : va_G) (tg : Nat → ClassId) (bs : Nat) (sa : Nat → Nat) (hp : HP) (p0 : Nat) (p1 : Int32) (p2 : Int32) (p3 : Int32) : Ct l D tg bs sa yX12_areWishes cX12_areWishes 4 (some .boolean) 1 [.ref p0, .int p1, .int p2, .int p3] hp (FX12_areWishes hp p0 p1 p2 p3) (fun r => some (.int r)) (fun _ => hp) := by
  refine Ct.of (by decide) (Nat.le_of_ble_eq_true rfl) ?_
  intro V Q hVl hVd hVt hVb hVs hC
  subst hVl; subst hVd; subst hVt; subst hVb; subst hVs
  unfold FX12_areWishes
  show Zs V Q (0, 0) 4 _ _ hp [(0, .ref p0), (1, .int p1), (2, .int p2), (3, .int p3)] 0 []
  refine z_iload_n hC 1 dX12_areWishes_0 rfl rfl ?_
  refine z_if_le hC 31 dX12_areWishes_1 (by decide) (fun _ => ?_) (fun _ => ?_)
  · refine z_iconst hC (0 : Int32) dX12_areWishes_31 (by decide) ?_
    exact z_zret hC (by decide) (fun h => h) dX12_areWishes_32
  · refine z_iload_n hC 1 dX12_areWishes_4 rfl rfl ?_
    refine z_aload_n hC 0 dX12_areWishes_5 rfl rfl ?_
    refine z_getI hC lgRX12_103 dX12_areWishes_6 (fun v1 => ?_)
    refine z_iconst hC (-1 : Int32) dX12_areWishes_9 (by decide) ?_
    refine z_ixor hC dX12_areWishes_10 ?_
    refine z_iand hC dX12_areWishes_11 ?_
    refine z_if_ne hC 31 dX12_areWishes_12 (by decide) (fun _ => ?_) (fun _ => ?_)
    · refine z_iload_n hC 1 dX12_areWishes_15 rfl rfl ?_
      refine z_callSi hC lmRX12_111 (ctX12_bits (vLa V) (vDa V) (vTg V) (vBs V) (vSa V) hp p1) (by decide) hn0 dX12_areWishes_16 rfl rfl (Nat.le_of_ble_eq_true rfl) (fun v2 => ?_)
      refine z_iload_n hC 2 dX12_areWishes_19 rfl rfl ?_
      refine z_iload_n hC 3 dX12_areWishes_20 rfl rfl ?_
      refine z_callSi hC lmRX12_99 (ctX12_in (vLa V) (vDa V) (vTg V) (vBs V) (vSa V) hp v2 p2 p3) (by decide) hn0 dX12_areWishes_21 rfl rfl (Nat.le_of_ble_eq_true rfl) (fun v3 => ?_)
      refine z_if_eq hC 31 dX12_areWishes_24 (by decide) (fun _ => ?_) (fun _ => ?_)
      · refine z_iconst hC (0 : Int32) dX12_areWishes_31 (by decide) ?_
        exact z_zret hC (by decide) (fun h => h) dX12_areWishes_32
      · refine z_iconst hC (1 : Int32) dX12_areWishes_27 (by decide) ?_
        refine z_goto hC 32 dX12_areWishes_28 (by decide) ?_
        exact z_zret hC (by decide) (fun h => h) dX12_areWishes_32
    · refine z_iconst hC (0 : Int32) dX12_areWishes_31 (by decide) ?_
      exact z_zret hC (by decide) (fun h => h) dX12_areWishes_32

theorem dX12_holdsIn_0 : decode cX12_holdsIn 0 = .ok (.aload_n 0, 1) := by decide +kernel
theorem dX12_holdsIn_1 : decode cX12_holdsIn 1 = .ok (.getfield 13, 3) := by decide +kernel
theorem dX12_holdsIn_4 : decode cX12_holdsIn 4 = .ok (.sipush 1024, 3) := by decide +kernel
theorem dX12_holdsIn_7 : decode cX12_holdsIn 7 = .ok (.iload_n 1, 1) := by decide +kernel
theorem dX12_holdsIn_8 : decode cX12_holdsIn 8 = .ok (.imul, 1) := by decide +kernel
theorem dX12_holdsIn_9 : decode cX12_holdsIn 9 = .ok (.iload_n 2, 1) := by decide +kernel
theorem dX12_holdsIn_10 : decode cX12_holdsIn 10 = .ok (.iadd, 1) := by decide +kernel
theorem dX12_holdsIn_11 : decode cX12_holdsIn 11 = .ok (.baload, 1) := by decide +kernel
theorem dX12_holdsIn_12 : decode cX12_holdsIn 12 = .ok (.ireturn, 1) := by decide +kernel
def FX12_holdsIn (hp : HP) (p0 : Nat) (p1 : Int32) (p2 : Int32) : Option (Int32) := (gR [12] 1 hp p0).bind (fun v1 => (rdN 2 hp v1 (((1024 : Int32) * p1) + p2)).bind (fun v2 => bz v2 (some v2)))
set_option maxHeartbeats 4000000 in
set_option maxRecDepth 100000 in
theorem ctX12_holdsIn (l : Launch) (D : va_G) (tg : Nat → ClassId) (bs : Nat) (sa : Nat → Nat) (hp : HP) (p0 : Nat) (p1 : Int32) (p2 : Int32) : Ct l D tg bs sa yX12_holdsIn cX12_holdsIn 3 (some .boolean) 0 [.ref p0, .int p1, .int p2] hp (FX12_holdsIn hp p0 p1 p2) (fun r => some (.int r)) (fun _ => hp) := by
  refine Ct.of (by decide) (Nat.le_of_ble_eq_true rfl) ?_
  intro V Q hVl hVd hVt hVb hVs hC
  subst hVl; subst hVd; subst hVt; subst hVb; subst hVs
  unfold FX12_holdsIn
  show Zs V Q (0, 0) 3 _ _ hp [(0, .ref p0), (1, .int p1), (2, .int p2)] 0 []
  refine z_aload_n hC 0 dX12_holdsIn_0 rfl rfl ?_
  refine z_getR hC lgRX12_13 dX12_holdsIn_1 (fun v1 => ?_)
  refine z_sipush hC (1024 : Int32) dX12_holdsIn_4 (by decide) ?_
  refine z_iload_n hC 1 dX12_holdsIn_7 rfl rfl ?_
  refine z_imul hC dX12_holdsIn_8 ?_
  refine z_iload_n hC 2 dX12_holdsIn_9 rfl rfl ?_
  refine z_iadd hC dX12_holdsIn_10 ?_
  refine z_zald hC dX12_holdsIn_11 (fun v2 => ?_)
  exact z_bz (fun hv => z_zret hC hv (fun h => h) dX12_holdsIn_12)

theorem dX12_pricesOf_0 : decode cX12_pricesOf 0 = .ok (.iconst 0, 1) := by decide +kernel
theorem dX12_pricesOf_1 : decode cX12_pricesOf 1 = .ok (.istore_n 2, 1) := by decide +kernel
theorem dX12_pricesOf_2 : decode cX12_pricesOf 2 = .ok (.iconst 0, 1) := by decide +kernel
theorem dX12_pricesOf_3 : decode cX12_pricesOf 3 = .ok (.istore_n 3, 1) := by decide +kernel
theorem dX12_pricesOf_4 : decode cX12_pricesOf 4 = .ok (.iload_n 3, 1) := by decide +kernel
theorem dX12_pricesOf_5 : decode cX12_pricesOf 5 = .ok (.bipush 10, 2) := by decide +kernel
theorem dX12_pricesOf_7 : decode cX12_pricesOf 7 = .ok (.if_icmp .ge 30, 3) := by decide +kernel
theorem dX12_pricesOf_10 : decode cX12_pricesOf 10 = .ok (.iload_n 2, 1) := by decide +kernel
theorem dX12_pricesOf_11 : decode cX12_pricesOf 11 = .ok (.iload_n 1, 1) := by decide +kernel
theorem dX12_pricesOf_12 : decode cX12_pricesOf 12 = .ok (.iload_n 3, 1) := by decide +kernel
theorem dX12_pricesOf_13 : decode cX12_pricesOf 13 = .ok (.invokestatic 107, 3) := by decide +kernel
theorem dX12_pricesOf_16 : decode cX12_pricesOf 16 = .ok (.ifCond .eq 12, 3) := by decide +kernel
theorem dX12_pricesOf_19 : decode cX12_pricesOf 19 = .ok (.aload_n 0, 1) := by decide +kernel
theorem dX12_pricesOf_20 : decode cX12_pricesOf 20 = .ok (.getfield 7, 3) := by decide +kernel
theorem dX12_pricesOf_23 : decode cX12_pricesOf 23 = .ok (.iload_n 3, 1) := by decide +kernel
theorem dX12_pricesOf_24 : decode cX12_pricesOf 24 = .ok (.iaload, 1) := by decide +kernel
theorem dX12_pricesOf_25 : decode cX12_pricesOf 25 = .ok (.goto 4, 3) := by decide +kernel
theorem dX12_pricesOf_28 : decode cX12_pricesOf 28 = .ok (.iconst 0, 1) := by decide +kernel
theorem dX12_pricesOf_29 : decode cX12_pricesOf 29 = .ok (.iadd, 1) := by decide +kernel
theorem dX12_pricesOf_30 : decode cX12_pricesOf 30 = .ok (.istore_n 2, 1) := by decide +kernel
theorem dX12_pricesOf_31 : decode cX12_pricesOf 31 = .ok (.iinc 3 1, 3) := by decide +kernel
theorem dX12_pricesOf_34 : decode cX12_pricesOf 34 = .ok (.goto (-30), 3) := by decide +kernel
theorem dX12_pricesOf_37 : decode cX12_pricesOf 37 = .ok (.iload_n 2, 1) := by decide +kernel
theorem dX12_pricesOf_38 : decode cX12_pricesOf 38 = .ok (.ireturn, 1) := by decide +kernel
def FX12_pricesOf (hp : HP) (p0 : Nat) (p1 : Int32) : Option (Int32) := (lp (fun (s1 : Int32 × Int32) => if (10 : Int32) ≤ s1.2 then some (Sum.inl s1.1) else (FX12_has p1 s1.2).bind (fun v3 => if v3 = 0 then vl (s1.1 + (0 : Int32)) (fun x4 => vl (s1.2 + (1 : Int32)) (fun x5 => some (Sum.inr (x4, x5)))) else (gR [12] 0 hp p0).bind (fun v6 => (rdN 0 hp v6 s1.2).bind (fun v7 => vl (s1.1 + v7) (fun x8 => vl (s1.2 + (1 : Int32)) (fun x9 => some (Sum.inr (x8, x9)))))))) FU ((0 : Int32), (0 : Int32))).bind (fun (y2 : Int32) => some y2)
set_option maxHeartbeats 4000000 in
set_option maxRecDepth 100000 in
theorem ctX12_pricesOf (l : Launch) (D : va_G) (tg : Nat → ClassId) (bs : Nat) (sa : Nat → Nat) (hp : HP) (p0 : Nat) (p1 : Int32) : Ct l D tg bs sa yX12_pricesOf cX12_pricesOf 4 (some .int) 1 [.ref p0, .int p1] hp (FX12_pricesOf hp p0 p1) (fun r => some (.int r)) (fun _ => hp) := by
  refine Ct.of (by decide) (Nat.le_of_ble_eq_true rfl) ?_
  intro V Q hVl hVd hVt hVb hVs hC
  subst hVl; subst hVd; subst hVt; subst hVb; subst hVs
  unfold FX12_pricesOf
  show Zs V Q (0, 0) 4 _ _ hp [(0, .ref p0), (1, .int p1)] 0 []
  refine z_iconst hC (0 : Int32) dX12_pricesOf_0 (by decide) ?_
  refine z_istore_n hC [(0, .ref p0), (1, .int p1), (2, .int (0 : Int32))] [1, 2, 0] dX12_pricesOf_1 rfl (by decide) rfl ?_
  refine z_iconst hC (0 : Int32) dX12_pricesOf_2 (by decide) ?_
  refine z_istore_n hC [(0, .ref p0), (1, .int p1), (2, .int (0 : Int32)), (3, .int (0 : Int32))] [1, 2, 3, 0] dX12_pricesOf_3 rfl (by decide) rfl ?_
  refine z_lp (S := Int32 × Int32) (Y := Int32) (fun s1 => hp) (fun s1 => [(0, .ref p0), (1, .int p1), (2, .int s1.1), (3, .int s1.2)]) (fun y2 => hp) (fun y2 => [(2, .int y2)]) 37 [] (fun y2 => ?_) (fun s1 => ?_) rfl rfl
  · refine z_iload_n hC 0 dX12_pricesOf_37 rfl rfl ?_
    exact z_iret hC (fun h => h) dX12_pricesOf_38
  · refine z_iload_n hC 3 dX12_pricesOf_4 rfl rfl ?_
    refine z_bipush hC (10 : Int32) dX12_pricesOf_5 (by decide) ?_
    refine z_icmp_ge hC 37 dX12_pricesOf_7 (by decide) (fun _ => ?_) (fun _ => ?_)
    · refine z_weak [(2, .int s1.1)] [2] rfl ?_
      exact z_leaf (fun h => h)
    · refine z_iload_n hC 2 dX12_pricesOf_10 rfl rfl ?_
      refine z_iload_n hC 1 dX12_pricesOf_11 rfl rfl ?_
      refine z_iload_n hC 3 dX12_pricesOf_12 rfl rfl ?_
      refine z_callSi hC lmRX12_107 (ctX12_has (vLa V) (vDa V) (vTg V) (vBs V) (vSa V) hp p1 s1.2) (by decide) hn0 dX12_pricesOf_13 rfl rfl (Nat.le_of_ble_eq_true rfl) (fun v3 => ?_)
      refine z_if_eq hC 28 dX12_pricesOf_16 (by decide) (fun _ => ?_) (fun _ => ?_)
      · refine z_iconst hC (0 : Int32) dX12_pricesOf_28 (by decide) ?_
        refine z_iadd hC dX12_pricesOf_29 ?_
        refine z_vli (fun x4 => ?_)
        refine z_istore_n hC [(0, .ref p0), (1, .int p1), (2, .int x4), (3, .int s1.2)] [1, 2, 0, 3] dX12_pricesOf_30 rfl (by decide) rfl ?_
        refine z_iincv hC (1 : Int32) 3 (fun x5 => [(0, .ref p0), (1, .int p1), (2, .int x4), (3, .int x5)]) [1, 2, 3, 0] dX12_pricesOf_31 rfl (by decide) (by decide) (fun _ => rfl) (fun x5 => ?_)
        refine z_goto hC 4 dX12_pricesOf_34 (by decide) ?_
        exact z_leaf (fun h => h)
      · refine z_aload_n hC 0 dX12_pricesOf_19 rfl rfl ?_
        refine z_getR hC lgRX12_7 dX12_pricesOf_20 (fun v6 => ?_)
        refine z_iload_n hC 3 dX12_pricesOf_23 rfl rfl ?_
        refine z_iald hC dX12_pricesOf_24 (fun v7 => ?_)
        refine z_goto hC 29 dX12_pricesOf_25 (by decide) ?_
        refine z_iadd hC dX12_pricesOf_29 ?_
        refine z_vli (fun x8 => ?_)
        refine z_istore_n hC [(0, .ref p0), (1, .int p1), (2, .int x8), (3, .int s1.2)] [1, 2, 0, 3] dX12_pricesOf_30 rfl (by decide) rfl ?_
        refine z_iincv hC (1 : Int32) 3 (fun x9 => [(0, .ref p0), (1, .int p1), (2, .int x8), (3, .int x9)]) [1, 2, 3, 0] dX12_pricesOf_31 rfl (by decide) (by decide) (fun _ => rfl) (fun x9 => ?_)
        refine z_goto hC 4 dX12_pricesOf_34 (by decide) ?_
        exact z_leaf (fun h => h)

theorem dX12_fact_0 : decode cX12_fact 0 = .ok (.iload_n 1, 1) := by decide +kernel
theorem dX12_fact_1 : decode cX12_fact 1 = .ok (.iconst 0, 1) := by decide +kernel
theorem dX12_fact_2 : decode cX12_fact 2 = .ok (.bipush 9, 2) := by decide +kernel
theorem dX12_fact_4 : decode cX12_fact 4 = .ok (.invokestatic 99, 3) := by decide +kernel
theorem dX12_fact_7 : decode cX12_fact 7 = .ok (.ifCond .ne 5, 3) := by decide +kernel
theorem dX12_fact_10 : decode cX12_fact 10 = .ok (.iconst 0, 1) := by decide +kernel
theorem dX12_fact_11 : decode cX12_fact 11 = .ok (.ireturn, 1) := by decide +kernel
theorem dX12_fact_12 : decode cX12_fact 12 = .ok (.aload_n 0, 1) := by decide +kernel
theorem dX12_fact_13 : decode cX12_fact 13 = .ok (.iload_n 2, 1) := by decide +kernel
theorem dX12_fact_14 : decode cX12_fact 14 = .ok (.ifCond .eq 14, 3) := by decide +kernel
theorem dX12_fact_17 : decode cX12_fact 17 = .ok (.aload_n 0, 1) := by decide +kernel
theorem dX12_fact_18 : decode cX12_fact 18 = .ok (.getfield 121, 3) := by decide +kernel
theorem dX12_fact_21 : decode cX12_fact 21 = .ok (.iconst 1, 1) := by decide +kernel
theorem dX12_fact_22 : decode cX12_fact 22 = .ok (.iload_n 1, 1) := by decide +kernel
theorem dX12_fact_23 : decode cX12_fact 23 = .ok (.ishl, 1) := by decide +kernel
theorem dX12_fact_24 : decode cX12_fact 24 = .ok (.ior, 1) := by decide +kernel
theorem dX12_fact_25 : decode cX12_fact 25 = .ok (.goto 13, 3) := by decide +kernel
theorem dX12_fact_28 : decode cX12_fact 28 = .ok (.aload_n 0, 1) := by decide +kernel
theorem dX12_fact_29 : decode cX12_fact 29 = .ok (.getfield 121, 3) := by decide +kernel
theorem dX12_fact_32 : decode cX12_fact 32 = .ok (.iconst 1, 1) := by decide +kernel
theorem dX12_fact_33 : decode cX12_fact 33 = .ok (.iload_n 1, 1) := by decide +kernel
theorem dX12_fact_34 : decode cX12_fact 34 = .ok (.ishl, 1) := by decide +kernel
theorem dX12_fact_35 : decode cX12_fact 35 = .ok (.iconst (-1), 1) := by decide +kernel
theorem dX12_fact_36 : decode cX12_fact 36 = .ok (.ixor, 1) := by decide +kernel
theorem dX12_fact_37 : decode cX12_fact 37 = .ok (.iand, 1) := by decide +kernel
theorem dX12_fact_38 : decode cX12_fact 38 = .ok (.putfield 121, 3) := by decide +kernel
theorem dX12_fact_41 : decode cX12_fact 41 = .ok (.iconst 1, 1) := by decide +kernel
theorem dX12_fact_42 : decode cX12_fact 42 = .ok (.ireturn, 1) := by decide +kernel
def FX12_fact (hp : HP) (p0 : Nat) (p1 : Int32) (p2 : Int32) : Option (Int32 × HP) := (FX12_in p1 (0 : Int32) (9 : Int32)).bind (fun v1 => if v1 = 0 then some ((0 : Int32), hp) else jn (A := Int32) (fun a2 => (sI [12] 7 hp p0 a2).bind (fun hp4 => some ((1 : Int32), hp4))) (fun J3 => if p2 = 0 then (gI [12] 7 hp p0).bind (fun v5 => vl (v5 &&& (((1 : Int32) <<< (p1 &&& 31)) ^^^ (-1 : Int32))) (fun x6 => J3 x6)) else (gI [12] 7 hp p0).bind (fun v7 => vl (v7 ||| ((1 : Int32) <<< (p1 &&& 31))) (fun x8 => J3 x8))))
set_option maxHeartbeats 4000000 in
set_option maxRecDepth 100000 in
theorem ctX12_fact (l : Launch) (D : va_G) (tg : Nat → ClassId) (bs : Nat) (sa : Nat → Nat) (hp : HP) (p0 : Nat) (p1 : Int32) (p2 : Int32) : Ct l D tg bs sa yX12_fact cX12_fact 3 (some .boolean) 1 [.ref p0, .int p1, .int p2] hp (FX12_fact hp p0 p1 p2) (fun r => some (.int r.1)) (fun r => r.2) := by
  refine Ct.of (by decide) (Nat.le_of_ble_eq_true rfl) ?_
  intro V Q hVl hVd hVt hVb hVs hC
  subst hVl; subst hVd; subst hVt; subst hVb; subst hVs
  unfold FX12_fact
  show Zs V Q (0, 0) 3 _ _ hp [(0, .ref p0), (1, .int p1), (2, .int p2)] 0 []
  refine z_iload_n hC 1 dX12_fact_0 rfl rfl ?_
  refine z_iconst hC (0 : Int32) dX12_fact_1 (by decide) ?_
  refine z_bipush hC (9 : Int32) dX12_fact_2 (by decide) ?_
  refine z_callSi hC lmRX12_99 (ctX12_in (vLa V) (vDa V) (vTg V) (vBs V) (vSa V) hp p1 (0 : Int32) (9 : Int32)) (by decide) hn0 dX12_fact_4 rfl rfl (Nat.le_of_ble_eq_true rfl) (fun v1 => ?_)
  refine z_if_ne hC 12 dX12_fact_7 (by decide) (fun _ => ?_) (fun _ => ?_)
  · refine z_iconst hC (0 : Int32) dX12_fact_10 (by decide) ?_
    exact z_zret hC (by decide) (fun h => h) dX12_fact_11
  · refine z_aload_n hC 0 dX12_fact_12 rfl rfl ?_
    refine z_iload_n hC 2 dX12_fact_13 rfl rfl ?_
    refine z_jn (A := Int32) (fun a2 => hp) (fun a2 => []) 38 (fun a2 => [.int a2, .ref p0]) (fun a2 => ?_) (fun J3 hJ3 => ?_)
    · refine z_putI hC lpRX12_121 dX12_fact_38 (fun hp4 => ?_)
      refine z_iconst hC (1 : Int32) dX12_fact_41 (by decide) ?_
      exact z_zret hC (by decide) (fun h => h) dX12_fact_42
    · refine z_if_eq hC 28 dX12_fact_14 (by decide) (fun _ => ?_) (fun _ => ?_)
      · refine z_aload_n hC 0 dX12_fact_28 rfl rfl ?_
        refine z_getI hC lgRX12_121 dX12_fact_29 (fun v5 => ?_)
        refine z_iconst hC (1 : Int32) dX12_fact_32 (by decide) ?_
        refine z_iload_n hC 1 dX12_fact_33 rfl rfl ?_
        refine z_ishl hC dX12_fact_34 ?_
        refine z_iconst hC (-1 : Int32) dX12_fact_35 (by decide) ?_
        refine z_ixor hC dX12_fact_36 ?_
        refine z_iand hC dX12_fact_37 ?_
        refine z_vli (fun x6 => ?_)
        refine z_weak [] [] rfl ?_
        exact hJ3 x6
      · refine z_aload_n hC 0 dX12_fact_17 rfl rfl ?_
        refine z_getI hC lgRX12_121 dX12_fact_18 (fun v7 => ?_)
        refine z_iconst hC (1 : Int32) dX12_fact_21 (by decide) ?_
        refine z_iload_n hC 1 dX12_fact_22 rfl rfl ?_
        refine z_ishl hC dX12_fact_23 ?_
        refine z_ior hC dX12_fact_24 ?_
        refine z_goto hC 38 dX12_fact_25 (by decide) ?_
        refine z_vli (fun x8 => ?_)
        refine z_weak [] [] rfl ?_
        exact hJ3 x8

theorem dX12_price_0 : decode cX12_price 0 = .ok (.iload_n 1, 1) := by decide +kernel
theorem dX12_price_1 : decode cX12_price 1 = .ok (.iconst 0, 1) := by decide +kernel
theorem dX12_price_2 : decode cX12_price 2 = .ok (.bipush 9, 2) := by decide +kernel
theorem dX12_price_4 : decode cX12_price 4 = .ok (.invokestatic 99, 3) := by decide +kernel
theorem dX12_price_7 : decode cX12_price 7 = .ok (.ifCond .eq 13, 3) := by decide +kernel
theorem dX12_price_10 : decode cX12_price 10 = .ok (.iload_n 2, 1) := by decide +kernel
theorem dX12_price_11 : decode cX12_price 11 = .ok (.iconst 0, 1) := by decide +kernel
theorem dX12_price_12 : decode cX12_price 12 = .ok (.bipush 99, 2) := by decide +kernel
theorem dX12_price_14 : decode cX12_price 14 = .ok (.invokestatic 99, 3) := by decide +kernel
theorem dX12_price_17 : decode cX12_price 17 = .ok (.ifCond .ne 5, 3) := by decide +kernel
theorem dX12_price_20 : decode cX12_price 20 = .ok (.iconst 0, 1) := by decide +kernel
theorem dX12_price_21 : decode cX12_price 21 = .ok (.ireturn, 1) := by decide +kernel
theorem dX12_price_22 : decode cX12_price 22 = .ok (.aload_n 0, 1) := by decide +kernel
theorem dX12_price_23 : decode cX12_price 23 = .ok (.getfield 7, 3) := by decide +kernel
theorem dX12_price_26 : decode cX12_price 26 = .ok (.iload_n 1, 1) := by decide +kernel
theorem dX12_price_27 : decode cX12_price 27 = .ok (.iload_n 2, 1) := by decide +kernel
theorem dX12_price_28 : decode cX12_price 28 = .ok (.iastore, 1) := by decide +kernel
theorem dX12_price_29 : decode cX12_price 29 = .ok (.iconst 1, 1) := by decide +kernel
theorem dX12_price_30 : decode cX12_price 30 = .ok (.ireturn, 1) := by decide +kernel
def FX12_price (hp : HP) (p0 : Nat) (p1 : Int32) (p2 : Int32) : Option (Int32 × HP) := (FX12_in p1 (0 : Int32) (9 : Int32)).bind (fun v1 => if v1 = 0 then some ((0 : Int32), hp) else (FX12_in p2 (0 : Int32) (99 : Int32)).bind (fun v2 => if v2 = 0 then some ((0 : Int32), hp) else (gR [12] 0 hp p0).bind (fun v3 => (wrI hp v3 p1 p2).bind (fun hp4 => some ((1 : Int32), hp4)))))
set_option maxHeartbeats 4000000 in
set_option maxRecDepth 100000 in
theorem ctX12_price (l : Launch) (D : va_G) (tg : Nat → ClassId) (bs : Nat) (sa : Nat → Nat) (hp : HP) (p0 : Nat) (p1 : Int32) (p2 : Int32) : Ct l D tg bs sa yX12_price cX12_price 3 (some .boolean) 1 [.ref p0, .int p1, .int p2] hp (FX12_price hp p0 p1 p2) (fun r => some (.int r.1)) (fun r => r.2) := by
  refine Ct.of (by decide) (Nat.le_of_ble_eq_true rfl) ?_
  intro V Q hVl hVd hVt hVb hVs hC
  subst hVl; subst hVd; subst hVt; subst hVb; subst hVs
  unfold FX12_price
  show Zs V Q (0, 0) 3 _ _ hp [(0, .ref p0), (1, .int p1), (2, .int p2)] 0 []
  refine z_iload_n hC 1 dX12_price_0 rfl rfl ?_
  refine z_iconst hC (0 : Int32) dX12_price_1 (by decide) ?_
  refine z_bipush hC (9 : Int32) dX12_price_2 (by decide) ?_
  refine z_callSi hC lmRX12_99 (ctX12_in (vLa V) (vDa V) (vTg V) (vBs V) (vSa V) hp p1 (0 : Int32) (9 : Int32)) (by decide) hn0 dX12_price_4 rfl rfl (Nat.le_of_ble_eq_true rfl) (fun v1 => ?_)
  refine z_if_eq hC 20 dX12_price_7 (by decide) (fun _ => ?_) (fun _ => ?_)
  · refine z_iconst hC (0 : Int32) dX12_price_20 (by decide) ?_
    exact z_zret hC (by decide) (fun h => h) dX12_price_21
  · refine z_iload_n hC 2 dX12_price_10 rfl rfl ?_
    refine z_iconst hC (0 : Int32) dX12_price_11 (by decide) ?_
    refine z_bipush hC (99 : Int32) dX12_price_12 (by decide) ?_
    refine z_callSi hC lmRX12_99 (ctX12_in (vLa V) (vDa V) (vTg V) (vBs V) (vSa V) hp p2 (0 : Int32) (99 : Int32)) (by decide) hn0 dX12_price_14 rfl rfl (Nat.le_of_ble_eq_true rfl) (fun v2 => ?_)
    refine z_if_ne hC 22 dX12_price_17 (by decide) (fun _ => ?_) (fun _ => ?_)
    · refine z_iconst hC (0 : Int32) dX12_price_20 (by decide) ?_
      exact z_zret hC (by decide) (fun h => h) dX12_price_21
    · refine z_aload_n hC 0 dX12_price_22 rfl rfl ?_
      refine z_getR hC lgRX12_7 dX12_price_23 (fun v3 => ?_)
      refine z_iload_n hC 1 dX12_price_26 rfl rfl ?_
      refine z_iload_n hC 2 dX12_price_27 rfl rfl ?_
      refine z_iast hC dX12_price_28 (fun hp4 => ?_)
      refine z_iconst hC (1 : Int32) dX12_price_29 (by decide) ?_
      exact z_zret hC (by decide) (fun h => h) dX12_price_30

theorem dX12_types_0 : decode cX12_types 0 = .ok (.iconst 3, 1) := by decide +kernel
theorem dX12_types_1 : decode cX12_types 1 = .ok (.istore_n 2, 1) := by decide +kernel
theorem dX12_types_2 : decode cX12_types 2 = .ok (.iload_n 2, 1) := by decide +kernel
theorem dX12_types_3 : decode cX12_types 3 = .ok (.ifCond .lt 35, 3) := by decide +kernel
theorem dX12_types_6 : decode cX12_types 6 = .ok (.aload_n 0, 1) := by decide +kernel
theorem dX12_types_7 : decode cX12_types 7 = .ok (.getfield 26, 3) := by decide +kernel
theorem dX12_types_10 : decode cX12_types 10 = .ok (.aload_n 0, 1) := by decide +kernel
theorem dX12_types_11 : decode cX12_types 11 = .ok (.getfield 124, 3) := by decide +kernel
theorem dX12_types_14 : decode cX12_types 14 = .ok (.iload_n 1, 1) := by decide +kernel
theorem dX12_types_15 : decode cX12_types 15 = .ok (.bipush 8, 2) := by decide +kernel
theorem dX12_types_17 : decode cX12_types 17 = .ok (.iload_n 2, 1) := by decide +kernel
theorem dX12_types_18 : decode cX12_types 18 = .ok (.imul, 1) := by decide +kernel
theorem dX12_types_19 : decode cX12_types 19 = .ok (.ishr, 1) := by decide +kernel
theorem dX12_types_20 : decode cX12_types 20 = .ok (.i2b, 1) := by decide +kernel
theorem dX12_types_21 : decode cX12_types 21 = .ok (.bastore, 1) := by decide +kernel
theorem dX12_types_22 : decode cX12_types 22 = .ok (.aload_n 0, 1) := by decide +kernel
theorem dX12_types_23 : decode cX12_types 23 = .ok (.aload_n 0, 1) := by decide +kernel
theorem dX12_types_24 : decode cX12_types 24 = .ok (.getfield 124, 3) := by decide +kernel
theorem dX12_types_27 : decode cX12_types 27 = .ok (.iconst 1, 1) := by decide +kernel
theorem dX12_types_28 : decode cX12_types 28 = .ok (.iadd, 1) := by decide +kernel
theorem dX12_types_29 : decode cX12_types 29 = .ok (.putfield 124, 3) := by decide +kernel
theorem dX12_types_32 : decode cX12_types 32 = .ok (.iinc 2 (-1), 3) := by decide +kernel
theorem dX12_types_35 : decode cX12_types 35 = .ok (.goto (-33), 3) := by decide +kernel
theorem dX12_types_38 : decode cX12_types 38 = .ok (.return_, 1) := by decide +kernel
def FX12_types (hp : HP) (p0 : Nat) (p1 : Int32) : Option (HP) := (lp (fun (s1 : Int32 × HP) => if s1.1 < 0 then some (Sum.inl s1.2) else (gR [12] 13 s1.2 p0).bind (fun v3 => (gI [12] 14 s1.2 p0).bind (fun v4 => (wrB s1.2 v3 v4 (((p1 >>> (((8 : Int32) * s1.1) &&& 31))).toInt8.toInt32)).bind (fun hp5 => (gI [12] 14 hp5 p0).bind (fun v6 => (sI [12] 14 hp5 p0 (v6 + (1 : Int32))).bind (fun hp7 => vl (s1.1 + (-1 : Int32)) (fun x8 => some (Sum.inr (x8, hp7))))))))) FU ((3 : Int32), hp)).bind (fun (y2 : HP) => some y2)
set_option maxHeartbeats 4000000 in
set_option maxRecDepth 100000 in
theorem ctX12_types (l : Launch) (D : va_G) (tg : Nat → ClassId) (bs : Nat) (sa : Nat → Nat) (hp : HP) (p0 : Nat) (p1 : Int32) : Ct l D tg bs sa yX12_types cX12_types 3 none 0 [.ref p0, .int p1] hp (FX12_types hp p0 p1) (fun _ => none) (fun r => r) := by
  refine Ct.of (by decide) (Nat.le_of_ble_eq_true rfl) ?_
  intro V Q hVl hVd hVt hVb hVs hC
  subst hVl; subst hVd; subst hVt; subst hVb; subst hVs
  unfold FX12_types
  show Zs V Q (0, 0) 3 _ _ hp [(0, .ref p0), (1, .int p1)] 0 []
  refine z_iconst hC (3 : Int32) dX12_types_0 (by decide) ?_
  refine z_istore_n hC [(0, .ref p0), (1, .int p1), (2, .int (3 : Int32))] [1, 2, 0] dX12_types_1 rfl (by decide) rfl ?_
  refine z_lp (S := Int32 × HP) (Y := HP) (fun s1 => s1.2) (fun s1 => [(0, .ref p0), (1, .int p1), (2, .int s1.1)]) (fun y2 => y2) (fun y2 => []) 38 [] (fun y2 => ?_) (fun s1 => ?_) rfl rfl
  · exact z_vret hC (fun h => h) dX12_types_38
  · refine z_iload_n hC 2 dX12_types_2 rfl rfl ?_
    refine z_if_lt hC 38 dX12_types_3 (by decide) (fun _ => ?_) (fun _ => ?_)
    · refine z_weak [] [] rfl ?_
      exact z_leaf (fun h => h)
    · refine z_aload_n hC 0 dX12_types_6 rfl rfl ?_
      refine z_getR hC lgRX12_26 dX12_types_7 (fun v3 => ?_)
      refine z_aload_n hC 0 dX12_types_10 rfl rfl ?_
      refine z_getI hC lgRX12_124 dX12_types_11 (fun v4 => ?_)
      refine z_iload_n hC 1 dX12_types_14 rfl rfl ?_
      refine z_bipush hC (8 : Int32) dX12_types_15 (by decide) ?_
      refine z_iload_n hC 2 dX12_types_17 rfl rfl ?_
      refine z_imul hC dX12_types_18 ?_
      refine z_ishr hC dX12_types_19 ?_
      refine z_i2b hC dX12_types_20 ?_
      refine z_bast hC dX12_types_21 (fun hp5 => ?_)
      refine z_aload_n hC 0 dX12_types_22 rfl rfl ?_
      refine z_aload_n hC 0 dX12_types_23 rfl rfl ?_
      refine z_getI hC lgRX12_124 dX12_types_24 (fun v6 => ?_)
      refine z_iconst hC (1 : Int32) dX12_types_27 (by decide) ?_
      refine z_iadd hC dX12_types_28 ?_
      refine z_putI hC lpRX12_124 dX12_types_29 (fun hp7 => ?_)
      refine z_iincv hC (-1 : Int32) 2 (fun x8 => [(0, .ref p0), (1, .int p1), (2, .int x8)]) [1, 2, 0] dX12_types_32 rfl (by decide) (by decide) (fun _ => rfl) (fun x8 => ?_)
      refine z_goto hC 2 dX12_types_35 (by decide) ?_
      exact z_leaf (fun h => h)

theorem dX12_feed_0 : decode cX12_feed 0 = .ok (.aload_n 0, 1) := by decide +kernel
theorem dX12_feed_1 : decode cX12_feed 1 = .ok (.getfield 124, 3) := by decide +kernel
theorem dX12_feed_4 : decode cX12_feed 4 = .ok (.bipush 20, 2) := by decide +kernel
theorem dX12_feed_6 : decode cX12_feed 6 = .ok (.iadd, 1) := by decide +kernel
theorem dX12_feed_7 : decode cX12_feed 7 = .ok (.sipush 260, 3) := by decide +kernel
theorem dX12_feed_10 : decode cX12_feed 10 = .ok (.if_icmp .le 5, 3) := by decide +kernel
theorem dX12_feed_13 : decode cX12_feed 13 = .ok (.iconst (-1), 1) := by decide +kernel
theorem dX12_feed_14 : decode cX12_feed 14 = .ok (.ireturn, 1) := by decide +kernel
theorem dX12_feed_15 : decode cX12_feed 15 = .ok (.aload_n 0, 1) := by decide +kernel
theorem dX12_feed_16 : decode cX12_feed 16 = .ok (.iload_n 1, 1) := by decide +kernel
theorem dX12_feed_17 : decode cX12_feed 17 = .ok (.invokevirtual 127, 3) := by decide +kernel
theorem dX12_feed_20 : decode cX12_feed 20 = .ok (.aload_n 0, 1) := by decide +kernel
theorem dX12_feed_21 : decode cX12_feed 21 = .ok (.iload_n 2, 1) := by decide +kernel
theorem dX12_feed_22 : decode cX12_feed 22 = .ok (.invokevirtual 127, 3) := by decide +kernel
theorem dX12_feed_25 : decode cX12_feed 25 = .ok (.aload_n 0, 1) := by decide +kernel
theorem dX12_feed_26 : decode cX12_feed 26 = .ok (.iload_n 3, 1) := by decide +kernel
theorem dX12_feed_27 : decode cX12_feed 27 = .ok (.invokevirtual 127, 3) := by decide +kernel
theorem dX12_feed_30 : decode cX12_feed 30 = .ok (.aload_n 0, 1) := by decide +kernel
theorem dX12_feed_31 : decode cX12_feed 31 = .ok (.iload 4, 2) := by decide +kernel
theorem dX12_feed_33 : decode cX12_feed 33 = .ok (.invokevirtual 127, 3) := by decide +kernel
theorem dX12_feed_36 : decode cX12_feed 36 = .ok (.aload_n 0, 1) := by decide +kernel
theorem dX12_feed_37 : decode cX12_feed 37 = .ok (.iload 5, 2) := by decide +kernel
theorem dX12_feed_39 : decode cX12_feed 39 = .ok (.invokevirtual 127, 3) := by decide +kernel
theorem dX12_feed_42 : decode cX12_feed 42 = .ok (.aload_n 0, 1) := by decide +kernel
theorem dX12_feed_43 : decode cX12_feed 43 = .ok (.getfield 124, 3) := by decide +kernel
theorem dX12_feed_46 : decode cX12_feed 46 = .ok (.ireturn, 1) := by decide +kernel
def FX12_feed (hp : HP) (p0 : Nat) (p1 : Int32) (p2 : Int32) (p3 : Int32) (p4 : Int32) (p5 : Int32) : Option (Int32 × HP) := (gI [12] 14 hp p0).bind (fun v1 => if (v1 + (20 : Int32)) ≤ (260 : Int32) then (rc [12] hp p0 (FX12_types hp p0 p1)).bind (fun w2 => (rc [12] w2 p0 (FX12_types w2 p0 p2)).bind (fun w3 => (rc [12] w3 p0 (FX12_types w3 p0 p3)).bind (fun w4 => (rc [12] w4 p0 (FX12_types w4 p0 p4)).bind (fun w5 => (rc [12] w5 p0 (FX12_types w5 p0 p5)).bind (fun w6 => (gI [12] 14 w6 p0).bind (fun v7 => some (v7, w6))))))) else some ((-1 : Int32), hp))
set_option maxHeartbeats 4000000 in
set_option maxRecDepth 100000 in
theorem ctX12_feed (l : Launch) (D : va_G) (tg : Nat → ClassId) (bs : Nat) (sa : Nat → Nat) (hp : HP) (p0 : Nat) (p1 : Int32) (p2 : Int32) (p3 : Int32) (p4 : Int32) (p5 : Int32) : Ct l D tg bs sa yX12_feed cX12_feed 6 (some .int) 1 [.ref p0, .int p1, .int p2, .int p3, .int p4, .int p5] hp (FX12_feed hp p0 p1 p2 p3 p4 p5) (fun r => some (.int r.1)) (fun r => r.2) := by
  refine Ct.of (by decide) (Nat.le_of_ble_eq_true rfl) ?_
  intro V Q hVl hVd hVt hVb hVs hC
  subst hVl; subst hVd; subst hVt; subst hVb; subst hVs
  unfold FX12_feed
  show Zs V Q (0, 0) 6 _ _ hp [(0, .ref p0), (1, .int p1), (2, .int p2), (3, .int p3), (4, .int p4), (5, .int p5)] 0 []
  refine z_aload_n hC 0 dX12_feed_0 rfl rfl ?_
  refine z_getI hC lgRX12_124 dX12_feed_1 (fun v1 => ?_)
  refine z_bipush hC (20 : Int32) dX12_feed_4 (by decide) ?_
  refine z_iadd hC dX12_feed_6 ?_
  refine z_sipush hC (260 : Int32) dX12_feed_7 (by decide) ?_
  refine z_icmp_le hC 15 dX12_feed_10 (by decide) (fun _ => ?_) (fun _ => ?_)
  · refine z_aload_n hC 0 dX12_feed_15 rfl rfl ?_
    refine z_iload_n hC 1 dX12_feed_16 rfl rfl ?_
    refine z_callVv hC (ci := 12) rfl lmRX12_127 (ctX12_types (vLa V) (vDa V) (vTg V) (vBs V) (vSa V) hp p0 p1) (by decide) hn0 dX12_feed_17 rfl rfl (Nat.le_of_ble_eq_true rfl) (fun w2 => ?_)
    refine z_aload_n hC 0 dX12_feed_20 rfl rfl ?_
    refine z_iload_n hC 2 dX12_feed_21 rfl rfl ?_
    refine z_callVv hC (ci := 12) rfl lmRX12_127 (ctX12_types (vLa V) (vDa V) (vTg V) (vBs V) (vSa V) w2 p0 p2) (by decide) hn0 dX12_feed_22 rfl rfl (Nat.le_of_ble_eq_true rfl) (fun w3 => ?_)
    refine z_aload_n hC 0 dX12_feed_25 rfl rfl ?_
    refine z_iload_n hC 3 dX12_feed_26 rfl rfl ?_
    refine z_callVv hC (ci := 12) rfl lmRX12_127 (ctX12_types (vLa V) (vDa V) (vTg V) (vBs V) (vSa V) w3 p0 p3) (by decide) hn0 dX12_feed_27 rfl rfl (Nat.le_of_ble_eq_true rfl) (fun w4 => ?_)
    refine z_aload_n hC 0 dX12_feed_30 rfl rfl ?_
    refine z_iload hC 4 dX12_feed_31 rfl ?_
    refine z_callVv hC (ci := 12) rfl lmRX12_127 (ctX12_types (vLa V) (vDa V) (vTg V) (vBs V) (vSa V) w4 p0 p4) (by decide) hn0 dX12_feed_33 rfl rfl (Nat.le_of_ble_eq_true rfl) (fun w5 => ?_)
    refine z_aload_n hC 0 dX12_feed_36 rfl rfl ?_
    refine z_iload hC 5 dX12_feed_37 rfl ?_
    refine z_callVv hC (ci := 12) rfl lmRX12_127 (ctX12_types (vLa V) (vDa V) (vTg V) (vBs V) (vSa V) w5 p0 p5) (by decide) hn0 dX12_feed_39 rfl rfl (Nat.le_of_ble_eq_true rfl) (fun w6 => ?_)
    refine z_aload_n hC 0 dX12_feed_42 rfl rfl ?_
    refine z_getI hC lgRX12_124 dX12_feed_43 (fun v7 => ?_)
    exact z_iret hC (fun h => h) dX12_feed_46
  · refine z_iconst hC (-1 : Int32) dX12_feed_13 (by decide) ?_
    exact z_iret hC (fun h => h) dX12_feed_14

theorem dX12_here_0 : decode cX12_here 0 = .ok (.aload_n 0, 1) := by decide +kernel
theorem dX12_here_1 : decode cX12_here 1 = .ok (.getfield 131, 3) := by decide +kernel
theorem dX12_here_4 : decode cX12_here 4 = .ok (.aload_n 0, 1) := by decide +kernel
theorem dX12_here_5 : decode cX12_here 5 = .ok (.getfield 134, 3) := by decide +kernel
theorem dX12_here_8 : decode cX12_here 8 = .ok (.if_icmp .ge 19, 3) := by decide +kernel
theorem dX12_here_11 : decode cX12_here 11 = .ok (.aload_n 0, 1) := by decide +kernel
theorem dX12_here_12 : decode cX12_here 12 = .ok (.getfield 26, 3) := by decide +kernel
theorem dX12_here_15 : decode cX12_here 15 = .ok (.aload_n 0, 1) := by decide +kernel
theorem dX12_here_16 : decode cX12_here 16 = .ok (.getfield 131, 3) := by decide +kernel
theorem dX12_here_19 : decode cX12_here 19 = .ok (.baload, 1) := by decide +kernel
theorem dX12_here_20 : decode cX12_here 20 = .ok (.sipush 255, 3) := by decide +kernel
theorem dX12_here_23 : decode cX12_here 23 = .ok (.iand, 1) := by decide +kernel
theorem dX12_here_24 : decode cX12_here 24 = .ok (.goto 4, 3) := by decide +kernel
theorem dX12_here_27 : decode cX12_here 27 = .ok (.iconst (-1), 1) := by decide +kernel
theorem dX12_here_28 : decode cX12_here 28 = .ok (.ireturn, 1) := by decide +kernel
def FX12_here (hp : HP) (p0 : Nat) : Option (Int32) := (gI [12] 15 hp p0).bind (fun v1 => (gI [12] 16 hp p0).bind (fun v2 => if v2 ≤ v1 then some (-1 : Int32) else (gR [12] 13 hp p0).bind (fun v3 => (gI [12] 15 hp p0).bind (fun v4 => (rdN 1 hp v3 v4).bind (fun v5 => some (v5 &&& (255 : Int32)))))))
set_option maxHeartbeats 4000000 in
set_option maxRecDepth 100000 in
theorem ctX12_here (l : Launch) (D : va_G) (tg : Nat → ClassId) (bs : Nat) (sa : Nat → Nat) (hp : HP) (p0 : Nat) : Ct l D tg bs sa yX12_here cX12_here 1 (some .int) 0 [.ref p0] hp (FX12_here hp p0) (fun r => some (.int r)) (fun _ => hp) := by
  refine Ct.of (by decide) (Nat.le_of_ble_eq_true rfl) ?_
  intro V Q hVl hVd hVt hVb hVs hC
  subst hVl; subst hVd; subst hVt; subst hVb; subst hVs
  unfold FX12_here
  show Zs V Q (0, 0) 1 _ _ hp [(0, .ref p0)] 0 []
  refine z_aload_n hC 0 dX12_here_0 rfl rfl ?_
  refine z_getI hC lgRX12_131 dX12_here_1 (fun v1 => ?_)
  refine z_aload_n hC 0 dX12_here_4 rfl rfl ?_
  refine z_getI hC lgRX12_134 dX12_here_5 (fun v2 => ?_)
  refine z_icmp_ge hC 27 dX12_here_8 (by decide) (fun _ => ?_) (fun _ => ?_)
  · refine z_iconst hC (-1 : Int32) dX12_here_27 (by decide) ?_
    exact z_iret hC (fun h => h) dX12_here_28
  · refine z_aload_n hC 0 dX12_here_11 rfl rfl ?_
    refine z_getR hC lgRX12_26 dX12_here_12 (fun v3 => ?_)
    refine z_aload_n hC 0 dX12_here_15 rfl rfl ?_
    refine z_getI hC lgRX12_131 dX12_here_16 (fun v4 => ?_)
    refine z_bald hC dX12_here_19 (fun v5 => ?_)
    refine z_sipush hC (255 : Int32) dX12_here_20 (by decide) ?_
    refine z_iand hC dX12_here_23 ?_
    refine z_goto hC 28 dX12_here_24 (by decide) ?_
    exact z_iret hC (fun h => h) dX12_here_28

theorem dX12_isDigit_0 : decode cX12_isDigit 0 = .ok (.aload_n 0, 1) := by decide +kernel
theorem dX12_isDigit_1 : decode cX12_isDigit 1 = .ok (.invokevirtual 137, 3) := by decide +kernel
theorem dX12_isDigit_4 : decode cX12_isDigit 4 = .ok (.bipush 48, 2) := by decide +kernel
theorem dX12_isDigit_6 : decode cX12_isDigit 6 = .ok (.if_icmp .lt 16, 3) := by decide +kernel
theorem dX12_isDigit_9 : decode cX12_isDigit 9 = .ok (.aload_n 0, 1) := by decide +kernel
theorem dX12_isDigit_10 : decode cX12_isDigit 10 = .ok (.invokevirtual 137, 3) := by decide +kernel
theorem dX12_isDigit_13 : decode cX12_isDigit 13 = .ok (.bipush 57, 2) := by decide +kernel
theorem dX12_isDigit_15 : decode cX12_isDigit 15 = .ok (.if_icmp .gt 7, 3) := by decide +kernel
theorem dX12_isDigit_18 : decode cX12_isDigit 18 = .ok (.iconst 1, 1) := by decide +kernel
theorem dX12_isDigit_19 : decode cX12_isDigit 19 = .ok (.goto 4, 3) := by decide +kernel
theorem dX12_isDigit_22 : decode cX12_isDigit 22 = .ok (.iconst 0, 1) := by decide +kernel
theorem dX12_isDigit_23 : decode cX12_isDigit 23 = .ok (.ireturn, 1) := by decide +kernel
def FX12_isDigit (hp : HP) (p0 : Nat) : Option (Int32) := (rc [12] hp p0 (FX12_here hp p0)).bind (fun v1 => if v1 < (48 : Int32) then some (0 : Int32) else (rc [12] hp p0 (FX12_here hp p0)).bind (fun v2 => if (57 : Int32) < v2 then some (0 : Int32) else some (1 : Int32)))
set_option maxHeartbeats 4000000 in
set_option maxRecDepth 100000 in
theorem ctX12_isDigit (l : Launch) (D : va_G) (tg : Nat → ClassId) (bs : Nat) (sa : Nat → Nat) (hp : HP) (p0 : Nat) : Ct l D tg bs sa yX12_isDigit cX12_isDigit 1 (some .boolean) 1 [.ref p0] hp (FX12_isDigit hp p0) (fun r => some (.int r)) (fun _ => hp) := by
  refine Ct.of (by decide) (Nat.le_of_ble_eq_true rfl) ?_
  intro V Q hVl hVd hVt hVb hVs hC
  subst hVl; subst hVd; subst hVt; subst hVb; subst hVs
  unfold FX12_isDigit
  show Zs V Q (0, 0) 1 _ _ hp [(0, .ref p0)] 0 []
  refine z_aload_n hC 0 dX12_isDigit_0 rfl rfl ?_
  refine z_callVi hC (ci := 12) rfl lmRX12_137 (ctX12_here (vLa V) (vDa V) (vTg V) (vBs V) (vSa V) hp p0) (by decide) hn0 dX12_isDigit_1 rfl rfl (Nat.le_of_ble_eq_true rfl) (fun v1 => ?_)
  refine z_bipush hC (48 : Int32) dX12_isDigit_4 (by decide) ?_
  refine z_icmp_lt hC 22 dX12_isDigit_6 (by decide) (fun _ => ?_) (fun _ => ?_)
  · refine z_iconst hC (0 : Int32) dX12_isDigit_22 (by decide) ?_
    exact z_zret hC (by decide) (fun h => h) dX12_isDigit_23
  · refine z_aload_n hC 0 dX12_isDigit_9 rfl rfl ?_
    refine z_callVi hC (ci := 12) rfl lmRX12_137 (ctX12_here (vLa V) (vDa V) (vTg V) (vBs V) (vSa V) hp p0) (by decide) hn0 dX12_isDigit_10 rfl rfl (Nat.le_of_ble_eq_true rfl) (fun v2 => ?_)
    refine z_bipush hC (57 : Int32) dX12_isDigit_13 (by decide) ?_
    refine z_icmp_gt hC 22 dX12_isDigit_15 (by decide) (fun _ => ?_) (fun _ => ?_)
    · refine z_iconst hC (0 : Int32) dX12_isDigit_22 (by decide) ?_
      exact z_zret hC (by decide) (fun h => h) dX12_isDigit_23
    · refine z_iconst hC (1 : Int32) dX12_isDigit_18 (by decide) ?_
      refine z_goto hC 23 dX12_isDigit_19 (by decide) ?_
      exact z_zret hC (by decide) (fun h => h) dX12_isDigit_23

theorem dX12_wrongAt_0 : decode cX12_wrongAt 0 = .ok (.aload_n 0, 1) := by decide +kernel
theorem dX12_wrongAt_1 : decode cX12_wrongAt 1 = .ok (.sipush (-1000), 3) := by decide +kernel
theorem dX12_wrongAt_4 : decode cX12_wrongAt 4 = .ok (.iload_n 1, 1) := by decide +kernel
theorem dX12_wrongAt_5 : decode cX12_wrongAt 5 = .ok (.imul, 1) := by decide +kernel
theorem dX12_wrongAt_6 : decode cX12_wrongAt 6 = .ok (.iload_n 2, 1) := by decide +kernel
theorem dX12_wrongAt_7 : decode cX12_wrongAt 7 = .ok (.isub, 1) := by decide +kernel
theorem dX12_wrongAt_8 : decode cX12_wrongAt 8 = .ok (.putfield 141, 3) := by decide +kernel
theorem dX12_wrongAt_11 : decode cX12_wrongAt 11 = .ok (.iconst 0, 1) := by decide +kernel
theorem dX12_wrongAt_12 : decode cX12_wrongAt 12 = .ok (.ireturn, 1) := by decide +kernel
def FX12_wrongAt (hp : HP) (p0 : Nat) (p1 : Int32) (p2 : Int32) : Option (Int32 × HP) := (sI [12] 17 hp p0 (((-1000 : Int32) * p1) - p2)).bind (fun hp1 => some ((0 : Int32), hp1))
set_option maxHeartbeats 4000000 in
set_option maxRecDepth 100000 in
theorem ctX12_wrongAt (l : Launch) (D : va_G) (tg : Nat → ClassId) (bs : Nat) (sa : Nat → Nat) (hp : HP) (p0 : Nat) (p1 : Int32) (p2 : Int32) : Ct l D tg bs sa yX12_wrongAt cX12_wrongAt 3 (some .boolean) 0 [.ref p0, .int p1, .int p2] hp (FX12_wrongAt hp p0 p1 p2) (fun r => some (.int r.1)) (fun r => r.2) := by
  refine Ct.of (by decide) (Nat.le_of_ble_eq_true rfl) ?_
  intro V Q hVl hVd hVt hVb hVs hC
  subst hVl; subst hVd; subst hVt; subst hVb; subst hVs
  unfold FX12_wrongAt
  show Zs V Q (0, 0) 3 _ _ hp [(0, .ref p0), (1, .int p1), (2, .int p2)] 0 []
  refine z_aload_n hC 0 dX12_wrongAt_0 rfl rfl ?_
  refine z_sipush hC (-1000 : Int32) dX12_wrongAt_1 (by decide) ?_
  refine z_iload_n hC 1 dX12_wrongAt_4 rfl rfl ?_
  refine z_imul hC dX12_wrongAt_5 ?_
  refine z_iload_n hC 2 dX12_wrongAt_6 rfl rfl ?_
  refine z_isub hC dX12_wrongAt_7 ?_
  refine z_putI hC lpRX12_141 dX12_wrongAt_8 (fun hp1 => ?_)
  refine z_iconst hC (0 : Int32) dX12_wrongAt_11 (by decide) ?_
  exact z_zret hC (by decide) (fun h => h) dX12_wrongAt_12

theorem dX12_takes_0 : decode cX12_takes 0 = .ok (.aload_n 0, 1) := by decide +kernel
theorem dX12_takes_1 : decode cX12_takes 1 = .ok (.invokevirtual 137, 3) := by decide +kernel
theorem dX12_takes_4 : decode cX12_takes 4 = .ok (.iload_n 1, 1) := by decide +kernel
theorem dX12_takes_5 : decode cX12_takes 5 = .ok (.if_icmp .eq 13, 3) := by decide +kernel
theorem dX12_takes_8 : decode cX12_takes 8 = .ok (.aload_n 0, 1) := by decide +kernel
theorem dX12_takes_9 : decode cX12_takes 9 = .ok (.iconst 1, 1) := by decide +kernel
theorem dX12_takes_10 : decode cX12_takes 10 = .ok (.aload_n 0, 1) := by decide +kernel
theorem dX12_takes_11 : decode cX12_takes 11 = .ok (.getfield 131, 3) := by decide +kernel
theorem dX12_takes_14 : decode cX12_takes 14 = .ok (.invokevirtual 144, 3) := by decide +kernel
theorem dX12_takes_17 : decode cX12_takes 17 = .ok (.ireturn, 1) := by decide +kernel
theorem dX12_takes_18 : decode cX12_takes 18 = .ok (.aload_n 0, 1) := by decide +kernel
theorem dX12_takes_19 : decode cX12_takes 19 = .ok (.aload_n 0, 1) := by decide +kernel
theorem dX12_takes_20 : decode cX12_takes 20 = .ok (.getfield 131, 3) := by decide +kernel
theorem dX12_takes_23 : decode cX12_takes 23 = .ok (.iconst 1, 1) := by decide +kernel
theorem dX12_takes_24 : decode cX12_takes 24 = .ok (.iadd, 1) := by decide +kernel
theorem dX12_takes_25 : decode cX12_takes 25 = .ok (.putfield 131, 3) := by decide +kernel
theorem dX12_takes_28 : decode cX12_takes 28 = .ok (.iconst 1, 1) := by decide +kernel
theorem dX12_takes_29 : decode cX12_takes 29 = .ok (.ireturn, 1) := by decide +kernel
def FX12_takes (hp : HP) (p0 : Nat) (p1 : Int32) : Option (Int32 × HP) := (rc [12] hp p0 (FX12_here hp p0)).bind (fun v1 => if v1 = p1 then (gI [12] 15 hp p0).bind (fun v2 => (sI [12] 15 hp p0 (v2 + (1 : Int32))).bind (fun hp3 => some ((1 : Int32), hp3))) else (gI [12] 15 hp p0).bind (fun v4 => (rc [12] hp p0 (FX12_wrongAt hp p0 (1 : Int32) v4)).bind (fun w5 => bz w5.1 (some (w5.1, w5.2)))))
set_option maxHeartbeats 4000000 in
set_option maxRecDepth 100000 in
theorem ctX12_takes (l : Launch) (D : va_G) (tg : Nat → ClassId) (bs : Nat) (sa : Nat → Nat) (hp : HP) (p0 : Nat) (p1 : Int32) : Ct l D tg bs sa yX12_takes cX12_takes 2 (some .boolean) 1 [.ref p0, .int p1] hp (FX12_takes hp p0 p1) (fun r => some (.int r.1)) (fun r => r.2) := by
  refine Ct.of (by decide) (Nat.le_of_ble_eq_true rfl) ?_
  intro V Q hVl hVd hVt hVb hVs hC
  subst hVl; subst hVd; subst hVt; subst hVb; subst hVs
  unfold FX12_takes
  show Zs V Q (0, 0) 2 _ _ hp [(0, .ref p0), (1, .int p1)] 0 []
  refine z_aload_n hC 0 dX12_takes_0 rfl rfl ?_
  refine z_callVi hC (ci := 12) rfl lmRX12_137 (ctX12_here (vLa V) (vDa V) (vTg V) (vBs V) (vSa V) hp p0) (by decide) hn0 dX12_takes_1 rfl rfl (Nat.le_of_ble_eq_true rfl) (fun v1 => ?_)
  refine z_iload_n hC 1 dX12_takes_4 rfl rfl ?_
  refine z_icmp_eq hC 18 dX12_takes_5 (by decide) (fun _ => ?_) (fun _ => ?_)
  · refine z_aload_n hC 0 dX12_takes_18 rfl rfl ?_
    refine z_aload_n hC 0 dX12_takes_19 rfl rfl ?_
    refine z_getI hC lgRX12_131 dX12_takes_20 (fun v2 => ?_)
    refine z_iconst hC (1 : Int32) dX12_takes_23 (by decide) ?_
    refine z_iadd hC dX12_takes_24 ?_
    refine z_putI hC lpRX12_131 dX12_takes_25 (fun hp3 => ?_)
    refine z_iconst hC (1 : Int32) dX12_takes_28 (by decide) ?_
    exact z_zret hC (by decide) (fun h => h) dX12_takes_29
  · refine z_aload_n hC 0 dX12_takes_8 rfl rfl ?_
    refine z_iconst hC (1 : Int32) dX12_takes_9 (by decide) ?_
    refine z_aload_n hC 0 dX12_takes_10 rfl rfl ?_
    refine z_getI hC lgRX12_131 dX12_takes_11 (fun v4 => ?_)
    refine z_callVi hC (ci := 12) rfl lmRX12_144 (ctX12_wrongAt (vLa V) (vDa V) (vTg V) (vBs V) (vSa V) hp p0 (1 : Int32) v4) (by decide) hn0 dX12_takes_14 rfl rfl (Nat.le_of_ble_eq_true rfl) (fun w5 => ?_)
    exact z_bz (fun hv => z_zret hC hv (fun h => h) dX12_takes_17)

theorem dX12_readsNumber_0 : decode cX12_readsNumber 0 = .ok (.aload_n 0, 1) := by decide +kernel
theorem dX12_readsNumber_1 : decode cX12_readsNumber 1 = .ok (.getfield 131, 3) := by decide +kernel
theorem dX12_readsNumber_4 : decode cX12_readsNumber 4 = .ok (.istore_n 1, 1) := by decide +kernel
theorem dX12_readsNumber_5 : decode cX12_readsNumber 5 = .ok (.aload_n 0, 1) := by decide +kernel
theorem dX12_readsNumber_6 : decode cX12_readsNumber 6 = .ok (.iconst 0, 1) := by decide +kernel
theorem dX12_readsNumber_7 : decode cX12_readsNumber 7 = .ok (.putfield 147, 3) := by decide +kernel
theorem dX12_readsNumber_10 : decode cX12_readsNumber 10 = .ok (.aload_n 0, 1) := by decide +kernel
theorem dX12_readsNumber_11 : decode cX12_readsNumber 11 = .ok (.invokevirtual 150, 3) := by decide +kernel
theorem dX12_readsNumber_14 : decode cX12_readsNumber 14 = .ok (.ifCond .eq 55, 3) := by decide +kernel
theorem dX12_readsNumber_17 : decode cX12_readsNumber 17 = .ok (.aload_n 0, 1) := by decide +kernel
theorem dX12_readsNumber_18 : decode cX12_readsNumber 18 = .ok (.getfield 131, 3) := by decide +kernel
theorem dX12_readsNumber_21 : decode cX12_readsNumber 21 = .ok (.iload_n 1, 1) := by decide +kernel
theorem dX12_readsNumber_22 : decode cX12_readsNumber 22 = .ok (.iconst 5, 1) := by decide +kernel
theorem dX12_readsNumber_23 : decode cX12_readsNumber 23 = .ok (.iadd, 1) := by decide +kernel
theorem dX12_readsNumber_24 : decode cX12_readsNumber 24 = .ok (.if_icmp .ne 13, 3) := by decide +kernel
theorem dX12_readsNumber_27 : decode cX12_readsNumber 27 = .ok (.aload_n 0, 1) := by decide +kernel
theorem dX12_readsNumber_28 : decode cX12_readsNumber 28 = .ok (.iconst 2, 1) := by decide +kernel
theorem dX12_readsNumber_29 : decode cX12_readsNumber 29 = .ok (.aload_n 0, 1) := by decide +kernel
theorem dX12_readsNumber_30 : decode cX12_readsNumber 30 = .ok (.getfield 131, 3) := by decide +kernel
theorem dX12_readsNumber_33 : decode cX12_readsNumber 33 = .ok (.invokevirtual 144, 3) := by decide +kernel
theorem dX12_readsNumber_36 : decode cX12_readsNumber 36 = .ok (.ireturn, 1) := by decide +kernel
theorem dX12_readsNumber_37 : decode cX12_readsNumber 37 = .ok (.aload_n 0, 1) := by decide +kernel
theorem dX12_readsNumber_38 : decode cX12_readsNumber 38 = .ok (.bipush 10, 2) := by decide +kernel
theorem dX12_readsNumber_40 : decode cX12_readsNumber 40 = .ok (.aload_n 0, 1) := by decide +kernel
theorem dX12_readsNumber_41 : decode cX12_readsNumber 41 = .ok (.getfield 147, 3) := by decide +kernel
theorem dX12_readsNumber_44 : decode cX12_readsNumber 44 = .ok (.imul, 1) := by decide +kernel
theorem dX12_readsNumber_45 : decode cX12_readsNumber 45 = .ok (.aload_n 0, 1) := by decide +kernel
theorem dX12_readsNumber_46 : decode cX12_readsNumber 46 = .ok (.invokevirtual 137, 3) := by decide +kernel
theorem dX12_readsNumber_49 : decode cX12_readsNumber 49 = .ok (.iadd, 1) := by decide +kernel
theorem dX12_readsNumber_50 : decode cX12_readsNumber 50 = .ok (.bipush 48, 2) := by decide +kernel
theorem dX12_readsNumber_52 : decode cX12_readsNumber 52 = .ok (.isub, 1) := by decide +kernel
theorem dX12_readsNumber_53 : decode cX12_readsNumber 53 = .ok (.putfield 147, 3) := by decide +kernel
theorem dX12_readsNumber_56 : decode cX12_readsNumber 56 = .ok (.aload_n 0, 1) := by decide +kernel
theorem dX12_readsNumber_57 : decode cX12_readsNumber 57 = .ok (.aload_n 0, 1) := by decide +kernel
theorem dX12_readsNumber_58 : decode cX12_readsNumber 58 = .ok (.getfield 131, 3) := by decide +kernel
theorem dX12_readsNumber_61 : decode cX12_readsNumber 61 = .ok (.iconst 1, 1) := by decide +kernel
theorem dX12_readsNumber_62 : decode cX12_readsNumber 62 = .ok (.iadd, 1) := by decide +kernel
theorem dX12_readsNumber_63 : decode cX12_readsNumber 63 = .ok (.putfield 131, 3) := by decide +kernel
theorem dX12_readsNumber_66 : decode cX12_readsNumber 66 = .ok (.goto (-56), 3) := by decide +kernel
theorem dX12_readsNumber_69 : decode cX12_readsNumber 69 = .ok (.iconst 1, 1) := by decide +kernel
theorem dX12_readsNumber_70 : decode cX12_readsNumber 70 = .ok (.ireturn, 1) := by decide +kernel
def FX12_readsNumber (hp : HP) (p0 : Nat) : Option (Int32 × HP) := (gI [12] 15 hp p0).bind (fun v1 => (sI [12] 18 hp p0 (0 : Int32)).bind (fun hp2 => (lp (fun (s3 : HP) => (rc [12] s3 p0 (FX12_isDigit s3 p0)).bind (fun v5 => if v5 = 0 then some (Sum.inl (Sum.inr s3)) else (gI [12] 15 s3 p0).bind (fun v6 => if v6 = (v1 + (5 : Int32)) then (gI [12] 15 s3 p0).bind (fun v7 => (rc [12] s3 p0 (FX12_wrongAt s3 p0 (2 : Int32) v7)).bind (fun w8 => bz w8.1 (some (Sum.inl (Sum.inl (w8.1, w8.2)))))) else (gI [12] 18 s3 p0).bind (fun v9 => (rc [12] s3 p0 (FX12_here s3 p0)).bind (fun v10 => (sI [12] 18 s3 p0 ((((10 : Int32) * v9) + v10) - (48 : Int32))).bind (fun hp11 => (gI [12] 15 hp11 p0).bind (fun v12 => (sI [12] 15 hp11 p0 (v12 + (1 : Int32))).bind (fun hp13 => some (Sum.inr hp13))))))))) FU hp2).bind (lk (P := Int32 × HP) (fun r => r) (fun (y4 : HP) => some ((1 : Int32), y4)))))
set_option maxHeartbeats 4000000 in
set_option maxRecDepth 100000 in
theorem ctX12_readsNumber (l : Launch) (D : va_G) (tg : Nat → ClassId) (bs : Nat) (sa : Nat → Nat) (hp : HP) (p0 : Nat) : Ct l D tg bs sa yX12_readsNumber cX12_readsNumber 2 (some .boolean) 2 [.ref p0] hp (FX12_readsNumber hp p0) (fun r => some (.int r.1)) (fun r => r.2) := by
  refine Ct.of (by decide) (Nat.le_of_ble_eq_true rfl) ?_
  intro V Q hVl hVd hVt hVb hVs hC
  subst hVl; subst hVd; subst hVt; subst hVb; subst hVs
  unfold FX12_readsNumber
  show Zs V Q (0, 0) 2 _ _ hp [(0, .ref p0)] 0 []
  refine z_aload_n hC 0 dX12_readsNumber_0 rfl rfl ?_
  refine z_getI hC lgRX12_131 dX12_readsNumber_1 (fun v1 => ?_)
  refine z_istore_n hC [(0, .ref p0), (1, .int v1)] [1, 0] dX12_readsNumber_4 rfl (by decide) rfl ?_
  refine z_aload_n hC 0 dX12_readsNumber_5 rfl rfl ?_
  refine z_iconst hC (0 : Int32) dX12_readsNumber_6 (by decide) ?_
  refine z_putI hC lpRX12_147 dX12_readsNumber_7 (fun hp2 => ?_)
  refine z_lpR (S := HP) (Y := HP) (fun s3 => s3) (fun s3 => [(0, .ref p0), (1, .int v1)]) (fun y4 => y4) (fun y4 => []) 69 [] (fun y4 => ?_) (fun s3 => ?_) rfl rfl
  · refine z_iconst hC (1 : Int32) dX12_readsNumber_69 (by decide) ?_
    exact z_zret hC (by decide) (fun h => h) dX12_readsNumber_70
  · refine z_aload_n hC 0 dX12_readsNumber_10 rfl rfl ?_
    refine z_callVi hC (ci := 12) rfl lmRX12_150 (ctX12_isDigit (vLa V) (vDa V) (vTg V) (vBs V) (vSa V) s3 p0) (by decide) hn0 dX12_readsNumber_11 rfl rfl (Nat.le_of_ble_eq_true rfl) (fun v5 => ?_)
    refine z_if_eq hC 69 dX12_readsNumber_14 (by decide) (fun _ => ?_) (fun _ => ?_)
    · refine z_weak [] [] rfl ?_
      exact z_leaf (fun h => h)
    · refine z_aload_n hC 0 dX12_readsNumber_17 rfl rfl ?_
      refine z_getI hC lgRX12_131 dX12_readsNumber_18 (fun v6 => ?_)
      refine z_iload_n hC 1 dX12_readsNumber_21 rfl rfl ?_
      refine z_iconst hC (5 : Int32) dX12_readsNumber_22 (by decide) ?_
      refine z_iadd hC dX12_readsNumber_23 ?_
      refine z_icmp_ne hC 37 dX12_readsNumber_24 (by decide) (fun _ => ?_) (fun _ => ?_)
      · refine z_aload_n hC 0 dX12_readsNumber_27 rfl rfl ?_
        refine z_iconst hC (2 : Int32) dX12_readsNumber_28 (by decide) ?_
        refine z_aload_n hC 0 dX12_readsNumber_29 rfl rfl ?_
        refine z_getI hC lgRX12_131 dX12_readsNumber_30 (fun v7 => ?_)
        refine z_callVi hC (ci := 12) rfl lmRX12_144 (ctX12_wrongAt (vLa V) (vDa V) (vTg V) (vBs V) (vSa V) s3 p0 (2 : Int32) v7) (by decide) hn0 dX12_readsNumber_33 rfl rfl (Nat.le_of_ble_eq_true rfl) (fun w8 => ?_)
        exact z_bz (fun hv => z_zret hC hv (fun h => h) dX12_readsNumber_36)
      · refine z_aload_n hC 0 dX12_readsNumber_37 rfl rfl ?_
        refine z_bipush hC (10 : Int32) dX12_readsNumber_38 (by decide) ?_
        refine z_aload_n hC 0 dX12_readsNumber_40 rfl rfl ?_
        refine z_getI hC lgRX12_147 dX12_readsNumber_41 (fun v9 => ?_)
        refine z_imul hC dX12_readsNumber_44 ?_
        refine z_aload_n hC 0 dX12_readsNumber_45 rfl rfl ?_
        refine z_callVi hC (ci := 12) rfl lmRX12_137 (ctX12_here (vLa V) (vDa V) (vTg V) (vBs V) (vSa V) s3 p0) (by decide) hn0 dX12_readsNumber_46 rfl rfl (Nat.le_of_ble_eq_true rfl) (fun v10 => ?_)
        refine z_iadd hC dX12_readsNumber_49 ?_
        refine z_bipush hC (48 : Int32) dX12_readsNumber_50 (by decide) ?_
        refine z_isub hC dX12_readsNumber_52 ?_
        refine z_putI hC lpRX12_147 dX12_readsNumber_53 (fun hp11 => ?_)
        refine z_aload_n hC 0 dX12_readsNumber_56 rfl rfl ?_
        refine z_aload_n hC 0 dX12_readsNumber_57 rfl rfl ?_
        refine z_getI hC lgRX12_131 dX12_readsNumber_58 (fun v12 => ?_)
        refine z_iconst hC (1 : Int32) dX12_readsNumber_61 (by decide) ?_
        refine z_iadd hC dX12_readsNumber_62 ?_
        refine z_putI hC lpRX12_131 dX12_readsNumber_63 (fun hp13 => ?_)
        refine z_goto hC 10 dX12_readsNumber_66 (by decide) ?_
        exact z_leaf (fun h => h)

theorem dX12_notes_0 : decode cX12_notes 0 = .ok (.aload_n 0, 1) := by decide +kernel
theorem dX12_notes_1 : decode cX12_notes 1 = .ok (.getfield 30, 3) := by decide +kernel
theorem dX12_notes_4 : decode cX12_notes 4 = .ok (.aload_n 0, 1) := by decide +kernel
theorem dX12_notes_5 : decode cX12_notes 5 = .ok (.getfield 154, 3) := by decide +kernel
theorem dX12_notes_8 : decode cX12_notes 8 = .ok (.ldc 157, 2) := by decide +kernel
theorem dX12_notes_10 : decode cX12_notes 10 = .ok (.iload_n 1, 1) := by decide +kernel
theorem dX12_notes_11 : decode cX12_notes 11 = .ok (.imul, 1) := by decide +kernel
theorem dX12_notes_12 : decode cX12_notes 12 = .ok (.iload_n 2, 1) := by decide +kernel
theorem dX12_notes_13 : decode cX12_notes 13 = .ok (.iadd, 1) := by decide +kernel
theorem dX12_notes_14 : decode cX12_notes 14 = .ok (.iastore, 1) := by decide +kernel
theorem dX12_notes_15 : decode cX12_notes 15 = .ok (.aload_n 0, 1) := by decide +kernel
theorem dX12_notes_16 : decode cX12_notes 16 = .ok (.aload_n 0, 1) := by decide +kernel
theorem dX12_notes_17 : decode cX12_notes 17 = .ok (.getfield 154, 3) := by decide +kernel
theorem dX12_notes_20 : decode cX12_notes 20 = .ok (.iconst 1, 1) := by decide +kernel
theorem dX12_notes_21 : decode cX12_notes 21 = .ok (.iadd, 1) := by decide +kernel
theorem dX12_notes_22 : decode cX12_notes 22 = .ok (.putfield 154, 3) := by decide +kernel
theorem dX12_notes_25 : decode cX12_notes 25 = .ok (.return_, 1) := by decide +kernel
def FX12_notes (hp : HP) (p0 : Nat) (p1 : Int32) (p2 : Int32) : Option (HP) := (gR [12] 24 hp p0).bind (fun v1 => (gI [12] 20 hp p0).bind (fun v2 => (wrI hp v1 v2 (((1048576 : Int32) * p1) + p2)).bind (fun hp3 => (gI [12] 20 hp3 p0).bind (fun v4 => (sI [12] 20 hp3 p0 (v4 + (1 : Int32))).bind (fun hp5 => some hp5)))))
set_option maxHeartbeats 4000000 in
set_option maxRecDepth 100000 in
theorem ctX12_notes (l : Launch) (D : va_G) (tg : Nat → ClassId) (bs : Nat) (sa : Nat → Nat) (hp : HP) (p0 : Nat) (p1 : Int32) (p2 : Int32) : Ct l D tg bs sa yX12_notes cX12_notes 3 none 0 [.ref p0, .int p1, .int p2] hp (FX12_notes hp p0 p1 p2) (fun _ => none) (fun r => r) := by
  refine Ct.of (by decide) (Nat.le_of_ble_eq_true rfl) ?_
  intro V Q hVl hVd hVt hVb hVs hC
  subst hVl; subst hVd; subst hVt; subst hVb; subst hVs
  unfold FX12_notes
  show Zs V Q (0, 0) 3 _ _ hp [(0, .ref p0), (1, .int p1), (2, .int p2)] 0 []
  refine z_aload_n hC 0 dX12_notes_0 rfl rfl ?_
  refine z_getR hC lgRX12_30 dX12_notes_1 (fun v1 => ?_)
  refine z_aload_n hC 0 dX12_notes_4 rfl rfl ?_
  refine z_getI hC lgRX12_154 dX12_notes_5 (fun v2 => ?_)
  refine z_ldc hC (1048576 : Int32) lcRX12_157 dX12_notes_8 ?_
  refine z_iload_n hC 1 dX12_notes_10 rfl rfl ?_
  refine z_imul hC dX12_notes_11 ?_
  refine z_iload_n hC 2 dX12_notes_12 rfl rfl ?_
  refine z_iadd hC dX12_notes_13 ?_
  refine z_iast hC dX12_notes_14 (fun hp3 => ?_)
  refine z_aload_n hC 0 dX12_notes_15 rfl rfl ?_
  refine z_aload_n hC 0 dX12_notes_16 rfl rfl ?_
  refine z_getI hC lgRX12_154 dX12_notes_17 (fun v4 => ?_)
  refine z_iconst hC (1 : Int32) dX12_notes_20 (by decide) ?_
  refine z_iadd hC dX12_notes_21 ?_
  refine z_putI hC lpRX12_154 dX12_notes_22 (fun hp5 => ?_)
  exact z_vret hC (fun h => h) dX12_notes_25

theorem dX12_opens_0 : decode cX12_opens 0 = .ok (.aload_n 0, 1) := by decide +kernel
theorem dX12_opens_1 : decode cX12_opens 1 = .ok (.getfield 158, 3) := by decide +kernel
theorem dX12_opens_4 : decode cX12_opens 4 = .ok (.bipush 6, 2) := by decide +kernel
theorem dX12_opens_6 : decode cX12_opens 6 = .ok (.if_icmp .ne 13, 3) := by decide +kernel
theorem dX12_opens_9 : decode cX12_opens 9 = .ok (.aload_n 0, 1) := by decide +kernel
theorem dX12_opens_10 : decode cX12_opens 10 = .ok (.iconst 5, 1) := by decide +kernel
theorem dX12_opens_11 : decode cX12_opens 11 = .ok (.aload_n 0, 1) := by decide +kernel
theorem dX12_opens_12 : decode cX12_opens 12 = .ok (.getfield 131, 3) := by decide +kernel
theorem dX12_opens_15 : decode cX12_opens 15 = .ok (.invokevirtual 144, 3) := by decide +kernel
theorem dX12_opens_18 : decode cX12_opens 18 = .ok (.ireturn, 1) := by decide +kernel
theorem dX12_opens_19 : decode cX12_opens 19 = .ok (.aload_n 0, 1) := by decide +kernel
theorem dX12_opens_20 : decode cX12_opens 20 = .ok (.aload_n 0, 1) := by decide +kernel
theorem dX12_opens_21 : decode cX12_opens 21 = .ok (.getfield 158, 3) := by decide +kernel
theorem dX12_opens_24 : decode cX12_opens 24 = .ok (.iconst 1, 1) := by decide +kernel
theorem dX12_opens_25 : decode cX12_opens 25 = .ok (.iadd, 1) := by decide +kernel
theorem dX12_opens_26 : decode cX12_opens 26 = .ok (.putfield 158, 3) := by decide +kernel
theorem dX12_opens_29 : decode cX12_opens 29 = .ok (.aload_n 0, 1) := by decide +kernel
theorem dX12_opens_30 : decode cX12_opens 30 = .ok (.getfield 33, 3) := by decide +kernel
theorem dX12_opens_33 : decode cX12_opens 33 = .ok (.aload_n 0, 1) := by decide +kernel
theorem dX12_opens_34 : decode cX12_opens 34 = .ok (.getfield 161, 3) := by decide +kernel
theorem dX12_opens_37 : decode cX12_opens 37 = .ok (.ldc 157, 2) := by decide +kernel
theorem dX12_opens_39 : decode cX12_opens 39 = .ok (.iload_n 1, 1) := by decide +kernel
theorem dX12_opens_40 : decode cX12_opens 40 = .ok (.imul, 1) := by decide +kernel
theorem dX12_opens_41 : decode cX12_opens 41 = .ok (.iastore, 1) := by decide +kernel
theorem dX12_opens_42 : decode cX12_opens 42 = .ok (.aload_n 0, 1) := by decide +kernel
theorem dX12_opens_43 : decode cX12_opens 43 = .ok (.aload_n 0, 1) := by decide +kernel
theorem dX12_opens_44 : decode cX12_opens 44 = .ok (.getfield 161, 3) := by decide +kernel
theorem dX12_opens_47 : decode cX12_opens 47 = .ok (.iconst 1, 1) := by decide +kernel
theorem dX12_opens_48 : decode cX12_opens 48 = .ok (.iadd, 1) := by decide +kernel
theorem dX12_opens_49 : decode cX12_opens 49 = .ok (.putfield 161, 3) := by decide +kernel
theorem dX12_opens_52 : decode cX12_opens 52 = .ok (.aload_n 0, 1) := by decide +kernel
theorem dX12_opens_53 : decode cX12_opens 53 = .ok (.aload_n 0, 1) := by decide +kernel
theorem dX12_opens_54 : decode cX12_opens 54 = .ok (.getfield 131, 3) := by decide +kernel
theorem dX12_opens_57 : decode cX12_opens 57 = .ok (.iconst 1, 1) := by decide +kernel
theorem dX12_opens_58 : decode cX12_opens 58 = .ok (.iadd, 1) := by decide +kernel
theorem dX12_opens_59 : decode cX12_opens 59 = .ok (.putfield 131, 3) := by decide +kernel
theorem dX12_opens_62 : decode cX12_opens 62 = .ok (.iconst 1, 1) := by decide +kernel
theorem dX12_opens_63 : decode cX12_opens 63 = .ok (.ireturn, 1) := by decide +kernel
def FX12_opens (hp : HP) (p0 : Nat) (p1 : Int32) : Option (Int32 × HP) := (gI [12] 19 hp p0).bind (fun v1 => if v1 = (6 : Int32) then (gI [12] 15 hp p0).bind (fun v2 => (rc [12] hp p0 (FX12_wrongAt hp p0 (5 : Int32) v2)).bind (fun w3 => bz w3.1 (some (w3.1, w3.2)))) else (gI [12] 19 hp p0).bind (fun v4 => (sI [12] 19 hp p0 (v4 + (1 : Int32))).bind (fun hp5 => (gR [12] 25 hp5 p0).bind (fun v6 => (gI [12] 21 hp5 p0).bind (fun v7 => (wrI hp5 v6 v7 ((1048576 : Int32) * p1)).bind (fun hp8 => (gI [12] 21 hp8 p0).bind (fun v9 => (sI [12] 21 hp8 p0 (v9 + (1 : Int32))).bind (fun hp10 => (gI [12] 15 hp10 p0).bind (fun v11 => (sI [12] 15 hp10 p0 (v11 + (1 : Int32))).bind (fun hp12 => some ((1 : Int32), hp12)))))))))))
set_option maxHeartbeats 4000000 in
set_option maxRecDepth 100000 in
theorem ctX12_opens (l : Launch) (D : va_G) (tg : Nat → ClassId) (bs : Nat) (sa : Nat → Nat) (hp : HP) (p0 : Nat) (p1 : Int32) : Ct l D tg bs sa yX12_opens cX12_opens 2 (some .boolean) 1 [.ref p0, .int p1] hp (FX12_opens hp p0 p1) (fun r => some (.int r.1)) (fun r => r.2) := by
  refine Ct.of (by decide) (Nat.le_of_ble_eq_true rfl) ?_
  intro V Q hVl hVd hVt hVb hVs hC
  subst hVl; subst hVd; subst hVt; subst hVb; subst hVs
  unfold FX12_opens
  show Zs V Q (0, 0) 2 _ _ hp [(0, .ref p0), (1, .int p1)] 0 []
  refine z_aload_n hC 0 dX12_opens_0 rfl rfl ?_
  refine z_getI hC lgRX12_158 dX12_opens_1 (fun v1 => ?_)
  refine z_bipush hC (6 : Int32) dX12_opens_4 (by decide) ?_
  refine z_icmp_ne hC 19 dX12_opens_6 (by decide) (fun _ => ?_) (fun _ => ?_)
  · refine z_aload_n hC 0 dX12_opens_9 rfl rfl ?_
    refine z_iconst hC (5 : Int32) dX12_opens_10 (by decide) ?_
    refine z_aload_n hC 0 dX12_opens_11 rfl rfl ?_
    refine z_getI hC lgRX12_131 dX12_opens_12 (fun v2 => ?_)
    refine z_callVi hC (ci := 12) rfl lmRX12_144 (ctX12_wrongAt (vLa V) (vDa V) (vTg V) (vBs V) (vSa V) hp p0 (5 : Int32) v2) (by decide) hn0 dX12_opens_15 rfl rfl (Nat.le_of_ble_eq_true rfl) (fun w3 => ?_)
    exact z_bz (fun hv => z_zret hC hv (fun h => h) dX12_opens_18)
  · refine z_aload_n hC 0 dX12_opens_19 rfl rfl ?_
    refine z_aload_n hC 0 dX12_opens_20 rfl rfl ?_
    refine z_getI hC lgRX12_158 dX12_opens_21 (fun v4 => ?_)
    refine z_iconst hC (1 : Int32) dX12_opens_24 (by decide) ?_
    refine z_iadd hC dX12_opens_25 ?_
    refine z_putI hC lpRX12_158 dX12_opens_26 (fun hp5 => ?_)
    refine z_aload_n hC 0 dX12_opens_29 rfl rfl ?_
    refine z_getR hC lgRX12_33 dX12_opens_30 (fun v6 => ?_)
    refine z_aload_n hC 0 dX12_opens_33 rfl rfl ?_
    refine z_getI hC lgRX12_161 dX12_opens_34 (fun v7 => ?_)
    refine z_ldc hC (1048576 : Int32) lcRX12_157 dX12_opens_37 ?_
    refine z_iload_n hC 1 dX12_opens_39 rfl rfl ?_
    refine z_imul hC dX12_opens_40 ?_
    refine z_iast hC dX12_opens_41 (fun hp8 => ?_)
    refine z_aload_n hC 0 dX12_opens_42 rfl rfl ?_
    refine z_aload_n hC 0 dX12_opens_43 rfl rfl ?_
    refine z_getI hC lgRX12_161 dX12_opens_44 (fun v9 => ?_)
    refine z_iconst hC (1 : Int32) dX12_opens_47 (by decide) ?_
    refine z_iadd hC dX12_opens_48 ?_
    refine z_putI hC lpRX12_161 dX12_opens_49 (fun hp10 => ?_)
    refine z_aload_n hC 0 dX12_opens_52 rfl rfl ?_
    refine z_aload_n hC 0 dX12_opens_53 rfl rfl ?_
    refine z_getI hC lgRX12_131 dX12_opens_54 (fun v11 => ?_)
    refine z_iconst hC (1 : Int32) dX12_opens_57 (by decide) ?_
    refine z_iadd hC dX12_opens_58 ?_
    refine z_putI hC lpRX12_131 dX12_opens_59 (fun hp12 => ?_)
    refine z_iconst hC (1 : Int32) dX12_opens_62 (by decide) ?_
    exact z_zret hC (by decide) (fun h => h) dX12_opens_63

theorem dX12_waitTop_0 : decode cX12_waitTop 0 = .ok (.aload_n 0, 1) := by decide +kernel
theorem dX12_waitTop_1 : decode cX12_waitTop 1 = .ok (.getfield 161, 3) := by decide +kernel
theorem dX12_waitTop_4 : decode cX12_waitTop 4 = .ok (.ifCond .ne 7, 3) := by decide +kernel
theorem dX12_waitTop_7 : decode cX12_waitTop 7 = .ok (.iconst (-1), 1) := by decide +kernel
theorem dX12_waitTop_8 : decode cX12_waitTop 8 = .ok (.goto 17, 3) := by decide +kernel
theorem dX12_waitTop_11 : decode cX12_waitTop 11 = .ok (.aload_n 0, 1) := by decide +kernel
theorem dX12_waitTop_12 : decode cX12_waitTop 12 = .ok (.getfield 33, 3) := by decide +kernel
theorem dX12_waitTop_15 : decode cX12_waitTop 15 = .ok (.aload_n 0, 1) := by decide +kernel
theorem dX12_waitTop_16 : decode cX12_waitTop 16 = .ok (.getfield 161, 3) := by decide +kernel
theorem dX12_waitTop_19 : decode cX12_waitTop 19 = .ok (.iconst 1, 1) := by decide +kernel
theorem dX12_waitTop_20 : decode cX12_waitTop 20 = .ok (.isub, 1) := by decide +kernel
theorem dX12_waitTop_21 : decode cX12_waitTop 21 = .ok (.iaload, 1) := by decide +kernel
theorem dX12_waitTop_22 : decode cX12_waitTop 22 = .ok (.ldc 157, 2) := by decide +kernel
theorem dX12_waitTop_24 : decode cX12_waitTop 24 = .ok (.idiv, 1) := by decide +kernel
theorem dX12_waitTop_25 : decode cX12_waitTop 25 = .ok (.ireturn, 1) := by decide +kernel
def FX12_waitTop (hp : HP) (p0 : Nat) : Option (Int32) := (gI [12] 21 hp p0).bind (fun v1 => if v1 = 0 then some (-1 : Int32) else (gR [12] 25 hp p0).bind (fun v2 => (gI [12] 21 hp p0).bind (fun v3 => (rdN 0 hp v2 (v3 - (1 : Int32))).bind (fun v4 => (dvI v4 (1048576 : Int32)).bind (fun v5 => some v5)))))
set_option maxHeartbeats 4000000 in
set_option maxRecDepth 100000 in
theorem ctX12_waitTop (l : Launch) (D : va_G) (tg : Nat → ClassId) (bs : Nat) (sa : Nat → Nat) (hp : HP) (p0 : Nat) : Ct l D tg bs sa yX12_waitTop cX12_waitTop 1 (some .int) 0 [.ref p0] hp (FX12_waitTop hp p0) (fun r => some (.int r)) (fun _ => hp) := by
  refine Ct.of (by decide) (Nat.le_of_ble_eq_true rfl) ?_
  intro V Q hVl hVd hVt hVb hVs hC
  subst hVl; subst hVd; subst hVt; subst hVb; subst hVs
  unfold FX12_waitTop
  show Zs V Q (0, 0) 1 _ _ hp [(0, .ref p0)] 0 []
  refine z_aload_n hC 0 dX12_waitTop_0 rfl rfl ?_
  refine z_getI hC lgRX12_161 dX12_waitTop_1 (fun v1 => ?_)
  refine z_if_ne hC 11 dX12_waitTop_4 (by decide) (fun _ => ?_) (fun _ => ?_)
  · refine z_iconst hC (-1 : Int32) dX12_waitTop_7 (by decide) ?_
    refine z_goto hC 25 dX12_waitTop_8 (by decide) ?_
    exact z_iret hC (fun h => h) dX12_waitTop_25
  · refine z_aload_n hC 0 dX12_waitTop_11 rfl rfl ?_
    refine z_getR hC lgRX12_33 dX12_waitTop_12 (fun v2 => ?_)
    refine z_aload_n hC 0 dX12_waitTop_15 rfl rfl ?_
    refine z_getI hC lgRX12_161 dX12_waitTop_16 (fun v3 => ?_)
    refine z_iconst hC (1 : Int32) dX12_waitTop_19 (by decide) ?_
    refine z_isub hC dX12_waitTop_20 ?_
    refine z_iald hC dX12_waitTop_21 (fun v4 => ?_)
    refine z_ldc hC (1048576 : Int32) lcRX12_157 dX12_waitTop_22 ?_
    refine z_idiv hC dX12_waitTop_24 (fun v5 => ?_)
    exact z_iret hC (fun h => h) dX12_waitTop_25

theorem dX12_factOf_0 : decode cX12_factOf 0 = .ok (.iload_n 0, 1) := by decide +kernel
theorem dX12_factOf_1 : decode cX12_factOf 1 = .ok (.tableswitch 129 99 122 #[113, 129, 129, 129, 129, 129, 129, 129, 129, 129, 123, 119, 129, 115, 129, 129, 117, 129, 129, 129, 111, 129, 121, 126], 111) := by decide +kernel
theorem dX12_factOf_112 : decode cX12_factOf 112 = .ok (.iconst 0, 1) := by decide +kernel
theorem dX12_factOf_113 : decode cX12_factOf 113 = .ok (.ireturn, 1) := by decide +kernel
theorem dX12_factOf_114 : decode cX12_factOf 114 = .ok (.iconst 1, 1) := by decide +kernel
theorem dX12_factOf_115 : decode cX12_factOf 115 = .ok (.ireturn, 1) := by decide +kernel
theorem dX12_factOf_116 : decode cX12_factOf 116 = .ok (.iconst 2, 1) := by decide +kernel
theorem dX12_factOf_117 : decode cX12_factOf 117 = .ok (.ireturn, 1) := by decide +kernel
theorem dX12_factOf_118 : decode cX12_factOf 118 = .ok (.iconst 3, 1) := by decide +kernel
theorem dX12_factOf_119 : decode cX12_factOf 119 = .ok (.ireturn, 1) := by decide +kernel
theorem dX12_factOf_120 : decode cX12_factOf 120 = .ok (.iconst 4, 1) := by decide +kernel
theorem dX12_factOf_121 : decode cX12_factOf 121 = .ok (.ireturn, 1) := by decide +kernel
theorem dX12_factOf_122 : decode cX12_factOf 122 = .ok (.iconst 5, 1) := by decide +kernel
theorem dX12_factOf_123 : decode cX12_factOf 123 = .ok (.ireturn, 1) := by decide +kernel
theorem dX12_factOf_124 : decode cX12_factOf 124 = .ok (.bipush 6, 2) := by decide +kernel
theorem dX12_factOf_126 : decode cX12_factOf 126 = .ok (.ireturn, 1) := by decide +kernel
theorem dX12_factOf_127 : decode cX12_factOf 127 = .ok (.bipush 7, 2) := by decide +kernel
theorem dX12_factOf_129 : decode cX12_factOf 129 = .ok (.ireturn, 1) := by decide +kernel
theorem dX12_factOf_130 : decode cX12_factOf 130 = .ok (.iconst (-1), 1) := by decide +kernel
theorem dX12_factOf_131 : decode cX12_factOf 131 = .ok (.ireturn, 1) := by decide +kernel
def FX12_factOf (p0 : Int32) : Option (Int32) := if p0 = (99 : Int32) then some (1 : Int32) else if p0 = (100 : Int32) then some (-1 : Int32) else if p0 = (101 : Int32) then some (-1 : Int32) else if p0 = (102 : Int32) then some (-1 : Int32) else if p0 = (103 : Int32) then some (-1 : Int32) else if p0 = (104 : Int32) then some (-1 : Int32) else if p0 = (105 : Int32) then some (-1 : Int32) else if p0 = (106 : Int32) then some (-1 : Int32) else if p0 = (107 : Int32) then some (-1 : Int32) else if p0 = (108 : Int32) then some (-1 : Int32) else if p0 = (109 : Int32) then some (6 : Int32) else if p0 = (110 : Int32) then some (4 : Int32) else if p0 = (111 : Int32) then some (-1 : Int32) else if p0 = (112 : Int32) then some (2 : Int32) else if p0 = (113 : Int32) then some (-1 : Int32) else if p0 = (114 : Int32) then some (-1 : Int32) else if p0 = (115 : Int32) then some (3 : Int32) else if p0 = (116 : Int32) then some (-1 : Int32) else if p0 = (117 : Int32) then some (-1 : Int32) else if p0 = (118 : Int32) then some (-1 : Int32) else if p0 = (119 : Int32) then some (0 : Int32) else if p0 = (120 : Int32) then some (-1 : Int32) else if p0 = (121 : Int32) then some (5 : Int32) else if p0 = (122 : Int32) then some (7 : Int32) else some (-1 : Int32)
set_option maxHeartbeats 4000000 in
set_option maxRecDepth 100000 in
theorem ctX12_factOf (l : Launch) (D : va_G) (tg : Nat → ClassId) (bs : Nat) (sa : Nat → Nat) (hp : HP) (p0 : Int32) : Ct l D tg bs sa yX12_factOf cX12_factOf 1 (some .int) 0 [.int p0] hp (FX12_factOf p0) (fun r => some (.int r)) (fun _ => hp) := by
  refine Ct.of (by decide) (Nat.le_of_ble_eq_true rfl) ?_
  intro V Q hVl hVd hVt hVb hVs hC
  subst hVl; subst hVd; subst hVt; subst hVb; subst hVs
  unfold FX12_factOf
  show Zs V Q (0, 0) 1 _ _ hp [(0, .int p0)] 0 []
  refine z_iload_n hC 0 dX12_factOf_0 rfl rfl ?_
  refine z_tsw hC (99 : Int32) 114 (113) dX12_factOf_1 (by decide) (by decide) (by decide) (by decide) (fun _ => ?_) (fun q1 => ?_)
  · refine z_iconst hC (1 : Int32) dX12_factOf_114 (by decide) ?_
    exact z_iret hC (fun h => h) dX12_factOf_115
  refine z_tsw hC (100 : Int32) 130 (129) dX12_factOf_1 (by decide) (by decide) (by decide) (by decide) (fun _ => ?_) (fun q2 => ?_)
  · refine z_iconst hC (-1 : Int32) dX12_factOf_130 (by decide) ?_
    exact z_iret hC (fun h => h) dX12_factOf_131
  refine z_tsw hC (101 : Int32) 130 (129) dX12_factOf_1 (by decide) (by decide) (by decide) (by decide) (fun _ => ?_) (fun q3 => ?_)
  · refine z_iconst hC (-1 : Int32) dX12_factOf_130 (by decide) ?_
    exact z_iret hC (fun h => h) dX12_factOf_131
  refine z_tsw hC (102 : Int32) 130 (129) dX12_factOf_1 (by decide) (by decide) (by decide) (by decide) (fun _ => ?_) (fun q4 => ?_)
  · refine z_iconst hC (-1 : Int32) dX12_factOf_130 (by decide) ?_
    exact z_iret hC (fun h => h) dX12_factOf_131
  refine z_tsw hC (103 : Int32) 130 (129) dX12_factOf_1 (by decide) (by decide) (by decide) (by decide) (fun _ => ?_) (fun q5 => ?_)
  · refine z_iconst hC (-1 : Int32) dX12_factOf_130 (by decide) ?_
    exact z_iret hC (fun h => h) dX12_factOf_131
  refine z_tsw hC (104 : Int32) 130 (129) dX12_factOf_1 (by decide) (by decide) (by decide) (by decide) (fun _ => ?_) (fun q6 => ?_)
  · refine z_iconst hC (-1 : Int32) dX12_factOf_130 (by decide) ?_
    exact z_iret hC (fun h => h) dX12_factOf_131
  refine z_tsw hC (105 : Int32) 130 (129) dX12_factOf_1 (by decide) (by decide) (by decide) (by decide) (fun _ => ?_) (fun q7 => ?_)
  · refine z_iconst hC (-1 : Int32) dX12_factOf_130 (by decide) ?_
    exact z_iret hC (fun h => h) dX12_factOf_131
  refine z_tsw hC (106 : Int32) 130 (129) dX12_factOf_1 (by decide) (by decide) (by decide) (by decide) (fun _ => ?_) (fun q8 => ?_)
  · refine z_iconst hC (-1 : Int32) dX12_factOf_130 (by decide) ?_
    exact z_iret hC (fun h => h) dX12_factOf_131
  refine z_tsw hC (107 : Int32) 130 (129) dX12_factOf_1 (by decide) (by decide) (by decide) (by decide) (fun _ => ?_) (fun q9 => ?_)
  · refine z_iconst hC (-1 : Int32) dX12_factOf_130 (by decide) ?_
    exact z_iret hC (fun h => h) dX12_factOf_131
  refine z_tsw hC (108 : Int32) 130 (129) dX12_factOf_1 (by decide) (by decide) (by decide) (by decide) (fun _ => ?_) (fun q10 => ?_)
  · refine z_iconst hC (-1 : Int32) dX12_factOf_130 (by decide) ?_
    exact z_iret hC (fun h => h) dX12_factOf_131
  refine z_tsw hC (109 : Int32) 124 (123) dX12_factOf_1 (by decide) (by decide) (by decide) (by decide) (fun _ => ?_) (fun q11 => ?_)
  · refine z_bipush hC (6 : Int32) dX12_factOf_124 (by decide) ?_
    exact z_iret hC (fun h => h) dX12_factOf_126
  refine z_tsw hC (110 : Int32) 120 (119) dX12_factOf_1 (by decide) (by decide) (by decide) (by decide) (fun _ => ?_) (fun q12 => ?_)
  · refine z_iconst hC (4 : Int32) dX12_factOf_120 (by decide) ?_
    exact z_iret hC (fun h => h) dX12_factOf_121
  refine z_tsw hC (111 : Int32) 130 (129) dX12_factOf_1 (by decide) (by decide) (by decide) (by decide) (fun _ => ?_) (fun q13 => ?_)
  · refine z_iconst hC (-1 : Int32) dX12_factOf_130 (by decide) ?_
    exact z_iret hC (fun h => h) dX12_factOf_131
  refine z_tsw hC (112 : Int32) 116 (115) dX12_factOf_1 (by decide) (by decide) (by decide) (by decide) (fun _ => ?_) (fun q14 => ?_)
  · refine z_iconst hC (2 : Int32) dX12_factOf_116 (by decide) ?_
    exact z_iret hC (fun h => h) dX12_factOf_117
  refine z_tsw hC (113 : Int32) 130 (129) dX12_factOf_1 (by decide) (by decide) (by decide) (by decide) (fun _ => ?_) (fun q15 => ?_)
  · refine z_iconst hC (-1 : Int32) dX12_factOf_130 (by decide) ?_
    exact z_iret hC (fun h => h) dX12_factOf_131
  refine z_tsw hC (114 : Int32) 130 (129) dX12_factOf_1 (by decide) (by decide) (by decide) (by decide) (fun _ => ?_) (fun q16 => ?_)
  · refine z_iconst hC (-1 : Int32) dX12_factOf_130 (by decide) ?_
    exact z_iret hC (fun h => h) dX12_factOf_131
  refine z_tsw hC (115 : Int32) 118 (117) dX12_factOf_1 (by decide) (by decide) (by decide) (by decide) (fun _ => ?_) (fun q17 => ?_)
  · refine z_iconst hC (3 : Int32) dX12_factOf_118 (by decide) ?_
    exact z_iret hC (fun h => h) dX12_factOf_119
  refine z_tsw hC (116 : Int32) 130 (129) dX12_factOf_1 (by decide) (by decide) (by decide) (by decide) (fun _ => ?_) (fun q18 => ?_)
  · refine z_iconst hC (-1 : Int32) dX12_factOf_130 (by decide) ?_
    exact z_iret hC (fun h => h) dX12_factOf_131
  refine z_tsw hC (117 : Int32) 130 (129) dX12_factOf_1 (by decide) (by decide) (by decide) (by decide) (fun _ => ?_) (fun q19 => ?_)
  · refine z_iconst hC (-1 : Int32) dX12_factOf_130 (by decide) ?_
    exact z_iret hC (fun h => h) dX12_factOf_131
  refine z_tsw hC (118 : Int32) 130 (129) dX12_factOf_1 (by decide) (by decide) (by decide) (by decide) (fun _ => ?_) (fun q20 => ?_)
  · refine z_iconst hC (-1 : Int32) dX12_factOf_130 (by decide) ?_
    exact z_iret hC (fun h => h) dX12_factOf_131
  refine z_tsw hC (119 : Int32) 112 (111) dX12_factOf_1 (by decide) (by decide) (by decide) (by decide) (fun _ => ?_) (fun q21 => ?_)
  · refine z_iconst hC (0 : Int32) dX12_factOf_112 (by decide) ?_
    exact z_iret hC (fun h => h) dX12_factOf_113
  refine z_tsw hC (120 : Int32) 130 (129) dX12_factOf_1 (by decide) (by decide) (by decide) (by decide) (fun _ => ?_) (fun q22 => ?_)
  · refine z_iconst hC (-1 : Int32) dX12_factOf_130 (by decide) ?_
    exact z_iret hC (fun h => h) dX12_factOf_131
  refine z_tsw hC (121 : Int32) 122 (121) dX12_factOf_1 (by decide) (by decide) (by decide) (by decide) (fun _ => ?_) (fun q23 => ?_)
  · refine z_iconst hC (5 : Int32) dX12_factOf_122 (by decide) ?_
    exact z_iret hC (fun h => h) dX12_factOf_123
  refine z_tsw hC (122 : Int32) 127 (126) dX12_factOf_1 (by decide) (by decide) (by decide) (by decide) (fun _ => ?_) (fun q24 => ?_)
  · refine z_bipush hC (7 : Int32) dX12_factOf_127 (by decide) ?_
    exact z_iret hC (fun h => h) dX12_factOf_129
  refine z_tswd hC 130 dX12_factOf_1 (by decide) (by have eq1 := sw_ne q1 (z := 99) (by decide); have eq2 := sw_ne q2 (z := 100) (by decide); have eq3 := sw_ne q3 (z := 101) (by decide); have eq4 := sw_ne q4 (z := 102) (by decide); have eq5 := sw_ne q5 (z := 103) (by decide); have eq6 := sw_ne q6 (z := 104) (by decide); have eq7 := sw_ne q7 (z := 105) (by decide); have eq8 := sw_ne q8 (z := 106) (by decide); have eq9 := sw_ne q9 (z := 107) (by decide); have eq10 := sw_ne q10 (z := 108) (by decide); have eq11 := sw_ne q11 (z := 109) (by decide); have eq12 := sw_ne q12 (z := 110) (by decide); have eq13 := sw_ne q13 (z := 111) (by decide); have eq14 := sw_ne q14 (z := 112) (by decide); have eq15 := sw_ne q15 (z := 113) (by decide); have eq16 := sw_ne q16 (z := 114) (by decide); have eq17 := sw_ne q17 (z := 115) (by decide); have eq18 := sw_ne q18 (z := 116) (by decide); have eq19 := sw_ne q19 (z := 117) (by decide); have eq20 := sw_ne q20 (z := 118) (by decide); have eq21 := sw_ne q21 (z := 119) (by decide); have eq22 := sw_ne q22 (z := 120) (by decide); have eq23 := sw_ne q23 (z := 121) (by decide); have eq24 := sw_ne q24 (z := 122) (by decide); omega) ?_
  refine z_iconst hC (-1 : Int32) dX12_factOf_130 (by decide) ?_
  exact z_iret hC (fun h => h) dX12_factOf_131

