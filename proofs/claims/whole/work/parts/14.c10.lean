theorem dX11_questions_0 : decode cX11_questions 0 = .ok (.iload_n 1, 1) := by decide +kernel
theorem dX11_questions_1 : decode cX11_questions 1 = .ok (.invokestatic 294, 3) := by decide +kernel
theorem dX11_questions_4 : decode cX11_questions 4 = .ok (.ifCond .eq 20, 3) := by decide +kernel
theorem dX11_questions_7 : decode cX11_questions 7 = .ok (.iload_n 2, 1) := by decide +kernel
theorem dX11_questions_8 : decode cX11_questions 8 = .ok (.invokestatic 294, 3) := by decide +kernel
theorem dX11_questions_11 : decode cX11_questions 11 = .ok (.ifCond .eq 13, 3) := by decide +kernel
theorem dX11_questions_14 : decode cX11_questions 14 = .ok (.iload_n 3, 1) := by decide +kernel
theorem dX11_questions_15 : decode cX11_questions 15 = .ok (.ifCond .lt 9, 3) := by decide +kernel
theorem dX11_questions_18 : decode cX11_questions 18 = .ok (.iload_n 3, 1) := by decide +kernel
theorem dX11_questions_19 : decode cX11_questions 19 = .ok (.bipush 10, 2) := by decide +kernel
theorem dX11_questions_21 : decode cX11_questions 21 = .ok (.if_icmp .le 5, 3) := by decide +kernel
theorem dX11_questions_24 : decode cX11_questions 24 = .ok (.iconst (-1), 1) := by decide +kernel
theorem dX11_questions_25 : decode cX11_questions 25 = .ok (.ireturn, 1) := by decide +kernel
theorem dX11_questions_26 : decode cX11_questions 26 = .ok (.aload_n 0, 1) := by decide +kernel
theorem dX11_questions_27 : decode cX11_questions 27 = .ok (.iload_n 1, 1) := by decide +kernel
theorem dX11_questions_28 : decode cX11_questions 28 = .ok (.iload_n 2, 1) := by decide +kernel
theorem dX11_questions_29 : decode cX11_questions 29 = .ok (.invokevirtual 297, 3) := by decide +kernel
theorem dX11_questions_32 : decode cX11_questions 32 = .ok (.iload_n 1, 1) := by decide +kernel
theorem dX11_questions_33 : decode cX11_questions 33 = .ok (.istore 4, 2) := by decide +kernel
theorem dX11_questions_35 : decode cX11_questions 35 = .ok (.iconst 0, 1) := by decide +kernel
theorem dX11_questions_36 : decode cX11_questions 36 = .ok (.istore 5, 2) := by decide +kernel
theorem dX11_questions_38 : decode cX11_questions 38 = .ok (.iload 5, 2) := by decide +kernel
theorem dX11_questions_40 : decode cX11_questions 40 = .ok (.iload_n 3, 1) := by decide +kernel
theorem dX11_questions_41 : decode cX11_questions 41 = .ok (.if_icmp .ge 74, 3) := by decide +kernel
theorem dX11_questions_44 : decode cX11_questions 44 = .ok (.aload_n 0, 1) := by decide +kernel
theorem dX11_questions_45 : decode cX11_questions 45 = .ok (.iload 4, 2) := by decide +kernel
theorem dX11_questions_47 : decode cX11_questions 47 = .ok (.invokevirtual 300, 3) := by decide +kernel
theorem dX11_questions_50 : decode cX11_questions 50 = .ok (.istore 6, 2) := by decide +kernel
theorem dX11_questions_52 : decode cX11_questions 52 = .ok (.iload 6, 2) := by decide +kernel
theorem dX11_questions_54 : decode cX11_questions 54 = .ok (.ifCond .ge 6, 3) := by decide +kernel
theorem dX11_questions_57 : decode cX11_questions 57 = .ok (.goto 58, 3) := by decide +kernel
theorem dX11_questions_60 : decode cX11_questions 60 = .ok (.aload_n 0, 1) := by decide +kernel
theorem dX11_questions_61 : decode cX11_questions 61 = .ok (.getfield 49, 3) := by decide +kernel
theorem dX11_questions_64 : decode cX11_questions 64 = .ok (.iload 6, 2) := by decide +kernel
theorem dX11_questions_66 : decode cX11_questions 66 = .ok (.invokestatic 303, 3) := by decide +kernel
theorem dX11_questions_69 : decode cX11_questions 69 = .ok (.istore 7, 2) := by decide +kernel
theorem dX11_questions_71 : decode cX11_questions 71 = .ok (.aload_n 0, 1) := by decide +kernel
theorem dX11_questions_72 : decode cX11_questions 72 = .ok (.getfield 49, 3) := by decide +kernel
theorem dX11_questions_75 : decode cX11_questions 75 = .ok (.iload 6, 2) := by decide +kernel
theorem dX11_questions_77 : decode cX11_questions 77 = .ok (.iload 7, 2) := by decide +kernel
theorem dX11_questions_79 : decode cX11_questions 79 = .ok (.aload_n 0, 1) := by decide +kernel
theorem dX11_questions_80 : decode cX11_questions 80 = .ok (.getfield 49, 3) := by decide +kernel
theorem dX11_questions_83 : decode cX11_questions 83 = .ok (.invokestatic 173, 3) := by decide +kernel
theorem dX11_questions_86 : decode cX11_questions 86 = .ok (.iload 7, 2) := by decide +kernel
theorem dX11_questions_88 : decode cX11_questions 88 = .ok (.isub, 1) := by decide +kernel
theorem dX11_questions_89 : decode cX11_questions 89 = .ok (.if_icmp .le 7, 3) := by decide +kernel
theorem dX11_questions_92 : decode cX11_questions 92 = .ok (.iconst 1, 1) := by decide +kernel
theorem dX11_questions_93 : decode cX11_questions 93 = .ok (.goto 4, 3) := by decide +kernel
theorem dX11_questions_96 : decode cX11_questions 96 = .ok (.iconst 0, 1) := by decide +kernel
theorem dX11_questions_97 : decode cX11_questions 97 = .ok (.invokestatic 306, 3) := by decide +kernel
theorem dX11_questions_100 : decode cX11_questions 100 = .ok (.iload 4, 2) := by decide +kernel
theorem dX11_questions_102 : decode cX11_questions 102 = .ok (.iconst 1, 1) := by decide +kernel
theorem dX11_questions_103 : decode cX11_questions 103 = .ok (.iload 6, 2) := by decide +kernel
theorem dX11_questions_105 : decode cX11_questions 105 = .ok (.ishl, 1) := by decide +kernel
theorem dX11_questions_106 : decode cX11_questions 106 = .ok (.ior, 1) := by decide +kernel
theorem dX11_questions_107 : decode cX11_questions 107 = .ok (.istore 4, 2) := by decide +kernel
theorem dX11_questions_109 : decode cX11_questions 109 = .ok (.iinc 5 1, 3) := by decide +kernel
theorem dX11_questions_112 : decode cX11_questions 112 = .ok (.goto (-74), 3) := by decide +kernel
theorem dX11_questions_115 : decode cX11_questions 115 = .ok (.aload_n 0, 1) := by decide +kernel
theorem dX11_questions_116 : decode cX11_questions 116 = .ok (.getfield 49, 3) := by decide +kernel
theorem dX11_questions_119 : decode cX11_questions 119 = .ok (.invokestatic 173, 3) := by decide +kernel
theorem dX11_questions_122 : decode cX11_questions 122 = .ok (.ireturn, 1) := by decide +kernel
def FX11_questions (hp : HP) (p0 : Nat) (p1 : Int32) (p2 : Int32) (p3 : Int32) : Option (Int32 × HP) := (FX11_areFacts p1).bind (fun v1 => if v1 = 0 then some ((-1 : Int32), hp) else (FX11_areFacts p2).bind (fun v2 => if v2 = 0 then some ((-1 : Int32), hp) else if p3 < 0 then some ((-1 : Int32), hp) else if p3 ≤ (10 : Int32) then (rc [11] hp p0 (FX11_gatherAsked hp p0 p1 p2)).bind (fun w3 => (lp (fun (s4 : Int32 × Int32 × HP) => if p3 ≤ s4.2.1 then some (Sum.inl s4.2.2) else (rc [11] s4.2.2 p0 (FX11_nextQuestion s4.2.2 p0 s4.1)).bind (fun v8 => if 0 ≤ v8 then (gR [11] 7 s4.2.2 p0).bind (fun v9 => (FX7_sizeWith s4.2.2 v9 v8).bind (fun v10 => (gR [11] 7 s4.2.2 p0).bind (fun v11 => (gR [11] 7 s4.2.2 p0).bind (fun v12 => (FX7_size s4.2.2 v12).bind (fun v13 => jn (A := Int32) (fun a14 => (FX7_narrow s4.2.2 v11 v8 a14).bind (fun w16 => vl (s4.1 ||| ((1 : Int32) <<< (v8 &&& 31))) (fun x17 => vl (s4.2.1 + (1 : Int32)) (fun x18 => some (Sum.inr (x17, x18, w16)))))) (fun J15 => if v10 ≤ (v13 - v10) then J15 (0 : Int32) else J15 (1 : Int32))))))) else some (Sum.inl s4.2.2))) FU (p1, (0 : Int32), w3)).bind (fun (y5 : HP) => (gR [11] 7 y5 p0).bind (fun v6 => (FX7_size y5 v6).bind (fun v7 => some (v7, y5))))) else some ((-1 : Int32), hp)))
set_option maxHeartbeats 4000000 in
set_option maxRecDepth 100000 in
theorem ctX11_questions (l : Launch) (D : va_G) (tg : Nat → ClassId) (bs : Nat) (sa : Nat → Nat) (hp : HP) (p0 : Nat) (p1 : Int32) (p2 : Int32) (p3 : Int32) : Ct l D tg bs sa yX11_questions cX11_questions 8 (some .int) 3 [.ref p0, .int p1, .int p2, .int p3] hp (FX11_questions hp p0 p1 p2 p3) (fun r => some (.int r.1)) (fun r => r.2) := by
  refine Ct.of (by decide) (Nat.le_of_ble_eq_true rfl) ?_
  intro V Q hVl hVd hVt hVb hVs hC
  subst hVl; subst hVd; subst hVt; subst hVb; subst hVs
  unfold FX11_questions
  show Zs V Q (0, 0) 8 _ _ hp [(0, .ref p0), (1, .int p1), (2, .int p2), (3, .int p3)] 0 []
  refine z_iload_n hC 1 dX11_questions_0 rfl rfl ?_
  refine z_callSi hC lmRX11_294 (ctX11_areFacts (vLa V) (vDa V) (vTg V) (vBs V) (vSa V) hp p1) (by decide) hn0 dX11_questions_1 rfl rfl (Nat.le_of_ble_eq_true rfl) (fun v1 => ?_)
  refine z_if_eq hC 24 dX11_questions_4 (by decide) (fun _ => ?_) (fun _ => ?_)
  · refine z_iconst hC (-1 : Int32) dX11_questions_24 (by decide) ?_
    exact z_iret hC (fun h => h) dX11_questions_25
  · refine z_iload_n hC 2 dX11_questions_7 rfl rfl ?_
    refine z_callSi hC lmRX11_294 (ctX11_areFacts (vLa V) (vDa V) (vTg V) (vBs V) (vSa V) hp p2) (by decide) hn0 dX11_questions_8 rfl rfl (Nat.le_of_ble_eq_true rfl) (fun v2 => ?_)
    refine z_if_eq hC 24 dX11_questions_11 (by decide) (fun _ => ?_) (fun _ => ?_)
    · refine z_iconst hC (-1 : Int32) dX11_questions_24 (by decide) ?_
      exact z_iret hC (fun h => h) dX11_questions_25
    · refine z_iload_n hC 3 dX11_questions_14 rfl rfl ?_
      refine z_if_lt hC 24 dX11_questions_15 (by decide) (fun _ => ?_) (fun _ => ?_)
      · refine z_iconst hC (-1 : Int32) dX11_questions_24 (by decide) ?_
        exact z_iret hC (fun h => h) dX11_questions_25
      · refine z_iload_n hC 3 dX11_questions_18 rfl rfl ?_
        refine z_bipush hC (10 : Int32) dX11_questions_19 (by decide) ?_
        refine z_icmp_le hC 26 dX11_questions_21 (by decide) (fun _ => ?_) (fun _ => ?_)
        · refine z_aload_n hC 0 dX11_questions_26 rfl rfl ?_
          refine z_iload_n hC 1 dX11_questions_27 rfl rfl ?_
          refine z_iload_n hC 2 dX11_questions_28 rfl rfl ?_
          refine z_callVv hC (ci := 11) rfl lmRX11_297 (ctX11_gatherAsked (vLa V) (vDa V) (vTg V) (vBs V) (vSa V) hp p0 p1 p2) (by decide) hn0 dX11_questions_29 rfl rfl (Nat.le_of_ble_eq_true rfl) (fun w3 => ?_)
          refine z_iload_n hC 1 dX11_questions_32 rfl rfl ?_
          refine z_istore hC [(0, .ref p0), (1, .int p1), (2, .int p2), (3, .int p3), (4, .int p1)] [1, 2, 3, 4, 0] dX11_questions_33 (by decide) rfl ?_
          refine z_iconst hC (0 : Int32) dX11_questions_35 (by decide) ?_
          refine z_istore hC [(0, .ref p0), (1, .int p1), (2, .int p2), (3, .int p3), (4, .int p1), (5, .int (0 : Int32))] [1, 2, 3, 4, 5, 0] dX11_questions_36 (by decide) rfl ?_
          refine z_weak [(0, .ref p0), (3, .int p3), (4, .int p1), (5, .int (0 : Int32))] [0, 3, 4, 5] rfl ?_
          refine z_lp (S := Int32 × Int32 × HP) (Y := HP) (fun s4 => s4.2.2) (fun s4 => [(0, .ref p0), (3, .int p3), (4, .int s4.1), (5, .int s4.2.1)]) (fun y5 => y5) (fun y5 => [(0, .ref p0)]) 115 [] (fun y5 => ?_) (fun s4 => ?_) rfl rfl
          · refine z_aload_n hC 0 dX11_questions_115 rfl rfl ?_
            refine z_getR hC lgRX11_49 dX11_questions_116 (fun v6 => ?_)
            refine z_callSi hC lmRX11_173 (ctX7_size (vLa V) (vDa V) (vTg V) (vBs V) (vSa V) y5 v6) (by decide) hn0 dX11_questions_119 rfl rfl (Nat.le_of_ble_eq_true rfl) (fun v7 => ?_)
            exact z_iret hC (fun h => h) dX11_questions_122
          · refine z_iload hC 3 dX11_questions_38 rfl ?_
            refine z_iload_n hC 1 dX11_questions_40 rfl rfl ?_
            refine z_icmp_ge hC 115 dX11_questions_41 (by decide) (fun _ => ?_) (fun _ => ?_)
            · refine z_weak [(0, .ref p0)] [0] rfl ?_
              exact z_leaf (fun h => h)
            · refine z_aload_n hC 0 dX11_questions_44 rfl rfl ?_
              refine z_iload hC 2 dX11_questions_45 rfl ?_
              refine z_callVi hC (ci := 11) rfl lmRX11_300 (ctX11_nextQuestion (vLa V) (vDa V) (vTg V) (vBs V) (vSa V) s4.2.2 p0 s4.1) (by decide) hn0 dX11_questions_47 rfl rfl (Nat.le_of_ble_eq_true rfl) (fun v8 => ?_)
              refine z_istore hC [(0, .ref p0), (3, .int p3), (4, .int s4.1), (5, .int s4.2.1), (6, .int v8)] [1, 2, 3, 4, 0] dX11_questions_50 (by decide) rfl ?_
              refine z_iload hC 4 dX11_questions_52 rfl ?_
              refine z_if_ge hC 60 dX11_questions_54 (by decide) (fun _ => ?_) (fun _ => ?_)
              · refine z_aload_n hC 0 dX11_questions_60 rfl rfl ?_
                refine z_getR hC lgRX11_49 dX11_questions_61 (fun v9 => ?_)
                refine z_iload hC 4 dX11_questions_64 rfl ?_
                refine z_callSi hC lmRX11_303 (ctX7_sizeWith (vLa V) (vDa V) (vTg V) (vBs V) (vSa V) s4.2.2 v9 v8) (by decide) hn0 dX11_questions_66 rfl rfl (Nat.le_of_ble_eq_true rfl) (fun v10 => ?_)
                refine z_istore hC [(0, .ref p0), (3, .int p3), (4, .int s4.1), (5, .int s4.2.1), (6, .int v8), (7, .int v10)] [1, 2, 3, 4, 5, 0] dX11_questions_69 (by decide) rfl ?_
                refine z_aload_n hC 0 dX11_questions_71 rfl rfl ?_
                refine z_getR hC lgRX11_49 dX11_questions_72 (fun v11 => ?_)
                refine z_iload hC 4 dX11_questions_75 rfl ?_
                refine z_iload hC 5 dX11_questions_77 rfl ?_
                refine z_aload_n hC 0 dX11_questions_79 rfl rfl ?_
                refine z_getR hC lgRX11_49 dX11_questions_80 (fun v12 => ?_)
                refine z_callSi hC lmRX11_173 (ctX7_size (vLa V) (vDa V) (vTg V) (vBs V) (vSa V) s4.2.2 v12) (by decide) hn0 dX11_questions_83 rfl rfl (Nat.le_of_ble_eq_true rfl) (fun v13 => ?_)
                refine z_iload hC 5 dX11_questions_86 rfl ?_
                refine z_isub hC dX11_questions_88 ?_
                refine z_jn (A := Int32) (fun a14 => s4.2.2) (fun a14 => [(0, .ref p0), (3, .int p3), (4, .int s4.1), (5, .int s4.2.1), (6, .int v8)]) 97 (fun a14 => [.int a14, .int v8, .ref v11]) (fun a14 => ?_) (fun J15 hJ15 => ?_)
                · refine z_callSv hC lmRX11_306 (ctX7_narrow (vLa V) (vDa V) (vTg V) (vBs V) (vSa V) s4.2.2 v11 v8 a14) (by decide) hn0 dX11_questions_97 rfl rfl (Nat.le_of_ble_eq_true rfl) (fun w16 => ?_)
                  refine z_iload hC 2 dX11_questions_100 rfl ?_
                  refine z_iconst hC (1 : Int32) dX11_questions_102 (by decide) ?_
                  refine z_iload hC 4 dX11_questions_103 rfl ?_
                  refine z_ishl hC dX11_questions_105 ?_
                  refine z_ior hC dX11_questions_106 ?_
                  refine z_vli (fun x17 => ?_)
                  refine z_istore hC [(0, .ref p0), (3, .int p3), (4, .int x17), (5, .int s4.2.1), (6, .int v8)] [1, 2, 0, 3, 4] dX11_questions_107 (by decide) rfl ?_
                  refine z_iincv hC (1 : Int32) 3 (fun x18 => [(0, .ref p0), (3, .int p3), (4, .int x17), (5, .int x18), (6, .int v8)]) [1, 2, 3, 0, 4] dX11_questions_109 rfl (by decide) (by decide) (fun _ => rfl) (fun x18 => ?_)
                  refine z_goto hC 38 dX11_questions_112 (by decide) ?_
                  refine z_weak [(0, .ref p0), (3, .int p3), (4, .int x17), (5, .int x18)] [0, 1, 2, 3] rfl ?_
                  exact z_leaf (fun h => h)
                · refine z_icmp_le hC 96 dX11_questions_89 (by decide) (fun _ => ?_) (fun _ => ?_)
                  · refine z_iconst hC (0 : Int32) dX11_questions_96 (by decide) ?_
                    refine z_weak [(0, .ref p0), (3, .int p3), (4, .int s4.1), (5, .int s4.2.1), (6, .int v8)] [0, 1, 2, 3, 4] rfl ?_
                    exact hJ15 (0 : Int32)
                  · refine z_iconst hC (1 : Int32) dX11_questions_92 (by decide) ?_
                    refine z_goto hC 97 dX11_questions_93 (by decide) ?_
                    refine z_weak [(0, .ref p0), (3, .int p3), (4, .int s4.1), (5, .int s4.2.1), (6, .int v8)] [0, 1, 2, 3, 4] rfl ?_
                    exact hJ15 (1 : Int32)
              · refine z_goto hC 115 dX11_questions_57 (by decide) ?_
                refine z_weak [(0, .ref p0)] [0] rfl ?_
                exact z_leaf (fun h => h)
        · refine z_iconst hC (-1 : Int32) dX11_questions_24 (by decide) ?_
          exact z_iret hC (fun h => h) dX11_questions_25

theorem dX11_copy_0 : decode cX11_copy 0 = .ok (.aload_n 0, 1) := by decide +kernel
theorem dX11_copy_1 : decode cX11_copy 1 = .ok (.getfield 42, 3) := by decide +kernel
theorem dX11_copy_4 : decode cX11_copy 4 = .ok (.iconst 0, 1) := by decide +kernel
theorem dX11_copy_5 : decode cX11_copy 5 = .ok (.aload_n 0, 1) := by decide +kernel
theorem dX11_copy_6 : decode cX11_copy 6 = .ok (.getfield 46, 3) := by decide +kernel
theorem dX11_copy_9 : decode cX11_copy 9 = .ok (.iconst 0, 1) := by decide +kernel
theorem dX11_copy_10 : decode cX11_copy 10 = .ok (.bipush 16, 2) := by decide +kernel
theorem dX11_copy_12 : decode cX11_copy 12 = .ok (.invokestatic 310, 3) := by decide +kernel
theorem dX11_copy_15 : decode cX11_copy 15 = .ok (.aload_n 0, 1) := by decide +kernel
theorem dX11_copy_16 : decode cX11_copy 16 = .ok (.getfield 42, 3) := by decide +kernel
theorem dX11_copy_19 : decode cX11_copy 19 = .ok (.invokestatic 173, 3) := by decide +kernel
theorem dX11_copy_22 : decode cX11_copy 22 = .ok (.ireturn, 1) := by decide +kernel
def FX11_copy (hp : HP) (p0 : Nat) : Option (Int32 × HP) := (gR [11] 5 hp p0).bind (fun v1 => (gR [11] 6 hp p0).bind (fun v2 => (cpL hp v1 (0 : Int32) v2 (0 : Int32) (16 : Int32)).bind (fun hp3 => (gR [11] 5 hp3 p0).bind (fun v4 => (FX7_size hp3 v4).bind (fun v5 => some (v5, hp3))))))
set_option maxHeartbeats 4000000 in
set_option maxRecDepth 100000 in
theorem ctX11_copy (l : Launch) (D : va_G) (tg : Nat → ClassId) (bs : Nat) (sa : Nat → Nat) (hp : HP) (p0 : Nat) : Ct l D tg bs sa yX11_copy cX11_copy 1 (some .int) 2 [.ref p0] hp (FX11_copy hp p0) (fun r => some (.int r.1)) (fun r => r.2) := by
  refine Ct.of (by decide) (Nat.le_of_ble_eq_true rfl) ?_
  intro V Q hVl hVd hVt hVb hVs hC
  subst hVl; subst hVd; subst hVt; subst hVb; subst hVs
  unfold FX11_copy
  show Zs V Q (0, 0) 1 _ _ hp [(0, .ref p0)] 0 []
  refine z_aload_n hC 0 dX11_copy_0 rfl rfl ?_
  refine z_getR hC lgRX11_42 dX11_copy_1 (fun v1 => ?_)
  refine z_iconst hC (0 : Int32) dX11_copy_4 (by decide) ?_
  refine z_aload_n hC 0 dX11_copy_5 rfl rfl ?_
  refine z_getR hC lgRX11_46 dX11_copy_6 (fun v2 => ?_)
  refine z_iconst hC (0 : Int32) dX11_copy_9 (by decide) ?_
  refine z_bipush hC (16 : Int32) dX11_copy_10 (by decide) ?_
  refine z_cpL hC laRX11_310 dX11_copy_12 (fun hp3 => ?_)
  refine z_aload_n hC 0 dX11_copy_15 rfl rfl ?_
  refine z_getR hC lgRX11_42 dX11_copy_16 (fun v4 => ?_)
  refine z_callSi hC lmRX11_173 (ctX7_size (vLa V) (vDa V) (vTg V) (vBs V) (vSa V) hp3 v4) (by decide) hn0 dX11_copy_19 rfl rfl (Nat.le_of_ble_eq_true rfl) (fun v5 => ?_)
  exact z_iret hC (fun h => h) dX11_copy_22

theorem dX11_compare_0 : decode cX11_compare 0 = .ok (.iload_n 1, 1) := by decide +kernel
theorem dX11_compare_1 : decode cX11_compare 1 = .ok (.tableswitch 79 0 2 #[27, 47, 67], 27) := by decide +kernel
theorem dX11_compare_28 : decode cX11_compare 28 = .ok (.aload_n 0, 1) := by decide +kernel
theorem dX11_compare_29 : decode cX11_compare 29 = .ok (.getfield 42, 3) := by decide +kernel
theorem dX11_compare_32 : decode cX11_compare 32 = .ok (.invokestatic 173, 3) := by decide +kernel
theorem dX11_compare_35 : decode cX11_compare 35 = .ok (.aload_n 0, 1) := by decide +kernel
theorem dX11_compare_36 : decode cX11_compare 36 = .ok (.getfield 42, 3) := by decide +kernel
theorem dX11_compare_39 : decode cX11_compare 39 = .ok (.aload_n 0, 1) := by decide +kernel
theorem dX11_compare_40 : decode cX11_compare 40 = .ok (.getfield 46, 3) := by decide +kernel
theorem dX11_compare_43 : decode cX11_compare 43 = .ok (.invokestatic 197, 3) := by decide +kernel
theorem dX11_compare_46 : decode cX11_compare 46 = .ok (.isub, 1) := by decide +kernel
theorem dX11_compare_47 : decode cX11_compare 47 = .ok (.ireturn, 1) := by decide +kernel
theorem dX11_compare_48 : decode cX11_compare 48 = .ok (.aload_n 0, 1) := by decide +kernel
theorem dX11_compare_49 : decode cX11_compare 49 = .ok (.getfield 46, 3) := by decide +kernel
theorem dX11_compare_52 : decode cX11_compare 52 = .ok (.invokestatic 173, 3) := by decide +kernel
theorem dX11_compare_55 : decode cX11_compare 55 = .ok (.aload_n 0, 1) := by decide +kernel
theorem dX11_compare_56 : decode cX11_compare 56 = .ok (.getfield 42, 3) := by decide +kernel
theorem dX11_compare_59 : decode cX11_compare 59 = .ok (.aload_n 0, 1) := by decide +kernel
theorem dX11_compare_60 : decode cX11_compare 60 = .ok (.getfield 46, 3) := by decide +kernel
theorem dX11_compare_63 : decode cX11_compare 63 = .ok (.invokestatic 197, 3) := by decide +kernel
theorem dX11_compare_66 : decode cX11_compare 66 = .ok (.isub, 1) := by decide +kernel
theorem dX11_compare_67 : decode cX11_compare 67 = .ok (.ireturn, 1) := by decide +kernel
theorem dX11_compare_68 : decode cX11_compare 68 = .ok (.aload_n 0, 1) := by decide +kernel
theorem dX11_compare_69 : decode cX11_compare 69 = .ok (.getfield 42, 3) := by decide +kernel
theorem dX11_compare_72 : decode cX11_compare 72 = .ok (.aload_n 0, 1) := by decide +kernel
theorem dX11_compare_73 : decode cX11_compare 73 = .ok (.getfield 46, 3) := by decide +kernel
theorem dX11_compare_76 : decode cX11_compare 76 = .ok (.invokestatic 197, 3) := by decide +kernel
theorem dX11_compare_79 : decode cX11_compare 79 = .ok (.ireturn, 1) := by decide +kernel
theorem dX11_compare_80 : decode cX11_compare 80 = .ok (.iconst (-1), 1) := by decide +kernel
theorem dX11_compare_81 : decode cX11_compare 81 = .ok (.ireturn, 1) := by decide +kernel
def FX11_compare (hp : HP) (p0 : Nat) (p1 : Int32) : Option (Int32) := if p1 = (0 : Int32) then (gR [11] 5 hp p0).bind (fun v2 => (FX7_size hp v2).bind (fun v3 => (gR [11] 5 hp p0).bind (fun v4 => (gR [11] 6 hp p0).bind (fun v5 => (FX7_sharedSize hp v4 v5).bind (fun v6 => some (v3 - v6)))))) else if p1 = (1 : Int32) then (gR [11] 6 hp p0).bind (fun v8 => (FX7_size hp v8).bind (fun v9 => (gR [11] 5 hp p0).bind (fun v10 => (gR [11] 6 hp p0).bind (fun v11 => (FX7_sharedSize hp v10 v11).bind (fun v12 => some (v9 - v12)))))) else if p1 = (2 : Int32) then (gR [11] 5 hp p0).bind (fun v14 => (gR [11] 6 hp p0).bind (fun v15 => (FX7_sharedSize hp v14 v15).bind (fun v16 => some v16))) else some (-1 : Int32)
set_option maxHeartbeats 4000000 in
set_option maxRecDepth 100000 in
theorem ctX11_compare (l : Launch) (D : va_G) (tg : Nat → ClassId) (bs : Nat) (sa : Nat → Nat) (hp : HP) (p0 : Nat) (p1 : Int32) : Ct l D tg bs sa yX11_compare cX11_compare 2 (some .int) 2 [.ref p0, .int p1] hp (FX11_compare hp p0 p1) (fun r => some (.int r)) (fun _ => hp) := by
  refine Ct.of (by decide) (Nat.le_of_ble_eq_true rfl) ?_
  intro V Q hVl hVd hVt hVb hVs hC
  subst hVl; subst hVd; subst hVt; subst hVb; subst hVs
  unfold FX11_compare
  show Zs V Q (0, 0) 2 _ _ hp [(0, .ref p0), (1, .int p1)] 0 []
  refine z_iload_n hC 1 dX11_compare_0 rfl rfl ?_
  refine z_tsw hC (0 : Int32) 28 (27) dX11_compare_1 (by decide) (by decide) (by decide) (by decide) (fun _ => ?_) (fun q1 => ?_)
  · refine z_aload_n hC 0 dX11_compare_28 rfl rfl ?_
    refine z_getR hC lgRX11_42 dX11_compare_29 (fun v2 => ?_)
    refine z_callSi hC lmRX11_173 (ctX7_size (vLa V) (vDa V) (vTg V) (vBs V) (vSa V) hp v2) (by decide) hn0 dX11_compare_32 rfl rfl (Nat.le_of_ble_eq_true rfl) (fun v3 => ?_)
    refine z_aload_n hC 0 dX11_compare_35 rfl rfl ?_
    refine z_getR hC lgRX11_42 dX11_compare_36 (fun v4 => ?_)
    refine z_aload_n hC 0 dX11_compare_39 rfl rfl ?_
    refine z_getR hC lgRX11_46 dX11_compare_40 (fun v5 => ?_)
    refine z_callSi hC lmRX11_197 (ctX7_sharedSize (vLa V) (vDa V) (vTg V) (vBs V) (vSa V) hp v4 v5) (by decide) hn0 dX11_compare_43 rfl rfl (Nat.le_of_ble_eq_true rfl) (fun v6 => ?_)
    refine z_isub hC dX11_compare_46 ?_
    exact z_iret hC (fun h => h) dX11_compare_47
  refine z_tsw hC (1 : Int32) 48 (47) dX11_compare_1 (by decide) (by decide) (by decide) (by decide) (fun _ => ?_) (fun q7 => ?_)
  · refine z_aload_n hC 0 dX11_compare_48 rfl rfl ?_
    refine z_getR hC lgRX11_46 dX11_compare_49 (fun v8 => ?_)
    refine z_callSi hC lmRX11_173 (ctX7_size (vLa V) (vDa V) (vTg V) (vBs V) (vSa V) hp v8) (by decide) hn0 dX11_compare_52 rfl rfl (Nat.le_of_ble_eq_true rfl) (fun v9 => ?_)
    refine z_aload_n hC 0 dX11_compare_55 rfl rfl ?_
    refine z_getR hC lgRX11_42 dX11_compare_56 (fun v10 => ?_)
    refine z_aload_n hC 0 dX11_compare_59 rfl rfl ?_
    refine z_getR hC lgRX11_46 dX11_compare_60 (fun v11 => ?_)
    refine z_callSi hC lmRX11_197 (ctX7_sharedSize (vLa V) (vDa V) (vTg V) (vBs V) (vSa V) hp v10 v11) (by decide) hn0 dX11_compare_63 rfl rfl (Nat.le_of_ble_eq_true rfl) (fun v12 => ?_)
    refine z_isub hC dX11_compare_66 ?_
    exact z_iret hC (fun h => h) dX11_compare_67
  refine z_tsw hC (2 : Int32) 68 (67) dX11_compare_1 (by decide) (by decide) (by decide) (by decide) (fun _ => ?_) (fun q13 => ?_)
  · refine z_aload_n hC 0 dX11_compare_68 rfl rfl ?_
    refine z_getR hC lgRX11_42 dX11_compare_69 (fun v14 => ?_)
    refine z_aload_n hC 0 dX11_compare_72 rfl rfl ?_
    refine z_getR hC lgRX11_46 dX11_compare_73 (fun v15 => ?_)
    refine z_callSi hC lmRX11_197 (ctX7_sharedSize (vLa V) (vDa V) (vTg V) (vBs V) (vSa V) hp v14 v15) (by decide) hn0 dX11_compare_76 rfl rfl (Nat.le_of_ble_eq_true rfl) (fun v16 => ?_)
    exact z_iret hC (fun h => h) dX11_compare_79
  refine z_tswd hC 80 dX11_compare_1 (by decide) (by have eq1 := sw_ne q1 (z := 0) (by decide); have eq7 := sw_ne q7 (z := 1) (by decide); have eq13 := sw_ne q13 (z := 2) (by decide); omega) ?_
  refine z_iconst hC (-1 : Int32) dX11_compare_80 (by decide) ?_
  exact z_iret hC (fun h => h) dX11_compare_81

theorem dX11_dead_0 : decode cX11_dead 0 = .ok (.iload_n 1, 1) := by decide +kernel
theorem dX11_dead_1 : decode cX11_dead 1 = .ok (.iconst 1, 1) := by decide +kernel
theorem dX11_dead_2 : decode cX11_dead 2 = .ok (.if_icmp .lt 22, 3) := by decide +kernel
theorem dX11_dead_5 : decode cX11_dead 5 = .ok (.iload_n 1, 1) := by decide +kernel
theorem dX11_dead_6 : decode cX11_dead 6 = .ok (.bipush 8, 2) := by decide +kernel
theorem dX11_dead_8 : decode cX11_dead 8 = .ok (.if_icmp .gt 16, 3) := by decide +kernel
theorem dX11_dead_11 : decode cX11_dead 11 = .ok (.iconst 2, 1) := by decide +kernel
theorem dX11_dead_12 : decode cX11_dead 12 = .ok (.iload_n 1, 1) := by decide +kernel
theorem dX11_dead_13 : decode cX11_dead 13 = .ok (.imul, 1) := by decide +kernel
theorem dX11_dead_14 : decode cX11_dead 14 = .ok (.aload_n 0, 1) := by decide +kernel
theorem dX11_dead_15 : decode cX11_dead 15 = .ok (.getfield 10, 3) := by decide +kernel
theorem dX11_dead_18 : decode cX11_dead 18 = .ok (.getfield 113, 3) := by decide +kernel
theorem dX11_dead_21 : decode cX11_dead 21 = .ok (.if_icmp .le 5, 3) := by decide +kernel
theorem dX11_dead_24 : decode cX11_dead 24 = .ok (.iconst (-1), 1) := by decide +kernel
theorem dX11_dead_25 : decode cX11_dead 25 = .ok (.ireturn, 1) := by decide +kernel
theorem dX11_dead_26 : decode cX11_dead 26 = .ok (.aload_n 0, 1) := by decide +kernel
theorem dX11_dead_27 : decode cX11_dead 27 = .ok (.getfield 10, 3) := by decide +kernel
theorem dX11_dead_30 : decode cX11_dead 30 = .ok (.iconst 0, 1) := by decide +kernel
theorem dX11_dead_31 : decode cX11_dead 31 = .ok (.putfield 113, 3) := by decide +kernel
theorem dX11_dead_34 : decode cX11_dead 34 = .ok (.iconst 0, 1) := by decide +kernel
theorem dX11_dead_35 : decode cX11_dead 35 = .ok (.istore_n 3, 1) := by decide +kernel
theorem dX11_dead_36 : decode cX11_dead 36 = .ok (.iload_n 3, 1) := by decide +kernel
theorem dX11_dead_37 : decode cX11_dead 37 = .ok (.iload_n 1, 1) := by decide +kernel
theorem dX11_dead_38 : decode cX11_dead 38 = .ok (.if_icmp .ge 60, 3) := by decide +kernel
theorem dX11_dead_41 : decode cX11_dead 41 = .ok (.aload_n 0, 1) := by decide +kernel
theorem dX11_dead_42 : decode cX11_dead 42 = .ok (.getfield 10, 3) := by decide +kernel
theorem dX11_dead_45 : decode cX11_dead 45 = .ok (.iconst 2, 1) := by decide +kernel
theorem dX11_dead_46 : decode cX11_dead 46 = .ok (.iload_n 3, 1) := by decide +kernel
theorem dX11_dead_47 : decode cX11_dead 47 = .ok (.imul, 1) := by decide +kernel
theorem dX11_dead_48 : decode cX11_dead 48 = .ok (.invokevirtual 274, 3) := by decide +kernel
theorem dX11_dead_51 : decode cX11_dead 51 = .ok (.sipush 256, 3) := by decide +kernel
theorem dX11_dead_54 : decode cX11_dead 54 = .ok (.imul, 1) := by decide +kernel
theorem dX11_dead_55 : decode cX11_dead 55 = .ok (.aload_n 0, 1) := by decide +kernel
theorem dX11_dead_56 : decode cX11_dead 56 = .ok (.getfield 10, 3) := by decide +kernel
theorem dX11_dead_59 : decode cX11_dead 59 = .ok (.iconst 2, 1) := by decide +kernel
theorem dX11_dead_60 : decode cX11_dead 60 = .ok (.iload_n 3, 1) := by decide +kernel
theorem dX11_dead_61 : decode cX11_dead 61 = .ok (.imul, 1) := by decide +kernel
theorem dX11_dead_62 : decode cX11_dead 62 = .ok (.iconst 1, 1) := by decide +kernel
theorem dX11_dead_63 : decode cX11_dead 63 = .ok (.iadd, 1) := by decide +kernel
theorem dX11_dead_64 : decode cX11_dead 64 = .ok (.invokevirtual 274, 3) := by decide +kernel
theorem dX11_dead_67 : decode cX11_dead 67 = .ok (.iadd, 1) := by decide +kernel
theorem dX11_dead_68 : decode cX11_dead 68 = .ok (.istore 4, 2) := by decide +kernel
theorem dX11_dead_70 : decode cX11_dead 70 = .ok (.iload 4, 2) := by decide +kernel
theorem dX11_dead_72 : decode cX11_dead 72 = .ok (.sipush 1024, 3) := by decide +kernel
theorem dX11_dead_75 : decode cX11_dead 75 = .ok (.if_icmp .lt 6, 3) := by decide +kernel
theorem dX11_dead_78 : decode cX11_dead 78 = .ok (.bipush (-2), 2) := by decide +kernel
theorem dX11_dead_80 : decode cX11_dead 80 = .ok (.ireturn, 1) := by decide +kernel
theorem dX11_dead_81 : decode cX11_dead 81 = .ok (.aload_n 0, 1) := by decide +kernel
theorem dX11_dead_82 : decode cX11_dead 82 = .ok (.getfield 77, 3) := by decide +kernel
theorem dX11_dead_85 : decode cX11_dead 85 = .ok (.getfield 316, 3) := by decide +kernel
theorem dX11_dead_88 : decode cX11_dead 88 = .ok (.iload_n 3, 1) := by decide +kernel
theorem dX11_dead_89 : decode cX11_dead 89 = .ok (.iload 4, 2) := by decide +kernel
theorem dX11_dead_91 : decode cX11_dead 91 = .ok (.iastore, 1) := by decide +kernel
theorem dX11_dead_92 : decode cX11_dead 92 = .ok (.iinc 3 1, 3) := by decide +kernel
theorem dX11_dead_95 : decode cX11_dead 95 = .ok (.goto (-59), 3) := by decide +kernel
theorem dX11_dead_98 : decode cX11_dead 98 = .ok (.iload_n 2, 1) := by decide +kernel
theorem dX11_dead_99 : decode cX11_dead 99 = .ok (.bipush 10, 2) := by decide +kernel
theorem dX11_dead_101 : decode cX11_dead 101 = .ok (.if_icmp .eq 15, 3) := by decide +kernel
theorem dX11_dead_104 : decode cX11_dead 104 = .ok (.iload_n 2, 1) := by decide +kernel
theorem dX11_dead_105 : decode cX11_dead 105 = .ok (.ifCond .lt 8, 3) := by decide +kernel
theorem dX11_dead_108 : decode cX11_dead 108 = .ok (.iload_n 2, 1) := by decide +kernel
theorem dX11_dead_109 : decode cX11_dead 109 = .ok (.iload_n 1, 1) := by decide +kernel
theorem dX11_dead_110 : decode cX11_dead 110 = .ok (.if_icmp .lt 6, 3) := by decide +kernel
theorem dX11_dead_113 : decode cX11_dead 113 = .ok (.bipush (-4), 2) := by decide +kernel
theorem dX11_dead_115 : decode cX11_dead 115 = .ok (.ireturn, 1) := by decide +kernel
theorem dX11_dead_116 : decode cX11_dead 116 = .ok (.aload_n 0, 1) := by decide +kernel
theorem dX11_dead_117 : decode cX11_dead 117 = .ok (.getfield 77, 3) := by decide +kernel
theorem dX11_dead_120 : decode cX11_dead 120 = .ok (.aload_n 0, 1) := by decide +kernel
theorem dX11_dead_121 : decode cX11_dead 121 = .ok (.getfield 84, 3) := by decide +kernel
theorem dX11_dead_124 : decode cX11_dead 124 = .ok (.getfield 105, 3) := by decide +kernel
theorem dX11_dead_127 : decode cX11_dead 127 = .ok (.iload_n 1, 1) := by decide +kernel
theorem dX11_dead_128 : decode cX11_dead 128 = .ok (.aload_n 0, 1) := by decide +kernel
theorem dX11_dead_129 : decode cX11_dead 129 = .ok (.getfield 38, 3) := by decide +kernel
theorem dX11_dead_132 : decode cX11_dead 132 = .ok (.invokevirtual 319, 3) := by decide +kernel
theorem dX11_dead_135 : decode cX11_dead 135 = .ok (.istore_n 3, 1) := by decide +kernel
theorem dX11_dead_136 : decode cX11_dead 136 = .ok (.iload_n 2, 1) := by decide +kernel
theorem dX11_dead_137 : decode cX11_dead 137 = .ok (.bipush 10, 2) := by decide +kernel
theorem dX11_dead_139 : decode cX11_dead 139 = .ok (.if_icmp .ne 7, 3) := by decide +kernel
theorem dX11_dead_142 : decode cX11_dead 142 = .ok (.iload_n 3, 1) := by decide +kernel
theorem dX11_dead_143 : decode cX11_dead 143 = .ok (.goto 12, 3) := by decide +kernel
theorem dX11_dead_146 : decode cX11_dead 146 = .ok (.aload_n 0, 1) := by decide +kernel
theorem dX11_dead_147 : decode cX11_dead 147 = .ok (.getfield 77, 3) := by decide +kernel
theorem dX11_dead_150 : decode cX11_dead 150 = .ok (.getfield 322, 3) := by decide +kernel
theorem dX11_dead_153 : decode cX11_dead 153 = .ok (.iload_n 2, 1) := by decide +kernel
theorem dX11_dead_154 : decode cX11_dead 154 = .ok (.iaload, 1) := by decide +kernel
theorem dX11_dead_155 : decode cX11_dead 155 = .ok (.ireturn, 1) := by decide +kernel
def FX11_dead (hp : HP) (p0 : Nat) (p1 : Int32) (p2 : Int32) : Option (Int32 × HP) := if p1 < (1 : Int32) then some ((-1 : Int32), hp) else if (8 : Int32) < p1 then some ((-1 : Int32), hp) else (gR [11] 0 hp p0).bind (fun v1 => (gI [8] 1 hp v1).bind (fun v2 => if ((2 : Int32) * p1) ≤ v2 then (gR [11] 0 hp p0).bind (fun v3 => (sI [8] 1 hp v3 (0 : Int32)).bind (fun hp4 => (lp (fun (s5 : Int32 × HP) => if p1 ≤ s5.1 then some (Sum.inl (Sum.inr s5.2)) else (gR [11] 0 s5.2 p0).bind (fun v17 => (rc [8] s5.2 v17 (FX8_at s5.2 v17 ((2 : Int32) * s5.1))).bind (fun v18 => (gR [11] 0 s5.2 p0).bind (fun v19 => (rc [8] s5.2 v19 (FX8_at s5.2 v19 (((2 : Int32) * s5.1) + (1 : Int32)))).bind (fun v20 => vl ((v18 * (256 : Int32)) + v20) (fun x21 => if x21 < (1024 : Int32) then (gR [11] 11 s5.2 p0).bind (fun v22 => (gR [9] 0 s5.2 v22).bind (fun v23 => (wrI s5.2 v23 s5.1 x21).bind (fun hp24 => vl (s5.1 + (1 : Int32)) (fun x25 => some (Sum.inr (x25, hp24)))))) else some (Sum.inl (Sum.inl ((-2 : Int32), s5.2))))))))) FU ((0 : Int32), hp4)).bind (lk (P := Int32 × HP) (fun r => r) (fun (y6 : HP) => jn (A := Unit) (fun a7 => (gR [11] 11 y6 p0).bind (fun v9 => (gR [11] 12 y6 p0).bind (fun v10 => (gI [6] 0 y6 v10).bind (fun v11 => (gR [11] 4 y6 p0).bind (fun v12 => (rc [9] y6 v9 (FX9_find y6 v9 v11 p1 v12)).bind (fun w13 => if p2 = (10 : Int32) then some (w13.1, w13.2) else (gR [11] 11 w13.2 p0).bind (fun v14 => (gR [9] 1 w13.2 v14).bind (fun v15 => (rdN 0 w13.2 v15 p2).bind (fun v16 => some (v16, w13.2)))))))))) (fun J8 => if p2 = (10 : Int32) then J8 () else if p2 < 0 then some ((-4 : Int32), y6) else if p2 < p1 then J8 () else some ((-4 : Int32), y6)))))) else some ((-1 : Int32), hp)))
set_option maxHeartbeats 4000000 in
set_option maxRecDepth 100000 in
theorem ctX11_dead (l : Launch) (D : va_G) (tg : Nat → ClassId) (bs : Nat) (sa : Nat → Nat) (hp : HP) (p0 : Nat) (p1 : Int32) (p2 : Int32) : Ct l D tg bs sa yX11_dead cX11_dead 5 (some .int) 5 [.ref p0, .int p1, .int p2] hp (FX11_dead hp p0 p1 p2) (fun r => some (.int r.1)) (fun r => r.2) := by
  refine Ct.of (by decide) (Nat.le_of_ble_eq_true rfl) ?_
  intro V Q hVl hVd hVt hVb hVs hC
  subst hVl; subst hVd; subst hVt; subst hVb; subst hVs
  unfold FX11_dead
  show Zs V Q (0, 0) 5 _ _ hp [(0, .ref p0), (1, .int p1), (2, .int p2)] 0 []
  refine z_iload_n hC 1 dX11_dead_0 rfl rfl ?_
  refine z_iconst hC (1 : Int32) dX11_dead_1 (by decide) ?_
  refine z_icmp_lt hC 24 dX11_dead_2 (by decide) (fun _ => ?_) (fun _ => ?_)
  · refine z_iconst hC (-1 : Int32) dX11_dead_24 (by decide) ?_
    exact z_iret hC (fun h => h) dX11_dead_25
  · refine z_iload_n hC 1 dX11_dead_5 rfl rfl ?_
    refine z_bipush hC (8 : Int32) dX11_dead_6 (by decide) ?_
    refine z_icmp_gt hC 24 dX11_dead_8 (by decide) (fun _ => ?_) (fun _ => ?_)
    · refine z_iconst hC (-1 : Int32) dX11_dead_24 (by decide) ?_
      exact z_iret hC (fun h => h) dX11_dead_25
    · refine z_iconst hC (2 : Int32) dX11_dead_11 (by decide) ?_
      refine z_iload_n hC 1 dX11_dead_12 rfl rfl ?_
      refine z_imul hC dX11_dead_13 ?_
      refine z_aload_n hC 0 dX11_dead_14 rfl rfl ?_
      refine z_getR hC lgRX11_10 dX11_dead_15 (fun v1 => ?_)
      refine z_getI hC lgRX11_113 dX11_dead_18 (fun v2 => ?_)
      refine z_icmp_le hC 26 dX11_dead_21 (by decide) (fun _ => ?_) (fun _ => ?_)
      · refine z_aload_n hC 0 dX11_dead_26 rfl rfl ?_
        refine z_getR hC lgRX11_10 dX11_dead_27 (fun v3 => ?_)
        refine z_iconst hC (0 : Int32) dX11_dead_30 (by decide) ?_
        refine z_putI hC lpRX11_113 dX11_dead_31 (fun hp4 => ?_)
        refine z_iconst hC (0 : Int32) dX11_dead_34 (by decide) ?_
        refine z_istore_n hC [(0, .ref p0), (1, .int p1), (2, .int p2), (3, .int (0 : Int32))] [1, 2, 3, 0] dX11_dead_35 rfl (by decide) rfl ?_
        refine z_lpR (S := Int32 × HP) (Y := HP) (fun s5 => s5.2) (fun s5 => [(0, .ref p0), (1, .int p1), (2, .int p2), (3, .int s5.1)]) (fun y6 => y6) (fun y6 => [(0, .ref p0), (1, .int p1), (2, .int p2)]) 98 [] (fun y6 => ?_) (fun s5 => ?_) rfl rfl
        · refine z_iload_n hC 2 dX11_dead_98 rfl rfl ?_
          refine z_bipush hC (10 : Int32) dX11_dead_99 (by decide) ?_
          refine z_jn (A := Unit) (fun a7 => y6) (fun a7 => [(0, .ref p0), (1, .int p1), (2, .int p2)]) 116 (fun a7 => []) (fun a7 => ?_) (fun J8 hJ8 => ?_)
          · refine z_aload_n hC 0 dX11_dead_116 rfl rfl ?_
            refine z_getR hC lgRX11_77 dX11_dead_117 (fun v9 => ?_)
            refine z_aload_n hC 0 dX11_dead_120 rfl rfl ?_
            refine z_getR hC lgRX11_84 dX11_dead_121 (fun v10 => ?_)
            refine z_getI hC lgRX11_105 dX11_dead_124 (fun v11 => ?_)
            refine z_iload_n hC 1 dX11_dead_127 rfl rfl ?_
            refine z_aload_n hC 0 dX11_dead_128 rfl rfl ?_
            refine z_getR hC lgRX11_38 dX11_dead_129 (fun v12 => ?_)
            refine z_callVi hC (ci := 9) rfl lmRX11_319 (ctX9_find (vLa V) (vDa V) (vTg V) (vBs V) (vSa V) y6 v9 v11 p1 v12) (by decide) hn0 dX11_dead_132 rfl rfl (Nat.le_of_ble_eq_true rfl) (fun w13 => ?_)
            refine z_istore_n hC [(0, .ref p0), (1, .int p1), (2, .int p2), (3, .int w13.1)] [1, 2, 3, 0] dX11_dead_135 rfl (by decide) rfl ?_
            refine z_iload_n hC 2 dX11_dead_136 rfl rfl ?_
            refine z_bipush hC (10 : Int32) dX11_dead_137 (by decide) ?_
            refine z_icmp_ne hC 146 dX11_dead_139 (by decide) (fun _ => ?_) (fun _ => ?_)
            · refine z_iload_n hC 3 dX11_dead_142 rfl rfl ?_
              refine z_goto hC 155 dX11_dead_143 (by decide) ?_
              exact z_iret hC (fun h => h) dX11_dead_155
            · refine z_aload_n hC 0 dX11_dead_146 rfl rfl ?_
              refine z_getR hC lgRX11_77 dX11_dead_147 (fun v14 => ?_)
              refine z_getR hC lgRX11_322 dX11_dead_150 (fun v15 => ?_)
              refine z_iload_n hC 2 dX11_dead_153 rfl rfl ?_
              refine z_iald hC dX11_dead_154 (fun v16 => ?_)
              exact z_iret hC (fun h => h) dX11_dead_155
          · refine z_icmp_eq hC 116 dX11_dead_101 (by decide) (fun _ => ?_) (fun _ => ?_)
            · exact hJ8 ()
            · refine z_iload_n hC 2 dX11_dead_104 rfl rfl ?_
              refine z_if_lt hC 113 dX11_dead_105 (by decide) (fun _ => ?_) (fun _ => ?_)
              · refine z_bipush hC (-4 : Int32) dX11_dead_113 (by decide) ?_
                exact z_iret hC (fun h => h) dX11_dead_115
              · refine z_iload_n hC 2 dX11_dead_108 rfl rfl ?_
                refine z_iload_n hC 1 dX11_dead_109 rfl rfl ?_
                refine z_icmp_lt hC 116 dX11_dead_110 (by decide) (fun _ => ?_) (fun _ => ?_)
                · exact hJ8 ()
                · refine z_bipush hC (-4 : Int32) dX11_dead_113 (by decide) ?_
                  exact z_iret hC (fun h => h) dX11_dead_115
        · refine z_iload_n hC 3 dX11_dead_36 rfl rfl ?_
          refine z_iload_n hC 1 dX11_dead_37 rfl rfl ?_
          refine z_icmp_ge hC 98 dX11_dead_38 (by decide) (fun _ => ?_) (fun _ => ?_)
          · refine z_weak [(0, .ref p0), (1, .int p1), (2, .int p2)] [0, 1, 2] rfl ?_
            exact z_leaf (fun h => h)
          · refine z_aload_n hC 0 dX11_dead_41 rfl rfl ?_
            refine z_getR hC lgRX11_10 dX11_dead_42 (fun v17 => ?_)
            refine z_iconst hC (2 : Int32) dX11_dead_45 (by decide) ?_
            refine z_iload_n hC 3 dX11_dead_46 rfl rfl ?_
            refine z_imul hC dX11_dead_47 ?_
            refine z_callVi hC (ci := 8) rfl lmRX11_274 (ctX8_at (vLa V) (vDa V) (vTg V) (vBs V) (vSa V) s5.2 v17 ((2 : Int32) * s5.1)) (by decide) hn0 dX11_dead_48 rfl rfl (Nat.le_of_ble_eq_true rfl) (fun v18 => ?_)
            refine z_sipush hC (256 : Int32) dX11_dead_51 (by decide) ?_
            refine z_imul hC dX11_dead_54 ?_
            refine z_aload_n hC 0 dX11_dead_55 rfl rfl ?_
            refine z_getR hC lgRX11_10 dX11_dead_56 (fun v19 => ?_)
            refine z_iconst hC (2 : Int32) dX11_dead_59 (by decide) ?_
            refine z_iload_n hC 3 dX11_dead_60 rfl rfl ?_
            refine z_imul hC dX11_dead_61 ?_
            refine z_iconst hC (1 : Int32) dX11_dead_62 (by decide) ?_
            refine z_iadd hC dX11_dead_63 ?_
            refine z_callVi hC (ci := 8) rfl lmRX11_274 (ctX8_at (vLa V) (vDa V) (vTg V) (vBs V) (vSa V) s5.2 v19 (((2 : Int32) * s5.1) + (1 : Int32))) (by decide) hn0 dX11_dead_64 rfl rfl (Nat.le_of_ble_eq_true rfl) (fun v20 => ?_)
            refine z_iadd hC dX11_dead_67 ?_
            refine z_vli (fun x21 => ?_)
            refine z_istore hC [(0, .ref p0), (1, .int p1), (2, .int p2), (3, .int s5.1), (4, .int x21)] [1, 2, 3, 4, 0] dX11_dead_68 (by decide) rfl ?_
            refine z_iload hC 4 dX11_dead_70 rfl ?_
            refine z_sipush hC (1024 : Int32) dX11_dead_72 (by decide) ?_
            refine z_icmp_lt hC 81 dX11_dead_75 (by decide) (fun _ => ?_) (fun _ => ?_)
            · refine z_aload_n hC 0 dX11_dead_81 rfl rfl ?_
              refine z_getR hC lgRX11_77 dX11_dead_82 (fun v22 => ?_)
              refine z_getR hC lgRX11_316 dX11_dead_85 (fun v23 => ?_)
              refine z_iload_n hC 3 dX11_dead_88 rfl rfl ?_
              refine z_iload hC 4 dX11_dead_89 rfl ?_
              refine z_iast hC dX11_dead_91 (fun hp24 => ?_)
              refine z_iincv hC (1 : Int32) 3 (fun x25 => [(0, .ref p0), (1, .int p1), (2, .int p2), (3, .int x25), (4, .int x21)]) [1, 2, 3, 0, 4] dX11_dead_92 rfl (by decide) (by decide) (fun _ => rfl) (fun x25 => ?_)
              refine z_goto hC 36 dX11_dead_95 (by decide) ?_
              refine z_weak [(0, .ref p0), (1, .int p1), (2, .int p2), (3, .int x25)] [0, 1, 2, 3] rfl ?_
              exact z_leaf (fun h => h)
            · refine z_bipush hC (-2 : Int32) dX11_dead_78 (by decide) ?_
              exact z_iret hC (fun h => h) dX11_dead_80
      · refine z_iconst hC (-1 : Int32) dX11_dead_24 (by decide) ?_
        exact z_iret hC (fun h => h) dX11_dead_25

theorem dX11_summer_0 : decode cX11_summer 0 = .ok (.iload_n 1, 1) := by decide +kernel
theorem dX11_summer_1 : decode cX11_summer 1 = .ok (.iconst 1, 1) := by decide +kernel
theorem dX11_summer_2 : decode cX11_summer 2 = .ok (.if_icmp .lt 20, 3) := by decide +kernel
theorem dX11_summer_5 : decode cX11_summer 5 = .ok (.iload_n 1, 1) := by decide +kernel
theorem dX11_summer_6 : decode cX11_summer 6 = .ok (.sipush 360, 3) := by decide +kernel
theorem dX11_summer_9 : decode cX11_summer 9 = .ok (.if_icmp .gt 13, 3) := by decide +kernel
theorem dX11_summer_12 : decode cX11_summer 12 = .ok (.aload_n 0, 1) := by decide +kernel
theorem dX11_summer_13 : decode cX11_summer 13 = .ok (.getfield 84, 3) := by decide +kernel
theorem dX11_summer_16 : decode cX11_summer 16 = .ok (.invokevirtual 323, 3) := by decide +kernel
theorem dX11_summer_19 : decode cX11_summer 19 = .ok (.ifCond .eq 5, 3) := by decide +kernel
theorem dX11_summer_22 : decode cX11_summer 22 = .ok (.iconst (-1), 1) := by decide +kernel
theorem dX11_summer_23 : decode cX11_summer 23 = .ok (.ireturn, 1) := by decide +kernel
theorem dX11_summer_24 : decode cX11_summer 24 = .ok (.aload_n 0, 1) := by decide +kernel
theorem dX11_summer_25 : decode cX11_summer 25 = .ok (.getfield 84, 3) := by decide +kernel
theorem dX11_summer_28 : decode cX11_summer 28 = .ok (.invokevirtual 326, 3) := by decide +kernel
theorem dX11_summer_31 : decode cX11_summer 31 = .ok (.istore_n 2, 1) := by decide +kernel
theorem dX11_summer_32 : decode cX11_summer 32 = .ok (.bipush 10, 2) := by decide +kernel
theorem dX11_summer_34 : decode cX11_summer 34 = .ok (.iload_n 1, 1) := by decide +kernel
theorem dX11_summer_35 : decode cX11_summer 35 = .ok (.bipush 30, 2) := by decide +kernel
theorem dX11_summer_37 : decode cX11_summer 37 = .ok (.iadd, 1) := by decide +kernel
theorem dX11_summer_38 : decode cX11_summer 38 = .ok (.iconst 1, 1) := by decide +kernel
theorem dX11_summer_39 : decode cX11_summer 39 = .ok (.isub, 1) := by decide +kernel
theorem dX11_summer_40 : decode cX11_summer 40 = .ok (.bipush 30, 2) := by decide +kernel
theorem dX11_summer_42 : decode cX11_summer 42 = .ok (.idiv, 1) := by decide +kernel
theorem dX11_summer_43 : decode cX11_summer 43 = .ok (.imul, 1) := by decide +kernel
theorem dX11_summer_44 : decode cX11_summer 44 = .ok (.istore_n 3, 1) := by decide +kernel
theorem dX11_summer_45 : decode cX11_summer 45 = .ok (.iload_n 2, 1) := by decide +kernel
theorem dX11_summer_46 : decode cX11_summer 46 = .ok (.iconst 5, 1) := by decide +kernel
theorem dX11_summer_47 : decode cX11_summer 47 = .ok (.if_icmp .lt 13, 3) := by decide +kernel
theorem dX11_summer_50 : decode cX11_summer 50 = .ok (.iload_n 2, 1) := by decide +kernel
theorem dX11_summer_51 : decode cX11_summer 51 = .ok (.bipush 7, 2) := by decide +kernel
theorem dX11_summer_53 : decode cX11_summer 53 = .ok (.if_icmp .gt 7, 3) := by decide +kernel
theorem dX11_summer_56 : decode cX11_summer 56 = .ok (.iload_n 3, 1) := by decide +kernel
theorem dX11_summer_57 : decode cX11_summer 57 = .ok (.iconst 2, 1) := by decide +kernel
theorem dX11_summer_58 : decode cX11_summer 58 = .ok (.imul, 1) := by decide +kernel
theorem dX11_summer_59 : decode cX11_summer 59 = .ok (.istore_n 3, 1) := by decide +kernel
theorem dX11_summer_60 : decode cX11_summer 60 = .ok (.aload_n 0, 1) := by decide +kernel
theorem dX11_summer_61 : decode cX11_summer 61 = .ok (.getfield 84, 3) := by decide +kernel
theorem dX11_summer_64 : decode cX11_summer 64 = .ok (.iload_n 3, 1) := by decide +kernel
theorem dX11_summer_65 : decode cX11_summer 65 = .ok (.invokevirtual 330, 3) := by decide +kernel
theorem dX11_summer_68 : decode cX11_summer 68 = .ok (.aload_n 0, 1) := by decide +kernel
theorem dX11_summer_69 : decode cX11_summer 69 = .ok (.getfield 84, 3) := by decide +kernel
theorem dX11_summer_72 : decode cX11_summer 72 = .ok (.iconst 0, 1) := by decide +kernel
theorem dX11_summer_73 : decode cX11_summer 73 = .ok (.aload_n 0, 1) := by decide +kernel
theorem dX11_summer_74 : decode cX11_summer 74 = .ok (.getfield 84, 3) := by decide +kernel
theorem dX11_summer_77 : decode cX11_summer 77 = .ok (.getfield 170, 3) := by decide +kernel
theorem dX11_summer_80 : decode cX11_summer 80 = .ok (.iload_n 1, 1) := by decide +kernel
theorem dX11_summer_81 : decode cX11_summer 81 = .ok (.isub, 1) := by decide +kernel
theorem dX11_summer_82 : decode cX11_summer 82 = .ok (.invokestatic 333, 3) := by decide +kernel
theorem dX11_summer_85 : decode cX11_summer 85 = .ok (.putfield 170, 3) := by decide +kernel
theorem dX11_summer_88 : decode cX11_summer 88 = .ok (.iload_n 3, 1) := by decide +kernel
theorem dX11_summer_89 : decode cX11_summer 89 = .ok (.ireturn, 1) := by decide +kernel
def FX11_summer (hp : HP) (p0 : Nat) (p1 : Int32) : Option (Int32 × HP) := if p1 < (1 : Int32) then some ((-1 : Int32), hp) else if (360 : Int32) < p1 then some ((-1 : Int32), hp) else (gR [11] 12 hp p0).bind (fun v1 => (rc [6] hp v1 (FX6_isOver hp v1)).bind (fun v2 => if v2 = 0 then (gR [11] 12 hp p0).bind (fun v3 => (rc [6] hp v3 (FX6_month hp v3)).bind (fun v4 => (dvI ((p1 + (30 : Int32)) - (1 : Int32)) (30 : Int32)).bind (fun v5 => vl ((10 : Int32) * v5) (fun x6 => jn (A := Int32) (fun a7 => (gR [11] 12 hp p0).bind (fun v9 => (rc [6] hp v9 (FX6_addSins hp v9 a7)).bind (fun w10 => (gR [11] 12 w10 p0).bind (fun v11 => (gR [11] 12 w10 p0).bind (fun v12 => (gI [6] 1 w10 v12).bind (fun v13 => (sI [6] 1 w10 v11 (mxI (0 : Int32) (v13 - p1))).bind (fun hp14 => some (a7, hp14)))))))) (fun J8 => if v4 < (5 : Int32) then J8 x6 else if (7 : Int32) < v4 then J8 x6 else vl (x6 * (2 : Int32)) (fun x15 => J8 x15)))))) else some ((-1 : Int32), hp)))
set_option maxHeartbeats 4000000 in
set_option maxRecDepth 100000 in
theorem ctX11_summer (l : Launch) (D : va_G) (tg : Nat → ClassId) (bs : Nat) (sa : Nat → Nat) (hp : HP) (p0 : Nat) (p1 : Int32) : Ct l D tg bs sa yX11_summer cX11_summer 4 (some .int) 2 [.ref p0, .int p1] hp (FX11_summer hp p0 p1) (fun r => some (.int r.1)) (fun r => r.2) := by
  refine Ct.of (by decide) (Nat.le_of_ble_eq_true rfl) ?_
  intro V Q hVl hVd hVt hVb hVs hC
  subst hVl; subst hVd; subst hVt; subst hVb; subst hVs
  unfold FX11_summer
  show Zs V Q (0, 0) 4 _ _ hp [(0, .ref p0), (1, .int p1)] 0 []
  refine z_iload_n hC 1 dX11_summer_0 rfl rfl ?_
  refine z_iconst hC (1 : Int32) dX11_summer_1 (by decide) ?_
  refine z_icmp_lt hC 22 dX11_summer_2 (by decide) (fun _ => ?_) (fun _ => ?_)
  · refine z_iconst hC (-1 : Int32) dX11_summer_22 (by decide) ?_
    exact z_iret hC (fun h => h) dX11_summer_23
  · refine z_iload_n hC 1 dX11_summer_5 rfl rfl ?_
    refine z_sipush hC (360 : Int32) dX11_summer_6 (by decide) ?_
    refine z_icmp_gt hC 22 dX11_summer_9 (by decide) (fun _ => ?_) (fun _ => ?_)
    · refine z_iconst hC (-1 : Int32) dX11_summer_22 (by decide) ?_
      exact z_iret hC (fun h => h) dX11_summer_23
    · refine z_aload_n hC 0 dX11_summer_12 rfl rfl ?_
      refine z_getR hC lgRX11_84 dX11_summer_13 (fun v1 => ?_)
      refine z_callVi hC (ci := 6) rfl lmRX11_323 (ctX6_isOver (vLa V) (vDa V) (vTg V) (vBs V) (vSa V) hp v1) (by decide) hn0 dX11_summer_16 rfl rfl (Nat.le_of_ble_eq_true rfl) (fun v2 => ?_)
      refine z_if_eq hC 24 dX11_summer_19 (by decide) (fun _ => ?_) (fun _ => ?_)
      · refine z_aload_n hC 0 dX11_summer_24 rfl rfl ?_
        refine z_getR hC lgRX11_84 dX11_summer_25 (fun v3 => ?_)
        refine z_callVi hC (ci := 6) rfl lmRX11_326 (ctX6_month (vLa V) (vDa V) (vTg V) (vBs V) (vSa V) hp v3) (by decide) hn0 dX11_summer_28 rfl rfl (Nat.le_of_ble_eq_true rfl) (fun v4 => ?_)
        refine z_istore_n hC [(0, .ref p0), (1, .int p1), (2, .int v4)] [1, 2, 0] dX11_summer_31 rfl (by decide) rfl ?_
        refine z_bipush hC (10 : Int32) dX11_summer_32 (by decide) ?_
        refine z_iload_n hC 1 dX11_summer_34 rfl rfl ?_
        refine z_bipush hC (30 : Int32) dX11_summer_35 (by decide) ?_
        refine z_iadd hC dX11_summer_37 ?_
        refine z_iconst hC (1 : Int32) dX11_summer_38 (by decide) ?_
        refine z_isub hC dX11_summer_39 ?_
        refine z_bipush hC (30 : Int32) dX11_summer_40 (by decide) ?_
        refine z_idiv hC dX11_summer_42 (fun v5 => ?_)
        refine z_imul hC dX11_summer_43 ?_
        refine z_vli (fun x6 => ?_)
        refine z_istore_n hC [(0, .ref p0), (1, .int p1), (2, .int v4), (3, .int x6)] [1, 2, 3, 0] dX11_summer_44 rfl (by decide) rfl ?_
        refine z_iload_n hC 2 dX11_summer_45 rfl rfl ?_
        refine z_iconst hC (5 : Int32) dX11_summer_46 (by decide) ?_
        refine z_jn (A := Int32) (fun a7 => hp) (fun a7 => [(0, .ref p0), (1, .int p1), (3, .int a7)]) 60 (fun a7 => []) (fun a7 => ?_) (fun J8 hJ8 => ?_)
        · refine z_aload_n hC 0 dX11_summer_60 rfl rfl ?_
          refine z_getR hC lgRX11_84 dX11_summer_61 (fun v9 => ?_)
          refine z_iload_n hC 2 dX11_summer_64 rfl rfl ?_
          refine z_callVv hC (ci := 6) rfl lmRX11_330 (ctX6_addSins (vLa V) (vDa V) (vTg V) (vBs V) (vSa V) hp v9 a7) (by decide) hn0 dX11_summer_65 rfl rfl (Nat.le_of_ble_eq_true rfl) (fun w10 => ?_)
          refine z_aload_n hC 0 dX11_summer_68 rfl rfl ?_
          refine z_getR hC lgRX11_84 dX11_summer_69 (fun v11 => ?_)
          refine z_iconst hC (0 : Int32) dX11_summer_72 (by decide) ?_
          refine z_aload_n hC 0 dX11_summer_73 rfl rfl ?_
          refine z_getR hC lgRX11_84 dX11_summer_74 (fun v12 => ?_)
          refine z_getI hC lgRX11_170 dX11_summer_77 (fun v13 => ?_)
          refine z_iload_n hC 1 dX11_summer_80 rfl rfl ?_
          refine z_isub hC dX11_summer_81 ?_
          refine z_mmax hC laRX11_333 hn0 (Nat.le_of_ble_eq_true rfl) dX11_summer_82 ?_
          refine z_putI hC lpRX11_170 dX11_summer_85 (fun hp14 => ?_)
          refine z_iload_n hC 2 dX11_summer_88 rfl rfl ?_
          exact z_iret hC (fun h => h) dX11_summer_89
        · refine z_icmp_lt hC 60 dX11_summer_47 (by decide) (fun _ => ?_) (fun _ => ?_)
          · refine z_weak [(0, .ref p0), (1, .int p1), (3, .int x6)] [0, 1, 3] rfl ?_
            exact hJ8 x6
          · refine z_iload_n hC 2 dX11_summer_50 rfl rfl ?_
            refine z_bipush hC (7 : Int32) dX11_summer_51 (by decide) ?_
            refine z_icmp_gt hC 60 dX11_summer_53 (by decide) (fun _ => ?_) (fun _ => ?_)
            · refine z_weak [(0, .ref p0), (1, .int p1), (3, .int x6)] [0, 1, 3] rfl ?_
              exact hJ8 x6
            · refine z_iload_n hC 3 dX11_summer_56 rfl rfl ?_
              refine z_iconst hC (2 : Int32) dX11_summer_57 (by decide) ?_
              refine z_imul hC dX11_summer_58 ?_
              refine z_vli (fun x15 => ?_)
              refine z_istore_n hC [(0, .ref p0), (1, .int p1), (2, .int v4), (3, .int x15)] [1, 2, 3, 0] dX11_summer_59 rfl (by decide) rfl ?_
              refine z_weak [(0, .ref p0), (1, .int p1), (3, .int x15)] [0, 1, 3] rfl ?_
              exact hJ8 x15
      · refine z_iconst hC (-1 : Int32) dX11_summer_22 (by decide) ?_
        exact z_iret hC (fun h => h) dX11_summer_23

theorem dX11_hindered_0 : decode cX11_hindered 0 = .ok (.iload_n 1, 1) := by decide +kernel
theorem dX11_hindered_1 : decode cX11_hindered 1 = .ok (.invokestatic 294, 3) := by decide +kernel
theorem dX11_hindered_4 : decode cX11_hindered 4 = .ok (.ifCond .eq 16, 3) := by decide +kernel
theorem dX11_hindered_7 : decode cX11_hindered 7 = .ok (.iload_n 1, 1) := by decide +kernel
theorem dX11_hindered_8 : decode cX11_hindered 8 = .ok (.ifCond .eq 12, 3) := by decide +kernel
theorem dX11_hindered_11 : decode cX11_hindered 11 = .ok (.iload_n 2, 1) := by decide +kernel
theorem dX11_hindered_12 : decode cX11_hindered 12 = .ok (.ifCond .lt 8, 3) := by decide +kernel
theorem dX11_hindered_15 : decode cX11_hindered 15 = .ok (.iload_n 2, 1) := by decide +kernel
theorem dX11_hindered_16 : decode cX11_hindered 16 = .ok (.iconst 1, 1) := by decide +kernel
theorem dX11_hindered_17 : decode cX11_hindered 17 = .ok (.if_icmp .le 5, 3) := by decide +kernel
theorem dX11_hindered_20 : decode cX11_hindered 20 = .ok (.iconst (-1), 1) := by decide +kernel
theorem dX11_hindered_21 : decode cX11_hindered 21 = .ok (.ireturn, 1) := by decide +kernel
theorem dX11_hindered_22 : decode cX11_hindered 22 = .ok (.iconst (-1), 1) := by decide +kernel
theorem dX11_hindered_23 : decode cX11_hindered 23 = .ok (.istore_n 3, 1) := by decide +kernel
theorem dX11_hindered_24 : decode cX11_hindered 24 = .ok (.iconst (-1), 1) := by decide +kernel
theorem dX11_hindered_25 : decode cX11_hindered 25 = .ok (.istore 4, 2) := by decide +kernel
theorem dX11_hindered_27 : decode cX11_hindered 27 = .ok (.iconst 0, 1) := by decide +kernel
theorem dX11_hindered_28 : decode cX11_hindered 28 = .ok (.istore 5, 2) := by decide +kernel
theorem dX11_hindered_30 : decode cX11_hindered 30 = .ok (.iload 5, 2) := by decide +kernel
theorem dX11_hindered_32 : decode cX11_hindered 32 = .ok (.bipush 10, 2) := by decide +kernel
theorem dX11_hindered_34 : decode cX11_hindered 34 = .ok (.if_icmp .ge 43, 3) := by decide +kernel
theorem dX11_hindered_37 : decode cX11_hindered 37 = .ok (.iload_n 1, 1) := by decide +kernel
theorem dX11_hindered_38 : decode cX11_hindered 38 = .ok (.iload 5, 2) := by decide +kernel
theorem dX11_hindered_40 : decode cX11_hindered 40 = .ok (.ishr, 1) := by decide +kernel
theorem dX11_hindered_41 : decode cX11_hindered 41 = .ok (.iconst 1, 1) := by decide +kernel
theorem dX11_hindered_42 : decode cX11_hindered 42 = .ok (.iand, 1) := by decide +kernel
theorem dX11_hindered_43 : decode cX11_hindered 43 = .ok (.ifCond .eq 28, 3) := by decide +kernel
theorem dX11_hindered_46 : decode cX11_hindered 46 = .ok (.aload_n 0, 1) := by decide +kernel
theorem dX11_hindered_47 : decode cX11_hindered 47 = .ok (.getfield 42, 3) := by decide +kernel
theorem dX11_hindered_50 : decode cX11_hindered 50 = .ok (.iload 5, 2) := by decide +kernel
theorem dX11_hindered_52 : decode cX11_hindered 52 = .ok (.invokestatic 336, 3) := by decide +kernel
theorem dX11_hindered_55 : decode cX11_hindered 55 = .ok (.istore 6, 2) := by decide +kernel
theorem dX11_hindered_57 : decode cX11_hindered 57 = .ok (.iload 6, 2) := by decide +kernel
theorem dX11_hindered_59 : decode cX11_hindered 59 = .ok (.iload 4, 2) := by decide +kernel
theorem dX11_hindered_61 : decode cX11_hindered 61 = .ok (.if_icmp .le 10, 3) := by decide +kernel
theorem dX11_hindered_64 : decode cX11_hindered 64 = .ok (.iload 5, 2) := by decide +kernel
theorem dX11_hindered_66 : decode cX11_hindered 66 = .ok (.istore_n 3, 1) := by decide +kernel
theorem dX11_hindered_67 : decode cX11_hindered 67 = .ok (.iload 6, 2) := by decide +kernel
theorem dX11_hindered_69 : decode cX11_hindered 69 = .ok (.istore 4, 2) := by decide +kernel
theorem dX11_hindered_71 : decode cX11_hindered 71 = .ok (.iinc 5 1, 3) := by decide +kernel
theorem dX11_hindered_74 : decode cX11_hindered 74 = .ok (.goto (-44), 3) := by decide +kernel
theorem dX11_hindered_77 : decode cX11_hindered 77 = .ok (.iload_n 2, 1) := by decide +kernel
theorem dX11_hindered_78 : decode cX11_hindered 78 = .ok (.ifCond .ne 7, 3) := by decide +kernel
theorem dX11_hindered_81 : decode cX11_hindered 81 = .ok (.iload_n 3, 1) := by decide +kernel
theorem dX11_hindered_82 : decode cX11_hindered 82 = .ok (.goto 5, 3) := by decide +kernel
theorem dX11_hindered_85 : decode cX11_hindered 85 = .ok (.iload 4, 2) := by decide +kernel
theorem dX11_hindered_87 : decode cX11_hindered 87 = .ok (.ireturn, 1) := by decide +kernel
def FX11_hindered (hp : HP) (p0 : Nat) (p1 : Int32) (p2 : Int32) : Option (Int32) := (FX11_areFacts p1).bind (fun v1 => if v1 = 0 then some (-1 : Int32) else if p1 = 0 then some (-1 : Int32) else if p2 < 0 then some (-1 : Int32) else if p2 ≤ (1 : Int32) then (lp (fun (s2 : Int32 × Int32 × Int32) => if (10 : Int32) ≤ s2.2.2 then some (Sum.inl (s2.1, s2.2.1)) else if ((p1 >>> (s2.2.2 &&& 31)) &&& (1 : Int32)) = 0 then vl (s2.2.2 + (1 : Int32)) (fun x4 => some (Sum.inr (s2.1, s2.2.1, x4))) else (gR [11] 5 hp p0).bind (fun v5 => (FX7_forbidden hp v5 s2.2.2).bind (fun v6 => if v6 ≤ s2.2.1 then vl (s2.2.2 + (1 : Int32)) (fun x7 => some (Sum.inr (s2.1, s2.2.1, x7))) else vl (s2.2.2 + (1 : Int32)) (fun x8 => some (Sum.inr (s2.2.2, v6, x8)))))) FU ((-1 : Int32), (-1 : Int32), (0 : Int32))).bind (fun (y3 : Int32 × Int32) => if p2 = 0 then some y3.1 else some y3.2) else some (-1 : Int32))
set_option maxHeartbeats 4000000 in
set_option maxRecDepth 100000 in
theorem ctX11_hindered (l : Launch) (D : va_G) (tg : Nat → ClassId) (bs : Nat) (sa : Nat → Nat) (hp : HP) (p0 : Nat) (p1 : Int32) (p2 : Int32) : Ct l D tg bs sa yX11_hindered cX11_hindered 7 (some .int) 3 [.ref p0, .int p1, .int p2] hp (FX11_hindered hp p0 p1 p2) (fun r => some (.int r)) (fun _ => hp) := by
  refine Ct.of (by decide) (Nat.le_of_ble_eq_true rfl) ?_
  intro V Q hVl hVd hVt hVb hVs hC
  subst hVl; subst hVd; subst hVt; subst hVb; subst hVs
  unfold FX11_hindered
  show Zs V Q (0, 0) 7 _ _ hp [(0, .ref p0), (1, .int p1), (2, .int p2)] 0 []
  refine z_iload_n hC 1 dX11_hindered_0 rfl rfl ?_
  refine z_callSi hC lmRX11_294 (ctX11_areFacts (vLa V) (vDa V) (vTg V) (vBs V) (vSa V) hp p1) (by decide) hn0 dX11_hindered_1 rfl rfl (Nat.le_of_ble_eq_true rfl) (fun v1 => ?_)
  refine z_if_eq hC 20 dX11_hindered_4 (by decide) (fun _ => ?_) (fun _ => ?_)
  · refine z_iconst hC (-1 : Int32) dX11_hindered_20 (by decide) ?_
    exact z_iret hC (fun h => h) dX11_hindered_21
  · refine z_iload_n hC 1 dX11_hindered_7 rfl rfl ?_
    refine z_if_eq hC 20 dX11_hindered_8 (by decide) (fun _ => ?_) (fun _ => ?_)
    · refine z_iconst hC (-1 : Int32) dX11_hindered_20 (by decide) ?_
      exact z_iret hC (fun h => h) dX11_hindered_21
    · refine z_iload_n hC 2 dX11_hindered_11 rfl rfl ?_
      refine z_if_lt hC 20 dX11_hindered_12 (by decide) (fun _ => ?_) (fun _ => ?_)
      · refine z_iconst hC (-1 : Int32) dX11_hindered_20 (by decide) ?_
        exact z_iret hC (fun h => h) dX11_hindered_21
      · refine z_iload_n hC 2 dX11_hindered_15 rfl rfl ?_
        refine z_iconst hC (1 : Int32) dX11_hindered_16 (by decide) ?_
        refine z_icmp_le hC 22 dX11_hindered_17 (by decide) (fun _ => ?_) (fun _ => ?_)
        · refine z_iconst hC (-1 : Int32) dX11_hindered_22 (by decide) ?_
          refine z_istore_n hC [(0, .ref p0), (1, .int p1), (2, .int p2), (3, .int (-1 : Int32))] [1, 2, 3, 0] dX11_hindered_23 rfl (by decide) rfl ?_
          refine z_iconst hC (-1 : Int32) dX11_hindered_24 (by decide) ?_
          refine z_istore hC [(0, .ref p0), (1, .int p1), (2, .int p2), (3, .int (-1 : Int32)), (4, .int (-1 : Int32))] [1, 2, 3, 4, 0] dX11_hindered_25 (by decide) rfl ?_
          refine z_iconst hC (0 : Int32) dX11_hindered_27 (by decide) ?_
          refine z_istore hC [(0, .ref p0), (1, .int p1), (2, .int p2), (3, .int (-1 : Int32)), (4, .int (-1 : Int32)), (5, .int (0 : Int32))] [1, 2, 3, 4, 5, 0] dX11_hindered_28 (by decide) rfl ?_
          refine z_lp (S := Int32 × Int32 × Int32) (Y := Int32 × Int32) (fun s2 => hp) (fun s2 => [(0, .ref p0), (1, .int p1), (2, .int p2), (3, .int s2.1), (4, .int s2.2.1), (5, .int s2.2.2)]) (fun y3 => hp) (fun y3 => [(2, .int p2), (3, .int y3.1), (4, .int y3.2)]) 77 [] (fun y3 => ?_) (fun s2 => ?_) rfl rfl
          · refine z_iload_n hC 0 dX11_hindered_77 rfl rfl ?_
            refine z_if_ne hC 85 dX11_hindered_78 (by decide) (fun _ => ?_) (fun _ => ?_)
            · refine z_iload_n hC 1 dX11_hindered_81 rfl rfl ?_
              refine z_goto hC 87 dX11_hindered_82 (by decide) ?_
              exact z_iret hC (fun h => h) dX11_hindered_87
            · refine z_iload hC 2 dX11_hindered_85 rfl ?_
              exact z_iret hC (fun h => h) dX11_hindered_87
          · refine z_iload hC 5 dX11_hindered_30 rfl ?_
            refine z_bipush hC (10 : Int32) dX11_hindered_32 (by decide) ?_
            refine z_icmp_ge hC 77 dX11_hindered_34 (by decide) (fun _ => ?_) (fun _ => ?_)
            · refine z_weak [(2, .int p2), (3, .int s2.1), (4, .int s2.2.1)] [2, 3, 4] rfl ?_
              exact z_leaf (fun h => h)
            · refine z_iload_n hC 1 dX11_hindered_37 rfl rfl ?_
              refine z_iload hC 5 dX11_hindered_38 rfl ?_
              refine z_ishr hC dX11_hindered_40 ?_
              refine z_iconst hC (1 : Int32) dX11_hindered_41 (by decide) ?_
              refine z_iand hC dX11_hindered_42 ?_
              refine z_if_eq hC 71 dX11_hindered_43 (by decide) (fun _ => ?_) (fun _ => ?_)
              · refine z_iincv hC (1 : Int32) 5 (fun x4 => [(0, .ref p0), (1, .int p1), (2, .int p2), (3, .int s2.1), (4, .int s2.2.1), (5, .int x4)]) [1, 2, 3, 4, 5, 0] dX11_hindered_71 rfl (by decide) (by decide) (fun _ => rfl) (fun x4 => ?_)
                refine z_goto hC 30 dX11_hindered_74 (by decide) ?_
                exact z_leaf (fun h => h)
              · refine z_aload_n hC 0 dX11_hindered_46 rfl rfl ?_
                refine z_getR hC lgRX11_42 dX11_hindered_47 (fun v5 => ?_)
                refine z_iload hC 5 dX11_hindered_50 rfl ?_
                refine z_callSi hC lmRX11_336 (ctX7_forbidden (vLa V) (vDa V) (vTg V) (vBs V) (vSa V) hp v5 s2.2.2) (by decide) hn0 dX11_hindered_52 rfl rfl (Nat.le_of_ble_eq_true rfl) (fun v6 => ?_)
                refine z_istore hC [(0, .ref p0), (1, .int p1), (2, .int p2), (3, .int s2.1), (4, .int s2.2.1), (5, .int s2.2.2), (6, .int v6)] [1, 2, 3, 4, 5, 6, 0] dX11_hindered_55 (by decide) rfl ?_
                refine z_iload hC 6 dX11_hindered_57 rfl ?_
                refine z_iload hC 4 dX11_hindered_59 rfl ?_
                refine z_icmp_le hC 71 dX11_hindered_61 (by decide) (fun _ => ?_) (fun _ => ?_)
                · refine z_iincv hC (1 : Int32) 5 (fun x7 => [(0, .ref p0), (1, .int p1), (2, .int p2), (3, .int s2.1), (4, .int s2.2.1), (5, .int x7), (6, .int v6)]) [1, 2, 3, 4, 5, 0, 6] dX11_hindered_71 rfl (by decide) (by decide) (fun _ => rfl) (fun x7 => ?_)
                  refine z_goto hC 30 dX11_hindered_74 (by decide) ?_
                  refine z_weak [(0, .ref p0), (1, .int p1), (2, .int p2), (3, .int s2.1), (4, .int s2.2.1), (5, .int x7)] [0, 1, 2, 3, 4, 5] rfl ?_
                  exact z_leaf (fun h => h)
                · refine z_iload hC 5 dX11_hindered_64 rfl ?_
                  refine z_istore_n hC [(0, .ref p0), (1, .int p1), (2, .int p2), (3, .int s2.2.2), (4, .int s2.2.1), (5, .int s2.2.2), (6, .int v6)] [1, 2, 3, 0, 4, 5, 6] dX11_hindered_66 rfl (by decide) rfl ?_
                  refine z_iload hC 6 dX11_hindered_67 rfl ?_
                  refine z_istore hC [(0, .ref p0), (1, .int p1), (2, .int p2), (3, .int s2.2.2), (4, .int v6), (5, .int s2.2.2), (6, .int v6)] [1, 2, 3, 4, 0, 5, 6] dX11_hindered_69 (by decide) rfl ?_
                  refine z_iincv hC (1 : Int32) 5 (fun x8 => [(0, .ref p0), (1, .int p1), (2, .int p2), (3, .int s2.2.2), (4, .int v6), (5, .int x8), (6, .int v6)]) [1, 2, 3, 4, 5, 0, 6] dX11_hindered_71 rfl (by decide) (by decide) (fun _ => rfl) (fun x8 => ?_)
                  refine z_goto hC 30 dX11_hindered_74 (by decide) ?_
                  refine z_weak [(0, .ref p0), (1, .int p1), (2, .int p2), (3, .int s2.2.2), (4, .int v6), (5, .int x8)] [0, 1, 2, 3, 4, 5] rfl ?_
                  exact z_leaf (fun h => h)
        · refine z_iconst hC (-1 : Int32) dX11_hindered_20 (by decide) ?_
          exact z_iret hC (fun h => h) dX11_hindered_21

theorem dX11_friends_0 : decode cX11_friends 0 = .ok (.aload_n 0, 1) := by decide +kernel
theorem dX11_friends_1 : decode cX11_friends 1 = .ok (.getfield 28, 3) := by decide +kernel
theorem dX11_friends_4 : decode cX11_friends 4 = .ok (.iload_n 1, 1) := by decide +kernel
theorem dX11_friends_5 : decode cX11_friends 5 = .ok (.invokevirtual 223, 3) := by decide +kernel
theorem dX11_friends_8 : decode cX11_friends 8 = .ok (.istore_n 3, 1) := by decide +kernel
theorem dX11_friends_9 : decode cX11_friends 9 = .ok (.iload_n 3, 1) := by decide +kernel
theorem dX11_friends_10 : decode cX11_friends 10 = .ok (.iconst 2, 1) := by decide +kernel
theorem dX11_friends_11 : decode cX11_friends 11 = .ok (.if_icmp .lt 18, 3) := by decide +kernel
theorem dX11_friends_14 : decode cX11_friends 14 = .ok (.iload_n 3, 1) := by decide +kernel
theorem dX11_friends_15 : decode cX11_friends 15 = .ok (.bipush 6, 2) := by decide +kernel
theorem dX11_friends_17 : decode cX11_friends 17 = .ok (.if_icmp .gt 12, 3) := by decide +kernel
theorem dX11_friends_20 : decode cX11_friends 20 = .ok (.iload_n 2, 1) := by decide +kernel
theorem dX11_friends_21 : decode cX11_friends 21 = .ok (.ifCond .lt 8, 3) := by decide +kernel
theorem dX11_friends_24 : decode cX11_friends 24 = .ok (.iload_n 2, 1) := by decide +kernel
theorem dX11_friends_25 : decode cX11_friends 25 = .ok (.iconst 1, 1) := by decide +kernel
theorem dX11_friends_26 : decode cX11_friends 26 = .ok (.if_icmp .le 5, 3) := by decide +kernel
theorem dX11_friends_29 : decode cX11_friends 29 = .ok (.iconst (-1), 1) := by decide +kernel
theorem dX11_friends_30 : decode cX11_friends 30 = .ok (.ireturn, 1) := by decide +kernel
theorem dX11_friends_31 : decode cX11_friends 31 = .ok (.aload_n 0, 1) := by decide +kernel
theorem dX11_friends_32 : decode cX11_friends 32 = .ok (.getfield 42, 3) := by decide +kernel
theorem dX11_friends_35 : decode cX11_friends 35 = .ok (.aload_n 0, 1) := by decide +kernel
theorem dX11_friends_36 : decode cX11_friends 36 = .ok (.getfield 28, 3) := by decide +kernel
theorem dX11_friends_39 : decode cX11_friends 39 = .ok (.iload_n 1, 1) := by decide +kernel
theorem dX11_friends_40 : decode cX11_friends 40 = .ok (.iconst 1, 1) := by decide +kernel
theorem dX11_friends_41 : decode cX11_friends 41 = .ok (.invokestatic 210, 3) := by decide +kernel
theorem dX11_friends_44 : decode cX11_friends 44 = .ok (.istore 4, 2) := by decide +kernel
theorem dX11_friends_46 : decode cX11_friends 46 = .ok (.iload 4, 2) := by decide +kernel
theorem dX11_friends_48 : decode cX11_friends 48 = .ok (.ifCond .lt 15, 3) := by decide +kernel
theorem dX11_friends_51 : decode cX11_friends 51 = .ok (.iload_n 2, 1) := by decide +kernel
theorem dX11_friends_52 : decode cX11_friends 52 = .ok (.ifCond .ne 11, 3) := by decide +kernel
theorem dX11_friends_55 : decode cX11_friends 55 = .ok (.iload 4, 2) := by decide +kernel
theorem dX11_friends_57 : decode cX11_friends 57 = .ok (.invokestatic 214, 3) := by decide +kernel
theorem dX11_friends_60 : decode cX11_friends 60 = .ok (.goto 5, 3) := by decide +kernel
theorem dX11_friends_63 : decode cX11_friends 63 = .ok (.iload 4, 2) := by decide +kernel
theorem dX11_friends_65 : decode cX11_friends 65 = .ok (.ireturn, 1) := by decide +kernel
def FX11_friends (hp : HP) (p0 : Nat) (p1 : Int32) (p2 : Int32) : Option (Int32) := (gR [11] 2 hp p0).bind (fun v1 => (rc [0] hp v1 (FX0_howMany hp v1 p1)).bind (fun v2 => if v2 < (2 : Int32) then some (-1 : Int32) else if (6 : Int32) < v2 then some (-1 : Int32) else if p2 < 0 then some (-1 : Int32) else if p2 ≤ (1 : Int32) then (gR [11] 5 hp p0).bind (fun v3 => (gR [11] 2 hp p0).bind (fun v4 => (FX11_fewestAgainst hp v3 v4 p1 (1 : Int32)).bind (fun v5 => if v5 < 0 then some v5 else if p2 = 0 then (FJ6_bitCount_0f7a4 v5).bind (fun v6 => some v6) else some v5))) else some (-1 : Int32)))
set_option maxHeartbeats 4000000 in
set_option maxRecDepth 100000 in
theorem ctX11_friends (l : Launch) (D : va_G) (tg : Nat → ClassId) (bs : Nat) (sa : Nat → Nat) (hp : HP) (p0 : Nat) (p1 : Int32) (p2 : Int32) : Ct l D tg bs sa yX11_friends cX11_friends 5 (some .int) 3 [.ref p0, .int p1, .int p2] hp (FX11_friends hp p0 p1 p2) (fun r => some (.int r)) (fun _ => hp) := by
  refine Ct.of (by decide) (Nat.le_of_ble_eq_true rfl) ?_
  intro V Q hVl hVd hVt hVb hVs hC
  subst hVl; subst hVd; subst hVt; subst hVb; subst hVs
  unfold FX11_friends
  show Zs V Q (0, 0) 5 _ _ hp [(0, .ref p0), (1, .int p1), (2, .int p2)] 0 []
  refine z_aload_n hC 0 dX11_friends_0 rfl rfl ?_
  refine z_getR hC lgRX11_28 dX11_friends_1 (fun v1 => ?_)
  refine z_iload_n hC 1 dX11_friends_4 rfl rfl ?_
  refine z_callVi hC (ci := 0) rfl lmRX11_223 (ctX0_howMany (vLa V) (vDa V) (vTg V) (vBs V) (vSa V) hp v1 p1) (by decide) hn0 dX11_friends_5 rfl rfl (Nat.le_of_ble_eq_true rfl) (fun v2 => ?_)
  refine z_istore_n hC [(0, .ref p0), (1, .int p1), (2, .int p2), (3, .int v2)] [1, 2, 3, 0] dX11_friends_8 rfl (by decide) rfl ?_
  refine z_iload_n hC 3 dX11_friends_9 rfl rfl ?_
  refine z_iconst hC (2 : Int32) dX11_friends_10 (by decide) ?_
  refine z_icmp_lt hC 29 dX11_friends_11 (by decide) (fun _ => ?_) (fun _ => ?_)
  · refine z_iconst hC (-1 : Int32) dX11_friends_29 (by decide) ?_
    exact z_iret hC (fun h => h) dX11_friends_30
  · refine z_iload_n hC 3 dX11_friends_14 rfl rfl ?_
    refine z_bipush hC (6 : Int32) dX11_friends_15 (by decide) ?_
    refine z_icmp_gt hC 29 dX11_friends_17 (by decide) (fun _ => ?_) (fun _ => ?_)
    · refine z_iconst hC (-1 : Int32) dX11_friends_29 (by decide) ?_
      exact z_iret hC (fun h => h) dX11_friends_30
    · refine z_iload_n hC 2 dX11_friends_20 rfl rfl ?_
      refine z_if_lt hC 29 dX11_friends_21 (by decide) (fun _ => ?_) (fun _ => ?_)
      · refine z_iconst hC (-1 : Int32) dX11_friends_29 (by decide) ?_
        exact z_iret hC (fun h => h) dX11_friends_30
      · refine z_iload_n hC 2 dX11_friends_24 rfl rfl ?_
        refine z_iconst hC (1 : Int32) dX11_friends_25 (by decide) ?_
        refine z_icmp_le hC 31 dX11_friends_26 (by decide) (fun _ => ?_) (fun _ => ?_)
        · refine z_aload_n hC 0 dX11_friends_31 rfl rfl ?_
          refine z_getR hC lgRX11_42 dX11_friends_32 (fun v3 => ?_)
          refine z_aload_n hC 0 dX11_friends_35 rfl rfl ?_
          refine z_getR hC lgRX11_28 dX11_friends_36 (fun v4 => ?_)
          refine z_iload_n hC 1 dX11_friends_39 rfl rfl ?_
          refine z_iconst hC (1 : Int32) dX11_friends_40 (by decide) ?_
          refine z_callSi hC lmRX11_210 (ctX11_fewestAgainst (vLa V) (vDa V) (vTg V) (vBs V) (vSa V) hp v3 v4 p1 (1 : Int32)) (by decide) hn0 dX11_friends_41 rfl rfl (Nat.le_of_ble_eq_true rfl) (fun v5 => ?_)
          refine z_istore hC [(0, .ref p0), (1, .int p1), (2, .int p2), (3, .int v2), (4, .int v5)] [1, 2, 3, 4, 0] dX11_friends_44 (by decide) rfl ?_
          refine z_iload hC 4 dX11_friends_46 rfl ?_
          refine z_if_lt hC 63 dX11_friends_48 (by decide) (fun _ => ?_) (fun _ => ?_)
          · refine z_iload hC 4 dX11_friends_63 rfl ?_
            exact z_iret hC (fun h => h) dX11_friends_65
          · refine z_iload_n hC 2 dX11_friends_51 rfl rfl ?_
            refine z_if_ne hC 63 dX11_friends_52 (by decide) (fun _ => ?_) (fun _ => ?_)
            · refine z_iload hC 4 dX11_friends_55 rfl ?_
              refine z_callSi hC lmRX11_214 (ctJ6_bitCount_0f7a4 (vLa V) (vDa V) (vTg V) (vBs V) (vSa V) hp v5) (by decide) hn0 dX11_friends_57 rfl rfl (Nat.le_of_ble_eq_true rfl) (fun v6 => ?_)
              refine z_goto hC 65 dX11_friends_60 (by decide) ?_
              exact z_iret hC (fun h => h) dX11_friends_65
            · refine z_iload hC 4 dX11_friends_63 rfl ?_
              exact z_iret hC (fun h => h) dX11_friends_65
        · refine z_iconst hC (-1 : Int32) dX11_friends_29 (by decide) ?_
          exact z_iret hC (fun h => h) dX11_friends_30

theorem dX11_keep_0 : decode cX11_keep 0 = .ok (.aload_n 0, 1) := by decide +kernel
theorem dX11_keep_1 : decode cX11_keep 1 = .ok (.getfield 88, 3) := by decide +kernel
theorem dX11_keep_4 : decode cX11_keep 4 = .ok (.aload_n 0, 1) := by decide +kernel
theorem dX11_keep_5 : decode cX11_keep 5 = .ok (.getfield 84, 3) := by decide +kernel
theorem dX11_keep_8 : decode cX11_keep 8 = .ok (.invokevirtual 339, 3) := by decide +kernel
theorem dX11_keep_11 : decode cX11_keep 11 = .ok (.aload_n 0, 1) := by decide +kernel
theorem dX11_keep_12 : decode cX11_keep 12 = .ok (.iconst 1, 1) := by decide +kernel
theorem dX11_keep_13 : decode cX11_keep 13 = .ok (.putfield 343, 3) := by decide +kernel
theorem dX11_keep_16 : decode cX11_keep 16 = .ok (.aload_n 0, 1) := by decide +kernel
theorem dX11_keep_17 : decode cX11_keep 17 = .ok (.getfield 84, 3) := by decide +kernel
theorem dX11_keep_20 : decode cX11_keep 20 = .ok (.getfield 170, 3) := by decide +kernel
theorem dX11_keep_23 : decode cX11_keep 23 = .ok (.ireturn, 1) := by decide +kernel
def FX11_keep (hp : HP) (p0 : Nat) : Option (Int32 × HP) := (gR [11] 13 hp p0).bind (fun v1 => (gR [11] 12 hp p0).bind (fun v2 => (rc [6] hp v1 (FX6_take hp v1 v2)).bind (fun w3 => (sZ [11] 14 w3 p0 (1 : Int32)).bind (fun hp4 => (gR [11] 12 hp4 p0).bind (fun v5 => (gI [6] 1 hp4 v5).bind (fun v6 => some (v6, hp4)))))))
set_option maxHeartbeats 4000000 in
set_option maxRecDepth 100000 in
theorem ctX11_keep (l : Launch) (D : va_G) (tg : Nat → ClassId) (bs : Nat) (sa : Nat → Nat) (hp : HP) (p0 : Nat) : Ct l D tg bs sa yX11_keep cX11_keep 1 (some .int) 1 [.ref p0] hp (FX11_keep hp p0) (fun r => some (.int r.1)) (fun r => r.2) := by
  refine Ct.of (by decide) (Nat.le_of_ble_eq_true rfl) ?_
  intro V Q hVl hVd hVt hVb hVs hC
  subst hVl; subst hVd; subst hVt; subst hVb; subst hVs
  unfold FX11_keep
  show Zs V Q (0, 0) 1 _ _ hp [(0, .ref p0)] 0 []
  refine z_aload_n hC 0 dX11_keep_0 rfl rfl ?_
  refine z_getR hC lgRX11_88 dX11_keep_1 (fun v1 => ?_)
  refine z_aload_n hC 0 dX11_keep_4 rfl rfl ?_
  refine z_getR hC lgRX11_84 dX11_keep_5 (fun v2 => ?_)
  refine z_callVv hC (ci := 6) rfl lmRX11_339 (ctX6_take (vLa V) (vDa V) (vTg V) (vBs V) (vSa V) hp v1 v2) (by decide) hn0 dX11_keep_8 rfl rfl (Nat.le_of_ble_eq_true rfl) (fun w3 => ?_)
  refine z_aload_n hC 0 dX11_keep_11 rfl rfl ?_
  refine z_iconst hC (1 : Int32) dX11_keep_12 (by decide) ?_
  refine z_putZ hC lpRX11_343 dX11_keep_13 (fun hp4 => ?_)
  refine z_aload_n hC 0 dX11_keep_16 rfl rfl ?_
  refine z_getR hC lgRX11_84 dX11_keep_17 (fun v5 => ?_)
  refine z_getI hC lgRX11_170 dX11_keep_20 (fun v6 => ?_)
  exact z_iret hC (fun h => h) dX11_keep_23

theorem dX11_undo_0 : decode cX11_undo 0 = .ok (.aload_n 0, 1) := by decide +kernel
theorem dX11_undo_1 : decode cX11_undo 1 = .ok (.getfield 343, 3) := by decide +kernel
theorem dX11_undo_4 : decode cX11_undo 4 = .ok (.ifCond .eq 14, 3) := by decide +kernel
theorem dX11_undo_7 : decode cX11_undo 7 = .ok (.aload_n 0, 1) := by decide +kernel
theorem dX11_undo_8 : decode cX11_undo 8 = .ok (.getfield 84, 3) := by decide +kernel
theorem dX11_undo_11 : decode cX11_undo 11 = .ok (.aload_n 0, 1) := by decide +kernel
theorem dX11_undo_12 : decode cX11_undo 12 = .ok (.getfield 88, 3) := by decide +kernel
theorem dX11_undo_15 : decode cX11_undo 15 = .ok (.invokevirtual 339, 3) := by decide +kernel
theorem dX11_undo_18 : decode cX11_undo 18 = .ok (.aload_n 0, 1) := by decide +kernel
theorem dX11_undo_19 : decode cX11_undo 19 = .ok (.getfield 343, 3) := by decide +kernel
theorem dX11_undo_22 : decode cX11_undo 22 = .ok (.ireturn, 1) := by decide +kernel
def FX11_undo (hp : HP) (p0 : Nat) : Option (Int32 × HP) := (gI [11] 14 hp p0).bind (fun v1 => jn (A := HP) (fun a2 => (gI [11] 14 a2 p0).bind (fun v4 => bz v4 (some (v4, a2)))) (fun J3 => if v1 = 0 then J3 hp else (gR [11] 12 hp p0).bind (fun v5 => (gR [11] 13 hp p0).bind (fun v6 => (rc [6] hp v5 (FX6_take hp v5 v6)).bind (fun w7 => J3 w7)))))
set_option maxHeartbeats 4000000 in
set_option maxRecDepth 100000 in
theorem ctX11_undo (l : Launch) (D : va_G) (tg : Nat → ClassId) (bs : Nat) (sa : Nat → Nat) (hp : HP) (p0 : Nat) : Ct l D tg bs sa yX11_undo cX11_undo 1 (some .boolean) 1 [.ref p0] hp (FX11_undo hp p0) (fun r => some (.int r.1)) (fun r => r.2) := by
  refine Ct.of (by decide) (Nat.le_of_ble_eq_true rfl) ?_
  intro V Q hVl hVd hVt hVb hVs hC
  subst hVl; subst hVd; subst hVt; subst hVb; subst hVs
  unfold FX11_undo
  show Zs V Q (0, 0) 1 _ _ hp [(0, .ref p0)] 0 []
  refine z_aload_n hC 0 dX11_undo_0 rfl rfl ?_
  refine z_getI hC lgRX11_343 dX11_undo_1 (fun v1 => ?_)
  refine z_jn (A := HP) (fun a2 => a2) (fun a2 => [(0, .ref p0)]) 18 (fun a2 => []) (fun a2 => ?_) (fun J3 hJ3 => ?_)
  · refine z_aload_n hC 0 dX11_undo_18 rfl rfl ?_
    refine z_getI hC lgRX11_343 dX11_undo_19 (fun v4 => ?_)
    exact z_bz (fun hv => z_zret hC hv (fun h => h) dX11_undo_22)
  · refine z_if_eq hC 18 dX11_undo_4 (by decide) (fun _ => ?_) (fun _ => ?_)
    · exact hJ3 hp
    · refine z_aload_n hC 0 dX11_undo_7 rfl rfl ?_
      refine z_getR hC lgRX11_84 dX11_undo_8 (fun v5 => ?_)
      refine z_aload_n hC 0 dX11_undo_11 rfl rfl ?_
      refine z_getR hC lgRX11_88 dX11_undo_12 (fun v6 => ?_)
      refine z_callVv hC (ci := 6) rfl lmRX11_339 (ctX6_take (vLa V) (vDa V) (vTg V) (vBs V) (vSa V) hp v5 v6) (by decide) hn0 dX11_undo_15 rfl rfl (Nat.le_of_ble_eq_true rfl) (fun w7 => ?_)
      exact hJ3 w7

theorem dX11_check_0 : decode cX11_check 0 = .ok (.iload_n 1, 1) := by decide +kernel
theorem dX11_check_1 : decode cX11_check 1 = .ok (.ifCond .lt 20, 3) := by decide +kernel
theorem dX11_check_4 : decode cX11_check 4 = .ok (.iload_n 1, 1) := by decide +kernel
theorem dX11_check_5 : decode cX11_check 5 = .ok (.bipush 10, 2) := by decide +kernel
theorem dX11_check_7 : decode cX11_check 7 = .ok (.if_icmp .gt 14, 3) := by decide +kernel
theorem dX11_check_10 : decode cX11_check 10 = .ok (.iload_n 1, 1) := by decide +kernel
theorem dX11_check_11 : decode cX11_check 11 = .ok (.aload_n 0, 1) := by decide +kernel
theorem dX11_check_12 : decode cX11_check 12 = .ok (.getfield 10, 3) := by decide +kernel
theorem dX11_check_15 : decode cX11_check 15 = .ok (.getfield 113, 3) := by decide +kernel
theorem dX11_check_18 : decode cX11_check 18 = .ok (.if_icmp .le 6, 3) := by decide +kernel
theorem dX11_check_21 : decode cX11_check 21 = .ok (.bipush (-2), 2) := by decide +kernel
theorem dX11_check_23 : decode cX11_check 23 = .ok (.ireturn, 1) := by decide +kernel
theorem dX11_check_24 : decode cX11_check 24 = .ok (.aload_n 0, 1) := by decide +kernel
theorem dX11_check_25 : decode cX11_check 25 = .ok (.getfield 10, 3) := by decide +kernel
theorem dX11_check_28 : decode cX11_check 28 = .ok (.iconst 0, 1) := by decide +kernel
theorem dX11_check_29 : decode cX11_check 29 = .ok (.putfield 113, 3) := by decide +kernel
theorem dX11_check_32 : decode cX11_check 32 = .ok (.iconst 0, 1) := by decide +kernel
theorem dX11_check_33 : decode cX11_check 33 = .ok (.istore_n 2, 1) := by decide +kernel
theorem dX11_check_34 : decode cX11_check 34 = .ok (.iload_n 2, 1) := by decide +kernel
theorem dX11_check_35 : decode cX11_check 35 = .ok (.iload_n 1, 1) := by decide +kernel
theorem dX11_check_36 : decode cX11_check 36 = .ok (.if_icmp .ge 33, 3) := by decide +kernel
theorem dX11_check_39 : decode cX11_check 39 = .ok (.aload_n 0, 1) := by decide +kernel
theorem dX11_check_40 : decode cX11_check 40 = .ok (.getfield 10, 3) := by decide +kernel
theorem dX11_check_43 : decode cX11_check 43 = .ok (.iload_n 2, 1) := by decide +kernel
theorem dX11_check_44 : decode cX11_check 44 = .ok (.invokevirtual 274, 3) := by decide +kernel
theorem dX11_check_47 : decode cX11_check 47 = .ok (.aload_n 0, 1) := by decide +kernel
theorem dX11_check_48 : decode cX11_check 48 = .ok (.getfield 84, 3) := by decide +kernel
theorem dX11_check_51 : decode cX11_check 51 = .ok (.getfield 105, 3) := by decide +kernel
theorem dX11_check_54 : decode cX11_check 54 = .ok (.iload_n 2, 1) := by decide +kernel
theorem dX11_check_55 : decode cX11_check 55 = .ok (.ishr, 1) := by decide +kernel
theorem dX11_check_56 : decode cX11_check 56 = .ok (.iconst 1, 1) := by decide +kernel
theorem dX11_check_57 : decode cX11_check 57 = .ok (.iand, 1) := by decide +kernel
theorem dX11_check_58 : decode cX11_check 58 = .ok (.if_icmp .eq 5, 3) := by decide +kernel
theorem dX11_check_61 : decode cX11_check 61 = .ok (.iload_n 2, 1) := by decide +kernel
theorem dX11_check_62 : decode cX11_check 62 = .ok (.ireturn, 1) := by decide +kernel
theorem dX11_check_63 : decode cX11_check 63 = .ok (.iinc 2 1, 3) := by decide +kernel
theorem dX11_check_66 : decode cX11_check 66 = .ok (.goto (-32), 3) := by decide +kernel
theorem dX11_check_69 : decode cX11_check 69 = .ok (.iconst (-1), 1) := by decide +kernel
theorem dX11_check_70 : decode cX11_check 70 = .ok (.ireturn, 1) := by decide +kernel
def FX11_check (hp : HP) (p0 : Nat) (p1 : Int32) : Option (Int32 × HP) := if p1 < 0 then some ((-2 : Int32), hp) else if (10 : Int32) < p1 then some ((-2 : Int32), hp) else (gR [11] 0 hp p0).bind (fun v1 => (gI [8] 1 hp v1).bind (fun v2 => if p1 ≤ v2 then (gR [11] 0 hp p0).bind (fun v3 => (sI [8] 1 hp v3 (0 : Int32)).bind (fun hp4 => (lp (fun (s5 : Int32) => if p1 ≤ s5 then some (Sum.inl (Sum.inr ())) else (gR [11] 0 hp4 p0).bind (fun v7 => (rc [8] hp4 v7 (FX8_at hp4 v7 s5)).bind (fun v8 => (gR [11] 12 hp4 p0).bind (fun v9 => (gI [6] 0 hp4 v9).bind (fun v10 => if v8 = ((v10 >>> (s5 &&& 31)) &&& (1 : Int32)) then vl (s5 + (1 : Int32)) (fun x11 => some (Sum.inr x11)) else some (Sum.inl (Sum.inl (s5, hp4)))))))) FU (0 : Int32)).bind (lk (P := Int32 × HP) (fun r => r) (fun (y6 : Unit) => some ((-1 : Int32), hp4))))) else some ((-2 : Int32), hp)))
set_option maxHeartbeats 4000000 in
set_option maxRecDepth 100000 in
theorem ctX11_check (l : Launch) (D : va_G) (tg : Nat → ClassId) (bs : Nat) (sa : Nat → Nat) (hp : HP) (p0 : Nat) (p1 : Int32) : Ct l D tg bs sa yX11_check cX11_check 3 (some .int) 1 [.ref p0, .int p1] hp (FX11_check hp p0 p1) (fun r => some (.int r.1)) (fun r => r.2) := by
  refine Ct.of (by decide) (Nat.le_of_ble_eq_true rfl) ?_
  intro V Q hVl hVd hVt hVb hVs hC
  subst hVl; subst hVd; subst hVt; subst hVb; subst hVs
  unfold FX11_check
  show Zs V Q (0, 0) 3 _ _ hp [(0, .ref p0), (1, .int p1)] 0 []
  refine z_iload_n hC 1 dX11_check_0 rfl rfl ?_
  refine z_if_lt hC 21 dX11_check_1 (by decide) (fun _ => ?_) (fun _ => ?_)
  · refine z_bipush hC (-2 : Int32) dX11_check_21 (by decide) ?_
    exact z_iret hC (fun h => h) dX11_check_23
  · refine z_iload_n hC 1 dX11_check_4 rfl rfl ?_
    refine z_bipush hC (10 : Int32) dX11_check_5 (by decide) ?_
    refine z_icmp_gt hC 21 dX11_check_7 (by decide) (fun _ => ?_) (fun _ => ?_)
    · refine z_bipush hC (-2 : Int32) dX11_check_21 (by decide) ?_
      exact z_iret hC (fun h => h) dX11_check_23
    · refine z_iload_n hC 1 dX11_check_10 rfl rfl ?_
      refine z_aload_n hC 0 dX11_check_11 rfl rfl ?_
      refine z_getR hC lgRX11_10 dX11_check_12 (fun v1 => ?_)
      refine z_getI hC lgRX11_113 dX11_check_15 (fun v2 => ?_)
      refine z_icmp_le hC 24 dX11_check_18 (by decide) (fun _ => ?_) (fun _ => ?_)
      · refine z_aload_n hC 0 dX11_check_24 rfl rfl ?_
        refine z_getR hC lgRX11_10 dX11_check_25 (fun v3 => ?_)
        refine z_iconst hC (0 : Int32) dX11_check_28 (by decide) ?_
        refine z_putI hC lpRX11_113 dX11_check_29 (fun hp4 => ?_)
        refine z_iconst hC (0 : Int32) dX11_check_32 (by decide) ?_
        refine z_istore_n hC [(0, .ref p0), (1, .int p1), (2, .int (0 : Int32))] [1, 2, 0] dX11_check_33 rfl (by decide) rfl ?_
        refine z_lpR (S := Int32) (Y := Unit) (fun s5 => hp4) (fun s5 => [(0, .ref p0), (1, .int p1), (2, .int s5)]) (fun y6 => hp4) (fun y6 => []) 69 [] (fun y6 => ?_) (fun s5 => ?_) rfl rfl
        · refine z_iconst hC (-1 : Int32) dX11_check_69 (by decide) ?_
          exact z_iret hC (fun h => h) dX11_check_70
        · refine z_iload_n hC 2 dX11_check_34 rfl rfl ?_
          refine z_iload_n hC 1 dX11_check_35 rfl rfl ?_
          refine z_icmp_ge hC 69 dX11_check_36 (by decide) (fun _ => ?_) (fun _ => ?_)
          · refine z_weak [] [] rfl ?_
            exact z_leaf (fun h => h)
          · refine z_aload_n hC 0 dX11_check_39 rfl rfl ?_
            refine z_getR hC lgRX11_10 dX11_check_40 (fun v7 => ?_)
            refine z_iload_n hC 2 dX11_check_43 rfl rfl ?_
            refine z_callVi hC (ci := 8) rfl lmRX11_274 (ctX8_at (vLa V) (vDa V) (vTg V) (vBs V) (vSa V) hp4 v7 s5) (by decide) hn0 dX11_check_44 rfl rfl (Nat.le_of_ble_eq_true rfl) (fun v8 => ?_)
            refine z_aload_n hC 0 dX11_check_47 rfl rfl ?_
            refine z_getR hC lgRX11_84 dX11_check_48 (fun v9 => ?_)
            refine z_getI hC lgRX11_105 dX11_check_51 (fun v10 => ?_)
            refine z_iload_n hC 2 dX11_check_54 rfl rfl ?_
            refine z_ishr hC dX11_check_55 ?_
            refine z_iconst hC (1 : Int32) dX11_check_56 (by decide) ?_
            refine z_iand hC dX11_check_57 ?_
            refine z_icmp_eq hC 63 dX11_check_58 (by decide) (fun _ => ?_) (fun _ => ?_)
            · refine z_iincv hC (1 : Int32) 2 (fun x11 => [(0, .ref p0), (1, .int p1), (2, .int x11)]) [1, 2, 0] dX11_check_63 rfl (by decide) (by decide) (fun _ => rfl) (fun x11 => ?_)
              refine z_goto hC 34 dX11_check_66 (by decide) ?_
              exact z_leaf (fun h => h)
            · refine z_iload_n hC 2 dX11_check_61 rfl rfl ?_
              exact z_iret hC (fun h => h) dX11_check_62
      · refine z_bipush hC (-2 : Int32) dX11_check_21 (by decide) ?_
        exact z_iret hC (fun h => h) dX11_check_23

