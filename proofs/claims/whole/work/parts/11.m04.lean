theorem dX12_readsPiece_0 : decode cX12_readsPiece 0 = .ok (.aload_n 0, 1) := by decide +kernel
theorem dX12_readsPiece_1 : decode cX12_readsPiece 1 = .ok (.invokevirtual 137, 3) := by decide +kernel
theorem dX12_readsPiece_4 : decode cX12_readsPiece 4 = .ok (.istore_n 1, 1) := by decide +kernel
theorem dX12_readsPiece_5 : decode cX12_readsPiece 5 = .ok (.iload_n 1, 1) := by decide +kernel
theorem dX12_readsPiece_6 : decode cX12_readsPiece 6 = .ok (.invokestatic 269, 3) := by decide +kernel
theorem dX12_readsPiece_9 : decode cX12_readsPiece 9 = .ok (.ifCond .ne 13, 3) := by decide +kernel
theorem dX12_readsPiece_12 : decode cX12_readsPiece 12 = .ok (.aload_n 0, 1) := by decide +kernel
theorem dX12_readsPiece_13 : decode cX12_readsPiece 13 = .ok (.iconst 1, 1) := by decide +kernel
theorem dX12_readsPiece_14 : decode cX12_readsPiece 14 = .ok (.aload_n 0, 1) := by decide +kernel
theorem dX12_readsPiece_15 : decode cX12_readsPiece 15 = .ok (.getfield 131, 3) := by decide +kernel
theorem dX12_readsPiece_18 : decode cX12_readsPiece 18 = .ok (.invokevirtual 144, 3) := by decide +kernel
theorem dX12_readsPiece_21 : decode cX12_readsPiece 21 = .ok (.ireturn, 1) := by decide +kernel
theorem dX12_readsPiece_22 : decode cX12_readsPiece 22 = .ok (.aload_n 0, 1) := by decide +kernel
theorem dX12_readsPiece_23 : decode cX12_readsPiece 23 = .ok (.getfield 250, 3) := by decide +kernel
theorem dX12_readsPiece_26 : decode cX12_readsPiece 26 = .ok (.ifCond .le 45, 3) := by decide +kernel
theorem dX12_readsPiece_29 : decode cX12_readsPiece 29 = .ok (.aload_n 0, 1) := by decide +kernel
theorem dX12_readsPiece_30 : decode cX12_readsPiece 30 = .ok (.getfield 72, 3) := by decide +kernel
theorem dX12_readsPiece_33 : decode cX12_readsPiece 33 = .ok (.aload_n 0, 1) := by decide +kernel
theorem dX12_readsPiece_34 : decode cX12_readsPiece 34 = .ok (.getfield 250, 3) := by decide +kernel
theorem dX12_readsPiece_37 : decode cX12_readsPiece 37 = .ok (.iconst 1, 1) := by decide +kernel
theorem dX12_readsPiece_38 : decode cX12_readsPiece 38 = .ok (.isub, 1) := by decide +kernel
theorem dX12_readsPiece_39 : decode cX12_readsPiece 39 = .ok (.iaload, 1) := by decide +kernel
theorem dX12_readsPiece_40 : decode cX12_readsPiece 40 = .ok (.bipush 100, 2) := by decide +kernel
theorem dX12_readsPiece_42 : decode cX12_readsPiece 42 = .ok (.if_icmp .lt 29, 3) := by decide +kernel
theorem dX12_readsPiece_45 : decode cX12_readsPiece 45 = .ok (.aload_n 0, 1) := by decide +kernel
theorem dX12_readsPiece_46 : decode cX12_readsPiece 46 = .ok (.getfield 75, 3) := by decide +kernel
theorem dX12_readsPiece_49 : decode cX12_readsPiece 49 = .ok (.aload_n 0, 1) := by decide +kernel
theorem dX12_readsPiece_50 : decode cX12_readsPiece 50 = .ok (.getfield 250, 3) := by decide +kernel
theorem dX12_readsPiece_53 : decode cX12_readsPiece 53 = .ok (.iconst 1, 1) := by decide +kernel
theorem dX12_readsPiece_54 : decode cX12_readsPiece 54 = .ok (.isub, 1) := by decide +kernel
theorem dX12_readsPiece_55 : decode cX12_readsPiece 55 = .ok (.iaload, 1) := by decide +kernel
theorem dX12_readsPiece_56 : decode cX12_readsPiece 56 = .ok (.bipush 10, 2) := by decide +kernel
theorem dX12_readsPiece_58 : decode cX12_readsPiece 58 = .ok (.if_icmp .le 13, 3) := by decide +kernel
theorem dX12_readsPiece_61 : decode cX12_readsPiece 61 = .ok (.aload_n 0, 1) := by decide +kernel
theorem dX12_readsPiece_62 : decode cX12_readsPiece 62 = .ok (.iconst 4, 1) := by decide +kernel
theorem dX12_readsPiece_63 : decode cX12_readsPiece 63 = .ok (.aload_n 0, 1) := by decide +kernel
theorem dX12_readsPiece_64 : decode cX12_readsPiece 64 = .ok (.getfield 131, 3) := by decide +kernel
theorem dX12_readsPiece_67 : decode cX12_readsPiece 67 = .ok (.invokevirtual 144, 3) := by decide +kernel
theorem dX12_readsPiece_70 : decode cX12_readsPiece 70 = .ok (.ireturn, 1) := by decide +kernel
theorem dX12_readsPiece_71 : decode cX12_readsPiece 71 = .ok (.iload_n 1, 1) := by decide +kernel
theorem dX12_readsPiece_72 : decode cX12_readsPiece 72 = .ok (.invokestatic 244, 3) := by decide +kernel
theorem dX12_readsPiece_75 : decode cX12_readsPiece 75 = .ok (.ifCond .ne 15, 3) := by decide +kernel
theorem dX12_readsPiece_78 : decode cX12_readsPiece 78 = .ok (.iload_n 1, 1) := by decide +kernel
theorem dX12_readsPiece_79 : decode cX12_readsPiece 79 = .ok (.bipush 48, 2) := by decide +kernel
theorem dX12_readsPiece_81 : decode cX12_readsPiece 81 = .ok (.if_icmp .eq 9, 3) := by decide +kernel
theorem dX12_readsPiece_84 : decode cX12_readsPiece 84 = .ok (.iload_n 1, 1) := by decide +kernel
theorem dX12_readsPiece_85 : decode cX12_readsPiece 85 = .ok (.bipush 49, 2) := by decide +kernel
theorem dX12_readsPiece_87 : decode cX12_readsPiece 87 = .ok (.if_icmp .ne 46, 3) := by decide +kernel
theorem dX12_readsPiece_90 : decode cX12_readsPiece 90 = .ok (.aload_n 0, 1) := by decide +kernel
theorem dX12_readsPiece_91 : decode cX12_readsPiece 91 = .ok (.iload_n 1, 1) := by decide +kernel
theorem dX12_readsPiece_92 : decode cX12_readsPiece 92 = .ok (.invokestatic 244, 3) := by decide +kernel
theorem dX12_readsPiece_95 : decode cX12_readsPiece 95 = .ok (.ifCond .eq 12, 3) := by decide +kernel
theorem dX12_readsPiece_98 : decode cX12_readsPiece 98 = .ok (.iconst 0, 1) := by decide +kernel
theorem dX12_readsPiece_99 : decode cX12_readsPiece 99 = .ok (.iload_n 1, 1) := by decide +kernel
theorem dX12_readsPiece_100 : decode cX12_readsPiece 100 = .ok (.iadd, 1) := by decide +kernel
theorem dX12_readsPiece_101 : decode cX12_readsPiece 101 = .ok (.bipush 97, 2) := by decide +kernel
theorem dX12_readsPiece_103 : decode cX12_readsPiece 103 = .ok (.isub, 1) := by decide +kernel
theorem dX12_readsPiece_104 : decode cX12_readsPiece 104 = .ok (.goto 10, 3) := by decide +kernel
theorem dX12_readsPiece_107 : decode cX12_readsPiece 107 = .ok (.bipush 20, 2) := by decide +kernel
theorem dX12_readsPiece_109 : decode cX12_readsPiece 109 = .ok (.iload_n 1, 1) := by decide +kernel
theorem dX12_readsPiece_110 : decode cX12_readsPiece 110 = .ok (.iadd, 1) := by decide +kernel
theorem dX12_readsPiece_111 : decode cX12_readsPiece 111 = .ok (.bipush 48, 2) := by decide +kernel
theorem dX12_readsPiece_113 : decode cX12_readsPiece 113 = .ok (.isub, 1) := by decide +kernel
theorem dX12_readsPiece_114 : decode cX12_readsPiece 114 = .ok (.invokevirtual 253, 3) := by decide +kernel
theorem dX12_readsPiece_117 : decode cX12_readsPiece 117 = .ok (.aload_n 0, 1) := by decide +kernel
theorem dX12_readsPiece_118 : decode cX12_readsPiece 118 = .ok (.aload_n 0, 1) := by decide +kernel
theorem dX12_readsPiece_119 : decode cX12_readsPiece 119 = .ok (.getfield 131, 3) := by decide +kernel
theorem dX12_readsPiece_122 : decode cX12_readsPiece 122 = .ok (.iconst 1, 1) := by decide +kernel
theorem dX12_readsPiece_123 : decode cX12_readsPiece 123 = .ok (.iadd, 1) := by decide +kernel
theorem dX12_readsPiece_124 : decode cX12_readsPiece 124 = .ok (.putfield 131, 3) := by decide +kernel
theorem dX12_readsPiece_127 : decode cX12_readsPiece 127 = .ok (.aload_n 0, 1) := by decide +kernel
theorem dX12_readsPiece_128 : decode cX12_readsPiece 128 = .ok (.invokevirtual 272, 3) := by decide +kernel
theorem dX12_readsPiece_131 : decode cX12_readsPiece 131 = .ok (.iconst 1, 1) := by decide +kernel
theorem dX12_readsPiece_132 : decode cX12_readsPiece 132 = .ok (.ireturn, 1) := by decide +kernel
theorem dX12_readsPiece_133 : decode cX12_readsPiece 133 = .ok (.aload_n 0, 1) := by decide +kernel
theorem dX12_readsPiece_134 : decode cX12_readsPiece 134 = .ok (.invokevirtual 275, 3) := by decide +kernel
theorem dX12_readsPiece_137 : decode cX12_readsPiece 137 = .ok (.ifCond .ne 5, 3) := by decide +kernel
theorem dX12_readsPiece_140 : decode cX12_readsPiece 140 = .ok (.iconst 0, 1) := by decide +kernel
theorem dX12_readsPiece_141 : decode cX12_readsPiece 141 = .ok (.ireturn, 1) := by decide +kernel
theorem dX12_readsPiece_142 : decode cX12_readsPiece 142 = .ok (.aload_n 0, 1) := by decide +kernel
theorem dX12_readsPiece_143 : decode cX12_readsPiece 143 = .ok (.aload_n 0, 1) := by decide +kernel
theorem dX12_readsPiece_144 : decode cX12_readsPiece 144 = .ok (.getfield 131, 3) := by decide +kernel
theorem dX12_readsPiece_147 : decode cX12_readsPiece 147 = .ok (.iconst 1, 1) := by decide +kernel
theorem dX12_readsPiece_148 : decode cX12_readsPiece 148 = .ok (.iadd, 1) := by decide +kernel
theorem dX12_readsPiece_149 : decode cX12_readsPiece 149 = .ok (.putfield 131, 3) := by decide +kernel
theorem dX12_readsPiece_152 : decode cX12_readsPiece 152 = .ok (.iload_n 1, 1) := by decide +kernel
theorem dX12_readsPiece_153 : decode cX12_readsPiece 153 = .ok (.bipush 33, 2) := by decide +kernel
theorem dX12_readsPiece_155 : decode cX12_readsPiece 155 = .ok (.if_icmp .ne 11, 3) := by decide +kernel
theorem dX12_readsPiece_158 : decode cX12_readsPiece 158 = .ok (.aload_n 0, 1) := by decide +kernel
theorem dX12_readsPiece_159 : decode cX12_readsPiece 159 = .ok (.bipush 33, 2) := by decide +kernel
theorem dX12_readsPiece_161 : decode cX12_readsPiece 161 = .ok (.invokevirtual 278, 3) := by decide +kernel
theorem dX12_readsPiece_164 : decode cX12_readsPiece 164 = .ok (.iconst 1, 1) := by decide +kernel
theorem dX12_readsPiece_165 : decode cX12_readsPiece 165 = .ok (.ireturn, 1) := by decide +kernel
theorem dX12_readsPiece_166 : decode cX12_readsPiece 166 = .ok (.iload_n 1, 1) := by decide +kernel
theorem dX12_readsPiece_167 : decode cX12_readsPiece 167 = .ok (.bipush 40, 2) := by decide +kernel
theorem dX12_readsPiece_169 : decode cX12_readsPiece 169 = .ok (.if_icmp .ne 11, 3) := by decide +kernel
theorem dX12_readsPiece_172 : decode cX12_readsPiece 172 = .ok (.aload_n 0, 1) := by decide +kernel
theorem dX12_readsPiece_173 : decode cX12_readsPiece 173 = .ok (.bipush 90, 2) := by decide +kernel
theorem dX12_readsPiece_175 : decode cX12_readsPiece 175 = .ok (.invokevirtual 278, 3) := by decide +kernel
theorem dX12_readsPiece_178 : decode cX12_readsPiece 178 = .ok (.iconst 1, 1) := by decide +kernel
theorem dX12_readsPiece_179 : decode cX12_readsPiece 179 = .ok (.ireturn, 1) := by decide +kernel
theorem dX12_readsPiece_180 : decode cX12_readsPiece 180 = .ok (.aload_n 0, 1) := by decide +kernel
theorem dX12_readsPiece_181 : decode cX12_readsPiece 181 = .ok (.bipush 100, 2) := by decide +kernel
theorem dX12_readsPiece_183 : decode cX12_readsPiece 183 = .ok (.iload_n 1, 1) := by decide +kernel
theorem dX12_readsPiece_184 : decode cX12_readsPiece 184 = .ok (.iadd, 1) := by decide +kernel
theorem dX12_readsPiece_185 : decode cX12_readsPiece 185 = .ok (.bipush 48, 2) := by decide +kernel
theorem dX12_readsPiece_187 : decode cX12_readsPiece 187 = .ok (.isub, 1) := by decide +kernel
theorem dX12_readsPiece_188 : decode cX12_readsPiece 188 = .ok (.invokevirtual 278, 3) := by decide +kernel
theorem dX12_readsPiece_191 : decode cX12_readsPiece 191 = .ok (.aload_n 0, 1) := by decide +kernel
theorem dX12_readsPiece_192 : decode cX12_readsPiece 192 = .ok (.bipush 40, 2) := by decide +kernel
theorem dX12_readsPiece_194 : decode cX12_readsPiece 194 = .ok (.invokevirtual 218, 3) := by decide +kernel
theorem dX12_readsPiece_197 : decode cX12_readsPiece 197 = .ok (.ireturn, 1) := by decide +kernel
def FX12_readsPiece (hp : HP) (p0 : Nat) : Option (Int32 × HP) := (rc [12] hp p0 (FX12_here hp p0)).bind (fun v1 => (FX12_begins v1).bind (fun v2 => if v2 = 0 then (gI [12] 15 hp p0).bind (fun v3 => (rc [12] hp p0 (FX12_wrongAt hp p0 (1 : Int32) v3)).bind (fun w4 => bz w4.1 (some (w4.1, w4.2)))) else (gI [12] 41 hp p0).bind (fun v5 => jn (A := Unit) (fun a6 => (FX12_isFact v1).bind (fun v8 => jn (A := Unit) (fun a9 => (FX12_isFact v1).bind (fun v11 => jn (A := Int32) (fun a12 => (rc [12] hp p0 (FX12_lays hp p0 a12)).bind (fun w14 => (gI [12] 15 w14 p0).bind (fun v15 => (sI [12] 15 w14 p0 (v15 + (1 : Int32))).bind (fun hp16 => (rc [12] hp16 p0 (FX12_endsTruth hp16 p0)).bind (fun w17 => some ((1 : Int32), w17)))))) (fun J13 => if v11 = 0 then vl (((20 : Int32) + v1) - (48 : Int32)) (fun x18 => J13 x18) else vl (((0 : Int32) + v1) - (97 : Int32)) (fun x19 => J13 x19)))) (fun J10 => if v8 = 0 then if v1 = (48 : Int32) then J10 () else if v1 = (49 : Int32) then J10 () else (rc [12] hp p0 (FX12_opensOne hp p0)).bind (fun w20 => if w20.1 = 0 then some ((0 : Int32), w20.2) else (gI [12] 15 w20.2 p0).bind (fun v21 => (sI [12] 15 w20.2 p0 (v21 + (1 : Int32))).bind (fun hp22 => if v1 = (33 : Int32) then (rc [12] hp22 p0 (FX12_waitsFor hp22 p0 (33 : Int32))).bind (fun w23 => some ((1 : Int32), w23)) else if v1 = (40 : Int32) then (rc [12] hp22 p0 (FX12_waitsFor hp22 p0 (90 : Int32))).bind (fun w24 => some ((1 : Int32), w24)) else (rc [12] hp22 p0 (FX12_waitsFor hp22 p0 (((100 : Int32) + v1) - (48 : Int32)))).bind (fun w25 => (rc [12] w25 p0 (FX12_takes w25 p0 (40 : Int32))).bind (fun w26 => bz w26.1 (some (w26.1, w26.2))))))) else J10 ()))) (fun J7 => if v5 ≤ 0 then J7 () else (gR [12] 38 hp p0).bind (fun v27 => (gI [12] 41 hp p0).bind (fun v28 => (rdN 0 hp v27 (v28 - (1 : Int32))).bind (fun v29 => if v29 < (100 : Int32) then J7 () else (gR [12] 39 hp p0).bind (fun v30 => (gI [12] 41 hp p0).bind (fun v31 => (rdN 0 hp v30 (v31 - (1 : Int32))).bind (fun v32 => if v32 ≤ (10 : Int32) then J7 () else (gI [12] 15 hp p0).bind (fun v33 => (rc [12] hp p0 (FX12_wrongAt hp p0 (4 : Int32) v33)).bind (fun w34 => bz w34.1 (some (w34.1, w34.2))))))))))))))
set_option maxHeartbeats 4000000 in
set_option maxRecDepth 100000 in
theorem ctX12_readsPiece (l : Launch) (D : va_G) (tg : Nat → ClassId) (bs : Nat) (sa : Nat → Nat) (hp : HP) (p0 : Nat) : Ct l D tg bs sa yX12_readsPiece cX12_readsPiece 2 (some .boolean) 3 [.ref p0] hp (FX12_readsPiece hp p0) (fun r => some (.int r.1)) (fun r => r.2) := by
  refine Ct.of (by decide) (Nat.le_of_ble_eq_true rfl) ?_
  intro V Q hVl hVd hVt hVb hVs hC
  subst hVl; subst hVd; subst hVt; subst hVb; subst hVs
  unfold FX12_readsPiece
  show Zs V Q (0, 0) 2 _ _ hp [(0, .ref p0)] 0 []
  refine z_aload_n hC 0 dX12_readsPiece_0 rfl rfl ?_
  refine z_callVi hC (ci := 12) rfl lmRX12_137 (ctX12_here (vLa V) (vDa V) (vTg V) (vBs V) (vSa V) hp p0) (by decide) hn0 dX12_readsPiece_1 rfl rfl (Nat.le_of_ble_eq_true rfl) (fun v1 => ?_)
  refine z_istore_n hC [(0, .ref p0), (1, .int v1)] [1, 0] dX12_readsPiece_4 rfl (by decide) rfl ?_
  refine z_iload_n hC 1 dX12_readsPiece_5 rfl rfl ?_
  refine z_callSi hC lmRX12_269 (ctX12_begins (vLa V) (vDa V) (vTg V) (vBs V) (vSa V) hp v1) (by decide) hn0 dX12_readsPiece_6 rfl rfl (Nat.le_of_ble_eq_true rfl) (fun v2 => ?_)
  refine z_if_ne hC 22 dX12_readsPiece_9 (by decide) (fun _ => ?_) (fun _ => ?_)
  · refine z_aload_n hC 0 dX12_readsPiece_12 rfl rfl ?_
    refine z_iconst hC (1 : Int32) dX12_readsPiece_13 (by decide) ?_
    refine z_aload_n hC 0 dX12_readsPiece_14 rfl rfl ?_
    refine z_getI hC lgRX12_131 dX12_readsPiece_15 (fun v3 => ?_)
    refine z_callVi hC (ci := 12) rfl lmRX12_144 (ctX12_wrongAt (vLa V) (vDa V) (vTg V) (vBs V) (vSa V) hp p0 (1 : Int32) v3) (by decide) hn0 dX12_readsPiece_18 rfl rfl (Nat.le_of_ble_eq_true rfl) (fun w4 => ?_)
    exact z_bz (fun hv => z_zret hC hv (fun h => h) dX12_readsPiece_21)
  · refine z_aload_n hC 0 dX12_readsPiece_22 rfl rfl ?_
    refine z_getI hC lgRX12_250 dX12_readsPiece_23 (fun v5 => ?_)
    refine z_jn (A := Unit) (fun a6 => hp) (fun a6 => [(0, .ref p0), (1, .int v1)]) 71 (fun a6 => []) (fun a6 => ?_) (fun J7 hJ7 => ?_)
    · refine z_iload_n hC 1 dX12_readsPiece_71 rfl rfl ?_
      refine z_callSi hC lmRX12_244 (ctX12_isFact (vLa V) (vDa V) (vTg V) (vBs V) (vSa V) hp v1) (by decide) hn0 dX12_readsPiece_72 rfl rfl (Nat.le_of_ble_eq_true rfl) (fun v8 => ?_)
      refine z_jn (A := Unit) (fun a9 => hp) (fun a9 => [(0, .ref p0), (1, .int v1)]) 90 (fun a9 => []) (fun a9 => ?_) (fun J10 hJ10 => ?_)
      · refine z_aload_n hC 0 dX12_readsPiece_90 rfl rfl ?_
        refine z_iload_n hC 1 dX12_readsPiece_91 rfl rfl ?_
        refine z_callSi hC lmRX12_244 (ctX12_isFact (vLa V) (vDa V) (vTg V) (vBs V) (vSa V) hp v1) (by decide) hn0 dX12_readsPiece_92 rfl rfl (Nat.le_of_ble_eq_true rfl) (fun v11 => ?_)
        refine z_jn (A := Int32) (fun a12 => hp) (fun a12 => [(0, .ref p0)]) 114 (fun a12 => [.int a12, .ref p0]) (fun a12 => ?_) (fun J13 hJ13 => ?_)
        · refine z_callVv hC (ci := 12) rfl lmRX12_253 (ctX12_lays (vLa V) (vDa V) (vTg V) (vBs V) (vSa V) hp p0 a12) (by decide) hn0 dX12_readsPiece_114 rfl rfl (Nat.le_of_ble_eq_true rfl) (fun w14 => ?_)
          refine z_aload_n hC 0 dX12_readsPiece_117 rfl rfl ?_
          refine z_aload_n hC 0 dX12_readsPiece_118 rfl rfl ?_
          refine z_getI hC lgRX12_131 dX12_readsPiece_119 (fun v15 => ?_)
          refine z_iconst hC (1 : Int32) dX12_readsPiece_122 (by decide) ?_
          refine z_iadd hC dX12_readsPiece_123 ?_
          refine z_putI hC lpRX12_131 dX12_readsPiece_124 (fun hp16 => ?_)
          refine z_aload_n hC 0 dX12_readsPiece_127 rfl rfl ?_
          refine z_callVv hC (ci := 12) rfl lmRX12_272 (ctX12_endsTruth (vLa V) (vDa V) (vTg V) (vBs V) (vSa V) hp16 p0) (by decide) hn0 dX12_readsPiece_128 rfl rfl (Nat.le_of_ble_eq_true rfl) (fun w17 => ?_)
          refine z_iconst hC (1 : Int32) dX12_readsPiece_131 (by decide) ?_
          exact z_zret hC (by decide) (fun h => h) dX12_readsPiece_132
        · refine z_if_eq hC 107 dX12_readsPiece_95 (by decide) (fun _ => ?_) (fun _ => ?_)
          · refine z_bipush hC (20 : Int32) dX12_readsPiece_107 (by decide) ?_
            refine z_iload_n hC 1 dX12_readsPiece_109 rfl rfl ?_
            refine z_iadd hC dX12_readsPiece_110 ?_
            refine z_bipush hC (48 : Int32) dX12_readsPiece_111 (by decide) ?_
            refine z_isub hC dX12_readsPiece_113 ?_
            refine z_vli (fun x18 => ?_)
            refine z_weak [(0, .ref p0)] [0] rfl ?_
            exact hJ13 x18
          · refine z_iconst hC (0 : Int32) dX12_readsPiece_98 (by decide) ?_
            refine z_iload_n hC 1 dX12_readsPiece_99 rfl rfl ?_
            refine z_iadd hC dX12_readsPiece_100 ?_
            refine z_bipush hC (97 : Int32) dX12_readsPiece_101 (by decide) ?_
            refine z_isub hC dX12_readsPiece_103 ?_
            refine z_goto hC 114 dX12_readsPiece_104 (by decide) ?_
            refine z_vli (fun x19 => ?_)
            refine z_weak [(0, .ref p0)] [0] rfl ?_
            exact hJ13 x19
      · refine z_if_ne hC 90 dX12_readsPiece_75 (by decide) (fun _ => ?_) (fun _ => ?_)
        · refine z_iload_n hC 1 dX12_readsPiece_78 rfl rfl ?_
          refine z_bipush hC (48 : Int32) dX12_readsPiece_79 (by decide) ?_
          refine z_icmp_eq hC 90 dX12_readsPiece_81 (by decide) (fun _ => ?_) (fun _ => ?_)
          · exact hJ10 ()
          · refine z_iload_n hC 1 dX12_readsPiece_84 rfl rfl ?_
            refine z_bipush hC (49 : Int32) dX12_readsPiece_85 (by decide) ?_
            refine z_icmp_ne hC 133 dX12_readsPiece_87 (by decide) (fun _ => ?_) (fun _ => ?_)
            · exact hJ10 ()
            · refine z_aload_n hC 0 dX12_readsPiece_133 rfl rfl ?_
              refine z_callVi hC (ci := 12) rfl lmRX12_275 (ctX12_opensOne (vLa V) (vDa V) (vTg V) (vBs V) (vSa V) hp p0) (by decide) hn0 dX12_readsPiece_134 rfl rfl (Nat.le_of_ble_eq_true rfl) (fun w20 => ?_)
              refine z_if_ne hC 142 dX12_readsPiece_137 (by decide) (fun _ => ?_) (fun _ => ?_)
              · refine z_iconst hC (0 : Int32) dX12_readsPiece_140 (by decide) ?_
                exact z_zret hC (by decide) (fun h => h) dX12_readsPiece_141
              · refine z_aload_n hC 0 dX12_readsPiece_142 rfl rfl ?_
                refine z_aload_n hC 0 dX12_readsPiece_143 rfl rfl ?_
                refine z_getI hC lgRX12_131 dX12_readsPiece_144 (fun v21 => ?_)
                refine z_iconst hC (1 : Int32) dX12_readsPiece_147 (by decide) ?_
                refine z_iadd hC dX12_readsPiece_148 ?_
                refine z_putI hC lpRX12_131 dX12_readsPiece_149 (fun hp22 => ?_)
                refine z_iload_n hC 1 dX12_readsPiece_152 rfl rfl ?_
                refine z_bipush hC (33 : Int32) dX12_readsPiece_153 (by decide) ?_
                refine z_icmp_ne hC 166 dX12_readsPiece_155 (by decide) (fun _ => ?_) (fun _ => ?_)
                · refine z_aload_n hC 0 dX12_readsPiece_158 rfl rfl ?_
                  refine z_bipush hC (33 : Int32) dX12_readsPiece_159 (by decide) ?_
                  refine z_callVv hC (ci := 12) rfl lmRX12_278 (ctX12_waitsFor (vLa V) (vDa V) (vTg V) (vBs V) (vSa V) hp22 p0 (33 : Int32)) (by decide) hn0 dX12_readsPiece_161 rfl rfl (Nat.le_of_ble_eq_true rfl) (fun w23 => ?_)
                  refine z_iconst hC (1 : Int32) dX12_readsPiece_164 (by decide) ?_
                  exact z_zret hC (by decide) (fun h => h) dX12_readsPiece_165
                · refine z_iload_n hC 1 dX12_readsPiece_166 rfl rfl ?_
                  refine z_bipush hC (40 : Int32) dX12_readsPiece_167 (by decide) ?_
                  refine z_icmp_ne hC 180 dX12_readsPiece_169 (by decide) (fun _ => ?_) (fun _ => ?_)
                  · refine z_aload_n hC 0 dX12_readsPiece_172 rfl rfl ?_
                    refine z_bipush hC (90 : Int32) dX12_readsPiece_173 (by decide) ?_
                    refine z_callVv hC (ci := 12) rfl lmRX12_278 (ctX12_waitsFor (vLa V) (vDa V) (vTg V) (vBs V) (vSa V) hp22 p0 (90 : Int32)) (by decide) hn0 dX12_readsPiece_175 rfl rfl (Nat.le_of_ble_eq_true rfl) (fun w24 => ?_)
                    refine z_iconst hC (1 : Int32) dX12_readsPiece_178 (by decide) ?_
                    exact z_zret hC (by decide) (fun h => h) dX12_readsPiece_179
                  · refine z_aload_n hC 0 dX12_readsPiece_180 rfl rfl ?_
                    refine z_bipush hC (100 : Int32) dX12_readsPiece_181 (by decide) ?_
                    refine z_iload_n hC 1 dX12_readsPiece_183 rfl rfl ?_
                    refine z_iadd hC dX12_readsPiece_184 ?_
                    refine z_bipush hC (48 : Int32) dX12_readsPiece_185 (by decide) ?_
                    refine z_isub hC dX12_readsPiece_187 ?_
                    refine z_callVv hC (ci := 12) rfl lmRX12_278 (ctX12_waitsFor (vLa V) (vDa V) (vTg V) (vBs V) (vSa V) hp22 p0 (((100 : Int32) + v1) - (48 : Int32))) (by decide) hn0 dX12_readsPiece_188 rfl rfl (Nat.le_of_ble_eq_true rfl) (fun w25 => ?_)
                    refine z_aload_n hC 0 dX12_readsPiece_191 rfl rfl ?_
                    refine z_bipush hC (40 : Int32) dX12_readsPiece_192 (by decide) ?_
                    refine z_callVi hC (ci := 12) rfl lmRX12_218 (ctX12_takes (vLa V) (vDa V) (vTg V) (vBs V) (vSa V) w25 p0 (40 : Int32)) (by decide) hn0 dX12_readsPiece_194 rfl rfl (Nat.le_of_ble_eq_true rfl) (fun w26 => ?_)
                    exact z_bz (fun hv => z_zret hC hv (fun h => h) dX12_readsPiece_197)
        · exact hJ10 ()
    · refine z_if_le hC 71 dX12_readsPiece_26 (by decide) (fun _ => ?_) (fun _ => ?_)
      · exact hJ7 ()
      · refine z_aload_n hC 0 dX12_readsPiece_29 rfl rfl ?_
        refine z_getR hC lgRX12_72 dX12_readsPiece_30 (fun v27 => ?_)
        refine z_aload_n hC 0 dX12_readsPiece_33 rfl rfl ?_
        refine z_getI hC lgRX12_250 dX12_readsPiece_34 (fun v28 => ?_)
        refine z_iconst hC (1 : Int32) dX12_readsPiece_37 (by decide) ?_
        refine z_isub hC dX12_readsPiece_38 ?_
        refine z_iald hC dX12_readsPiece_39 (fun v29 => ?_)
        refine z_bipush hC (100 : Int32) dX12_readsPiece_40 (by decide) ?_
        refine z_icmp_lt hC 71 dX12_readsPiece_42 (by decide) (fun _ => ?_) (fun _ => ?_)
        · exact hJ7 ()
        · refine z_aload_n hC 0 dX12_readsPiece_45 rfl rfl ?_
          refine z_getR hC lgRX12_75 dX12_readsPiece_46 (fun v30 => ?_)
          refine z_aload_n hC 0 dX12_readsPiece_49 rfl rfl ?_
          refine z_getI hC lgRX12_250 dX12_readsPiece_50 (fun v31 => ?_)
          refine z_iconst hC (1 : Int32) dX12_readsPiece_53 (by decide) ?_
          refine z_isub hC dX12_readsPiece_54 ?_
          refine z_iald hC dX12_readsPiece_55 (fun v32 => ?_)
          refine z_bipush hC (10 : Int32) dX12_readsPiece_56 (by decide) ?_
          refine z_icmp_le hC 71 dX12_readsPiece_58 (by decide) (fun _ => ?_) (fun _ => ?_)
          · exact hJ7 ()
          · refine z_aload_n hC 0 dX12_readsPiece_61 rfl rfl ?_
            refine z_iconst hC (4 : Int32) dX12_readsPiece_62 (by decide) ?_
            refine z_aload_n hC 0 dX12_readsPiece_63 rfl rfl ?_
            refine z_getI hC lgRX12_131 dX12_readsPiece_64 (fun v33 => ?_)
            refine z_callVi hC (ci := 12) rfl lmRX12_144 (ctX12_wrongAt (vLa V) (vDa V) (vTg V) (vBs V) (vSa V) hp p0 (4 : Int32) v33) (by decide) hn0 dX12_readsPiece_67 rfl rfl (Nat.le_of_ble_eq_true rfl) (fun w34 => ?_)
            exact z_bz (fun hv => z_zret hC hv (fun h => h) dX12_readsPiece_70)

theorem dX12_closes_0 : decode cX12_closes 0 = .ok (.aload_n 0, 1) := by decide +kernel
theorem dX12_closes_1 : decode cX12_closes 1 = .ok (.bipush 32, 2) := by decide +kernel
theorem dX12_closes_3 : decode cX12_closes 3 = .ok (.invokevirtual 281, 3) := by decide +kernel
theorem dX12_closes_6 : decode cX12_closes 6 = .ok (.aload_n 0, 1) := by decide +kernel
theorem dX12_closes_7 : decode cX12_closes 7 = .ok (.invokevirtual 256, 3) := by decide +kernel
theorem dX12_closes_10 : decode cX12_closes 10 = .ok (.istore_n 1, 1) := by decide +kernel
theorem dX12_closes_11 : decode cX12_closes 11 = .ok (.iload_n 1, 1) := by decide +kernel
theorem dX12_closes_12 : decode cX12_closes 12 = .ok (.iconst (-1), 1) := by decide +kernel
theorem dX12_closes_13 : decode cX12_closes 13 = .ok (.if_icmp .ne 13, 3) := by decide +kernel
theorem dX12_closes_16 : decode cX12_closes 16 = .ok (.aload_n 0, 1) := by decide +kernel
theorem dX12_closes_17 : decode cX12_closes 17 = .ok (.iconst 1, 1) := by decide +kernel
theorem dX12_closes_18 : decode cX12_closes 18 = .ok (.aload_n 0, 1) := by decide +kernel
theorem dX12_closes_19 : decode cX12_closes 19 = .ok (.getfield 131, 3) := by decide +kernel
theorem dX12_closes_22 : decode cX12_closes 22 = .ok (.invokevirtual 144, 3) := by decide +kernel
theorem dX12_closes_25 : decode cX12_closes 25 = .ok (.ireturn, 1) := by decide +kernel
theorem dX12_closes_26 : decode cX12_closes 26 = .ok (.aload_n 0, 1) := by decide +kernel
theorem dX12_closes_27 : decode cX12_closes 27 = .ok (.aload_n 0, 1) := by decide +kernel
theorem dX12_closes_28 : decode cX12_closes 28 = .ok (.getfield 250, 3) := by decide +kernel
theorem dX12_closes_31 : decode cX12_closes 31 = .ok (.iconst 1, 1) := by decide +kernel
theorem dX12_closes_32 : decode cX12_closes 32 = .ok (.isub, 1) := by decide +kernel
theorem dX12_closes_33 : decode cX12_closes 33 = .ok (.putfield 250, 3) := by decide +kernel
theorem dX12_closes_36 : decode cX12_closes 36 = .ok (.aload_n 0, 1) := by decide +kernel
theorem dX12_closes_37 : decode cX12_closes 37 = .ok (.aload_n 0, 1) := by decide +kernel
theorem dX12_closes_38 : decode cX12_closes 38 = .ok (.getfield 262, 3) := by decide +kernel
theorem dX12_closes_41 : decode cX12_closes 41 = .ok (.iconst 1, 1) := by decide +kernel
theorem dX12_closes_42 : decode cX12_closes 42 = .ok (.isub, 1) := by decide +kernel
theorem dX12_closes_43 : decode cX12_closes 43 = .ok (.putfield 262, 3) := by decide +kernel
theorem dX12_closes_46 : decode cX12_closes 46 = .ok (.iload_n 1, 1) := by decide +kernel
theorem dX12_closes_47 : decode cX12_closes 47 = .ok (.bipush 100, 2) := by decide +kernel
theorem dX12_closes_49 : decode cX12_closes 49 = .ok (.if_icmp .lt 21, 3) := by decide +kernel
theorem dX12_closes_52 : decode cX12_closes 52 = .ok (.aload_n 0, 1) := by decide +kernel
theorem dX12_closes_53 : decode cX12_closes 53 = .ok (.bipush 100, 2) := by decide +kernel
theorem dX12_closes_55 : decode cX12_closes 55 = .ok (.aload_n 0, 1) := by decide +kernel
theorem dX12_closes_56 : decode cX12_closes 56 = .ok (.getfield 75, 3) := by decide +kernel
theorem dX12_closes_59 : decode cX12_closes 59 = .ok (.aload_n 0, 1) := by decide +kernel
theorem dX12_closes_60 : decode cX12_closes 60 = .ok (.getfield 250, 3) := by decide +kernel
theorem dX12_closes_63 : decode cX12_closes 63 = .ok (.iaload, 1) := by decide +kernel
theorem dX12_closes_64 : decode cX12_closes 64 = .ok (.imul, 1) := by decide +kernel
theorem dX12_closes_65 : decode cX12_closes 65 = .ok (.iload_n 1, 1) := by decide +kernel
theorem dX12_closes_66 : decode cX12_closes 66 = .ok (.iadd, 1) := by decide +kernel
theorem dX12_closes_67 : decode cX12_closes 67 = .ok (.invokevirtual 253, 3) := by decide +kernel
theorem dX12_closes_70 : decode cX12_closes 70 = .ok (.aload_n 0, 1) := by decide +kernel
theorem dX12_closes_71 : decode cX12_closes 71 = .ok (.aload_n 0, 1) := by decide +kernel
theorem dX12_closes_72 : decode cX12_closes 72 = .ok (.getfield 131, 3) := by decide +kernel
theorem dX12_closes_75 : decode cX12_closes 75 = .ok (.iconst 1, 1) := by decide +kernel
theorem dX12_closes_76 : decode cX12_closes 76 = .ok (.iadd, 1) := by decide +kernel
theorem dX12_closes_77 : decode cX12_closes 77 = .ok (.putfield 131, 3) := by decide +kernel
theorem dX12_closes_80 : decode cX12_closes 80 = .ok (.aload_n 0, 1) := by decide +kernel
theorem dX12_closes_81 : decode cX12_closes 81 = .ok (.invokevirtual 272, 3) := by decide +kernel
theorem dX12_closes_84 : decode cX12_closes 84 = .ok (.iconst 1, 1) := by decide +kernel
theorem dX12_closes_85 : decode cX12_closes 85 = .ok (.ireturn, 1) := by decide +kernel
def FX12_closes (hp : HP) (p0 : Nat) : Option (Int32 × HP) := (rc [12] hp p0 (FX12_laysTo hp p0 (32 : Int32))).bind (fun w1 => (rc [12] w1 p0 (FX12_lastSign w1 p0)).bind (fun v2 => if v2 = (-1 : Int32) then (gI [12] 15 w1 p0).bind (fun v3 => (rc [12] w1 p0 (FX12_wrongAt w1 p0 (1 : Int32) v3)).bind (fun w4 => bz w4.1 (some (w4.1, w4.2)))) else (gI [12] 41 w1 p0).bind (fun v5 => (sI [12] 41 w1 p0 (v5 - (1 : Int32))).bind (fun hp6 => (gI [12] 42 hp6 p0).bind (fun v7 => (sI [12] 42 hp6 p0 (v7 - (1 : Int32))).bind (fun hp8 => jn (A := HP) (fun a9 => (gI [12] 15 a9 p0).bind (fun v11 => (sI [12] 15 a9 p0 (v11 + (1 : Int32))).bind (fun hp12 => (rc [12] hp12 p0 (FX12_endsTruth hp12 p0)).bind (fun w13 => some ((1 : Int32), w13))))) (fun J10 => if v2 < (100 : Int32) then J10 hp8 else (gR [12] 39 hp8 p0).bind (fun v14 => (gI [12] 41 hp8 p0).bind (fun v15 => (rdN 0 hp8 v14 v15).bind (fun v16 => (rc [12] hp8 p0 (FX12_lays hp8 p0 (((100 : Int32) * v16) + v2))).bind (fun w17 => J10 w17)))))))))))
set_option maxHeartbeats 4000000 in
set_option maxRecDepth 100000 in
theorem ctX12_closes (l : Launch) (D : va_G) (tg : Nat → ClassId) (bs : Nat) (sa : Nat → Nat) (hp : HP) (p0 : Nat) : Ct l D tg bs sa yX12_closes cX12_closes 2 (some .boolean) 3 [.ref p0] hp (FX12_closes hp p0) (fun r => some (.int r.1)) (fun r => r.2) := by
  refine Ct.of (by decide) (Nat.le_of_ble_eq_true rfl) ?_
  intro V Q hVl hVd hVt hVb hVs hC
  subst hVl; subst hVd; subst hVt; subst hVb; subst hVs
  unfold FX12_closes
  show Zs V Q (0, 0) 2 _ _ hp [(0, .ref p0)] 0 []
  refine z_aload_n hC 0 dX12_closes_0 rfl rfl ?_
  refine z_bipush hC (32 : Int32) dX12_closes_1 (by decide) ?_
  refine z_callVv hC (ci := 12) rfl lmRX12_281 (ctX12_laysTo (vLa V) (vDa V) (vTg V) (vBs V) (vSa V) hp p0 (32 : Int32)) (by decide) hn0 dX12_closes_3 rfl rfl (Nat.le_of_ble_eq_true rfl) (fun w1 => ?_)
  refine z_aload_n hC 0 dX12_closes_6 rfl rfl ?_
  refine z_callVi hC (ci := 12) rfl lmRX12_256 (ctX12_lastSign (vLa V) (vDa V) (vTg V) (vBs V) (vSa V) w1 p0) (by decide) hn0 dX12_closes_7 rfl rfl (Nat.le_of_ble_eq_true rfl) (fun v2 => ?_)
  refine z_istore_n hC [(0, .ref p0), (1, .int v2)] [1, 0] dX12_closes_10 rfl (by decide) rfl ?_
  refine z_iload_n hC 1 dX12_closes_11 rfl rfl ?_
  refine z_iconst hC (-1 : Int32) dX12_closes_12 (by decide) ?_
  refine z_icmp_ne hC 26 dX12_closes_13 (by decide) (fun _ => ?_) (fun _ => ?_)
  · refine z_aload_n hC 0 dX12_closes_16 rfl rfl ?_
    refine z_iconst hC (1 : Int32) dX12_closes_17 (by decide) ?_
    refine z_aload_n hC 0 dX12_closes_18 rfl rfl ?_
    refine z_getI hC lgRX12_131 dX12_closes_19 (fun v3 => ?_)
    refine z_callVi hC (ci := 12) rfl lmRX12_144 (ctX12_wrongAt (vLa V) (vDa V) (vTg V) (vBs V) (vSa V) w1 p0 (1 : Int32) v3) (by decide) hn0 dX12_closes_22 rfl rfl (Nat.le_of_ble_eq_true rfl) (fun w4 => ?_)
    exact z_bz (fun hv => z_zret hC hv (fun h => h) dX12_closes_25)
  · refine z_aload_n hC 0 dX12_closes_26 rfl rfl ?_
    refine z_aload_n hC 0 dX12_closes_27 rfl rfl ?_
    refine z_getI hC lgRX12_250 dX12_closes_28 (fun v5 => ?_)
    refine z_iconst hC (1 : Int32) dX12_closes_31 (by decide) ?_
    refine z_isub hC dX12_closes_32 ?_
    refine z_putI hC lpRX12_250 dX12_closes_33 (fun hp6 => ?_)
    refine z_aload_n hC 0 dX12_closes_36 rfl rfl ?_
    refine z_aload_n hC 0 dX12_closes_37 rfl rfl ?_
    refine z_getI hC lgRX12_262 dX12_closes_38 (fun v7 => ?_)
    refine z_iconst hC (1 : Int32) dX12_closes_41 (by decide) ?_
    refine z_isub hC dX12_closes_42 ?_
    refine z_putI hC lpRX12_262 dX12_closes_43 (fun hp8 => ?_)
    refine z_iload_n hC 1 dX12_closes_46 rfl rfl ?_
    refine z_bipush hC (100 : Int32) dX12_closes_47 (by decide) ?_
    refine z_jn (A := HP) (fun a9 => a9) (fun a9 => [(0, .ref p0)]) 70 (fun a9 => []) (fun a9 => ?_) (fun J10 hJ10 => ?_)
    · refine z_aload_n hC 0 dX12_closes_70 rfl rfl ?_
      refine z_aload_n hC 0 dX12_closes_71 rfl rfl ?_
      refine z_getI hC lgRX12_131 dX12_closes_72 (fun v11 => ?_)
      refine z_iconst hC (1 : Int32) dX12_closes_75 (by decide) ?_
      refine z_iadd hC dX12_closes_76 ?_
      refine z_putI hC lpRX12_131 dX12_closes_77 (fun hp12 => ?_)
      refine z_aload_n hC 0 dX12_closes_80 rfl rfl ?_
      refine z_callVv hC (ci := 12) rfl lmRX12_272 (ctX12_endsTruth (vLa V) (vDa V) (vTg V) (vBs V) (vSa V) hp12 p0) (by decide) hn0 dX12_closes_81 rfl rfl (Nat.le_of_ble_eq_true rfl) (fun w13 => ?_)
      refine z_iconst hC (1 : Int32) dX12_closes_84 (by decide) ?_
      exact z_zret hC (by decide) (fun h => h) dX12_closes_85
    · refine z_icmp_lt hC 70 dX12_closes_49 (by decide) (fun _ => ?_) (fun _ => ?_)
      · refine z_weak [(0, .ref p0)] [0] rfl ?_
        exact hJ10 hp8
      · refine z_aload_n hC 0 dX12_closes_52 rfl rfl ?_
        refine z_bipush hC (100 : Int32) dX12_closes_53 (by decide) ?_
        refine z_aload_n hC 0 dX12_closes_55 rfl rfl ?_
        refine z_getR hC lgRX12_75 dX12_closes_56 (fun v14 => ?_)
        refine z_aload_n hC 0 dX12_closes_59 rfl rfl ?_
        refine z_getI hC lgRX12_250 dX12_closes_60 (fun v15 => ?_)
        refine z_iald hC dX12_closes_63 (fun v16 => ?_)
        refine z_imul hC dX12_closes_64 ?_
        refine z_iload_n hC 1 dX12_closes_65 rfl rfl ?_
        refine z_iadd hC dX12_closes_66 ?_
        refine z_callVv hC (ci := 12) rfl lmRX12_253 (ctX12_lays (vLa V) (vDa V) (vTg V) (vBs V) (vSa V) hp8 p0 (((100 : Int32) * v16) + v2)) (by decide) hn0 dX12_closes_67 rfl rfl (Nat.le_of_ble_eq_true rfl) (fun w17 => ?_)
        refine z_weak [(0, .ref p0)] [0] rfl ?_
        exact hJ10 w17

theorem dX12_goesOn_0 : decode cX12_goesOn 0 = .ok (.aload_n 0, 1) := by decide +kernel
theorem dX12_goesOn_1 : decode cX12_goesOn 1 = .ok (.bipush 32, 2) := by decide +kernel
theorem dX12_goesOn_3 : decode cX12_goesOn 3 = .ok (.invokevirtual 281, 3) := by decide +kernel
theorem dX12_goesOn_6 : decode cX12_goesOn 6 = .ok (.aload_n 0, 1) := by decide +kernel
theorem dX12_goesOn_7 : decode cX12_goesOn 7 = .ok (.invokevirtual 256, 3) := by decide +kernel
theorem dX12_goesOn_10 : decode cX12_goesOn 10 = .ok (.bipush 100, 2) := by decide +kernel
theorem dX12_goesOn_12 : decode cX12_goesOn 12 = .ok (.if_icmp .ge 13, 3) := by decide +kernel
theorem dX12_goesOn_15 : decode cX12_goesOn 15 = .ok (.aload_n 0, 1) := by decide +kernel
theorem dX12_goesOn_16 : decode cX12_goesOn 16 = .ok (.iconst 1, 1) := by decide +kernel
theorem dX12_goesOn_17 : decode cX12_goesOn 17 = .ok (.aload_n 0, 1) := by decide +kernel
theorem dX12_goesOn_18 : decode cX12_goesOn 18 = .ok (.getfield 131, 3) := by decide +kernel
theorem dX12_goesOn_21 : decode cX12_goesOn 21 = .ok (.invokevirtual 144, 3) := by decide +kernel
theorem dX12_goesOn_24 : decode cX12_goesOn 24 = .ok (.ireturn, 1) := by decide +kernel
theorem dX12_goesOn_25 : decode cX12_goesOn 25 = .ok (.aload_n 0, 1) := by decide +kernel
theorem dX12_goesOn_26 : decode cX12_goesOn 26 = .ok (.getfield 75, 3) := by decide +kernel
theorem dX12_goesOn_29 : decode cX12_goesOn 29 = .ok (.aload_n 0, 1) := by decide +kernel
theorem dX12_goesOn_30 : decode cX12_goesOn 30 = .ok (.getfield 250, 3) := by decide +kernel
theorem dX12_goesOn_33 : decode cX12_goesOn 33 = .ok (.iconst 1, 1) := by decide +kernel
theorem dX12_goesOn_34 : decode cX12_goesOn 34 = .ok (.isub, 1) := by decide +kernel
theorem dX12_goesOn_35 : decode cX12_goesOn 35 = .ok (.aload_n 0, 1) := by decide +kernel
theorem dX12_goesOn_36 : decode cX12_goesOn 36 = .ok (.getfield 75, 3) := by decide +kernel
theorem dX12_goesOn_39 : decode cX12_goesOn 39 = .ok (.aload_n 0, 1) := by decide +kernel
theorem dX12_goesOn_40 : decode cX12_goesOn 40 = .ok (.getfield 250, 3) := by decide +kernel
theorem dX12_goesOn_43 : decode cX12_goesOn 43 = .ok (.iconst 1, 1) := by decide +kernel
theorem dX12_goesOn_44 : decode cX12_goesOn 44 = .ok (.isub, 1) := by decide +kernel
theorem dX12_goesOn_45 : decode cX12_goesOn 45 = .ok (.iaload, 1) := by decide +kernel
theorem dX12_goesOn_46 : decode cX12_goesOn 46 = .ok (.iconst 1, 1) := by decide +kernel
theorem dX12_goesOn_47 : decode cX12_goesOn 47 = .ok (.iadd, 1) := by decide +kernel
theorem dX12_goesOn_48 : decode cX12_goesOn 48 = .ok (.iastore, 1) := by decide +kernel
theorem dX12_goesOn_49 : decode cX12_goesOn 49 = .ok (.aload_n 0, 1) := by decide +kernel
theorem dX12_goesOn_50 : decode cX12_goesOn 50 = .ok (.aload_n 0, 1) := by decide +kernel
theorem dX12_goesOn_51 : decode cX12_goesOn 51 = .ok (.getfield 131, 3) := by decide +kernel
theorem dX12_goesOn_54 : decode cX12_goesOn 54 = .ok (.iconst 1, 1) := by decide +kernel
theorem dX12_goesOn_55 : decode cX12_goesOn 55 = .ok (.iadd, 1) := by decide +kernel
theorem dX12_goesOn_56 : decode cX12_goesOn 56 = .ok (.putfield 131, 3) := by decide +kernel
theorem dX12_goesOn_59 : decode cX12_goesOn 59 = .ok (.aload_n 0, 1) := by decide +kernel
theorem dX12_goesOn_60 : decode cX12_goesOn 60 = .ok (.iconst 1, 1) := by decide +kernel
theorem dX12_goesOn_61 : decode cX12_goesOn 61 = .ok (.putfield 265, 3) := by decide +kernel
theorem dX12_goesOn_64 : decode cX12_goesOn 64 = .ok (.iconst 1, 1) := by decide +kernel
theorem dX12_goesOn_65 : decode cX12_goesOn 65 = .ok (.ireturn, 1) := by decide +kernel
def FX12_goesOn (hp : HP) (p0 : Nat) : Option (Int32 × HP) := (rc [12] hp p0 (FX12_laysTo hp p0 (32 : Int32))).bind (fun w1 => (rc [12] w1 p0 (FX12_lastSign w1 p0)).bind (fun v2 => if (100 : Int32) ≤ v2 then (gR [12] 39 w1 p0).bind (fun v3 => (gI [12] 41 w1 p0).bind (fun v4 => (gR [12] 39 w1 p0).bind (fun v5 => (gI [12] 41 w1 p0).bind (fun v6 => (rdN 0 w1 v5 (v6 - (1 : Int32))).bind (fun v7 => (wrI w1 v3 (v4 - (1 : Int32)) (v7 + (1 : Int32))).bind (fun hp8 => (gI [12] 15 hp8 p0).bind (fun v9 => (sI [12] 15 hp8 p0 (v9 + (1 : Int32))).bind (fun hp10 => (sZ [12] 43 hp10 p0 (1 : Int32)).bind (fun hp11 => some ((1 : Int32), hp11)))))))))) else (gI [12] 15 w1 p0).bind (fun v12 => (rc [12] w1 p0 (FX12_wrongAt w1 p0 (1 : Int32) v12)).bind (fun w13 => bz w13.1 (some (w13.1, w13.2))))))
set_option maxHeartbeats 4000000 in
set_option maxRecDepth 100000 in
theorem ctX12_goesOn (l : Launch) (D : va_G) (tg : Nat → ClassId) (bs : Nat) (sa : Nat → Nat) (hp : HP) (p0 : Nat) : Ct l D tg bs sa yX12_goesOn cX12_goesOn 1 (some .boolean) 3 [.ref p0] hp (FX12_goesOn hp p0) (fun r => some (.int r.1)) (fun r => r.2) := by
  refine Ct.of (by decide) (Nat.le_of_ble_eq_true rfl) ?_
  intro V Q hVl hVd hVt hVb hVs hC
  subst hVl; subst hVd; subst hVt; subst hVb; subst hVs
  unfold FX12_goesOn
  show Zs V Q (0, 0) 1 _ _ hp [(0, .ref p0)] 0 []
  refine z_aload_n hC 0 dX12_goesOn_0 rfl rfl ?_
  refine z_bipush hC (32 : Int32) dX12_goesOn_1 (by decide) ?_
  refine z_callVv hC (ci := 12) rfl lmRX12_281 (ctX12_laysTo (vLa V) (vDa V) (vTg V) (vBs V) (vSa V) hp p0 (32 : Int32)) (by decide) hn0 dX12_goesOn_3 rfl rfl (Nat.le_of_ble_eq_true rfl) (fun w1 => ?_)
  refine z_aload_n hC 0 dX12_goesOn_6 rfl rfl ?_
  refine z_callVi hC (ci := 12) rfl lmRX12_256 (ctX12_lastSign (vLa V) (vDa V) (vTg V) (vBs V) (vSa V) w1 p0) (by decide) hn0 dX12_goesOn_7 rfl rfl (Nat.le_of_ble_eq_true rfl) (fun v2 => ?_)
  refine z_bipush hC (100 : Int32) dX12_goesOn_10 (by decide) ?_
  refine z_icmp_ge hC 25 dX12_goesOn_12 (by decide) (fun _ => ?_) (fun _ => ?_)
  · refine z_aload_n hC 0 dX12_goesOn_25 rfl rfl ?_
    refine z_getR hC lgRX12_75 dX12_goesOn_26 (fun v3 => ?_)
    refine z_aload_n hC 0 dX12_goesOn_29 rfl rfl ?_
    refine z_getI hC lgRX12_250 dX12_goesOn_30 (fun v4 => ?_)
    refine z_iconst hC (1 : Int32) dX12_goesOn_33 (by decide) ?_
    refine z_isub hC dX12_goesOn_34 ?_
    refine z_aload_n hC 0 dX12_goesOn_35 rfl rfl ?_
    refine z_getR hC lgRX12_75 dX12_goesOn_36 (fun v5 => ?_)
    refine z_aload_n hC 0 dX12_goesOn_39 rfl rfl ?_
    refine z_getI hC lgRX12_250 dX12_goesOn_40 (fun v6 => ?_)
    refine z_iconst hC (1 : Int32) dX12_goesOn_43 (by decide) ?_
    refine z_isub hC dX12_goesOn_44 ?_
    refine z_iald hC dX12_goesOn_45 (fun v7 => ?_)
    refine z_iconst hC (1 : Int32) dX12_goesOn_46 (by decide) ?_
    refine z_iadd hC dX12_goesOn_47 ?_
    refine z_iast hC dX12_goesOn_48 (fun hp8 => ?_)
    refine z_aload_n hC 0 dX12_goesOn_49 rfl rfl ?_
    refine z_aload_n hC 0 dX12_goesOn_50 rfl rfl ?_
    refine z_getI hC lgRX12_131 dX12_goesOn_51 (fun v9 => ?_)
    refine z_iconst hC (1 : Int32) dX12_goesOn_54 (by decide) ?_
    refine z_iadd hC dX12_goesOn_55 ?_
    refine z_putI hC lpRX12_131 dX12_goesOn_56 (fun hp10 => ?_)
    refine z_aload_n hC 0 dX12_goesOn_59 rfl rfl ?_
    refine z_iconst hC (1 : Int32) dX12_goesOn_60 (by decide) ?_
    refine z_putZ hC lpRX12_265 dX12_goesOn_61 (fun hp11 => ?_)
    refine z_iconst hC (1 : Int32) dX12_goesOn_64 (by decide) ?_
    exact z_zret hC (by decide) (fun h => h) dX12_goesOn_65
  · refine z_aload_n hC 0 dX12_goesOn_15 rfl rfl ?_
    refine z_iconst hC (1 : Int32) dX12_goesOn_16 (by decide) ?_
    refine z_aload_n hC 0 dX12_goesOn_17 rfl rfl ?_
    refine z_getI hC lgRX12_131 dX12_goesOn_18 (fun v12 => ?_)
    refine z_callVi hC (ci := 12) rfl lmRX12_144 (ctX12_wrongAt (vLa V) (vDa V) (vTg V) (vBs V) (vSa V) w1 p0 (1 : Int32) v12) (by decide) hn0 dX12_goesOn_21 rfl rfl (Nat.le_of_ble_eq_true rfl) (fun w13 => ?_)
    exact z_bz (fun hv => z_zret hC hv (fun h => h) dX12_goesOn_24)

theorem dX12_readsSign_0 : decode cX12_readsSign 0 = .ok (.aload_n 0, 1) := by decide +kernel
theorem dX12_readsSign_1 : decode cX12_readsSign 1 = .ok (.invokevirtual 137, 3) := by decide +kernel
theorem dX12_readsSign_4 : decode cX12_readsSign 4 = .ok (.istore_n 1, 1) := by decide +kernel
theorem dX12_readsSign_5 : decode cX12_readsSign 5 = .ok (.iload_n 1, 1) := by decide +kernel
theorem dX12_readsSign_6 : decode cX12_readsSign 6 = .ok (.bipush 41, 2) := by decide +kernel
theorem dX12_readsSign_8 : decode cX12_readsSign 8 = .ok (.if_icmp .ne 8, 3) := by decide +kernel
theorem dX12_readsSign_11 : decode cX12_readsSign 11 = .ok (.aload_n 0, 1) := by decide +kernel
theorem dX12_readsSign_12 : decode cX12_readsSign 12 = .ok (.invokevirtual 284, 3) := by decide +kernel
theorem dX12_readsSign_15 : decode cX12_readsSign 15 = .ok (.ireturn, 1) := by decide +kernel
theorem dX12_readsSign_16 : decode cX12_readsSign 16 = .ok (.iload_n 1, 1) := by decide +kernel
theorem dX12_readsSign_17 : decode cX12_readsSign 17 = .ok (.bipush 44, 2) := by decide +kernel
theorem dX12_readsSign_19 : decode cX12_readsSign 19 = .ok (.if_icmp .ne 8, 3) := by decide +kernel
theorem dX12_readsSign_22 : decode cX12_readsSign 22 = .ok (.aload_n 0, 1) := by decide +kernel
theorem dX12_readsSign_23 : decode cX12_readsSign 23 = .ok (.invokevirtual 287, 3) := by decide +kernel
theorem dX12_readsSign_26 : decode cX12_readsSign 26 = .ok (.ireturn, 1) := by decide +kernel
theorem dX12_readsSign_27 : decode cX12_readsSign 27 = .ok (.iload_n 1, 1) := by decide +kernel
theorem dX12_readsSign_28 : decode cX12_readsSign 28 = .ok (.bipush 38, 2) := by decide +kernel
theorem dX12_readsSign_30 : decode cX12_readsSign 30 = .ok (.if_icmp .ne 8, 3) := by decide +kernel
theorem dX12_readsSign_33 : decode cX12_readsSign 33 = .ok (.bipush 30, 2) := by decide +kernel
theorem dX12_readsSign_35 : decode cX12_readsSign 35 = .ok (.goto 26, 3) := by decide +kernel
theorem dX12_readsSign_38 : decode cX12_readsSign 38 = .ok (.iload_n 1, 1) := by decide +kernel
theorem dX12_readsSign_39 : decode cX12_readsSign 39 = .ok (.bipush 94, 2) := by decide +kernel
theorem dX12_readsSign_41 : decode cX12_readsSign 41 = .ok (.if_icmp .ne 8, 3) := by decide +kernel
theorem dX12_readsSign_44 : decode cX12_readsSign 44 = .ok (.bipush 31, 2) := by decide +kernel
theorem dX12_readsSign_46 : decode cX12_readsSign 46 = .ok (.goto 15, 3) := by decide +kernel
theorem dX12_readsSign_49 : decode cX12_readsSign 49 = .ok (.iload_n 1, 1) := by decide +kernel
theorem dX12_readsSign_50 : decode cX12_readsSign 50 = .ok (.bipush 124, 2) := by decide +kernel
theorem dX12_readsSign_52 : decode cX12_readsSign 52 = .ok (.if_icmp .ne 8, 3) := by decide +kernel
theorem dX12_readsSign_55 : decode cX12_readsSign 55 = .ok (.bipush 32, 2) := by decide +kernel
theorem dX12_readsSign_57 : decode cX12_readsSign 57 = .ok (.goto 4, 3) := by decide +kernel
theorem dX12_readsSign_60 : decode cX12_readsSign 60 = .ok (.iconst (-1), 1) := by decide +kernel
theorem dX12_readsSign_61 : decode cX12_readsSign 61 = .ok (.istore_n 2, 1) := by decide +kernel
theorem dX12_readsSign_62 : decode cX12_readsSign 62 = .ok (.iload_n 2, 1) := by decide +kernel
theorem dX12_readsSign_63 : decode cX12_readsSign 63 = .ok (.iconst (-1), 1) := by decide +kernel
theorem dX12_readsSign_64 : decode cX12_readsSign 64 = .ok (.if_icmp .ne 13, 3) := by decide +kernel
theorem dX12_readsSign_67 : decode cX12_readsSign 67 = .ok (.aload_n 0, 1) := by decide +kernel
theorem dX12_readsSign_68 : decode cX12_readsSign 68 = .ok (.iconst 1, 1) := by decide +kernel
theorem dX12_readsSign_69 : decode cX12_readsSign 69 = .ok (.aload_n 0, 1) := by decide +kernel
theorem dX12_readsSign_70 : decode cX12_readsSign 70 = .ok (.getfield 131, 3) := by decide +kernel
theorem dX12_readsSign_73 : decode cX12_readsSign 73 = .ok (.invokevirtual 144, 3) := by decide +kernel
theorem dX12_readsSign_76 : decode cX12_readsSign 76 = .ok (.ireturn, 1) := by decide +kernel
theorem dX12_readsSign_77 : decode cX12_readsSign 77 = .ok (.aload_n 0, 1) := by decide +kernel
theorem dX12_readsSign_78 : decode cX12_readsSign 78 = .ok (.iload_n 2, 1) := by decide +kernel
theorem dX12_readsSign_79 : decode cX12_readsSign 79 = .ok (.invokevirtual 281, 3) := by decide +kernel
theorem dX12_readsSign_82 : decode cX12_readsSign 82 = .ok (.aload_n 0, 1) := by decide +kernel
theorem dX12_readsSign_83 : decode cX12_readsSign 83 = .ok (.iload_n 2, 1) := by decide +kernel
theorem dX12_readsSign_84 : decode cX12_readsSign 84 = .ok (.invokevirtual 278, 3) := by decide +kernel
theorem dX12_readsSign_87 : decode cX12_readsSign 87 = .ok (.aload_n 0, 1) := by decide +kernel
theorem dX12_readsSign_88 : decode cX12_readsSign 88 = .ok (.aload_n 0, 1) := by decide +kernel
theorem dX12_readsSign_89 : decode cX12_readsSign 89 = .ok (.getfield 131, 3) := by decide +kernel
theorem dX12_readsSign_92 : decode cX12_readsSign 92 = .ok (.iconst 1, 1) := by decide +kernel
theorem dX12_readsSign_93 : decode cX12_readsSign 93 = .ok (.iadd, 1) := by decide +kernel
theorem dX12_readsSign_94 : decode cX12_readsSign 94 = .ok (.putfield 131, 3) := by decide +kernel
theorem dX12_readsSign_97 : decode cX12_readsSign 97 = .ok (.aload_n 0, 1) := by decide +kernel
theorem dX12_readsSign_98 : decode cX12_readsSign 98 = .ok (.iconst 1, 1) := by decide +kernel
theorem dX12_readsSign_99 : decode cX12_readsSign 99 = .ok (.putfield 265, 3) := by decide +kernel
theorem dX12_readsSign_102 : decode cX12_readsSign 102 = .ok (.iconst 1, 1) := by decide +kernel
theorem dX12_readsSign_103 : decode cX12_readsSign 103 = .ok (.ireturn, 1) := by decide +kernel
def FX12_readsSign (hp : HP) (p0 : Nat) : Option (Int32 × HP) := (rc [12] hp p0 (FX12_here hp p0)).bind (fun v1 => if v1 = (41 : Int32) then (rc [12] hp p0 (FX12_closes hp p0)).bind (fun w2 => bz w2.1 (some (w2.1, w2.2))) else if v1 = (44 : Int32) then (rc [12] hp p0 (FX12_goesOn hp p0)).bind (fun w3 => bz w3.1 (some (w3.1, w3.2))) else jn (A := Int32) (fun a4 => if a4 = (-1 : Int32) then (gI [12] 15 hp p0).bind (fun v6 => (rc [12] hp p0 (FX12_wrongAt hp p0 (1 : Int32) v6)).bind (fun w7 => bz w7.1 (some (w7.1, w7.2)))) else (rc [12] hp p0 (FX12_laysTo hp p0 a4)).bind (fun w8 => (rc [12] w8 p0 (FX12_waitsFor w8 p0 a4)).bind (fun w9 => (gI [12] 15 w9 p0).bind (fun v10 => (sI [12] 15 w9 p0 (v10 + (1 : Int32))).bind (fun hp11 => (sZ [12] 43 hp11 p0 (1 : Int32)).bind (fun hp12 => some ((1 : Int32), hp12))))))) (fun J5 => if v1 = (38 : Int32) then J5 (30 : Int32) else if v1 = (94 : Int32) then J5 (31 : Int32) else if v1 = (124 : Int32) then J5 (32 : Int32) else J5 (-1 : Int32)))
set_option maxHeartbeats 4000000 in
set_option maxRecDepth 100000 in
theorem ctX12_readsSign (l : Launch) (D : va_G) (tg : Nat → ClassId) (bs : Nat) (sa : Nat → Nat) (hp : HP) (p0 : Nat) : Ct l D tg bs sa yX12_readsSign cX12_readsSign 3 (some .boolean) 4 [.ref p0] hp (FX12_readsSign hp p0) (fun r => some (.int r.1)) (fun r => r.2) := by
  refine Ct.of (by decide) (Nat.le_of_ble_eq_true rfl) ?_
  intro V Q hVl hVd hVt hVb hVs hC
  subst hVl; subst hVd; subst hVt; subst hVb; subst hVs
  unfold FX12_readsSign
  show Zs V Q (0, 0) 3 _ _ hp [(0, .ref p0)] 0 []
  refine z_aload_n hC 0 dX12_readsSign_0 rfl rfl ?_
  refine z_callVi hC (ci := 12) rfl lmRX12_137 (ctX12_here (vLa V) (vDa V) (vTg V) (vBs V) (vSa V) hp p0) (by decide) hn0 dX12_readsSign_1 rfl rfl (Nat.le_of_ble_eq_true rfl) (fun v1 => ?_)
  refine z_istore_n hC [(0, .ref p0), (1, .int v1)] [1, 0] dX12_readsSign_4 rfl (by decide) rfl ?_
  refine z_iload_n hC 1 dX12_readsSign_5 rfl rfl ?_
  refine z_bipush hC (41 : Int32) dX12_readsSign_6 (by decide) ?_
  refine z_icmp_ne hC 16 dX12_readsSign_8 (by decide) (fun _ => ?_) (fun _ => ?_)
  · refine z_aload_n hC 0 dX12_readsSign_11 rfl rfl ?_
    refine z_callVi hC (ci := 12) rfl lmRX12_284 (ctX12_closes (vLa V) (vDa V) (vTg V) (vBs V) (vSa V) hp p0) (by decide) hn0 dX12_readsSign_12 rfl rfl (Nat.le_of_ble_eq_true rfl) (fun w2 => ?_)
    exact z_bz (fun hv => z_zret hC hv (fun h => h) dX12_readsSign_15)
  · refine z_iload_n hC 1 dX12_readsSign_16 rfl rfl ?_
    refine z_bipush hC (44 : Int32) dX12_readsSign_17 (by decide) ?_
    refine z_icmp_ne hC 27 dX12_readsSign_19 (by decide) (fun _ => ?_) (fun _ => ?_)
    · refine z_aload_n hC 0 dX12_readsSign_22 rfl rfl ?_
      refine z_callVi hC (ci := 12) rfl lmRX12_287 (ctX12_goesOn (vLa V) (vDa V) (vTg V) (vBs V) (vSa V) hp p0) (by decide) hn0 dX12_readsSign_23 rfl rfl (Nat.le_of_ble_eq_true rfl) (fun w3 => ?_)
      exact z_bz (fun hv => z_zret hC hv (fun h => h) dX12_readsSign_26)
    · refine z_iload_n hC 1 dX12_readsSign_27 rfl rfl ?_
      refine z_bipush hC (38 : Int32) dX12_readsSign_28 (by decide) ?_
      refine z_jn (A := Int32) (fun a4 => hp) (fun a4 => [(0, .ref p0)]) 61 (fun a4 => [.int a4]) (fun a4 => ?_) (fun J5 hJ5 => ?_)
      · refine z_istore_n hC [(0, .ref p0), (2, .int a4)] [1, 0] dX12_readsSign_61 rfl (by decide) rfl ?_
        refine z_iload_n hC 1 dX12_readsSign_62 rfl rfl ?_
        refine z_iconst hC (-1 : Int32) dX12_readsSign_63 (by decide) ?_
        refine z_icmp_ne hC 77 dX12_readsSign_64 (by decide) (fun _ => ?_) (fun _ => ?_)
        · refine z_aload_n hC 0 dX12_readsSign_67 rfl rfl ?_
          refine z_iconst hC (1 : Int32) dX12_readsSign_68 (by decide) ?_
          refine z_aload_n hC 0 dX12_readsSign_69 rfl rfl ?_
          refine z_getI hC lgRX12_131 dX12_readsSign_70 (fun v6 => ?_)
          refine z_callVi hC (ci := 12) rfl lmRX12_144 (ctX12_wrongAt (vLa V) (vDa V) (vTg V) (vBs V) (vSa V) hp p0 (1 : Int32) v6) (by decide) hn0 dX12_readsSign_73 rfl rfl (Nat.le_of_ble_eq_true rfl) (fun w7 => ?_)
          exact z_bz (fun hv => z_zret hC hv (fun h => h) dX12_readsSign_76)
        · refine z_aload_n hC 0 dX12_readsSign_77 rfl rfl ?_
          refine z_iload_n hC 1 dX12_readsSign_78 rfl rfl ?_
          refine z_callVv hC (ci := 12) rfl lmRX12_281 (ctX12_laysTo (vLa V) (vDa V) (vTg V) (vBs V) (vSa V) hp p0 a4) (by decide) hn0 dX12_readsSign_79 rfl rfl (Nat.le_of_ble_eq_true rfl) (fun w8 => ?_)
          refine z_aload_n hC 0 dX12_readsSign_82 rfl rfl ?_
          refine z_iload_n hC 1 dX12_readsSign_83 rfl rfl ?_
          refine z_callVv hC (ci := 12) rfl lmRX12_278 (ctX12_waitsFor (vLa V) (vDa V) (vTg V) (vBs V) (vSa V) w8 p0 a4) (by decide) hn0 dX12_readsSign_84 rfl rfl (Nat.le_of_ble_eq_true rfl) (fun w9 => ?_)
          refine z_aload_n hC 0 dX12_readsSign_87 rfl rfl ?_
          refine z_aload_n hC 0 dX12_readsSign_88 rfl rfl ?_
          refine z_getI hC lgRX12_131 dX12_readsSign_89 (fun v10 => ?_)
          refine z_iconst hC (1 : Int32) dX12_readsSign_92 (by decide) ?_
          refine z_iadd hC dX12_readsSign_93 ?_
          refine z_putI hC lpRX12_131 dX12_readsSign_94 (fun hp11 => ?_)
          refine z_aload_n hC 0 dX12_readsSign_97 rfl rfl ?_
          refine z_iconst hC (1 : Int32) dX12_readsSign_98 (by decide) ?_
          refine z_putZ hC lpRX12_265 dX12_readsSign_99 (fun hp12 => ?_)
          refine z_iconst hC (1 : Int32) dX12_readsSign_102 (by decide) ?_
          exact z_zret hC (by decide) (fun h => h) dX12_readsSign_103
      · refine z_icmp_ne hC 38 dX12_readsSign_30 (by decide) (fun _ => ?_) (fun _ => ?_)
        · refine z_bipush hC (30 : Int32) dX12_readsSign_33 (by decide) ?_
          refine z_goto hC 61 dX12_readsSign_35 (by decide) ?_
          refine z_weak [(0, .ref p0)] [0] rfl ?_
          exact hJ5 (30 : Int32)
        · refine z_iload_n hC 1 dX12_readsSign_38 rfl rfl ?_
          refine z_bipush hC (94 : Int32) dX12_readsSign_39 (by decide) ?_
          refine z_icmp_ne hC 49 dX12_readsSign_41 (by decide) (fun _ => ?_) (fun _ => ?_)
          · refine z_bipush hC (31 : Int32) dX12_readsSign_44 (by decide) ?_
            refine z_goto hC 61 dX12_readsSign_46 (by decide) ?_
            refine z_weak [(0, .ref p0)] [0] rfl ?_
            exact hJ5 (31 : Int32)
          · refine z_iload_n hC 1 dX12_readsSign_49 rfl rfl ?_
            refine z_bipush hC (124 : Int32) dX12_readsSign_50 (by decide) ?_
            refine z_icmp_ne hC 60 dX12_readsSign_52 (by decide) (fun _ => ?_) (fun _ => ?_)
            · refine z_bipush hC (32 : Int32) dX12_readsSign_55 (by decide) ?_
              refine z_goto hC 61 dX12_readsSign_57 (by decide) ?_
              refine z_weak [(0, .ref p0)] [0] rfl ?_
              exact hJ5 (32 : Int32)
            · refine z_iconst hC (-1 : Int32) dX12_readsSign_60 (by decide) ?_
              refine z_weak [(0, .ref p0)] [0] rfl ?_
              exact hJ5 (-1 : Int32)

theorem dX12_readsFormula_0 : decode cX12_readsFormula 0 = .ok (.aload_n 0, 1) := by decide +kernel
theorem dX12_readsFormula_1 : decode cX12_readsFormula 1 = .ok (.iconst 0, 1) := by decide +kernel
theorem dX12_readsFormula_2 : decode cX12_readsFormula 2 = .ok (.putfield 131, 3) := by decide +kernel
theorem dX12_readsFormula_5 : decode cX12_readsFormula 5 = .ok (.aload_n 0, 1) := by decide +kernel
theorem dX12_readsFormula_6 : decode cX12_readsFormula 6 = .ok (.iload_n 1, 1) := by decide +kernel
theorem dX12_readsFormula_7 : decode cX12_readsFormula 7 = .ok (.putfield 134, 3) := by decide +kernel
theorem dX12_readsFormula_10 : decode cX12_readsFormula 10 = .ok (.aload_n 0, 1) := by decide +kernel
theorem dX12_readsFormula_11 : decode cX12_readsFormula 11 = .ok (.iconst 0, 1) := by decide +kernel
theorem dX12_readsFormula_12 : decode cX12_readsFormula 12 = .ok (.putfield 247, 3) := by decide +kernel
theorem dX12_readsFormula_15 : decode cX12_readsFormula 15 = .ok (.aload_n 0, 1) := by decide +kernel
theorem dX12_readsFormula_16 : decode cX12_readsFormula 16 = .ok (.iconst 0, 1) := by decide +kernel
theorem dX12_readsFormula_17 : decode cX12_readsFormula 17 = .ok (.putfield 250, 3) := by decide +kernel
theorem dX12_readsFormula_20 : decode cX12_readsFormula 20 = .ok (.aload_n 0, 1) := by decide +kernel
theorem dX12_readsFormula_21 : decode cX12_readsFormula 21 = .ok (.iconst 0, 1) := by decide +kernel
theorem dX12_readsFormula_22 : decode cX12_readsFormula 22 = .ok (.putfield 262, 3) := by decide +kernel
theorem dX12_readsFormula_25 : decode cX12_readsFormula 25 = .ok (.aload_n 0, 1) := by decide +kernel
theorem dX12_readsFormula_26 : decode cX12_readsFormula 26 = .ok (.iconst 1, 1) := by decide +kernel
theorem dX12_readsFormula_27 : decode cX12_readsFormula 27 = .ok (.putfield 265, 3) := by decide +kernel
theorem dX12_readsFormula_30 : decode cX12_readsFormula 30 = .ok (.aload_n 0, 1) := by decide +kernel
theorem dX12_readsFormula_31 : decode cX12_readsFormula 31 = .ok (.iconst 0, 1) := by decide +kernel
theorem dX12_readsFormula_32 : decode cX12_readsFormula 32 = .ok (.putfield 124, 3) := by decide +kernel
theorem dX12_readsFormula_35 : decode cX12_readsFormula 35 = .ok (.iconst 1, 1) := by decide +kernel
theorem dX12_readsFormula_36 : decode cX12_readsFormula 36 = .ok (.istore_n 2, 1) := by decide +kernel
theorem dX12_readsFormula_37 : decode cX12_readsFormula 37 = .ok (.iload_n 2, 1) := by decide +kernel
theorem dX12_readsFormula_38 : decode cX12_readsFormula 38 = .ok (.ifCond .eq 36, 3) := by decide +kernel
theorem dX12_readsFormula_41 : decode cX12_readsFormula 41 = .ok (.aload_n 0, 1) := by decide +kernel
theorem dX12_readsFormula_42 : decode cX12_readsFormula 42 = .ok (.getfield 131, 3) := by decide +kernel
theorem dX12_readsFormula_45 : decode cX12_readsFormula 45 = .ok (.aload_n 0, 1) := by decide +kernel
theorem dX12_readsFormula_46 : decode cX12_readsFormula 46 = .ok (.getfield 134, 3) := by decide +kernel
theorem dX12_readsFormula_49 : decode cX12_readsFormula 49 = .ok (.if_icmp .ge 25, 3) := by decide +kernel
theorem dX12_readsFormula_52 : decode cX12_readsFormula 52 = .ok (.aload_n 0, 1) := by decide +kernel
theorem dX12_readsFormula_53 : decode cX12_readsFormula 53 = .ok (.getfield 265, 3) := by decide +kernel
theorem dX12_readsFormula_56 : decode cX12_readsFormula 56 = .ok (.ifCond .eq 10, 3) := by decide +kernel
theorem dX12_readsFormula_59 : decode cX12_readsFormula 59 = .ok (.aload_n 0, 1) := by decide +kernel
theorem dX12_readsFormula_60 : decode cX12_readsFormula 60 = .ok (.invokevirtual 290, 3) := by decide +kernel
theorem dX12_readsFormula_63 : decode cX12_readsFormula 63 = .ok (.goto 7, 3) := by decide +kernel
theorem dX12_readsFormula_66 : decode cX12_readsFormula 66 = .ok (.aload_n 0, 1) := by decide +kernel
theorem dX12_readsFormula_67 : decode cX12_readsFormula 67 = .ok (.invokevirtual 293, 3) := by decide +kernel
theorem dX12_readsFormula_70 : decode cX12_readsFormula 70 = .ok (.istore_n 2, 1) := by decide +kernel
theorem dX12_readsFormula_71 : decode cX12_readsFormula 71 = .ok (.goto (-34), 3) := by decide +kernel
theorem dX12_readsFormula_74 : decode cX12_readsFormula 74 = .ok (.iload_n 2, 1) := by decide +kernel
theorem dX12_readsFormula_75 : decode cX12_readsFormula 75 = .ok (.ifCond .ne 8, 3) := by decide +kernel
theorem dX12_readsFormula_78 : decode cX12_readsFormula 78 = .ok (.aload_n 0, 1) := by decide +kernel
theorem dX12_readsFormula_79 : decode cX12_readsFormula 79 = .ok (.getfield 141, 3) := by decide +kernel
theorem dX12_readsFormula_82 : decode cX12_readsFormula 82 = .ok (.ireturn, 1) := by decide +kernel
theorem dX12_readsFormula_83 : decode cX12_readsFormula 83 = .ok (.aload_n 0, 1) := by decide +kernel
theorem dX12_readsFormula_84 : decode cX12_readsFormula 84 = .ok (.getfield 265, 3) := by decide +kernel
theorem dX12_readsFormula_87 : decode cX12_readsFormula 87 = .ok (.ifCond .ne 9, 3) := by decide +kernel
theorem dX12_readsFormula_90 : decode cX12_readsFormula 90 = .ok (.aload_n 0, 1) := by decide +kernel
theorem dX12_readsFormula_91 : decode cX12_readsFormula 91 = .ok (.bipush 32, 2) := by decide +kernel
theorem dX12_readsFormula_93 : decode cX12_readsFormula 93 = .ok (.invokevirtual 281, 3) := by decide +kernel
theorem dX12_readsFormula_96 : decode cX12_readsFormula 96 = .ok (.aload_n 0, 1) := by decide +kernel
theorem dX12_readsFormula_97 : decode cX12_readsFormula 97 = .ok (.getfield 265, 3) := by decide +kernel
theorem dX12_readsFormula_100 : decode cX12_readsFormula 100 = .ok (.ifCond .ne 10, 3) := by decide +kernel
theorem dX12_readsFormula_103 : decode cX12_readsFormula 103 = .ok (.aload_n 0, 1) := by decide +kernel
theorem dX12_readsFormula_104 : decode cX12_readsFormula 104 = .ok (.getfield 250, 3) := by decide +kernel
theorem dX12_readsFormula_107 : decode cX12_readsFormula 107 = .ok (.ifCond .le 18, 3) := by decide +kernel
theorem dX12_readsFormula_110 : decode cX12_readsFormula 110 = .ok (.aload_n 0, 1) := by decide +kernel
theorem dX12_readsFormula_111 : decode cX12_readsFormula 111 = .ok (.iconst 1, 1) := by decide +kernel
theorem dX12_readsFormula_112 : decode cX12_readsFormula 112 = .ok (.aload_n 0, 1) := by decide +kernel
theorem dX12_readsFormula_113 : decode cX12_readsFormula 113 = .ok (.getfield 131, 3) := by decide +kernel
theorem dX12_readsFormula_116 : decode cX12_readsFormula 116 = .ok (.invokevirtual 144, 3) := by decide +kernel
theorem dX12_readsFormula_119 : decode cX12_readsFormula 119 = .ok (.pop, 1) := by decide +kernel
theorem dX12_readsFormula_120 : decode cX12_readsFormula 120 = .ok (.aload_n 0, 1) := by decide +kernel
theorem dX12_readsFormula_121 : decode cX12_readsFormula 121 = .ok (.getfield 141, 3) := by decide +kernel
theorem dX12_readsFormula_124 : decode cX12_readsFormula 124 = .ok (.ireturn, 1) := by decide +kernel
theorem dX12_readsFormula_125 : decode cX12_readsFormula 125 = .ok (.iconst 0, 1) := by decide +kernel
theorem dX12_readsFormula_126 : decode cX12_readsFormula 126 = .ok (.ireturn, 1) := by decide +kernel
def FX12_readsFormula (hp : HP) (p0 : Nat) (p1 : Int32) : Option (Int32 × HP) := (sI [12] 15 hp p0 (0 : Int32)).bind (fun hp1 => (sI [12] 16 hp1 p0 p1).bind (fun hp2 => (sI [12] 40 hp2 p0 (0 : Int32)).bind (fun hp3 => (sI [12] 41 hp3 p0 (0 : Int32)).bind (fun hp4 => (sI [12] 42 hp4 p0 (0 : Int32)).bind (fun hp5 => (sZ [12] 43 hp5 p0 (1 : Int32)).bind (fun hp6 => (sI [12] 14 hp6 p0 (0 : Int32)).bind (fun hp7 => (lp (fun (s8 : Int32 × HP) => if s8.1 = 0 then some (Sum.inl (s8.1, s8.2)) else (gI [12] 15 s8.2 p0).bind (fun v22 => (gI [12] 16 s8.2 p0).bind (fun v23 => if v23 ≤ v22 then some (Sum.inl (s8.1, s8.2)) else (gI [12] 43 s8.2 p0).bind (fun v24 => if v24 = 0 then (rc [12] s8.2 p0 (FX12_readsSign s8.2 p0)).bind (fun w25 => some (Sum.inr (w25.1, w25.2))) else (rc [12] s8.2 p0 (FX12_readsPiece s8.2 p0)).bind (fun w26 => some (Sum.inr (w26.1, w26.2))))))) FU ((1 : Int32), hp7)).bind (fun (y9 : Int32 × HP) => if y9.1 = 0 then (gI [12] 17 y9.2 p0).bind (fun v10 => some (v10, y9.2)) else (gI [12] 43 y9.2 p0).bind (fun v11 => jn (A := HP) (fun a12 => (gI [12] 43 a12 p0).bind (fun v14 => jn (A := Unit) (fun a15 => (gI [12] 15 a12 p0).bind (fun v17 => (rc [12] a12 p0 (FX12_wrongAt a12 p0 (1 : Int32) v17)).bind (fun w18 => (gI [12] 17 w18.2 p0).bind (fun v19 => some (v19, w18.2))))) (fun J16 => if v14 = 0 then (gI [12] 41 a12 p0).bind (fun v20 => if v20 ≤ 0 then some ((0 : Int32), a12) else J16 ()) else J16 ()))) (fun J13 => if v11 = 0 then (rc [12] y9.2 p0 (FX12_laysTo y9.2 p0 (32 : Int32))).bind (fun w21 => J13 w21) else J13 y9.2))))))))))
set_option maxHeartbeats 4000000 in
set_option maxRecDepth 100000 in
theorem ctX12_readsFormula (l : Launch) (D : va_G) (tg : Nat → ClassId) (bs : Nat) (sa : Nat → Nat) (hp : HP) (p0 : Nat) (p1 : Int32) : Ct l D tg bs sa yX12_readsFormula cX12_readsFormula 3 (some .int) 5 [.ref p0, .int p1] hp (FX12_readsFormula hp p0 p1) (fun r => some (.int r.1)) (fun r => r.2) := by
  refine Ct.of (by decide) (Nat.le_of_ble_eq_true rfl) ?_
  intro V Q hVl hVd hVt hVb hVs hC
  subst hVl; subst hVd; subst hVt; subst hVb; subst hVs
  unfold FX12_readsFormula
  show Zs V Q (0, 0) 3 _ _ hp [(0, .ref p0), (1, .int p1)] 0 []
  refine z_aload_n hC 0 dX12_readsFormula_0 rfl rfl ?_
  refine z_iconst hC (0 : Int32) dX12_readsFormula_1 (by decide) ?_
  refine z_putI hC lpRX12_131 dX12_readsFormula_2 (fun hp1 => ?_)
  refine z_aload_n hC 0 dX12_readsFormula_5 rfl rfl ?_
  refine z_iload_n hC 1 dX12_readsFormula_6 rfl rfl ?_
  refine z_putI hC lpRX12_134 dX12_readsFormula_7 (fun hp2 => ?_)
  refine z_aload_n hC 0 dX12_readsFormula_10 rfl rfl ?_
  refine z_iconst hC (0 : Int32) dX12_readsFormula_11 (by decide) ?_
  refine z_putI hC lpRX12_247 dX12_readsFormula_12 (fun hp3 => ?_)
  refine z_aload_n hC 0 dX12_readsFormula_15 rfl rfl ?_
  refine z_iconst hC (0 : Int32) dX12_readsFormula_16 (by decide) ?_
  refine z_putI hC lpRX12_250 dX12_readsFormula_17 (fun hp4 => ?_)
  refine z_aload_n hC 0 dX12_readsFormula_20 rfl rfl ?_
  refine z_iconst hC (0 : Int32) dX12_readsFormula_21 (by decide) ?_
  refine z_putI hC lpRX12_262 dX12_readsFormula_22 (fun hp5 => ?_)
  refine z_aload_n hC 0 dX12_readsFormula_25 rfl rfl ?_
  refine z_iconst hC (1 : Int32) dX12_readsFormula_26 (by decide) ?_
  refine z_putZ hC lpRX12_265 dX12_readsFormula_27 (fun hp6 => ?_)
  refine z_aload_n hC 0 dX12_readsFormula_30 rfl rfl ?_
  refine z_iconst hC (0 : Int32) dX12_readsFormula_31 (by decide) ?_
  refine z_putI hC lpRX12_124 dX12_readsFormula_32 (fun hp7 => ?_)
  refine z_iconst hC (1 : Int32) dX12_readsFormula_35 (by decide) ?_
  refine z_istore_n hC [(0, .ref p0), (1, .int p1), (2, .int (1 : Int32))] [1, 2, 0] dX12_readsFormula_36 rfl (by decide) rfl ?_
  refine z_weak [(0, .ref p0), (2, .int (1 : Int32))] [0, 2] rfl ?_
  refine z_lp (S := Int32 × HP) (Y := Int32 × HP) (fun s8 => s8.2) (fun s8 => [(0, .ref p0), (2, .int s8.1)]) (fun y9 => y9.2) (fun y9 => [(0, .ref p0), (2, .int y9.1)]) 74 [] (fun y9 => ?_) (fun s8 => ?_) rfl rfl
  · refine z_iload_n hC 1 dX12_readsFormula_74 rfl rfl ?_
    refine z_if_ne hC 83 dX12_readsFormula_75 (by decide) (fun _ => ?_) (fun _ => ?_)
    · refine z_aload_n hC 0 dX12_readsFormula_78 rfl rfl ?_
      refine z_getI hC lgRX12_141 dX12_readsFormula_79 (fun v10 => ?_)
      exact z_iret hC (fun h => h) dX12_readsFormula_82
    · refine z_aload_n hC 0 dX12_readsFormula_83 rfl rfl ?_
      refine z_getI hC lgRX12_265 dX12_readsFormula_84 (fun v11 => ?_)
      refine z_jn (A := HP) (fun a12 => a12) (fun a12 => [(0, .ref p0)]) 96 (fun a12 => []) (fun a12 => ?_) (fun J13 hJ13 => ?_)
      · refine z_aload_n hC 0 dX12_readsFormula_96 rfl rfl ?_
        refine z_getI hC lgRX12_265 dX12_readsFormula_97 (fun v14 => ?_)
        refine z_jn (A := Unit) (fun a15 => a12) (fun a15 => [(0, .ref p0)]) 110 (fun a15 => []) (fun a15 => ?_) (fun J16 hJ16 => ?_)
        · refine z_aload_n hC 0 dX12_readsFormula_110 rfl rfl ?_
          refine z_iconst hC (1 : Int32) dX12_readsFormula_111 (by decide) ?_
          refine z_aload_n hC 0 dX12_readsFormula_112 rfl rfl ?_
          refine z_getI hC lgRX12_131 dX12_readsFormula_113 (fun v17 => ?_)
          refine z_callVi hC (ci := 12) rfl lmRX12_144 (ctX12_wrongAt (vLa V) (vDa V) (vTg V) (vBs V) (vSa V) a12 p0 (1 : Int32) v17) (by decide) hn0 dX12_readsFormula_116 rfl rfl (Nat.le_of_ble_eq_true rfl) (fun w18 => ?_)
          refine z_pop hC dX12_readsFormula_119 rfl ?_
          refine z_aload_n hC 0 dX12_readsFormula_120 rfl rfl ?_
          refine z_getI hC lgRX12_141 dX12_readsFormula_121 (fun v19 => ?_)
          exact z_iret hC (fun h => h) dX12_readsFormula_124
        · refine z_if_ne hC 110 dX12_readsFormula_100 (by decide) (fun _ => ?_) (fun _ => ?_)
          · refine z_aload_n hC 0 dX12_readsFormula_103 rfl rfl ?_
            refine z_getI hC lgRX12_250 dX12_readsFormula_104 (fun v20 => ?_)
            refine z_if_le hC 125 dX12_readsFormula_107 (by decide) (fun _ => ?_) (fun _ => ?_)
            · refine z_iconst hC (0 : Int32) dX12_readsFormula_125 (by decide) ?_
              exact z_iret hC (fun h => h) dX12_readsFormula_126
            · exact hJ16 ()
          · exact hJ16 ()
      · refine z_if_ne hC 96 dX12_readsFormula_87 (by decide) (fun _ => ?_) (fun _ => ?_)
        · refine z_aload_n hC 0 dX12_readsFormula_90 rfl rfl ?_
          refine z_bipush hC (32 : Int32) dX12_readsFormula_91 (by decide) ?_
          refine z_callVv hC (ci := 12) rfl lmRX12_281 (ctX12_laysTo (vLa V) (vDa V) (vTg V) (vBs V) (vSa V) y9.2 p0 (32 : Int32)) (by decide) hn0 dX12_readsFormula_93 rfl rfl (Nat.le_of_ble_eq_true rfl) (fun w21 => ?_)
          refine z_weak [(0, .ref p0)] [0] rfl ?_
          exact hJ13 w21
        · refine z_weak [(0, .ref p0)] [0] rfl ?_
          exact hJ13 y9.2
  · refine z_iload_n hC 1 dX12_readsFormula_37 rfl rfl ?_
    refine z_if_eq hC 74 dX12_readsFormula_38 (by decide) (fun _ => ?_) (fun _ => ?_)
    · exact z_leaf (fun h => h)
    · refine z_aload_n hC 0 dX12_readsFormula_41 rfl rfl ?_
      refine z_getI hC lgRX12_131 dX12_readsFormula_42 (fun v22 => ?_)
      refine z_aload_n hC 0 dX12_readsFormula_45 rfl rfl ?_
      refine z_getI hC lgRX12_134 dX12_readsFormula_46 (fun v23 => ?_)
      refine z_icmp_ge hC 74 dX12_readsFormula_49 (by decide) (fun _ => ?_) (fun _ => ?_)
      · exact z_leaf (fun h => h)
      · refine z_aload_n hC 0 dX12_readsFormula_52 rfl rfl ?_
        refine z_getI hC lgRX12_265 dX12_readsFormula_53 (fun v24 => ?_)
        refine z_if_eq hC 66 dX12_readsFormula_56 (by decide) (fun _ => ?_) (fun _ => ?_)
        · refine z_aload_n hC 0 dX12_readsFormula_66 rfl rfl ?_
          refine z_callVi hC (ci := 12) rfl lmRX12_293 (ctX12_readsSign (vLa V) (vDa V) (vTg V) (vBs V) (vSa V) s8.2 p0) (by decide) hn0 dX12_readsFormula_67 rfl rfl (Nat.le_of_ble_eq_true rfl) (fun w25 => ?_)
          refine z_istore_n hC [(0, .ref p0), (2, .int w25.1)] [1, 0] dX12_readsFormula_70 rfl (by decide) rfl ?_
          refine z_goto hC 37 dX12_readsFormula_71 (by decide) ?_
          exact z_leaf (fun h => h)
        · refine z_aload_n hC 0 dX12_readsFormula_59 rfl rfl ?_
          refine z_callVi hC (ci := 12) rfl lmRX12_290 (ctX12_readsPiece (vLa V) (vDa V) (vTg V) (vBs V) (vSa V) s8.2 p0) (by decide) hn0 dX12_readsFormula_60 rfl rfl (Nat.le_of_ble_eq_true rfl) (fun w26 => ?_)
          refine z_goto hC 70 dX12_readsFormula_63 (by decide) ?_
          refine z_istore_n hC [(0, .ref p0), (2, .int w26.1)] [1, 0] dX12_readsFormula_70 rfl (by decide) rfl ?_
          refine z_goto hC 37 dX12_readsFormula_71 (by decide) ?_
          exact z_leaf (fun h => h)

