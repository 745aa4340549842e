theorem dX11_count_0 : decode cX11_count 0 = .ok (.iload_n 1, 1) := by decide +kernel
theorem dX11_count_1 : decode cX11_count 1 = .ok (.bipush 20, 2) := by decide +kernel
theorem dX11_count_3 : decode cX11_count 3 = .ok (.isub, 1) := by decide +kernel
theorem dX11_count_4 : decode cX11_count 4 = .ok (.invokestatic 101, 3) := by decide +kernel
theorem dX11_count_7 : decode cX11_count 7 = .ok (.ifCond .eq 17, 3) := by decide +kernel
theorem dX11_count_10 : decode cX11_count 10 = .ok (.aload_n 0, 1) := by decide +kernel
theorem dX11_count_11 : decode cX11_count 11 = .ok (.getfield 38, 3) := by decide +kernel
theorem dX11_count_14 : decode cX11_count 14 = .ok (.iconst 1, 1) := by decide +kernel
theorem dX11_count_15 : decode cX11_count 15 = .ok (.iload_n 1, 1) := by decide +kernel
theorem dX11_count_16 : decode cX11_count 16 = .ok (.bipush 20, 2) := by decide +kernel
theorem dX11_count_18 : decode cX11_count 18 = .ok (.isub, 1) := by decide +kernel
theorem dX11_count_19 : decode cX11_count 19 = .ok (.ishl, 1) := by decide +kernel
theorem dX11_count_20 : decode cX11_count 20 = .ok (.invokevirtual 346, 3) := by decide +kernel
theorem dX11_count_23 : decode cX11_count 23 = .ok (.ireturn, 1) := by decide +kernel
theorem dX11_count_24 : decode cX11_count 24 = .ok (.iload_n 1, 1) := by decide +kernel
theorem dX11_count_25 : decode cX11_count 25 = .ok (.tableswitch 160 0 9 #[55, 63, 71, 79, 87, 95, 103, 111, 122, 130], 55) := by decide +kernel
theorem dX11_count_80 : decode cX11_count 80 = .ok (.aload_n 0, 1) := by decide +kernel
theorem dX11_count_81 : decode cX11_count 81 = .ok (.getfield 84, 3) := by decide +kernel
theorem dX11_count_84 : decode cX11_count 84 = .ok (.getfield 105, 3) := by decide +kernel
theorem dX11_count_87 : decode cX11_count 87 = .ok (.ireturn, 1) := by decide +kernel
theorem dX11_count_88 : decode cX11_count 88 = .ok (.aload_n 0, 1) := by decide +kernel
theorem dX11_count_89 : decode cX11_count 89 = .ok (.getfield 84, 3) := by decide +kernel
theorem dX11_count_92 : decode cX11_count 92 = .ok (.getfield 170, 3) := by decide +kernel
theorem dX11_count_95 : decode cX11_count 95 = .ok (.ireturn, 1) := by decide +kernel
theorem dX11_count_96 : decode cX11_count 96 = .ok (.aload_n 0, 1) := by decide +kernel
theorem dX11_count_97 : decode cX11_count 97 = .ok (.getfield 84, 3) := by decide +kernel
theorem dX11_count_100 : decode cX11_count 100 = .ok (.getfield 349, 3) := by decide +kernel
theorem dX11_count_103 : decode cX11_count 103 = .ok (.ireturn, 1) := by decide +kernel
theorem dX11_count_104 : decode cX11_count 104 = .ok (.aload_n 0, 1) := by decide +kernel
theorem dX11_count_105 : decode cX11_count 105 = .ok (.getfield 84, 3) := by decide +kernel
theorem dX11_count_108 : decode cX11_count 108 = .ok (.getfield 350, 3) := by decide +kernel
theorem dX11_count_111 : decode cX11_count 111 = .ok (.ireturn, 1) := by decide +kernel
theorem dX11_count_112 : decode cX11_count 112 = .ok (.aload_n 0, 1) := by decide +kernel
theorem dX11_count_113 : decode cX11_count 113 = .ok (.getfield 28, 3) := by decide +kernel
theorem dX11_count_116 : decode cX11_count 116 = .ok (.getfield 207, 3) := by decide +kernel
theorem dX11_count_119 : decode cX11_count 119 = .ok (.ireturn, 1) := by decide +kernel
theorem dX11_count_120 : decode cX11_count 120 = .ok (.aload_n 0, 1) := by decide +kernel
theorem dX11_count_121 : decode cX11_count 121 = .ok (.getfield 32, 3) := by decide +kernel
theorem dX11_count_124 : decode cX11_count 124 = .ok (.getfield 207, 3) := by decide +kernel
theorem dX11_count_127 : decode cX11_count 127 = .ok (.ireturn, 1) := by decide +kernel
theorem dX11_count_128 : decode cX11_count 128 = .ok (.aload_n 0, 1) := by decide +kernel
theorem dX11_count_129 : decode cX11_count 129 = .ok (.getfield 84, 3) := by decide +kernel
theorem dX11_count_132 : decode cX11_count 132 = .ok (.getfield 131, 3) := by decide +kernel
theorem dX11_count_135 : decode cX11_count 135 = .ok (.ireturn, 1) := by decide +kernel
theorem dX11_count_136 : decode cX11_count 136 = .ok (.aload_n 0, 1) := by decide +kernel
theorem dX11_count_137 : decode cX11_count 137 = .ok (.getfield 63, 3) := by decide +kernel
theorem dX11_count_140 : decode cX11_count 140 = .ok (.getfield 124, 3) := by decide +kernel
theorem dX11_count_143 : decode cX11_count 143 = .ok (.getfield 353, 3) := by decide +kernel
theorem dX11_count_146 : decode cX11_count 146 = .ok (.ireturn, 1) := by decide +kernel
theorem dX11_count_147 : decode cX11_count 147 = .ok (.aload_n 0, 1) := by decide +kernel
theorem dX11_count_148 : decode cX11_count 148 = .ok (.getfield 10, 3) := by decide +kernel
theorem dX11_count_151 : decode cX11_count 151 = .ok (.getfield 113, 3) := by decide +kernel
theorem dX11_count_154 : decode cX11_count 154 = .ok (.ireturn, 1) := by decide +kernel
theorem dX11_count_155 : decode cX11_count 155 = .ok (.aload_n 0, 1) := by decide +kernel
theorem dX11_count_156 : decode cX11_count 156 = .ok (.getfield 84, 3) := by decide +kernel
theorem dX11_count_159 : decode cX11_count 159 = .ok (.getfield 150, 3) := by decide +kernel
theorem dX11_count_162 : decode cX11_count 162 = .ok (.ifCond .eq 7, 3) := by decide +kernel
theorem dX11_count_165 : decode cX11_count 165 = .ok (.iconst 1, 1) := by decide +kernel
theorem dX11_count_166 : decode cX11_count 166 = .ok (.goto 18, 3) := by decide +kernel
theorem dX11_count_169 : decode cX11_count 169 = .ok (.aload_n 0, 1) := by decide +kernel
theorem dX11_count_170 : decode cX11_count 170 = .ok (.getfield 84, 3) := by decide +kernel
theorem dX11_count_173 : decode cX11_count 173 = .ok (.invokevirtual 356, 3) := by decide +kernel
theorem dX11_count_176 : decode cX11_count 176 = .ok (.ifCond .eq 7, 3) := by decide +kernel
theorem dX11_count_179 : decode cX11_count 179 = .ok (.iconst 2, 1) := by decide +kernel
theorem dX11_count_180 : decode cX11_count 180 = .ok (.goto 4, 3) := by decide +kernel
theorem dX11_count_183 : decode cX11_count 183 = .ok (.iconst 0, 1) := by decide +kernel
theorem dX11_count_184 : decode cX11_count 184 = .ok (.ireturn, 1) := by decide +kernel
theorem dX11_count_185 : decode cX11_count 185 = .ok (.iconst (-1), 1) := by decide +kernel
theorem dX11_count_186 : decode cX11_count 186 = .ok (.ireturn, 1) := by decide +kernel
def FX11_count (hp : HP) (p0 : Nat) (p1 : Int32) : Option (Int32) := (FX11_isFact (p1 - (20 : Int32))).bind (fun v1 => if v1 = 0 then if p1 = (0 : Int32) then (gR [11] 12 hp p0).bind (fun v3 => (gI [6] 0 hp v3).bind (fun v4 => some v4)) else if p1 = (1 : Int32) then (gR [11] 12 hp p0).bind (fun v6 => (gI [6] 1 hp v6).bind (fun v7 => some v7)) else if p1 = (2 : Int32) then (gR [11] 12 hp p0).bind (fun v9 => (gI [6] 2 hp v9).bind (fun v10 => some v10)) else if p1 = (3 : Int32) then (gR [11] 12 hp p0).bind (fun v12 => (gI [6] 3 hp v12).bind (fun v13 => some v13)) else if p1 = (4 : Int32) then (gR [11] 2 hp p0).bind (fun v15 => (gI [0] 1 hp v15).bind (fun v16 => some v16)) else if p1 = (5 : Int32) then (gR [11] 3 hp p0).bind (fun v18 => (gI [0] 1 hp v18).bind (fun v19 => some v19)) else if p1 = (6 : Int32) then (gR [11] 12 hp p0).bind (fun v21 => (gI [6] 4 hp v21).bind (fun v22 => some v22)) else if p1 = (7 : Int32) then (gR [11] 9 hp p0).bind (fun v24 => (gR [5] 0 hp v24).bind (fun v25 => (gI [2] 4 hp v25).bind (fun v26 => some v26))) else if p1 = (8 : Int32) then (gR [11] 0 hp p0).bind (fun v28 => (gI [8] 1 hp v28).bind (fun v29 => some v29)) else if p1 = (9 : Int32) then (gR [11] 12 hp p0).bind (fun v31 => (gI [6] 5 hp v31).bind (fun v32 => if v32 = 0 then (gR [11] 12 hp p0).bind (fun v33 => (rc [6] hp v33 (FX6_isFetched hp v33)).bind (fun v34 => if v34 = 0 then some (0 : Int32) else some (2 : Int32))) else some (1 : Int32))) else some (-1 : Int32) else (gR [11] 4 hp p0).bind (fun v35 => (rc [3] hp v35 (FX3_of hp v35 ((1 : Int32) <<< ((p1 - (20 : Int32)) &&& 31)))).bind (fun v36 => some v36)))
set_option maxHeartbeats 4000000 in
set_option maxRecDepth 100000 in
theorem ctX11_count (l : Launch) (D : va_G) (tg : Nat → ClassId) (bs : Nat) (sa : Nat → Nat) (hp : HP) (p0 : Nat) (p1 : Int32) : Ct l D tg bs sa yX11_count cX11_count 2 (some .int) 1 [.ref p0, .int p1] hp (FX11_count hp p0 p1) (fun r => some (.int r)) (fun _ => hp) := by
  refine Ct.of (by decide) (Nat.le_of_ble_eq_true rfl) ?_
  intro V Q hVl hVd hVt hVb hVs hC
  subst hVl; subst hVd; subst hVt; subst hVb; subst hVs
  unfold FX11_count
  show Zs V Q (0, 0) 2 _ _ hp [(0, .ref p0), (1, .int p1)] 0 []
  refine z_iload_n hC 1 dX11_count_0 rfl rfl ?_
  refine z_bipush hC (20 : Int32) dX11_count_1 (by decide) ?_
  refine z_isub hC dX11_count_3 ?_
  refine z_callSi hC lmRX11_101 (ctX11_isFact (vLa V) (vDa V) (vTg V) (vBs V) (vSa V) hp (p1 - (20 : Int32))) (by decide) hn0 dX11_count_4 rfl rfl (Nat.le_of_ble_eq_true rfl) (fun v1 => ?_)
  refine z_if_eq hC 24 dX11_count_7 (by decide) (fun _ => ?_) (fun _ => ?_)
  · refine z_iload_n hC 1 dX11_count_24 rfl rfl ?_
    refine z_tsw hC (0 : Int32) 80 (55) dX11_count_25 (by decide) (by decide) (by decide) (by decide) (fun _ => ?_) (fun q2 => ?_)
    · refine z_aload_n hC 0 dX11_count_80 rfl rfl ?_
      refine z_getR hC lgRX11_84 dX11_count_81 (fun v3 => ?_)
      refine z_getI hC lgRX11_105 dX11_count_84 (fun v4 => ?_)
      exact z_iret hC (fun h => h) dX11_count_87
    refine z_tsw hC (1 : Int32) 88 (63) dX11_count_25 (by decide) (by decide) (by decide) (by decide) (fun _ => ?_) (fun q5 => ?_)
    · refine z_aload_n hC 0 dX11_count_88 rfl rfl ?_
      refine z_getR hC lgRX11_84 dX11_count_89 (fun v6 => ?_)
      refine z_getI hC lgRX11_170 dX11_count_92 (fun v7 => ?_)
      exact z_iret hC (fun h => h) dX11_count_95
    refine z_tsw hC (2 : Int32) 96 (71) dX11_count_25 (by decide) (by decide) (by decide) (by decide) (fun _ => ?_) (fun q8 => ?_)
    · refine z_aload_n hC 0 dX11_count_96 rfl rfl ?_
      refine z_getR hC lgRX11_84 dX11_count_97 (fun v9 => ?_)
      refine z_getI hC lgRX11_349 dX11_count_100 (fun v10 => ?_)
      exact z_iret hC (fun h => h) dX11_count_103
    refine z_tsw hC (3 : Int32) 104 (79) dX11_count_25 (by decide) (by decide) (by decide) (by decide) (fun _ => ?_) (fun q11 => ?_)
    · refine z_aload_n hC 0 dX11_count_104 rfl rfl ?_
      refine z_getR hC lgRX11_84 dX11_count_105 (fun v12 => ?_)
      refine z_getI hC lgRX11_350 dX11_count_108 (fun v13 => ?_)
      exact z_iret hC (fun h => h) dX11_count_111
    refine z_tsw hC (4 : Int32) 112 (87) dX11_count_25 (by decide) (by decide) (by decide) (by decide) (fun _ => ?_) (fun q14 => ?_)
    · refine z_aload_n hC 0 dX11_count_112 rfl rfl ?_
      refine z_getR hC lgRX11_28 dX11_count_113 (fun v15 => ?_)
      refine z_getI hC lgRX11_207 dX11_count_116 (fun v16 => ?_)
      exact z_iret hC (fun h => h) dX11_count_119
    refine z_tsw hC (5 : Int32) 120 (95) dX11_count_25 (by decide) (by decide) (by decide) (by decide) (fun _ => ?_) (fun q17 => ?_)
    · refine z_aload_n hC 0 dX11_count_120 rfl rfl ?_
      refine z_getR hC lgRX11_32 dX11_count_121 (fun v18 => ?_)
      refine z_getI hC lgRX11_207 dX11_count_124 (fun v19 => ?_)
      exact z_iret hC (fun h => h) dX11_count_127
    refine z_tsw hC (6 : Int32) 128 (103) dX11_count_25 (by decide) (by decide) (by decide) (by decide) (fun _ => ?_) (fun q20 => ?_)
    · refine z_aload_n hC 0 dX11_count_128 rfl rfl ?_
      refine z_getR hC lgRX11_84 dX11_count_129 (fun v21 => ?_)
      refine z_getI hC lgRX11_131 dX11_count_132 (fun v22 => ?_)
      exact z_iret hC (fun h => h) dX11_count_135
    refine z_tsw hC (7 : Int32) 136 (111) dX11_count_25 (by decide) (by decide) (by decide) (by decide) (fun _ => ?_) (fun q23 => ?_)
    · refine z_aload_n hC 0 dX11_count_136 rfl rfl ?_
      refine z_getR hC lgRX11_63 dX11_count_137 (fun v24 => ?_)
      refine z_getR hC lgRX11_124 dX11_count_140 (fun v25 => ?_)
      refine z_getI hC lgRX11_353 dX11_count_143 (fun v26 => ?_)
      exact z_iret hC (fun h => h) dX11_count_146
    refine z_tsw hC (8 : Int32) 147 (122) dX11_count_25 (by decide) (by decide) (by decide) (by decide) (fun _ => ?_) (fun q27 => ?_)
    · refine z_aload_n hC 0 dX11_count_147 rfl rfl ?_
      refine z_getR hC lgRX11_10 dX11_count_148 (fun v28 => ?_)
      refine z_getI hC lgRX11_113 dX11_count_151 (fun v29 => ?_)
      exact z_iret hC (fun h => h) dX11_count_154
    refine z_tsw hC (9 : Int32) 155 (130) dX11_count_25 (by decide) (by decide) (by decide) (by decide) (fun _ => ?_) (fun q30 => ?_)
    · refine z_aload_n hC 0 dX11_count_155 rfl rfl ?_
      refine z_getR hC lgRX11_84 dX11_count_156 (fun v31 => ?_)
      refine z_getI hC lgRX11_150 dX11_count_159 (fun v32 => ?_)
      refine z_if_eq hC 169 dX11_count_162 (by decide) (fun _ => ?_) (fun _ => ?_)
      · refine z_aload_n hC 0 dX11_count_169 rfl rfl ?_
        refine z_getR hC lgRX11_84 dX11_count_170 (fun v33 => ?_)
        refine z_callVi hC (ci := 6) rfl lmRX11_356 (ctX6_isFetched (vLa V) (vDa V) (vTg V) (vBs V) (vSa V) hp v33) (by decide) hn0 dX11_count_173 rfl rfl (Nat.le_of_ble_eq_true rfl) (fun v34 => ?_)
        refine z_if_eq hC 183 dX11_count_176 (by decide) (fun _ => ?_) (fun _ => ?_)
        · refine z_iconst hC (0 : Int32) dX11_count_183 (by decide) ?_
          exact z_iret hC (fun h => h) dX11_count_184
        · refine z_iconst hC (2 : Int32) dX11_count_179 (by decide) ?_
          refine z_goto hC 184 dX11_count_180 (by decide) ?_
          exact z_iret hC (fun h => h) dX11_count_184
      · refine z_iconst hC (1 : Int32) dX11_count_165 (by decide) ?_
        refine z_goto hC 184 dX11_count_166 (by decide) ?_
        exact z_iret hC (fun h => h) dX11_count_184
    refine z_tswd hC 185 dX11_count_25 (by decide) (by have eq2 := sw_ne q2 (z := 0) (by decide); have eq5 := sw_ne q5 (z := 1) (by decide); have eq8 := sw_ne q8 (z := 2) (by decide); have eq11 := sw_ne q11 (z := 3) (by decide); have eq14 := sw_ne q14 (z := 4) (by decide); have eq17 := sw_ne q17 (z := 5) (by decide); have eq20 := sw_ne q20 (z := 6) (by decide); have eq23 := sw_ne q23 (z := 7) (by decide); have eq27 := sw_ne q27 (z := 8) (by decide); have eq30 := sw_ne q30 (z := 9) (by decide); omega) ?_
    refine z_iconst hC (-1 : Int32) dX11_count_185 (by decide) ?_
    exact z_iret hC (fun h => h) dX11_count_186
  · refine z_aload_n hC 0 dX11_count_10 rfl rfl ?_
    refine z_getR hC lgRX11_38 dX11_count_11 (fun v35 => ?_)
    refine z_iconst hC (1 : Int32) dX11_count_14 (by decide) ?_
    refine z_iload_n hC 1 dX11_count_15 rfl rfl ?_
    refine z_bipush hC (20 : Int32) dX11_count_16 (by decide) ?_
    refine z_isub hC dX11_count_18 ?_
    refine z_ishl hC dX11_count_19 ?_
    refine z_callVi hC (ci := 3) rfl lmRX11_346 (ctX3_of (vLa V) (vDa V) (vTg V) (vBs V) (vSa V) hp v35 ((1 : Int32) <<< ((p1 - (20 : Int32)) &&& 31))) (by decide) hn0 dX11_count_20 rfl rfl (Nat.le_of_ble_eq_true rfl) (fun v36 => ?_)
    exact z_iret hC (fun h => h) dX11_count_23

