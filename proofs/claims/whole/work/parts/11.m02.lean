theorem dX12_readsCondition_0 : decode cX12_readsCondition 0 = .ok (.aload_n 0, 1) := by decide +kernel
theorem dX12_readsCondition_1 : decode cX12_readsCondition 1 = .ok (.invokevirtual 137, 3) := by decide +kernel
theorem dX12_readsCondition_4 : decode cX12_readsCondition 4 = .ok (.bipush 40, 2) := by decide +kernel
theorem dX12_readsCondition_6 : decode cX12_readsCondition 6 = .ok (.if_icmp .eq 13, 3) := by decide +kernel
theorem dX12_readsCondition_9 : decode cX12_readsCondition 9 = .ok (.aload_n 0, 1) := by decide +kernel
theorem dX12_readsCondition_10 : decode cX12_readsCondition 10 = .ok (.iconst 1, 1) := by decide +kernel
theorem dX12_readsCondition_11 : decode cX12_readsCondition 11 = .ok (.aload_n 0, 1) := by decide +kernel
theorem dX12_readsCondition_12 : decode cX12_readsCondition 12 = .ok (.getfield 131, 3) := by decide +kernel
theorem dX12_readsCondition_15 : decode cX12_readsCondition 15 = .ok (.invokevirtual 144, 3) := by decide +kernel
theorem dX12_readsCondition_18 : decode cX12_readsCondition 18 = .ok (.ireturn, 1) := by decide +kernel
theorem dX12_readsCondition_19 : decode cX12_readsCondition 19 = .ok (.aload_n 0, 1) := by decide +kernel
theorem dX12_readsCondition_20 : decode cX12_readsCondition 20 = .ok (.iconst 0, 1) := by decide +kernel
theorem dX12_readsCondition_21 : decode cX12_readsCondition 21 = .ok (.putfield 158, 3) := by decide +kernel
theorem dX12_readsCondition_24 : decode cX12_readsCondition 24 = .ok (.aload_n 0, 1) := by decide +kernel
theorem dX12_readsCondition_25 : decode cX12_readsCondition 25 = .ok (.iconst 0, 1) := by decide +kernel
theorem dX12_readsCondition_26 : decode cX12_readsCondition 26 = .ok (.putfield 161, 3) := by decide +kernel
theorem dX12_readsCondition_29 : decode cX12_readsCondition 29 = .ok (.aload_n 0, 1) := by decide +kernel
theorem dX12_readsCondition_30 : decode cX12_readsCondition 30 = .ok (.bipush 13, 2) := by decide +kernel
theorem dX12_readsCondition_32 : decode cX12_readsCondition 32 = .ok (.invokevirtual 171, 3) := by decide +kernel
theorem dX12_readsCondition_35 : decode cX12_readsCondition 35 = .ok (.ifCond .ne 5, 3) := by decide +kernel
theorem dX12_readsCondition_38 : decode cX12_readsCondition 38 = .ok (.iconst 0, 1) := by decide +kernel
theorem dX12_readsCondition_39 : decode cX12_readsCondition 39 = .ok (.ireturn, 1) := by decide +kernel
theorem dX12_readsCondition_40 : decode cX12_readsCondition 40 = .ok (.aload_n 0, 1) := by decide +kernel
theorem dX12_readsCondition_41 : decode cX12_readsCondition 41 = .ok (.invokevirtual 137, 3) := by decide +kernel
theorem dX12_readsCondition_44 : decode cX12_readsCondition 44 = .ok (.bipush 33, 2) := by decide +kernel
theorem dX12_readsCondition_46 : decode cX12_readsCondition 46 = .ok (.if_icmp .eq 12, 3) := by decide +kernel
theorem dX12_readsCondition_49 : decode cX12_readsCondition 49 = .ok (.aload_n 0, 1) := by decide +kernel
theorem dX12_readsCondition_50 : decode cX12_readsCondition 50 = .ok (.invokevirtual 137, 3) := by decide +kernel
theorem dX12_readsCondition_53 : decode cX12_readsCondition 53 = .ok (.bipush 40, 2) := by decide +kernel
theorem dX12_readsCondition_55 : decode cX12_readsCondition 55 = .ok (.if_icmp .ne 28, 3) := by decide +kernel
theorem dX12_readsCondition_58 : decode cX12_readsCondition 58 = .ok (.aload_n 0, 1) := by decide +kernel
theorem dX12_readsCondition_59 : decode cX12_readsCondition 59 = .ok (.aload_n 0, 1) := by decide +kernel
theorem dX12_readsCondition_60 : decode cX12_readsCondition 60 = .ok (.invokevirtual 137, 3) := by decide +kernel
theorem dX12_readsCondition_63 : decode cX12_readsCondition 63 = .ok (.bipush 33, 2) := by decide +kernel
theorem dX12_readsCondition_65 : decode cX12_readsCondition 65 = .ok (.if_icmp .ne 8, 3) := by decide +kernel
theorem dX12_readsCondition_68 : decode cX12_readsCondition 68 = .ok (.bipush 10, 2) := by decide +kernel
theorem dX12_readsCondition_70 : decode cX12_readsCondition 70 = .ok (.goto 5, 3) := by decide +kernel
theorem dX12_readsCondition_73 : decode cX12_readsCondition 73 = .ok (.bipush 13, 2) := by decide +kernel
theorem dX12_readsCondition_75 : decode cX12_readsCondition 75 = .ok (.invokevirtual 171, 3) := by decide +kernel
theorem dX12_readsCondition_78 : decode cX12_readsCondition 78 = .ok (.ifCond .ne (-38), 3) := by decide +kernel
theorem dX12_readsCondition_81 : decode cX12_readsCondition 81 = .ok (.iconst 0, 1) := by decide +kernel
theorem dX12_readsCondition_82 : decode cX12_readsCondition 82 = .ok (.ireturn, 1) := by decide +kernel
theorem dX12_readsCondition_83 : decode cX12_readsCondition 83 = .ok (.aload_n 0, 1) := by decide +kernel
theorem dX12_readsCondition_84 : decode cX12_readsCondition 84 = .ok (.invokevirtual 200, 3) := by decide +kernel
theorem dX12_readsCondition_87 : decode cX12_readsCondition 87 = .ok (.ifCond .ne 5, 3) := by decide +kernel
theorem dX12_readsCondition_90 : decode cX12_readsCondition 90 = .ok (.iconst 0, 1) := by decide +kernel
theorem dX12_readsCondition_91 : decode cX12_readsCondition 91 = .ok (.ireturn, 1) := by decide +kernel
theorem dX12_readsCondition_92 : decode cX12_readsCondition 92 = .ok (.aload_n 0, 1) := by decide +kernel
theorem dX12_readsCondition_93 : decode cX12_readsCondition 93 = .ok (.invokevirtual 137, 3) := by decide +kernel
theorem dX12_readsCondition_96 : decode cX12_readsCondition 96 = .ok (.bipush 41, 2) := by decide +kernel
theorem dX12_readsCondition_98 : decode cX12_readsCondition 98 = .ok (.if_icmp .ne 54, 3) := by decide +kernel
theorem dX12_readsCondition_101 : decode cX12_readsCondition 101 = .ok (.aload_n 0, 1) := by decide +kernel
theorem dX12_readsCondition_102 : decode cX12_readsCondition 102 = .ok (.iconst 1, 1) := by decide +kernel
theorem dX12_readsCondition_103 : decode cX12_readsCondition 103 = .ok (.invokevirtual 203, 3) := by decide +kernel
theorem dX12_readsCondition_106 : decode cX12_readsCondition 106 = .ok (.aload_n 0, 1) := by decide +kernel
theorem dX12_readsCondition_107 : decode cX12_readsCondition 107 = .ok (.aload_n 0, 1) := by decide +kernel
theorem dX12_readsCondition_108 : decode cX12_readsCondition 108 = .ok (.getfield 161, 3) := by decide +kernel
theorem dX12_readsCondition_111 : decode cX12_readsCondition 111 = .ok (.iconst 1, 1) := by decide +kernel
theorem dX12_readsCondition_112 : decode cX12_readsCondition 112 = .ok (.isub, 1) := by decide +kernel
theorem dX12_readsCondition_113 : decode cX12_readsCondition 113 = .ok (.putfield 161, 3) := by decide +kernel
theorem dX12_readsCondition_116 : decode cX12_readsCondition 116 = .ok (.aload_n 0, 1) := by decide +kernel
theorem dX12_readsCondition_117 : decode cX12_readsCondition 117 = .ok (.aload_n 0, 1) := by decide +kernel
theorem dX12_readsCondition_118 : decode cX12_readsCondition 118 = .ok (.getfield 158, 3) := by decide +kernel
theorem dX12_readsCondition_121 : decode cX12_readsCondition 121 = .ok (.iconst 1, 1) := by decide +kernel
theorem dX12_readsCondition_122 : decode cX12_readsCondition 122 = .ok (.isub, 1) := by decide +kernel
theorem dX12_readsCondition_123 : decode cX12_readsCondition 123 = .ok (.putfield 158, 3) := by decide +kernel
theorem dX12_readsCondition_126 : decode cX12_readsCondition 126 = .ok (.aload_n 0, 1) := by decide +kernel
theorem dX12_readsCondition_127 : decode cX12_readsCondition 127 = .ok (.aload_n 0, 1) := by decide +kernel
theorem dX12_readsCondition_128 : decode cX12_readsCondition 128 = .ok (.getfield 131, 3) := by decide +kernel
theorem dX12_readsCondition_131 : decode cX12_readsCondition 131 = .ok (.iconst 1, 1) := by decide +kernel
theorem dX12_readsCondition_132 : decode cX12_readsCondition 132 = .ok (.iadd, 1) := by decide +kernel
theorem dX12_readsCondition_133 : decode cX12_readsCondition 133 = .ok (.putfield 131, 3) := by decide +kernel
theorem dX12_readsCondition_136 : decode cX12_readsCondition 136 = .ok (.aload_n 0, 1) := by decide +kernel
theorem dX12_readsCondition_137 : decode cX12_readsCondition 137 = .ok (.getfield 161, 3) := by decide +kernel
theorem dX12_readsCondition_140 : decode cX12_readsCondition 140 = .ok (.ifCond .ne 5, 3) := by decide +kernel
theorem dX12_readsCondition_143 : decode cX12_readsCondition 143 = .ok (.iconst 1, 1) := by decide +kernel
theorem dX12_readsCondition_144 : decode cX12_readsCondition 144 = .ok (.ireturn, 1) := by decide +kernel
theorem dX12_readsCondition_145 : decode cX12_readsCondition 145 = .ok (.aload_n 0, 1) := by decide +kernel
theorem dX12_readsCondition_146 : decode cX12_readsCondition 146 = .ok (.invokevirtual 197, 3) := by decide +kernel
theorem dX12_readsCondition_149 : decode cX12_readsCondition 149 = .ok (.goto (-57), 3) := by decide +kernel
theorem dX12_readsCondition_152 : decode cX12_readsCondition 152 = .ok (.aload_n 0, 1) := by decide +kernel
theorem dX12_readsCondition_153 : decode cX12_readsCondition 153 = .ok (.invokevirtual 137, 3) := by decide +kernel
theorem dX12_readsCondition_156 : decode cX12_readsCondition 156 = .ok (.bipush 38, 2) := by decide +kernel
theorem dX12_readsCondition_158 : decode cX12_readsCondition 158 = .ok (.if_icmp .eq 22, 3) := by decide +kernel
theorem dX12_readsCondition_161 : decode cX12_readsCondition 161 = .ok (.aload_n 0, 1) := by decide +kernel
theorem dX12_readsCondition_162 : decode cX12_readsCondition 162 = .ok (.invokevirtual 137, 3) := by decide +kernel
theorem dX12_readsCondition_165 : decode cX12_readsCondition 165 = .ok (.bipush 124, 2) := by decide +kernel
theorem dX12_readsCondition_167 : decode cX12_readsCondition 167 = .ok (.if_icmp .eq 13, 3) := by decide +kernel
theorem dX12_readsCondition_170 : decode cX12_readsCondition 170 = .ok (.aload_n 0, 1) := by decide +kernel
theorem dX12_readsCondition_171 : decode cX12_readsCondition 171 = .ok (.iconst 1, 1) := by decide +kernel
theorem dX12_readsCondition_172 : decode cX12_readsCondition 172 = .ok (.aload_n 0, 1) := by decide +kernel
theorem dX12_readsCondition_173 : decode cX12_readsCondition 173 = .ok (.getfield 131, 3) := by decide +kernel
theorem dX12_readsCondition_176 : decode cX12_readsCondition 176 = .ok (.invokevirtual 144, 3) := by decide +kernel
theorem dX12_readsCondition_179 : decode cX12_readsCondition 179 = .ok (.ireturn, 1) := by decide +kernel
theorem dX12_readsCondition_180 : decode cX12_readsCondition 180 = .ok (.aload_n 0, 1) := by decide +kernel
theorem dX12_readsCondition_181 : decode cX12_readsCondition 181 = .ok (.aload_n 0, 1) := by decide +kernel
theorem dX12_readsCondition_182 : decode cX12_readsCondition 182 = .ok (.invokevirtual 137, 3) := by decide +kernel
theorem dX12_readsCondition_185 : decode cX12_readsCondition 185 = .ok (.bipush 124, 2) := by decide +kernel
theorem dX12_readsCondition_187 : decode cX12_readsCondition 187 = .ok (.if_icmp .ne 7, 3) := by decide +kernel
theorem dX12_readsCondition_190 : decode cX12_readsCondition 190 = .ok (.iconst 1, 1) := by decide +kernel
theorem dX12_readsCondition_191 : decode cX12_readsCondition 191 = .ok (.goto 4, 3) := by decide +kernel
theorem dX12_readsCondition_194 : decode cX12_readsCondition 194 = .ok (.iconst 0, 1) := by decide +kernel
theorem dX12_readsCondition_195 : decode cX12_readsCondition 195 = .ok (.invokevirtual 203, 3) := by decide +kernel
theorem dX12_readsCondition_198 : decode cX12_readsCondition 198 = .ok (.aload_n 0, 1) := by decide +kernel
theorem dX12_readsCondition_199 : decode cX12_readsCondition 199 = .ok (.aload_n 0, 1) := by decide +kernel
theorem dX12_readsCondition_200 : decode cX12_readsCondition 200 = .ok (.invokevirtual 137, 3) := by decide +kernel
theorem dX12_readsCondition_203 : decode cX12_readsCondition 203 = .ok (.bipush 38, 2) := by decide +kernel
theorem dX12_readsCondition_205 : decode cX12_readsCondition 205 = .ok (.if_icmp .ne 8, 3) := by decide +kernel
theorem dX12_readsCondition_208 : decode cX12_readsCondition 208 = .ok (.bipush 11, 2) := by decide +kernel
theorem dX12_readsCondition_210 : decode cX12_readsCondition 210 = .ok (.goto 5, 3) := by decide +kernel
theorem dX12_readsCondition_213 : decode cX12_readsCondition 213 = .ok (.bipush 12, 2) := by decide +kernel
theorem dX12_readsCondition_215 : decode cX12_readsCondition 215 = .ok (.invokevirtual 206, 3) := by decide +kernel
theorem dX12_readsCondition_218 : decode cX12_readsCondition 218 = .ok (.goto (-178), 3) := by decide +kernel
def FX12_readsCondition (hp : HP) (p0 : Nat) : Option (Int32 × HP) := (rc [12] hp p0 (FX12_here hp p0)).bind (fun v1 => if v1 = (40 : Int32) then (sI [12] 19 hp p0 (0 : Int32)).bind (fun hp2 => (sI [12] 21 hp2 p0 (0 : Int32)).bind (fun hp3 => (rc [12] hp3 p0 (FX12_opens hp3 p0 (13 : Int32))).bind (fun w4 => if w4.1 = 0 then some ((0 : Int32), w4.2) else (lp (fun (s5 : HP) => (rc [12] s5 p0 (FX12_here s5 p0)).bind (fun v7 => jn (A := Unit) (fun a8 => (rc [12] s5 p0 (FX12_here s5 p0)).bind (fun v10 => jn (A := Int32) (fun a11 => (rc [12] s5 p0 (FX12_opens s5 p0 a11)).bind (fun w13 => if w13.1 = 0 then some (Sum.inl (Sum.inl ((0 : Int32), w13.2))) else some (Sum.inr w13.2))) (fun J12 => if v10 = (33 : Int32) then J12 (10 : Int32) else J12 (13 : Int32)))) (fun J9 => if v7 = (33 : Int32) then J9 () else (rc [12] s5 p0 (FX12_here s5 p0)).bind (fun v14 => if v14 = (40 : Int32) then J9 () else (rc [12] s5 p0 (FX12_readsCompared s5 p0)).bind (fun w15 => if w15.1 = 0 then some (Sum.inl (Sum.inl ((0 : Int32), w15.2))) else (lp (fun (s16 : HP) => (rc [12] s16 p0 (FX12_here s16 p0)).bind (fun v32 => if v32 = (41 : Int32) then (rc [12] s16 p0 (FX12_lands s16 p0 (1 : Int32))).bind (fun w33 => (gI [12] 21 w33 p0).bind (fun v34 => (sI [12] 21 w33 p0 (v34 - (1 : Int32))).bind (fun hp35 => (gI [12] 19 hp35 p0).bind (fun v36 => (sI [12] 19 hp35 p0 (v36 - (1 : Int32))).bind (fun hp37 => (gI [12] 15 hp37 p0).bind (fun v38 => (sI [12] 15 hp37 p0 (v38 + (1 : Int32))).bind (fun hp39 => (gI [12] 21 hp39 p0).bind (fun v40 => if v40 = 0 then some (Sum.inl (Sum.inl ((1 : Int32), hp39))) else (rc [12] hp39 p0 (FX12_endsPiece hp39 p0)).bind (fun w41 => some (Sum.inr w41)))))))))) else some (Sum.inl (Sum.inr s16)))) FU w15.2).bind (lk (P := Int32 × HP) (fun r => (Sum.inl (Sum.inl r))) (fun (y17 : HP) => (rc [12] y17 p0 (FX12_here y17 p0)).bind (fun v18 => jn (A := Unit) (fun a19 => (rc [12] y17 p0 (FX12_here y17 p0)).bind (fun v21 => jn (A := Int32) (fun a22 => (rc [12] y17 p0 (FX12_lands y17 p0 a22)).bind (fun w24 => (rc [12] w24 p0 (FX12_here w24 p0)).bind (fun v25 => jn (A := Int32) (fun a26 => (rc [12] w24 p0 (FX12_jumps w24 p0 a26)).bind (fun w28 => some (Sum.inr w28))) (fun J27 => if v25 = (38 : Int32) then J27 (11 : Int32) else J27 (12 : Int32))))) (fun J23 => if v21 = (124 : Int32) then J23 (1 : Int32) else J23 (0 : Int32)))) (fun J20 => if v18 = (38 : Int32) then J20 () else (rc [12] y17 p0 (FX12_here y17 p0)).bind (fun v29 => if v29 = (124 : Int32) then J20 () else (gI [12] 15 y17 p0).bind (fun v30 => (rc [12] y17 p0 (FX12_wrongAt y17 p0 (1 : Int32) v30)).bind (fun w31 => bz w31.1 (some (Sum.inl (Sum.inl (w31.1, w31.2)))))))))))))))) FU w4.2).bind (lk (P := Int32 × HP) (fun r => r) (fun (y6 : HP) => none))))) else (gI [12] 15 hp p0).bind (fun v42 => (rc [12] hp p0 (FX12_wrongAt hp p0 (1 : Int32) v42)).bind (fun w43 => bz w43.1 (some (w43.1, w43.2)))))
set_option maxHeartbeats 4000000 in
set_option maxRecDepth 100000 in
theorem ctX12_readsCondition (l : Launch) (D : va_G) (tg : Nat → ClassId) (bs : Nat) (sa : Nat → Nat) (hp : HP) (p0 : Nat) : Ct l D tg bs sa yX12_readsCondition cX12_readsCondition 1 (some .boolean) 6 [.ref p0] hp (FX12_readsCondition hp p0) (fun r => some (.int r.1)) (fun r => r.2) := by
  refine Ct.of (by decide) (Nat.le_of_ble_eq_true rfl) ?_
  intro V Q hVl hVd hVt hVb hVs hC
  subst hVl; subst hVd; subst hVt; subst hVb; subst hVs
  unfold FX12_readsCondition
  show Zs V Q (0, 0) 1 _ _ hp [(0, .ref p0)] 0 []
  refine z_aload_n hC 0 dX12_readsCondition_0 rfl rfl ?_
  refine z_callVi hC (ci := 12) rfl lmRX12_137 (ctX12_here (vLa V) (vDa V) (vTg V) (vBs V) (vSa V) hp p0) (by decide) hn0 dX12_readsCondition_1 rfl rfl (Nat.le_of_ble_eq_true rfl) (fun v1 => ?_)
  refine z_bipush hC (40 : Int32) dX12_readsCondition_4 (by decide) ?_
  refine z_icmp_eq hC 19 dX12_readsCondition_6 (by decide) (fun _ => ?_) (fun _ => ?_)
  · refine z_aload_n hC 0 dX12_readsCondition_19 rfl rfl ?_
    refine z_iconst hC (0 : Int32) dX12_readsCondition_20 (by decide) ?_
    refine z_putI hC lpRX12_158 dX12_readsCondition_21 (fun hp2 => ?_)
    refine z_aload_n hC 0 dX12_readsCondition_24 rfl rfl ?_
    refine z_iconst hC (0 : Int32) dX12_readsCondition_25 (by decide) ?_
    refine z_putI hC lpRX12_161 dX12_readsCondition_26 (fun hp3 => ?_)
    refine z_aload_n hC 0 dX12_readsCondition_29 rfl rfl ?_
    refine z_bipush hC (13 : Int32) dX12_readsCondition_30 (by decide) ?_
    refine z_callVi hC (ci := 12) rfl lmRX12_171 (ctX12_opens (vLa V) (vDa V) (vTg V) (vBs V) (vSa V) hp3 p0 (13 : Int32)) (by decide) hn0 dX12_readsCondition_32 rfl rfl (Nat.le_of_ble_eq_true rfl) (fun w4 => ?_)
    refine z_if_ne hC 40 dX12_readsCondition_35 (by decide) (fun _ => ?_) (fun _ => ?_)
    · refine z_iconst hC (0 : Int32) dX12_readsCondition_38 (by decide) ?_
      exact z_zret hC (by decide) (fun h => h) dX12_readsCondition_39
    · refine z_lpR (S := HP) (Y := HP) (fun s5 => s5) (fun s5 => [(0, .ref p0)]) (fun y6 => y6) (fun y6 => []) 0 [] (fun y6 => ?_) (fun s5 => ?_) rfl rfl
      · exact z_none
      · refine z_aload_n hC 0 dX12_readsCondition_40 rfl rfl ?_
        refine z_callVi hC (ci := 12) rfl lmRX12_137 (ctX12_here (vLa V) (vDa V) (vTg V) (vBs V) (vSa V) s5 p0) (by decide) hn0 dX12_readsCondition_41 rfl rfl (Nat.le_of_ble_eq_true rfl) (fun v7 => ?_)
        refine z_bipush hC (33 : Int32) dX12_readsCondition_44 (by decide) ?_
        refine z_jn (A := Unit) (fun a8 => s5) (fun a8 => [(0, .ref p0)]) 58 (fun a8 => []) (fun a8 => ?_) (fun J9 hJ9 => ?_)
        · refine z_aload_n hC 0 dX12_readsCondition_58 rfl rfl ?_
          refine z_aload_n hC 0 dX12_readsCondition_59 rfl rfl ?_
          refine z_callVi hC (ci := 12) rfl lmRX12_137 (ctX12_here (vLa V) (vDa V) (vTg V) (vBs V) (vSa V) s5 p0) (by decide) hn0 dX12_readsCondition_60 rfl rfl (Nat.le_of_ble_eq_true rfl) (fun v10 => ?_)
          refine z_bipush hC (33 : Int32) dX12_readsCondition_63 (by decide) ?_
          refine z_jn (A := Int32) (fun a11 => s5) (fun a11 => [(0, .ref p0)]) 75 (fun a11 => [.int a11, .ref p0]) (fun a11 => ?_) (fun J12 hJ12 => ?_)
          · refine z_callVi hC (ci := 12) rfl lmRX12_171 (ctX12_opens (vLa V) (vDa V) (vTg V) (vBs V) (vSa V) s5 p0 a11) (by decide) hn0 dX12_readsCondition_75 rfl rfl (Nat.le_of_ble_eq_true rfl) (fun w13 => ?_)
            refine z_if_ne hC 40 dX12_readsCondition_78 (by decide) (fun _ => ?_) (fun _ => ?_)
            · refine z_iconst hC (0 : Int32) dX12_readsCondition_81 (by decide) ?_
              exact z_zret hC (by decide) (fun h => h) dX12_readsCondition_82
            · exact z_leaf (fun h => h)
          · refine z_icmp_ne hC 73 dX12_readsCondition_65 (by decide) (fun _ => ?_) (fun _ => ?_)
            · refine z_bipush hC (10 : Int32) dX12_readsCondition_68 (by decide) ?_
              refine z_goto hC 75 dX12_readsCondition_70 (by decide) ?_
              exact hJ12 (10 : Int32)
            · refine z_bipush hC (13 : Int32) dX12_readsCondition_73 (by decide) ?_
              exact hJ12 (13 : Int32)
        · refine z_icmp_eq hC 58 dX12_readsCondition_46 (by decide) (fun _ => ?_) (fun _ => ?_)
          · exact hJ9 ()
          · refine z_aload_n hC 0 dX12_readsCondition_49 rfl rfl ?_
            refine z_callVi hC (ci := 12) rfl lmRX12_137 (ctX12_here (vLa V) (vDa V) (vTg V) (vBs V) (vSa V) s5 p0) (by decide) hn0 dX12_readsCondition_50 rfl rfl (Nat.le_of_ble_eq_true rfl) (fun v14 => ?_)
            refine z_bipush hC (40 : Int32) dX12_readsCondition_53 (by decide) ?_
            refine z_icmp_ne hC 83 dX12_readsCondition_55 (by decide) (fun _ => ?_) (fun _ => ?_)
            · exact hJ9 ()
            · refine z_aload_n hC 0 dX12_readsCondition_83 rfl rfl ?_
              refine z_callVi hC (ci := 12) rfl lmRX12_200 (ctX12_readsCompared (vLa V) (vDa V) (vTg V) (vBs V) (vSa V) s5 p0) (by decide) hn0 dX12_readsCondition_84 rfl rfl (Nat.le_of_ble_eq_true rfl) (fun w15 => ?_)
              refine z_if_ne hC 92 dX12_readsCondition_87 (by decide) (fun _ => ?_) (fun _ => ?_)
              · refine z_iconst hC (0 : Int32) dX12_readsCondition_90 (by decide) ?_
                exact z_zret hC (by decide) (fun h => h) dX12_readsCondition_91
              · refine z_lpR (S := HP) (Y := HP) (fun s16 => s16) (fun s16 => [(0, .ref p0)]) (fun y17 => y17) (fun y17 => [(0, .ref p0)]) 152 [] (fun y17 => ?_) (fun s16 => ?_) rfl rfl
                · refine z_aload_n hC 0 dX12_readsCondition_152 rfl rfl ?_
                  refine z_callVi hC (ci := 12) rfl lmRX12_137 (ctX12_here (vLa V) (vDa V) (vTg V) (vBs V) (vSa V) y17 p0) (by decide) hn0 dX12_readsCondition_153 rfl rfl (Nat.le_of_ble_eq_true rfl) (fun v18 => ?_)
                  refine z_bipush hC (38 : Int32) dX12_readsCondition_156 (by decide) ?_
                  refine z_jn (A := Unit) (fun a19 => y17) (fun a19 => [(0, .ref p0)]) 180 (fun a19 => []) (fun a19 => ?_) (fun J20 hJ20 => ?_)
                  · refine z_aload_n hC 0 dX12_readsCondition_180 rfl rfl ?_
                    refine z_aload_n hC 0 dX12_readsCondition_181 rfl rfl ?_
                    refine z_callVi hC (ci := 12) rfl lmRX12_137 (ctX12_here (vLa V) (vDa V) (vTg V) (vBs V) (vSa V) y17 p0) (by decide) hn0 dX12_readsCondition_182 rfl rfl (Nat.le_of_ble_eq_true rfl) (fun v21 => ?_)
                    refine z_bipush hC (124 : Int32) dX12_readsCondition_185 (by decide) ?_
                    refine z_jn (A := Int32) (fun a22 => y17) (fun a22 => [(0, .ref p0)]) 195 (fun a22 => [.int a22, .ref p0]) (fun a22 => ?_) (fun J23 hJ23 => ?_)
                    · refine z_callVv hC (ci := 12) rfl lmRX12_203 (ctX12_lands (vLa V) (vDa V) (vTg V) (vBs V) (vSa V) y17 p0 a22) (by decide) hn0 dX12_readsCondition_195 rfl rfl (Nat.le_of_ble_eq_true rfl) (fun w24 => ?_)
                      refine z_aload_n hC 0 dX12_readsCondition_198 rfl rfl ?_
                      refine z_aload_n hC 0 dX12_readsCondition_199 rfl rfl ?_
                      refine z_callVi hC (ci := 12) rfl lmRX12_137 (ctX12_here (vLa V) (vDa V) (vTg V) (vBs V) (vSa V) w24 p0) (by decide) hn0 dX12_readsCondition_200 rfl rfl (Nat.le_of_ble_eq_true rfl) (fun v25 => ?_)
                      refine z_bipush hC (38 : Int32) dX12_readsCondition_203 (by decide) ?_
                      refine z_jn (A := Int32) (fun a26 => w24) (fun a26 => [(0, .ref p0)]) 215 (fun a26 => [.int a26, .ref p0]) (fun a26 => ?_) (fun J27 hJ27 => ?_)
                      · refine z_callVv hC (ci := 12) rfl lmRX12_206 (ctX12_jumps (vLa V) (vDa V) (vTg V) (vBs V) (vSa V) w24 p0 a26) (by decide) hn0 dX12_readsCondition_215 rfl rfl (Nat.le_of_ble_eq_true rfl) (fun w28 => ?_)
                        refine z_goto hC 40 dX12_readsCondition_218 (by decide) ?_
                        exact z_leaf (fun h => h)
                      · refine z_icmp_ne hC 213 dX12_readsCondition_205 (by decide) (fun _ => ?_) (fun _ => ?_)
                        · refine z_bipush hC (11 : Int32) dX12_readsCondition_208 (by decide) ?_
                          refine z_goto hC 215 dX12_readsCondition_210 (by decide) ?_
                          exact hJ27 (11 : Int32)
                        · refine z_bipush hC (12 : Int32) dX12_readsCondition_213 (by decide) ?_
                          exact hJ27 (12 : Int32)
                    · refine z_icmp_ne hC 194 dX12_readsCondition_187 (by decide) (fun _ => ?_) (fun _ => ?_)
                      · refine z_iconst hC (1 : Int32) dX12_readsCondition_190 (by decide) ?_
                        refine z_goto hC 195 dX12_readsCondition_191 (by decide) ?_
                        exact hJ23 (1 : Int32)
                      · refine z_iconst hC (0 : Int32) dX12_readsCondition_194 (by decide) ?_
                        exact hJ23 (0 : Int32)
                  · refine z_icmp_eq hC 180 dX12_readsCondition_158 (by decide) (fun _ => ?_) (fun _ => ?_)
                    · exact hJ20 ()
                    · refine z_aload_n hC 0 dX12_readsCondition_161 rfl rfl ?_
                      refine z_callVi hC (ci := 12) rfl lmRX12_137 (ctX12_here (vLa V) (vDa V) (vTg V) (vBs V) (vSa V) y17 p0) (by decide) hn0 dX12_readsCondition_162 rfl rfl (Nat.le_of_ble_eq_true rfl) (fun v29 => ?_)
                      refine z_bipush hC (124 : Int32) dX12_readsCondition_165 (by decide) ?_
                      refine z_icmp_eq hC 180 dX12_readsCondition_167 (by decide) (fun _ => ?_) (fun _ => ?_)
                      · exact hJ20 ()
                      · refine z_aload_n hC 0 dX12_readsCondition_170 rfl rfl ?_
                        refine z_iconst hC (1 : Int32) dX12_readsCondition_171 (by decide) ?_
                        refine z_aload_n hC 0 dX12_readsCondition_172 rfl rfl ?_
                        refine z_getI hC lgRX12_131 dX12_readsCondition_173 (fun v30 => ?_)
                        refine z_callVi hC (ci := 12) rfl lmRX12_144 (ctX12_wrongAt (vLa V) (vDa V) (vTg V) (vBs V) (vSa V) y17 p0 (1 : Int32) v30) (by decide) hn0 dX12_readsCondition_176 rfl rfl (Nat.le_of_ble_eq_true rfl) (fun w31 => ?_)
                        exact z_bz (fun hv => z_zret hC hv (fun h => h) dX12_readsCondition_179)
                · refine z_aload_n hC 0 dX12_readsCondition_92 rfl rfl ?_
                  refine z_callVi hC (ci := 12) rfl lmRX12_137 (ctX12_here (vLa V) (vDa V) (vTg V) (vBs V) (vSa V) s16 p0) (by decide) hn0 dX12_readsCondition_93 rfl rfl (Nat.le_of_ble_eq_true rfl) (fun v32 => ?_)
                  refine z_bipush hC (41 : Int32) dX12_readsCondition_96 (by decide) ?_
                  refine z_icmp_ne hC 152 dX12_readsCondition_98 (by decide) (fun _ => ?_) (fun _ => ?_)
                  · refine z_aload_n hC 0 dX12_readsCondition_101 rfl rfl ?_
                    refine z_iconst hC (1 : Int32) dX12_readsCondition_102 (by decide) ?_
                    refine z_callVv hC (ci := 12) rfl lmRX12_203 (ctX12_lands (vLa V) (vDa V) (vTg V) (vBs V) (vSa V) s16 p0 (1 : Int32)) (by decide) hn0 dX12_readsCondition_103 rfl rfl (Nat.le_of_ble_eq_true rfl) (fun w33 => ?_)
                    refine z_aload_n hC 0 dX12_readsCondition_106 rfl rfl ?_
                    refine z_aload_n hC 0 dX12_readsCondition_107 rfl rfl ?_
                    refine z_getI hC lgRX12_161 dX12_readsCondition_108 (fun v34 => ?_)
                    refine z_iconst hC (1 : Int32) dX12_readsCondition_111 (by decide) ?_
                    refine z_isub hC dX12_readsCondition_112 ?_
                    refine z_putI hC lpRX12_161 dX12_readsCondition_113 (fun hp35 => ?_)
                    refine z_aload_n hC 0 dX12_readsCondition_116 rfl rfl ?_
                    refine z_aload_n hC 0 dX12_readsCondition_117 rfl rfl ?_
                    refine z_getI hC lgRX12_158 dX12_readsCondition_118 (fun v36 => ?_)
                    refine z_iconst hC (1 : Int32) dX12_readsCondition_121 (by decide) ?_
                    refine z_isub hC dX12_readsCondition_122 ?_
                    refine z_putI hC lpRX12_158 dX12_readsCondition_123 (fun hp37 => ?_)
                    refine z_aload_n hC 0 dX12_readsCondition_126 rfl rfl ?_
                    refine z_aload_n hC 0 dX12_readsCondition_127 rfl rfl ?_
                    refine z_getI hC lgRX12_131 dX12_readsCondition_128 (fun v38 => ?_)
                    refine z_iconst hC (1 : Int32) dX12_readsCondition_131 (by decide) ?_
                    refine z_iadd hC dX12_readsCondition_132 ?_
                    refine z_putI hC lpRX12_131 dX12_readsCondition_133 (fun hp39 => ?_)
                    refine z_aload_n hC 0 dX12_readsCondition_136 rfl rfl ?_
                    refine z_getI hC lgRX12_161 dX12_readsCondition_137 (fun v40 => ?_)
                    refine z_if_ne hC 145 dX12_readsCondition_140 (by decide) (fun _ => ?_) (fun _ => ?_)
                    · refine z_iconst hC (1 : Int32) dX12_readsCondition_143 (by decide) ?_
                      exact z_zret hC (by decide) (fun h => h) dX12_readsCondition_144
                    · refine z_aload_n hC 0 dX12_readsCondition_145 rfl rfl ?_
                      refine z_callVv hC (ci := 12) rfl lmRX12_197 (ctX12_endsPiece (vLa V) (vDa V) (vTg V) (vBs V) (vSa V) hp39 p0) (by decide) hn0 dX12_readsCondition_146 rfl rfl (Nat.le_of_ble_eq_true rfl) (fun w41 => ?_)
                      refine z_goto hC 92 dX12_readsCondition_149 (by decide) ?_
                      exact z_leaf (fun h => h)
                  · exact z_leaf (fun h => h)
  · refine z_aload_n hC 0 dX12_readsCondition_9 rfl rfl ?_
    refine z_iconst hC (1 : Int32) dX12_readsCondition_10 (by decide) ?_
    refine z_aload_n hC 0 dX12_readsCondition_11 rfl rfl ?_
    refine z_getI hC lgRX12_131 dX12_readsCondition_12 (fun v42 => ?_)
    refine z_callVi hC (ci := 12) rfl lmRX12_144 (ctX12_wrongAt (vLa V) (vDa V) (vTg V) (vBs V) (vSa V) hp p0 (1 : Int32) v42) (by decide) hn0 dX12_readsCondition_15 rfl rfl (Nat.le_of_ble_eq_true rfl) (fun w43 => ?_)
    exact z_bz (fun hv => z_zret hC hv (fun h => h) dX12_readsCondition_18)

theorem dX12_readsRule_0 : decode cX12_readsRule 0 = .ok (.aload_n 0, 1) := by decide +kernel
theorem dX12_readsRule_1 : decode cX12_readsRule 1 = .ok (.invokevirtual 137, 3) := by decide +kernel
theorem dX12_readsRule_4 : decode cX12_readsRule 4 = .ok (.istore_n 1, 1) := by decide +kernel
theorem dX12_readsRule_5 : decode cX12_readsRule 5 = .ok (.iload_n 1, 1) := by decide +kernel
theorem dX12_readsRule_6 : decode cX12_readsRule 6 = .ok (.bipush 100, 2) := by decide +kernel
theorem dX12_readsRule_8 : decode cX12_readsRule 8 = .ok (.if_icmp .eq 25, 3) := by decide +kernel
theorem dX12_readsRule_11 : decode cX12_readsRule 11 = .ok (.iload_n 1, 1) := by decide +kernel
theorem dX12_readsRule_12 : decode cX12_readsRule 12 = .ok (.bipush 103, 2) := by decide +kernel
theorem dX12_readsRule_14 : decode cX12_readsRule 14 = .ok (.if_icmp .eq 19, 3) := by decide +kernel
theorem dX12_readsRule_17 : decode cX12_readsRule 17 = .ok (.iload_n 1, 1) := by decide +kernel
theorem dX12_readsRule_18 : decode cX12_readsRule 18 = .ok (.bipush 120, 2) := by decide +kernel
theorem dX12_readsRule_20 : decode cX12_readsRule 20 = .ok (.if_icmp .eq 13, 3) := by decide +kernel
theorem dX12_readsRule_23 : decode cX12_readsRule 23 = .ok (.aload_n 0, 1) := by decide +kernel
theorem dX12_readsRule_24 : decode cX12_readsRule 24 = .ok (.iconst 1, 1) := by decide +kernel
theorem dX12_readsRule_25 : decode cX12_readsRule 25 = .ok (.aload_n 0, 1) := by decide +kernel
theorem dX12_readsRule_26 : decode cX12_readsRule 26 = .ok (.getfield 131, 3) := by decide +kernel
theorem dX12_readsRule_29 : decode cX12_readsRule 29 = .ok (.invokevirtual 144, 3) := by decide +kernel
theorem dX12_readsRule_32 : decode cX12_readsRule 32 = .ok (.ireturn, 1) := by decide +kernel
theorem dX12_readsRule_33 : decode cX12_readsRule 33 = .ok (.aload_n 0, 1) := by decide +kernel
theorem dX12_readsRule_34 : decode cX12_readsRule 34 = .ok (.getfield 209, 3) := by decide +kernel
theorem dX12_readsRule_37 : decode cX12_readsRule 37 = .ok (.bipush 16, 2) := by decide +kernel
theorem dX12_readsRule_39 : decode cX12_readsRule 39 = .ok (.if_icmp .ne 13, 3) := by decide +kernel
theorem dX12_readsRule_42 : decode cX12_readsRule 42 = .ok (.aload_n 0, 1) := by decide +kernel
theorem dX12_readsRule_43 : decode cX12_readsRule 43 = .ok (.iconst 4, 1) := by decide +kernel
theorem dX12_readsRule_44 : decode cX12_readsRule 44 = .ok (.aload_n 0, 1) := by decide +kernel
theorem dX12_readsRule_45 : decode cX12_readsRule 45 = .ok (.getfield 131, 3) := by decide +kernel
theorem dX12_readsRule_48 : decode cX12_readsRule 48 = .ok (.invokevirtual 144, 3) := by decide +kernel
theorem dX12_readsRule_51 : decode cX12_readsRule 51 = .ok (.ireturn, 1) := by decide +kernel
theorem dX12_readsRule_52 : decode cX12_readsRule 52 = .ok (.aload_n 0, 1) := by decide +kernel
theorem dX12_readsRule_53 : decode cX12_readsRule 53 = .ok (.getfield 36, 3) := by decide +kernel
theorem dX12_readsRule_56 : decode cX12_readsRule 56 = .ok (.aload_n 0, 1) := by decide +kernel
theorem dX12_readsRule_57 : decode cX12_readsRule 57 = .ok (.getfield 209, 3) := by decide +kernel
theorem dX12_readsRule_60 : decode cX12_readsRule 60 = .ok (.iload_n 1, 1) := by decide +kernel
theorem dX12_readsRule_61 : decode cX12_readsRule 61 = .ok (.iastore, 1) := by decide +kernel
theorem dX12_readsRule_62 : decode cX12_readsRule 62 = .ok (.aload_n 0, 1) := by decide +kernel
theorem dX12_readsRule_63 : decode cX12_readsRule 63 = .ok (.aload_n 0, 1) := by decide +kernel
theorem dX12_readsRule_64 : decode cX12_readsRule 64 = .ok (.getfield 131, 3) := by decide +kernel
theorem dX12_readsRule_67 : decode cX12_readsRule 67 = .ok (.iconst 1, 1) := by decide +kernel
theorem dX12_readsRule_68 : decode cX12_readsRule 68 = .ok (.iadd, 1) := by decide +kernel
theorem dX12_readsRule_69 : decode cX12_readsRule 69 = .ok (.putfield 131, 3) := by decide +kernel
theorem dX12_readsRule_72 : decode cX12_readsRule 72 = .ok (.aload_n 0, 1) := by decide +kernel
theorem dX12_readsRule_73 : decode cX12_readsRule 73 = .ok (.getfield 39, 3) := by decide +kernel
theorem dX12_readsRule_76 : decode cX12_readsRule 76 = .ok (.aload_n 0, 1) := by decide +kernel
theorem dX12_readsRule_77 : decode cX12_readsRule 77 = .ok (.getfield 209, 3) := by decide +kernel
theorem dX12_readsRule_80 : decode cX12_readsRule 80 = .ok (.aload_n 0, 1) := by decide +kernel
theorem dX12_readsRule_81 : decode cX12_readsRule 81 = .ok (.getfield 154, 3) := by decide +kernel
theorem dX12_readsRule_84 : decode cX12_readsRule 84 = .ok (.iastore, 1) := by decide +kernel
theorem dX12_readsRule_85 : decode cX12_readsRule 85 = .ok (.aload_n 0, 1) := by decide +kernel
theorem dX12_readsRule_86 : decode cX12_readsRule 86 = .ok (.iconst 0, 1) := by decide +kernel
theorem dX12_readsRule_87 : decode cX12_readsRule 87 = .ok (.putfield 158, 3) := by decide +kernel
theorem dX12_readsRule_90 : decode cX12_readsRule 90 = .ok (.aload_n 0, 1) := by decide +kernel
theorem dX12_readsRule_91 : decode cX12_readsRule 91 = .ok (.iconst 0, 1) := by decide +kernel
theorem dX12_readsRule_92 : decode cX12_readsRule 92 = .ok (.putfield 161, 3) := by decide +kernel
theorem dX12_readsRule_95 : decode cX12_readsRule 95 = .ok (.iload_n 1, 1) := by decide +kernel
theorem dX12_readsRule_96 : decode cX12_readsRule 96 = .ok (.bipush 120, 2) := by decide +kernel
theorem dX12_readsRule_98 : decode cX12_readsRule 98 = .ok (.if_icmp .eq 12, 3) := by decide +kernel
theorem dX12_readsRule_101 : decode cX12_readsRule 101 = .ok (.aload_n 0, 1) := by decide +kernel
theorem dX12_readsRule_102 : decode cX12_readsRule 102 = .ok (.invokevirtual 194, 3) := by decide +kernel
theorem dX12_readsRule_105 : decode cX12_readsRule 105 = .ok (.ifCond .ne 5, 3) := by decide +kernel
theorem dX12_readsRule_108 : decode cX12_readsRule 108 = .ok (.iconst 0, 1) := by decide +kernel
theorem dX12_readsRule_109 : decode cX12_readsRule 109 = .ok (.ireturn, 1) := by decide +kernel
theorem dX12_readsRule_110 : decode cX12_readsRule 110 = .ok (.aload_n 0, 1) := by decide +kernel
theorem dX12_readsRule_111 : decode cX12_readsRule 111 = .ok (.getfield 42, 3) := by decide +kernel
theorem dX12_readsRule_114 : decode cX12_readsRule 114 = .ok (.aload_n 0, 1) := by decide +kernel
theorem dX12_readsRule_115 : decode cX12_readsRule 115 = .ok (.getfield 209, 3) := by decide +kernel
theorem dX12_readsRule_118 : decode cX12_readsRule 118 = .ok (.aload_n 0, 1) := by decide +kernel
theorem dX12_readsRule_119 : decode cX12_readsRule 119 = .ok (.getfield 154, 3) := by decide +kernel
theorem dX12_readsRule_122 : decode cX12_readsRule 122 = .ok (.iastore, 1) := by decide +kernel
theorem dX12_readsRule_123 : decode cX12_readsRule 123 = .ok (.aload_n 0, 1) := by decide +kernel
theorem dX12_readsRule_124 : decode cX12_readsRule 124 = .ok (.invokevirtual 212, 3) := by decide +kernel
theorem dX12_readsRule_127 : decode cX12_readsRule 127 = .ok (.ifCond .ne 5, 3) := by decide +kernel
theorem dX12_readsRule_130 : decode cX12_readsRule 130 = .ok (.iconst 0, 1) := by decide +kernel
theorem dX12_readsRule_131 : decode cX12_readsRule 131 = .ok (.ireturn, 1) := by decide +kernel
theorem dX12_readsRule_132 : decode cX12_readsRule 132 = .ok (.aload_n 0, 1) := by decide +kernel
theorem dX12_readsRule_133 : decode cX12_readsRule 133 = .ok (.getfield 45, 3) := by decide +kernel
theorem dX12_readsRule_136 : decode cX12_readsRule 136 = .ok (.aload_n 0, 1) := by decide +kernel
theorem dX12_readsRule_137 : decode cX12_readsRule 137 = .ok (.getfield 209, 3) := by decide +kernel
theorem dX12_readsRule_140 : decode cX12_readsRule 140 = .ok (.aload_n 0, 1) := by decide +kernel
theorem dX12_readsRule_141 : decode cX12_readsRule 141 = .ok (.getfield 154, 3) := by decide +kernel
theorem dX12_readsRule_144 : decode cX12_readsRule 144 = .ok (.iastore, 1) := by decide +kernel
theorem dX12_readsRule_145 : decode cX12_readsRule 145 = .ok (.aload_n 0, 1) := by decide +kernel
theorem dX12_readsRule_146 : decode cX12_readsRule 146 = .ok (.aload_n 0, 1) := by decide +kernel
theorem dX12_readsRule_147 : decode cX12_readsRule 147 = .ok (.getfield 209, 3) := by decide +kernel
theorem dX12_readsRule_150 : decode cX12_readsRule 150 = .ok (.iconst 1, 1) := by decide +kernel
theorem dX12_readsRule_151 : decode cX12_readsRule 151 = .ok (.iadd, 1) := by decide +kernel
theorem dX12_readsRule_152 : decode cX12_readsRule 152 = .ok (.putfield 209, 3) := by decide +kernel
theorem dX12_readsRule_155 : decode cX12_readsRule 155 = .ok (.iconst 1, 1) := by decide +kernel
theorem dX12_readsRule_156 : decode cX12_readsRule 156 = .ok (.ireturn, 1) := by decide +kernel
def FX12_readsRule (hp : HP) (p0 : Nat) : Option (Int32 × HP) := (rc [12] hp p0 (FX12_here hp p0)).bind (fun v1 => jn (A := Unit) (fun a2 => (gI [12] 22 hp p0).bind (fun v4 => if v4 = (16 : Int32) then (gI [12] 15 hp p0).bind (fun v5 => (rc [12] hp p0 (FX12_wrongAt hp p0 (4 : Int32) v5)).bind (fun w6 => bz w6.1 (some (w6.1, w6.2)))) else (gR [12] 26 hp p0).bind (fun v7 => (gI [12] 22 hp p0).bind (fun v8 => (wrI hp v7 v8 v1).bind (fun hp9 => (gI [12] 15 hp9 p0).bind (fun v10 => (sI [12] 15 hp9 p0 (v10 + (1 : Int32))).bind (fun hp11 => (gR [12] 27 hp11 p0).bind (fun v12 => (gI [12] 22 hp11 p0).bind (fun v13 => (gI [12] 20 hp11 p0).bind (fun v14 => (wrI hp11 v12 v13 v14).bind (fun hp15 => (sI [12] 19 hp15 p0 (0 : Int32)).bind (fun hp16 => (sI [12] 21 hp16 p0 (0 : Int32)).bind (fun hp17 => jn (A := HP) (fun a18 => (gR [12] 28 a18 p0).bind (fun v20 => (gI [12] 22 a18 p0).bind (fun v21 => (gI [12] 20 a18 p0).bind (fun v22 => (wrI a18 v20 v21 v22).bind (fun hp23 => (rc [12] hp23 p0 (FX12_readsCondition hp23 p0)).bind (fun w24 => if w24.1 = 0 then some ((0 : Int32), w24.2) else (gR [12] 29 w24.2 p0).bind (fun v25 => (gI [12] 22 w24.2 p0).bind (fun v26 => (gI [12] 20 w24.2 p0).bind (fun v27 => (wrI w24.2 v25 v26 v27).bind (fun hp28 => (gI [12] 22 hp28 p0).bind (fun v29 => (sI [12] 22 hp28 p0 (v29 + (1 : Int32))).bind (fun hp30 => some ((1 : Int32), hp30))))))))))))) (fun J19 => if v1 = (120 : Int32) then J19 hp17 else (rc [12] hp17 p0 (FX12_readsSum hp17 p0)).bind (fun w31 => if w31.1 = 0 then some ((0 : Int32), w31.2) else J19 w31.2))))))))))))))) (fun J3 => if v1 = (100 : Int32) then J3 () else if v1 = (103 : Int32) then J3 () else if v1 = (120 : Int32) then J3 () else (gI [12] 15 hp p0).bind (fun v32 => (rc [12] hp p0 (FX12_wrongAt hp p0 (1 : Int32) v32)).bind (fun w33 => bz w33.1 (some (w33.1, w33.2))))))
set_option maxHeartbeats 4000000 in
set_option maxRecDepth 100000 in
theorem ctX12_readsRule (l : Launch) (D : va_G) (tg : Nat → ClassId) (bs : Nat) (sa : Nat → Nat) (hp : HP) (p0 : Nat) : Ct l D tg bs sa yX12_readsRule cX12_readsRule 2 (some .boolean) 7 [.ref p0] hp (FX12_readsRule hp p0) (fun r => some (.int r.1)) (fun r => r.2) := by
  refine Ct.of (by decide) (Nat.le_of_ble_eq_true rfl) ?_
  intro V Q hVl hVd hVt hVb hVs hC
  subst hVl; subst hVd; subst hVt; subst hVb; subst hVs
  unfold FX12_readsRule
  show Zs V Q (0, 0) 2 _ _ hp [(0, .ref p0)] 0 []
  refine z_aload_n hC 0 dX12_readsRule_0 rfl rfl ?_
  refine z_callVi hC (ci := 12) rfl lmRX12_137 (ctX12_here (vLa V) (vDa V) (vTg V) (vBs V) (vSa V) hp p0) (by decide) hn0 dX12_readsRule_1 rfl rfl (Nat.le_of_ble_eq_true rfl) (fun v1 => ?_)
  refine z_istore_n hC [(0, .ref p0), (1, .int v1)] [1, 0] dX12_readsRule_4 rfl (by decide) rfl ?_
  refine z_iload_n hC 1 dX12_readsRule_5 rfl rfl ?_
  refine z_bipush hC (100 : Int32) dX12_readsRule_6 (by decide) ?_
  refine z_jn (A := Unit) (fun a2 => hp) (fun a2 => [(0, .ref p0), (1, .int v1)]) 33 (fun a2 => []) (fun a2 => ?_) (fun J3 hJ3 => ?_)
  · refine z_aload_n hC 0 dX12_readsRule_33 rfl rfl ?_
    refine z_getI hC lgRX12_209 dX12_readsRule_34 (fun v4 => ?_)
    refine z_bipush hC (16 : Int32) dX12_readsRule_37 (by decide) ?_
    refine z_icmp_ne hC 52 dX12_readsRule_39 (by decide) (fun _ => ?_) (fun _ => ?_)
    · refine z_aload_n hC 0 dX12_readsRule_42 rfl rfl ?_
      refine z_iconst hC (4 : Int32) dX12_readsRule_43 (by decide) ?_
      refine z_aload_n hC 0 dX12_readsRule_44 rfl rfl ?_
      refine z_getI hC lgRX12_131 dX12_readsRule_45 (fun v5 => ?_)
      refine z_callVi hC (ci := 12) rfl lmRX12_144 (ctX12_wrongAt (vLa V) (vDa V) (vTg V) (vBs V) (vSa V) hp p0 (4 : Int32) v5) (by decide) hn0 dX12_readsRule_48 rfl rfl (Nat.le_of_ble_eq_true rfl) (fun w6 => ?_)
      exact z_bz (fun hv => z_zret hC hv (fun h => h) dX12_readsRule_51)
    · refine z_aload_n hC 0 dX12_readsRule_52 rfl rfl ?_
      refine z_getR hC lgRX12_36 dX12_readsRule_53 (fun v7 => ?_)
      refine z_aload_n hC 0 dX12_readsRule_56 rfl rfl ?_
      refine z_getI hC lgRX12_209 dX12_readsRule_57 (fun v8 => ?_)
      refine z_iload_n hC 1 dX12_readsRule_60 rfl rfl ?_
      refine z_iast hC dX12_readsRule_61 (fun hp9 => ?_)
      refine z_aload_n hC 0 dX12_readsRule_62 rfl rfl ?_
      refine z_aload_n hC 0 dX12_readsRule_63 rfl rfl ?_
      refine z_getI hC lgRX12_131 dX12_readsRule_64 (fun v10 => ?_)
      refine z_iconst hC (1 : Int32) dX12_readsRule_67 (by decide) ?_
      refine z_iadd hC dX12_readsRule_68 ?_
      refine z_putI hC lpRX12_131 dX12_readsRule_69 (fun hp11 => ?_)
      refine z_aload_n hC 0 dX12_readsRule_72 rfl rfl ?_
      refine z_getR hC lgRX12_39 dX12_readsRule_73 (fun v12 => ?_)
      refine z_aload_n hC 0 dX12_readsRule_76 rfl rfl ?_
      refine z_getI hC lgRX12_209 dX12_readsRule_77 (fun v13 => ?_)
      refine z_aload_n hC 0 dX12_readsRule_80 rfl rfl ?_
      refine z_getI hC lgRX12_154 dX12_readsRule_81 (fun v14 => ?_)
      refine z_iast hC dX12_readsRule_84 (fun hp15 => ?_)
      refine z_aload_n hC 0 dX12_readsRule_85 rfl rfl ?_
      refine z_iconst hC (0 : Int32) dX12_readsRule_86 (by decide) ?_
      refine z_putI hC lpRX12_158 dX12_readsRule_87 (fun hp16 => ?_)
      refine z_aload_n hC 0 dX12_readsRule_90 rfl rfl ?_
      refine z_iconst hC (0 : Int32) dX12_readsRule_91 (by decide) ?_
      refine z_putI hC lpRX12_161 dX12_readsRule_92 (fun hp17 => ?_)
      refine z_iload_n hC 1 dX12_readsRule_95 rfl rfl ?_
      refine z_bipush hC (120 : Int32) dX12_readsRule_96 (by decide) ?_
      refine z_jn (A := HP) (fun a18 => a18) (fun a18 => [(0, .ref p0)]) 110 (fun a18 => []) (fun a18 => ?_) (fun J19 hJ19 => ?_)
      · refine z_aload_n hC 0 dX12_readsRule_110 rfl rfl ?_
        refine z_getR hC lgRX12_42 dX12_readsRule_111 (fun v20 => ?_)
        refine z_aload_n hC 0 dX12_readsRule_114 rfl rfl ?_
        refine z_getI hC lgRX12_209 dX12_readsRule_115 (fun v21 => ?_)
        refine z_aload_n hC 0 dX12_readsRule_118 rfl rfl ?_
        refine z_getI hC lgRX12_154 dX12_readsRule_119 (fun v22 => ?_)
        refine z_iast hC dX12_readsRule_122 (fun hp23 => ?_)
        refine z_aload_n hC 0 dX12_readsRule_123 rfl rfl ?_
        refine z_callVi hC (ci := 12) rfl lmRX12_212 (ctX12_readsCondition (vLa V) (vDa V) (vTg V) (vBs V) (vSa V) hp23 p0) (by decide) hn0 dX12_readsRule_124 rfl rfl (Nat.le_of_ble_eq_true rfl) (fun w24 => ?_)
        refine z_if_ne hC 132 dX12_readsRule_127 (by decide) (fun _ => ?_) (fun _ => ?_)
        · refine z_iconst hC (0 : Int32) dX12_readsRule_130 (by decide) ?_
          exact z_zret hC (by decide) (fun h => h) dX12_readsRule_131
        · refine z_aload_n hC 0 dX12_readsRule_132 rfl rfl ?_
          refine z_getR hC lgRX12_45 dX12_readsRule_133 (fun v25 => ?_)
          refine z_aload_n hC 0 dX12_readsRule_136 rfl rfl ?_
          refine z_getI hC lgRX12_209 dX12_readsRule_137 (fun v26 => ?_)
          refine z_aload_n hC 0 dX12_readsRule_140 rfl rfl ?_
          refine z_getI hC lgRX12_154 dX12_readsRule_141 (fun v27 => ?_)
          refine z_iast hC dX12_readsRule_144 (fun hp28 => ?_)
          refine z_aload_n hC 0 dX12_readsRule_145 rfl rfl ?_
          refine z_aload_n hC 0 dX12_readsRule_146 rfl rfl ?_
          refine z_getI hC lgRX12_209 dX12_readsRule_147 (fun v29 => ?_)
          refine z_iconst hC (1 : Int32) dX12_readsRule_150 (by decide) ?_
          refine z_iadd hC dX12_readsRule_151 ?_
          refine z_putI hC lpRX12_209 dX12_readsRule_152 (fun hp30 => ?_)
          refine z_iconst hC (1 : Int32) dX12_readsRule_155 (by decide) ?_
          exact z_zret hC (by decide) (fun h => h) dX12_readsRule_156
      · refine z_icmp_eq hC 110 dX12_readsRule_98 (by decide) (fun _ => ?_) (fun _ => ?_)
        · refine z_weak [(0, .ref p0)] [0] rfl ?_
          exact hJ19 hp17
        · refine z_aload_n hC 0 dX12_readsRule_101 rfl rfl ?_
          refine z_callVi hC (ci := 12) rfl lmRX12_194 (ctX12_readsSum (vLa V) (vDa V) (vTg V) (vBs V) (vSa V) hp17 p0) (by decide) hn0 dX12_readsRule_102 rfl rfl (Nat.le_of_ble_eq_true rfl) (fun w31 => ?_)
          refine z_if_ne hC 110 dX12_readsRule_105 (by decide) (fun _ => ?_) (fun _ => ?_)
          · refine z_iconst hC (0 : Int32) dX12_readsRule_108 (by decide) ?_
            exact z_zret hC (by decide) (fun h => h) dX12_readsRule_109
          · refine z_weak [(0, .ref p0)] [0] rfl ?_
            exact hJ19 w31.2
  · refine z_icmp_eq hC 33 dX12_readsRule_8 (by decide) (fun _ => ?_) (fun _ => ?_)
    · exact hJ3 ()
    · refine z_iload_n hC 1 dX12_readsRule_11 rfl rfl ?_
      refine z_bipush hC (103 : Int32) dX12_readsRule_12 (by decide) ?_
      refine z_icmp_eq hC 33 dX12_readsRule_14 (by decide) (fun _ => ?_) (fun _ => ?_)
      · exact hJ3 ()
      · refine z_iload_n hC 1 dX12_readsRule_17 rfl rfl ?_
        refine z_bipush hC (120 : Int32) dX12_readsRule_18 (by decide) ?_
        refine z_icmp_eq hC 33 dX12_readsRule_20 (by decide) (fun _ => ?_) (fun _ => ?_)
        · exact hJ3 ()
        · refine z_aload_n hC 0 dX12_readsRule_23 rfl rfl ?_
          refine z_iconst hC (1 : Int32) dX12_readsRule_24 (by decide) ?_
          refine z_aload_n hC 0 dX12_readsRule_25 rfl rfl ?_
          refine z_getI hC lgRX12_131 dX12_readsRule_26 (fun v32 => ?_)
          refine z_callVi hC (ci := 12) rfl lmRX12_144 (ctX12_wrongAt (vLa V) (vDa V) (vTg V) (vBs V) (vSa V) hp p0 (1 : Int32) v32) (by decide) hn0 dX12_readsRule_29 rfl rfl (Nat.le_of_ble_eq_true rfl) (fun w33 => ?_)
          exact z_bz (fun hv => z_zret hC hv (fun h => h) dX12_readsRule_32)

theorem dX12_law_0 : decode cX12_law 0 = .ok (.iload_n 1, 1) := by decide +kernel
theorem dX12_law_1 : decode cX12_law 1 = .ok (.iconst 1, 1) := by decide +kernel
theorem dX12_law_2 : decode cX12_law 2 = .ok (.sipush 240, 3) := by decide +kernel
theorem dX12_law_5 : decode cX12_law 5 = .ok (.invokestatic 99, 3) := by decide +kernel
theorem dX12_law_8 : decode cX12_law 8 = .ok (.ifCond .eq 11, 3) := by decide +kernel
theorem dX12_law_11 : decode cX12_law 11 = .ok (.iload_n 1, 1) := by decide +kernel
theorem dX12_law_12 : decode cX12_law 12 = .ok (.aload_n 0, 1) := by decide +kernel
theorem dX12_law_13 : decode cX12_law 13 = .ok (.getfield 124, 3) := by decide +kernel
theorem dX12_law_16 : decode cX12_law 16 = .ok (.if_icmp .le 5, 3) := by decide +kernel
theorem dX12_law_19 : decode cX12_law 19 = .ok (.iconst (-1), 1) := by decide +kernel
theorem dX12_law_20 : decode cX12_law 20 = .ok (.ireturn, 1) := by decide +kernel
theorem dX12_law_21 : decode cX12_law 21 = .ok (.aload_n 0, 1) := by decide +kernel
theorem dX12_law_22 : decode cX12_law 22 = .ok (.iconst 0, 1) := by decide +kernel
theorem dX12_law_23 : decode cX12_law 23 = .ok (.putfield 131, 3) := by decide +kernel
theorem dX12_law_26 : decode cX12_law 26 = .ok (.aload_n 0, 1) := by decide +kernel
theorem dX12_law_27 : decode cX12_law 27 = .ok (.iload_n 1, 1) := by decide +kernel
theorem dX12_law_28 : decode cX12_law 28 = .ok (.putfield 134, 3) := by decide +kernel
theorem dX12_law_31 : decode cX12_law 31 = .ok (.aload_n 0, 1) := by decide +kernel
theorem dX12_law_32 : decode cX12_law 32 = .ok (.iconst 0, 1) := by decide +kernel
theorem dX12_law_33 : decode cX12_law 33 = .ok (.putfield 154, 3) := by decide +kernel
theorem dX12_law_36 : decode cX12_law 36 = .ok (.aload_n 0, 1) := by decide +kernel
theorem dX12_law_37 : decode cX12_law 37 = .ok (.iconst 0, 1) := by decide +kernel
theorem dX12_law_38 : decode cX12_law 38 = .ok (.putfield 209, 3) := by decide +kernel
theorem dX12_law_41 : decode cX12_law 41 = .ok (.aload_n 0, 1) := by decide +kernel
theorem dX12_law_42 : decode cX12_law 42 = .ok (.invokevirtual 215, 3) := by decide +kernel
theorem dX12_law_45 : decode cX12_law 45 = .ok (.istore_n 2, 1) := by decide +kernel
theorem dX12_law_46 : decode cX12_law 46 = .ok (.iload_n 2, 1) := by decide +kernel
theorem dX12_law_47 : decode cX12_law 47 = .ok (.ifCond .eq 39, 3) := by decide +kernel
theorem dX12_law_50 : decode cX12_law 50 = .ok (.aload_n 0, 1) := by decide +kernel
theorem dX12_law_51 : decode cX12_law 51 = .ok (.getfield 131, 3) := by decide +kernel
theorem dX12_law_54 : decode cX12_law 54 = .ok (.aload_n 0, 1) := by decide +kernel
theorem dX12_law_55 : decode cX12_law 55 = .ok (.getfield 134, 3) := by decide +kernel
theorem dX12_law_58 : decode cX12_law 58 = .ok (.if_icmp .ge 28, 3) := by decide +kernel
theorem dX12_law_61 : decode cX12_law 61 = .ok (.aload_n 0, 1) := by decide +kernel
theorem dX12_law_62 : decode cX12_law 62 = .ok (.bipush 59, 2) := by decide +kernel
theorem dX12_law_64 : decode cX12_law 64 = .ok (.invokevirtual 218, 3) := by decide +kernel
theorem dX12_law_67 : decode cX12_law 67 = .ok (.ifCond .eq 14, 3) := by decide +kernel
theorem dX12_law_70 : decode cX12_law 70 = .ok (.aload_n 0, 1) := by decide +kernel
theorem dX12_law_71 : decode cX12_law 71 = .ok (.invokevirtual 215, 3) := by decide +kernel
theorem dX12_law_74 : decode cX12_law 74 = .ok (.ifCond .eq 7, 3) := by decide +kernel
theorem dX12_law_77 : decode cX12_law 77 = .ok (.iconst 1, 1) := by decide +kernel
theorem dX12_law_78 : decode cX12_law 78 = .ok (.goto 4, 3) := by decide +kernel
theorem dX12_law_81 : decode cX12_law 81 = .ok (.iconst 0, 1) := by decide +kernel
theorem dX12_law_82 : decode cX12_law 82 = .ok (.istore_n 2, 1) := by decide +kernel
theorem dX12_law_83 : decode cX12_law 83 = .ok (.goto (-37), 3) := by decide +kernel
theorem dX12_law_86 : decode cX12_law 86 = .ok (.aload_n 0, 1) := by decide +kernel
theorem dX12_law_87 : decode cX12_law 87 = .ok (.iconst 0, 1) := by decide +kernel
theorem dX12_law_88 : decode cX12_law 88 = .ok (.putfield 124, 3) := by decide +kernel
theorem dX12_law_91 : decode cX12_law 91 = .ok (.iload_n 2, 1) := by decide +kernel
theorem dX12_law_92 : decode cX12_law 92 = .ok (.ifCond .ne 8, 3) := by decide +kernel
theorem dX12_law_95 : decode cX12_law 95 = .ok (.aload_n 0, 1) := by decide +kernel
theorem dX12_law_96 : decode cX12_law 96 = .ok (.getfield 141, 3) := by decide +kernel
theorem dX12_law_99 : decode cX12_law 99 = .ok (.ireturn, 1) := by decide +kernel
theorem dX12_law_100 : decode cX12_law 100 = .ok (.aload_n 0, 1) := by decide +kernel
theorem dX12_law_101 : decode cX12_law 101 = .ok (.aload_n 0, 1) := by decide +kernel
theorem dX12_law_102 : decode cX12_law 102 = .ok (.getfield 209, 3) := by decide +kernel
theorem dX12_law_105 : decode cX12_law 105 = .ok (.putfield 221, 3) := by decide +kernel
theorem dX12_law_108 : decode cX12_law 108 = .ok (.iconst 0, 1) := by decide +kernel
theorem dX12_law_109 : decode cX12_law 109 = .ok (.istore_n 3, 1) := by decide +kernel
theorem dX12_law_110 : decode cX12_law 110 = .ok (.iload_n 3, 1) := by decide +kernel
theorem dX12_law_111 : decode cX12_law 111 = .ok (.aload_n 0, 1) := by decide +kernel
theorem dX12_law_112 : decode cX12_law 112 = .ok (.getfield 154, 3) := by decide +kernel
theorem dX12_law_115 : decode cX12_law 115 = .ok (.if_icmp .ge 21, 3) := by decide +kernel
theorem dX12_law_118 : decode cX12_law 118 = .ok (.aload_n 0, 1) := by decide +kernel
theorem dX12_law_119 : decode cX12_law 119 = .ok (.getfield 48, 3) := by decide +kernel
theorem dX12_law_122 : decode cX12_law 122 = .ok (.iload_n 3, 1) := by decide +kernel
theorem dX12_law_123 : decode cX12_law 123 = .ok (.aload_n 0, 1) := by decide +kernel
theorem dX12_law_124 : decode cX12_law 124 = .ok (.getfield 30, 3) := by decide +kernel
theorem dX12_law_127 : decode cX12_law 127 = .ok (.iload_n 3, 1) := by decide +kernel
theorem dX12_law_128 : decode cX12_law 128 = .ok (.iaload, 1) := by decide +kernel
theorem dX12_law_129 : decode cX12_law 129 = .ok (.iastore, 1) := by decide +kernel
theorem dX12_law_130 : decode cX12_law 130 = .ok (.iinc 3 1, 3) := by decide +kernel
theorem dX12_law_133 : decode cX12_law 133 = .ok (.goto (-23), 3) := by decide +kernel
theorem dX12_law_136 : decode cX12_law 136 = .ok (.iconst 0, 1) := by decide +kernel
theorem dX12_law_137 : decode cX12_law 137 = .ok (.istore_n 3, 1) := by decide +kernel
theorem dX12_law_138 : decode cX12_law 138 = .ok (.iload_n 3, 1) := by decide +kernel
theorem dX12_law_139 : decode cX12_law 139 = .ok (.aload_n 0, 1) := by decide +kernel
theorem dX12_law_140 : decode cX12_law 140 = .ok (.getfield 209, 3) := by decide +kernel
theorem dX12_law_143 : decode cX12_law 143 = .ok (.if_icmp .ge 57, 3) := by decide +kernel
theorem dX12_law_146 : decode cX12_law 146 = .ok (.aload_n 0, 1) := by decide +kernel
theorem dX12_law_147 : decode cX12_law 147 = .ok (.getfield 51, 3) := by decide +kernel
theorem dX12_law_150 : decode cX12_law 150 = .ok (.iload_n 3, 1) := by decide +kernel
theorem dX12_law_151 : decode cX12_law 151 = .ok (.aload_n 0, 1) := by decide +kernel
theorem dX12_law_152 : decode cX12_law 152 = .ok (.getfield 36, 3) := by decide +kernel
theorem dX12_law_155 : decode cX12_law 155 = .ok (.iload_n 3, 1) := by decide +kernel
theorem dX12_law_156 : decode cX12_law 156 = .ok (.iaload, 1) := by decide +kernel
theorem dX12_law_157 : decode cX12_law 157 = .ok (.iastore, 1) := by decide +kernel
theorem dX12_law_158 : decode cX12_law 158 = .ok (.aload_n 0, 1) := by decide +kernel
theorem dX12_law_159 : decode cX12_law 159 = .ok (.getfield 54, 3) := by decide +kernel
theorem dX12_law_162 : decode cX12_law 162 = .ok (.iload_n 3, 1) := by decide +kernel
theorem dX12_law_163 : decode cX12_law 163 = .ok (.aload_n 0, 1) := by decide +kernel
theorem dX12_law_164 : decode cX12_law 164 = .ok (.getfield 39, 3) := by decide +kernel
theorem dX12_law_167 : decode cX12_law 167 = .ok (.iload_n 3, 1) := by decide +kernel
theorem dX12_law_168 : decode cX12_law 168 = .ok (.iaload, 1) := by decide +kernel
theorem dX12_law_169 : decode cX12_law 169 = .ok (.iastore, 1) := by decide +kernel
theorem dX12_law_170 : decode cX12_law 170 = .ok (.aload_n 0, 1) := by decide +kernel
theorem dX12_law_171 : decode cX12_law 171 = .ok (.getfield 57, 3) := by decide +kernel
theorem dX12_law_174 : decode cX12_law 174 = .ok (.iload_n 3, 1) := by decide +kernel
theorem dX12_law_175 : decode cX12_law 175 = .ok (.aload_n 0, 1) := by decide +kernel
theorem dX12_law_176 : decode cX12_law 176 = .ok (.getfield 42, 3) := by decide +kernel
theorem dX12_law_179 : decode cX12_law 179 = .ok (.iload_n 3, 1) := by decide +kernel
theorem dX12_law_180 : decode cX12_law 180 = .ok (.iaload, 1) := by decide +kernel
theorem dX12_law_181 : decode cX12_law 181 = .ok (.iastore, 1) := by decide +kernel
theorem dX12_law_182 : decode cX12_law 182 = .ok (.aload_n 0, 1) := by decide +kernel
theorem dX12_law_183 : decode cX12_law 183 = .ok (.getfield 60, 3) := by decide +kernel
theorem dX12_law_186 : decode cX12_law 186 = .ok (.iload_n 3, 1) := by decide +kernel
theorem dX12_law_187 : decode cX12_law 187 = .ok (.aload_n 0, 1) := by decide +kernel
theorem dX12_law_188 : decode cX12_law 188 = .ok (.getfield 45, 3) := by decide +kernel
theorem dX12_law_191 : decode cX12_law 191 = .ok (.iload_n 3, 1) := by decide +kernel
theorem dX12_law_192 : decode cX12_law 192 = .ok (.iaload, 1) := by decide +kernel
theorem dX12_law_193 : decode cX12_law 193 = .ok (.iastore, 1) := by decide +kernel
theorem dX12_law_194 : decode cX12_law 194 = .ok (.iinc 3 1, 3) := by decide +kernel
theorem dX12_law_197 : decode cX12_law 197 = .ok (.goto (-59), 3) := by decide +kernel
theorem dX12_law_200 : decode cX12_law 200 = .ok (.aload_n 0, 1) := by decide +kernel
theorem dX12_law_201 : decode cX12_law 201 = .ok (.getfield 209, 3) := by decide +kernel
theorem dX12_law_204 : decode cX12_law 204 = .ok (.ireturn, 1) := by decide +kernel
def FX12_law (hp : HP) (p0 : Nat) (p1 : Int32) : Option (Int32 × HP) := (FX12_in p1 (1 : Int32) (240 : Int32)).bind (fun v1 => if v1 = 0 then some ((-1 : Int32), hp) else (gI [12] 14 hp p0).bind (fun v2 => if p1 ≤ v2 then (sI [12] 15 hp p0 (0 : Int32)).bind (fun hp3 => (sI [12] 16 hp3 p0 p1).bind (fun hp4 => (sI [12] 20 hp4 p0 (0 : Int32)).bind (fun hp5 => (sI [12] 22 hp5 p0 (0 : Int32)).bind (fun hp6 => (rc [12] hp6 p0 (FX12_readsRule hp6 p0)).bind (fun w7 => (lp (fun (s8 : Int32 × HP) => if s8.1 = 0 then some (Sum.inl (s8.1, s8.2)) else (gI [12] 15 s8.2 p0).bind (fun v43 => (gI [12] 16 s8.2 p0).bind (fun v44 => if v44 ≤ v43 then some (Sum.inl (s8.1, s8.2)) else (rc [12] s8.2 p0 (FX12_takes s8.2 p0 (59 : Int32))).bind (fun w45 => if w45.1 = 0 then some (Sum.inr ((0 : Int32), w45.2)) else (rc [12] w45.2 p0 (FX12_readsRule w45.2 p0)).bind (fun w46 => if w46.1 = 0 then some (Sum.inr ((0 : Int32), w46.2)) else some (Sum.inr ((1 : Int32), w46.2))))))) FU (w7.1, w7.2)).bind (fun (y9 : Int32 × HP) => (sI [12] 14 y9.2 p0 (0 : Int32)).bind (fun hp10 => if y9.1 = 0 then (gI [12] 17 hp10 p0).bind (fun v11 => some (v11, hp10)) else (gI [12] 22 hp10 p0).bind (fun v12 => (sI [12] 23 hp10 p0 v12).bind (fun hp13 => (lp (fun (s14 : Int32 × HP) => (gI [12] 20 s14.2 p0).bind (fun v37 => if v37 ≤ s14.1 then some (Sum.inl s14.2) else (gR [12] 30 s14.2 p0).bind (fun v38 => (gR [12] 24 s14.2 p0).bind (fun v39 => (rdN 0 s14.2 v39 s14.1).bind (fun v40 => (wrI s14.2 v38 s14.1 v40).bind (fun hp41 => vl (s14.1 + (1 : Int32)) (fun x42 => some (Sum.inr (x42, hp41))))))))) FU ((0 : Int32), hp13)).bind (fun (y15 : HP) => (lp (fun (s16 : Int32 × HP) => (gI [12] 22 s16.2 p0).bind (fun v19 => if v19 ≤ s16.1 then some (Sum.inl s16.2) else (gR [12] 31 s16.2 p0).bind (fun v20 => (gR [12] 26 s16.2 p0).bind (fun v21 => (rdN 0 s16.2 v21 s16.1).bind (fun v22 => (wrI s16.2 v20 s16.1 v22).bind (fun hp23 => (gR [12] 32 hp23 p0).bind (fun v24 => (gR [12] 27 hp23 p0).bind (fun v25 => (rdN 0 hp23 v25 s16.1).bind (fun v26 => (wrI hp23 v24 s16.1 v26).bind (fun hp27 => (gR [12] 33 hp27 p0).bind (fun v28 => (gR [12] 28 hp27 p0).bind (fun v29 => (rdN 0 hp27 v29 s16.1).bind (fun v30 => (wrI hp27 v28 s16.1 v30).bind (fun hp31 => (gR [12] 34 hp31 p0).bind (fun v32 => (gR [12] 29 hp31 p0).bind (fun v33 => (rdN 0 hp31 v33 s16.1).bind (fun v34 => (wrI hp31 v32 s16.1 v34).bind (fun hp35 => vl (s16.1 + (1 : Int32)) (fun x36 => some (Sum.inr (x36, hp35))))))))))))))))))))) FU ((0 : Int32), y15)).bind (fun (y17 : HP) => (gI [12] 22 y17 p0).bind (fun v18 => some (v18, y17))))))))))))) else some ((-1 : Int32), hp)))
set_option maxHeartbeats 4000000 in
set_option maxRecDepth 100000 in
theorem ctX12_law (l : Launch) (D : va_G) (tg : Nat → ClassId) (bs : Nat) (sa : Nat → Nat) (hp : HP) (p0 : Nat) (p1 : Int32) : Ct l D tg bs sa yX12_law cX12_law 4 (some .int) 8 [.ref p0, .int p1] hp (FX12_law hp p0 p1) (fun r => some (.int r.1)) (fun r => r.2) := by
  refine Ct.of (by decide) (Nat.le_of_ble_eq_true rfl) ?_
  intro V Q hVl hVd hVt hVb hVs hC
  subst hVl; subst hVd; subst hVt; subst hVb; subst hVs
  unfold FX12_law
  show Zs V Q (0, 0) 4 _ _ hp [(0, .ref p0), (1, .int p1)] 0 []
  refine z_iload_n hC 1 dX12_law_0 rfl rfl ?_
  refine z_iconst hC (1 : Int32) dX12_law_1 (by decide) ?_
  refine z_sipush hC (240 : Int32) dX12_law_2 (by decide) ?_
  refine z_callSi hC lmRX12_99 (ctX12_in (vLa V) (vDa V) (vTg V) (vBs V) (vSa V) hp p1 (1 : Int32) (240 : Int32)) (by decide) hn0 dX12_law_5 rfl rfl (Nat.le_of_ble_eq_true rfl) (fun v1 => ?_)
  refine z_if_eq hC 19 dX12_law_8 (by decide) (fun _ => ?_) (fun _ => ?_)
  · refine z_iconst hC (-1 : Int32) dX12_law_19 (by decide) ?_
    exact z_iret hC (fun h => h) dX12_law_20
  · refine z_iload_n hC 1 dX12_law_11 rfl rfl ?_
    refine z_aload_n hC 0 dX12_law_12 rfl rfl ?_
    refine z_getI hC lgRX12_124 dX12_law_13 (fun v2 => ?_)
    refine z_icmp_le hC 21 dX12_law_16 (by decide) (fun _ => ?_) (fun _ => ?_)
    · refine z_aload_n hC 0 dX12_law_21 rfl rfl ?_
      refine z_iconst hC (0 : Int32) dX12_law_22 (by decide) ?_
      refine z_putI hC lpRX12_131 dX12_law_23 (fun hp3 => ?_)
      refine z_aload_n hC 0 dX12_law_26 rfl rfl ?_
      refine z_iload_n hC 1 dX12_law_27 rfl rfl ?_
      refine z_putI hC lpRX12_134 dX12_law_28 (fun hp4 => ?_)
      refine z_aload_n hC 0 dX12_law_31 rfl rfl ?_
      refine z_iconst hC (0 : Int32) dX12_law_32 (by decide) ?_
      refine z_putI hC lpRX12_154 dX12_law_33 (fun hp5 => ?_)
      refine z_aload_n hC 0 dX12_law_36 rfl rfl ?_
      refine z_iconst hC (0 : Int32) dX12_law_37 (by decide) ?_
      refine z_putI hC lpRX12_209 dX12_law_38 (fun hp6 => ?_)
      refine z_aload_n hC 0 dX12_law_41 rfl rfl ?_
      refine z_callVi hC (ci := 12) rfl lmRX12_215 (ctX12_readsRule (vLa V) (vDa V) (vTg V) (vBs V) (vSa V) hp6 p0) (by decide) hn0 dX12_law_42 rfl rfl (Nat.le_of_ble_eq_true rfl) (fun w7 => ?_)
      refine z_istore_n hC [(0, .ref p0), (1, .int p1), (2, .int w7.1)] [1, 2, 0] dX12_law_45 rfl (by decide) rfl ?_
      refine z_weak [(0, .ref p0), (2, .int w7.1)] [0, 2] rfl ?_
      refine z_lp (S := Int32 × HP) (Y := Int32 × HP) (fun s8 => s8.2) (fun s8 => [(0, .ref p0), (2, .int s8.1)]) (fun y9 => y9.2) (fun y9 => [(0, .ref p0), (2, .int y9.1)]) 86 [] (fun y9 => ?_) (fun s8 => ?_) rfl rfl
      · refine z_aload_n hC 0 dX12_law_86 rfl rfl ?_
        refine z_iconst hC (0 : Int32) dX12_law_87 (by decide) ?_
        refine z_putI hC lpRX12_124 dX12_law_88 (fun hp10 => ?_)
        refine z_iload_n hC 1 dX12_law_91 rfl rfl ?_
        refine z_if_ne hC 100 dX12_law_92 (by decide) (fun _ => ?_) (fun _ => ?_)
        · refine z_aload_n hC 0 dX12_law_95 rfl rfl ?_
          refine z_getI hC lgRX12_141 dX12_law_96 (fun v11 => ?_)
          exact z_iret hC (fun h => h) dX12_law_99
        · refine z_aload_n hC 0 dX12_law_100 rfl rfl ?_
          refine z_aload_n hC 0 dX12_law_101 rfl rfl ?_
          refine z_getI hC lgRX12_209 dX12_law_102 (fun v12 => ?_)
          refine z_putI hC lpRX12_221 dX12_law_105 (fun hp13 => ?_)
          refine z_iconst hC (0 : Int32) dX12_law_108 (by decide) ?_
          refine z_istore_n hC [(0, .ref p0), (2, .int y9.1), (3, .int (0 : Int32))] [1, 2, 0] dX12_law_109 rfl (by decide) rfl ?_
          refine z_weak [(0, .ref p0), (3, .int (0 : Int32))] [0, 2] rfl ?_
          refine z_lp (S := Int32 × HP) (Y := HP) (fun s14 => s14.2) (fun s14 => [(0, .ref p0), (3, .int s14.1)]) (fun y15 => y15) (fun y15 => [(0, .ref p0)]) 136 [] (fun y15 => ?_) (fun s14 => ?_) rfl rfl
          · refine z_iconst hC (0 : Int32) dX12_law_136 (by decide) ?_
            refine z_istore_n hC [(0, .ref p0), (3, .int (0 : Int32))] [1, 0] dX12_law_137 rfl (by decide) rfl ?_
            refine z_lp (S := Int32 × HP) (Y := HP) (fun s16 => s16.2) (fun s16 => [(0, .ref p0), (3, .int s16.1)]) (fun y17 => y17) (fun y17 => [(0, .ref p0)]) 200 [] (fun y17 => ?_) (fun s16 => ?_) rfl rfl
            · refine z_aload_n hC 0 dX12_law_200 rfl rfl ?_
              refine z_getI hC lgRX12_209 dX12_law_201 (fun v18 => ?_)
              exact z_iret hC (fun h => h) dX12_law_204
            · refine z_iload_n hC 1 dX12_law_138 rfl rfl ?_
              refine z_aload_n hC 0 dX12_law_139 rfl rfl ?_
              refine z_getI hC lgRX12_209 dX12_law_140 (fun v19 => ?_)
              refine z_icmp_ge hC 200 dX12_law_143 (by decide) (fun _ => ?_) (fun _ => ?_)
              · refine z_weak [(0, .ref p0)] [0] rfl ?_
                exact z_leaf (fun h => h)
              · refine z_aload_n hC 0 dX12_law_146 rfl rfl ?_
                refine z_getR hC lgRX12_51 dX12_law_147 (fun v20 => ?_)
                refine z_iload_n hC 1 dX12_law_150 rfl rfl ?_
                refine z_aload_n hC 0 dX12_law_151 rfl rfl ?_
                refine z_getR hC lgRX12_36 dX12_law_152 (fun v21 => ?_)
                refine z_iload_n hC 1 dX12_law_155 rfl rfl ?_
                refine z_iald hC dX12_law_156 (fun v22 => ?_)
                refine z_iast hC dX12_law_157 (fun hp23 => ?_)
                refine z_aload_n hC 0 dX12_law_158 rfl rfl ?_
                refine z_getR hC lgRX12_54 dX12_law_159 (fun v24 => ?_)
                refine z_iload_n hC 1 dX12_law_162 rfl rfl ?_
                refine z_aload_n hC 0 dX12_law_163 rfl rfl ?_
                refine z_getR hC lgRX12_39 dX12_law_164 (fun v25 => ?_)
                refine z_iload_n hC 1 dX12_law_167 rfl rfl ?_
                refine z_iald hC dX12_law_168 (fun v26 => ?_)
                refine z_iast hC dX12_law_169 (fun hp27 => ?_)
                refine z_aload_n hC 0 dX12_law_170 rfl rfl ?_
                refine z_getR hC lgRX12_57 dX12_law_171 (fun v28 => ?_)
                refine z_iload_n hC 1 dX12_law_174 rfl rfl ?_
                refine z_aload_n hC 0 dX12_law_175 rfl rfl ?_
                refine z_getR hC lgRX12_42 dX12_law_176 (fun v29 => ?_)
                refine z_iload_n hC 1 dX12_law_179 rfl rfl ?_
                refine z_iald hC dX12_law_180 (fun v30 => ?_)
                refine z_iast hC dX12_law_181 (fun hp31 => ?_)
                refine z_aload_n hC 0 dX12_law_182 rfl rfl ?_
                refine z_getR hC lgRX12_60 dX12_law_183 (fun v32 => ?_)
                refine z_iload_n hC 1 dX12_law_186 rfl rfl ?_
                refine z_aload_n hC 0 dX12_law_187 rfl rfl ?_
                refine z_getR hC lgRX12_45 dX12_law_188 (fun v33 => ?_)
                refine z_iload_n hC 1 dX12_law_191 rfl rfl ?_
                refine z_iald hC dX12_law_192 (fun v34 => ?_)
                refine z_iast hC dX12_law_193 (fun hp35 => ?_)
                refine z_iincv hC (1 : Int32) 1 (fun x36 => [(0, .ref p0), (3, .int x36)]) [1, 0] dX12_law_194 rfl (by decide) (by decide) (fun _ => rfl) (fun x36 => ?_)
                refine z_goto hC 138 dX12_law_197 (by decide) ?_
                exact z_leaf (fun h => h)
          · refine z_iload_n hC 1 dX12_law_110 rfl rfl ?_
            refine z_aload_n hC 0 dX12_law_111 rfl rfl ?_
            refine z_getI hC lgRX12_154 dX12_law_112 (fun v37 => ?_)
            refine z_icmp_ge hC 136 dX12_law_115 (by decide) (fun _ => ?_) (fun _ => ?_)
            · refine z_weak [(0, .ref p0)] [0] rfl ?_
              exact z_leaf (fun h => h)
            · refine z_aload_n hC 0 dX12_law_118 rfl rfl ?_
              refine z_getR hC lgRX12_48 dX12_law_119 (fun v38 => ?_)
              refine z_iload_n hC 1 dX12_law_122 rfl rfl ?_
              refine z_aload_n hC 0 dX12_law_123 rfl rfl ?_
              refine z_getR hC lgRX12_30 dX12_law_124 (fun v39 => ?_)
              refine z_iload_n hC 1 dX12_law_127 rfl rfl ?_
              refine z_iald hC dX12_law_128 (fun v40 => ?_)
              refine z_iast hC dX12_law_129 (fun hp41 => ?_)
              refine z_iincv hC (1 : Int32) 1 (fun x42 => [(0, .ref p0), (3, .int x42)]) [1, 0] dX12_law_130 rfl (by decide) (by decide) (fun _ => rfl) (fun x42 => ?_)
              refine z_goto hC 110 dX12_law_133 (by decide) ?_
              exact z_leaf (fun h => h)
      · refine z_iload_n hC 1 dX12_law_46 rfl rfl ?_
        refine z_if_eq hC 86 dX12_law_47 (by decide) (fun _ => ?_) (fun _ => ?_)
        · exact z_leaf (fun h => h)
        · refine z_aload_n hC 0 dX12_law_50 rfl rfl ?_
          refine z_getI hC lgRX12_131 dX12_law_51 (fun v43 => ?_)
          refine z_aload_n hC 0 dX12_law_54 rfl rfl ?_
          refine z_getI hC lgRX12_134 dX12_law_55 (fun v44 => ?_)
          refine z_icmp_ge hC 86 dX12_law_58 (by decide) (fun _ => ?_) (fun _ => ?_)
          · exact z_leaf (fun h => h)
          · refine z_aload_n hC 0 dX12_law_61 rfl rfl ?_
            refine z_bipush hC (59 : Int32) dX12_law_62 (by decide) ?_
            refine z_callVi hC (ci := 12) rfl lmRX12_218 (ctX12_takes (vLa V) (vDa V) (vTg V) (vBs V) (vSa V) s8.2 p0 (59 : Int32)) (by decide) hn0 dX12_law_64 rfl rfl (Nat.le_of_ble_eq_true rfl) (fun w45 => ?_)
            refine z_if_eq hC 81 dX12_law_67 (by decide) (fun _ => ?_) (fun _ => ?_)
            · refine z_iconst hC (0 : Int32) dX12_law_81 (by decide) ?_
              refine z_istore_n hC [(0, .ref p0), (2, .int (0 : Int32))] [1, 0] dX12_law_82 rfl (by decide) rfl ?_
              refine z_goto hC 46 dX12_law_83 (by decide) ?_
              exact z_leaf (fun h => h)
            · refine z_aload_n hC 0 dX12_law_70 rfl rfl ?_
              refine z_callVi hC (ci := 12) rfl lmRX12_215 (ctX12_readsRule (vLa V) (vDa V) (vTg V) (vBs V) (vSa V) w45.2 p0) (by decide) hn0 dX12_law_71 rfl rfl (Nat.le_of_ble_eq_true rfl) (fun w46 => ?_)
              refine z_if_eq hC 81 dX12_law_74 (by decide) (fun _ => ?_) (fun _ => ?_)
              · refine z_iconst hC (0 : Int32) dX12_law_81 (by decide) ?_
                refine z_istore_n hC [(0, .ref p0), (2, .int (0 : Int32))] [1, 0] dX12_law_82 rfl (by decide) rfl ?_
                refine z_goto hC 46 dX12_law_83 (by decide) ?_
                exact z_leaf (fun h => h)
              · refine z_iconst hC (1 : Int32) dX12_law_77 (by decide) ?_
                refine z_goto hC 82 dX12_law_78 (by decide) ?_
                refine z_istore_n hC [(0, .ref p0), (2, .int (1 : Int32))] [1, 0] dX12_law_82 rfl (by decide) rfl ?_
                refine z_goto hC 46 dX12_law_83 (by decide) ?_
                exact z_leaf (fun h => h)
    · refine z_iconst hC (-1 : Int32) dX12_law_19 (by decide) ?_
      exact z_iret hC (fun h => h) dX12_law_20

theorem dX12_reckon_0 : decode cX12_reckon 0 = .ok (.iload_n 0, 1) := by decide +kernel
theorem dX12_reckon_1 : decode cX12_reckon 1 = .ok (.tableswitch 85 2 8 #[43, 47, 51, 55, 59, 63, 74], 43) := by decide +kernel
theorem dX12_reckon_44 : decode cX12_reckon 44 = .ok (.iload_n 1, 1) := by decide +kernel
theorem dX12_reckon_45 : decode cX12_reckon 45 = .ok (.iload_n 2, 1) := by decide +kernel
theorem dX12_reckon_46 : decode cX12_reckon 46 = .ok (.iadd, 1) := by decide +kernel
theorem dX12_reckon_47 : decode cX12_reckon 47 = .ok (.ireturn, 1) := by decide +kernel
theorem dX12_reckon_48 : decode cX12_reckon 48 = .ok (.iload_n 1, 1) := by decide +kernel
theorem dX12_reckon_49 : decode cX12_reckon 49 = .ok (.iload_n 2, 1) := by decide +kernel
theorem dX12_reckon_50 : decode cX12_reckon 50 = .ok (.isub, 1) := by decide +kernel
theorem dX12_reckon_51 : decode cX12_reckon 51 = .ok (.ireturn, 1) := by decide +kernel
theorem dX12_reckon_52 : decode cX12_reckon 52 = .ok (.iload_n 1, 1) := by decide +kernel
theorem dX12_reckon_53 : decode cX12_reckon 53 = .ok (.iload_n 2, 1) := by decide +kernel
theorem dX12_reckon_54 : decode cX12_reckon 54 = .ok (.imul, 1) := by decide +kernel
theorem dX12_reckon_55 : decode cX12_reckon 55 = .ok (.ireturn, 1) := by decide +kernel
theorem dX12_reckon_56 : decode cX12_reckon 56 = .ok (.iload_n 1, 1) := by decide +kernel
theorem dX12_reckon_57 : decode cX12_reckon 57 = .ok (.iload_n 2, 1) := by decide +kernel
theorem dX12_reckon_58 : decode cX12_reckon 58 = .ok (.idiv, 1) := by decide +kernel
theorem dX12_reckon_59 : decode cX12_reckon 59 = .ok (.ireturn, 1) := by decide +kernel
theorem dX12_reckon_60 : decode cX12_reckon 60 = .ok (.iload_n 1, 1) := by decide +kernel
theorem dX12_reckon_61 : decode cX12_reckon 61 = .ok (.iload_n 2, 1) := by decide +kernel
theorem dX12_reckon_62 : decode cX12_reckon 62 = .ok (.irem, 1) := by decide +kernel
theorem dX12_reckon_63 : decode cX12_reckon 63 = .ok (.ireturn, 1) := by decide +kernel
theorem dX12_reckon_64 : decode cX12_reckon 64 = .ok (.iload_n 1, 1) := by decide +kernel
theorem dX12_reckon_65 : decode cX12_reckon 65 = .ok (.iload_n 2, 1) := by decide +kernel
theorem dX12_reckon_66 : decode cX12_reckon 66 = .ok (.if_icmp .ge 7, 3) := by decide +kernel
theorem dX12_reckon_69 : decode cX12_reckon 69 = .ok (.iconst 1, 1) := by decide +kernel
theorem dX12_reckon_70 : decode cX12_reckon 70 = .ok (.goto 4, 3) := by decide +kernel
theorem dX12_reckon_73 : decode cX12_reckon 73 = .ok (.iconst 0, 1) := by decide +kernel
theorem dX12_reckon_74 : decode cX12_reckon 74 = .ok (.ireturn, 1) := by decide +kernel
theorem dX12_reckon_75 : decode cX12_reckon 75 = .ok (.iload_n 1, 1) := by decide +kernel
theorem dX12_reckon_76 : decode cX12_reckon 76 = .ok (.iload_n 2, 1) := by decide +kernel
theorem dX12_reckon_77 : decode cX12_reckon 77 = .ok (.if_icmp .le 7, 3) := by decide +kernel
theorem dX12_reckon_80 : decode cX12_reckon 80 = .ok (.iconst 1, 1) := by decide +kernel
theorem dX12_reckon_81 : decode cX12_reckon 81 = .ok (.goto 4, 3) := by decide +kernel
theorem dX12_reckon_84 : decode cX12_reckon 84 = .ok (.iconst 0, 1) := by decide +kernel
theorem dX12_reckon_85 : decode cX12_reckon 85 = .ok (.ireturn, 1) := by decide +kernel
theorem dX12_reckon_86 : decode cX12_reckon 86 = .ok (.iload_n 1, 1) := by decide +kernel
theorem dX12_reckon_87 : decode cX12_reckon 87 = .ok (.iload_n 2, 1) := by decide +kernel
theorem dX12_reckon_88 : decode cX12_reckon 88 = .ok (.if_icmp .ne 7, 3) := by decide +kernel
theorem dX12_reckon_91 : decode cX12_reckon 91 = .ok (.iconst 1, 1) := by decide +kernel
theorem dX12_reckon_92 : decode cX12_reckon 92 = .ok (.goto 4, 3) := by decide +kernel
theorem dX12_reckon_95 : decode cX12_reckon 95 = .ok (.iconst 0, 1) := by decide +kernel
theorem dX12_reckon_96 : decode cX12_reckon 96 = .ok (.ireturn, 1) := by decide +kernel
def FX12_reckon (p0 : Int32) (p1 : Int32) (p2 : Int32) : Option (Int32) := if p0 = (2 : Int32) then some (p1 + p2) else if p0 = (3 : Int32) then some (p1 - p2) else if p0 = (4 : Int32) then some (p1 * p2) else if p0 = (5 : Int32) then (dvI p1 p2).bind (fun v5 => some v5) else if p0 = (6 : Int32) then (rmI p1 p2).bind (fun v7 => some v7) else if p0 = (7 : Int32) then if p2 ≤ p1 then some (0 : Int32) else some (1 : Int32) else if p0 = (8 : Int32) then if p1 ≤ p2 then some (0 : Int32) else some (1 : Int32) else if p1 = p2 then some (1 : Int32) else some (0 : Int32)
set_option maxHeartbeats 4000000 in
set_option maxRecDepth 100000 in
theorem ctX12_reckon (l : Launch) (D : va_G) (tg : Nat → ClassId) (bs : Nat) (sa : Nat → Nat) (hp : HP) (p0 : Int32) (p1 : Int32) (p2 : Int32) : Ct l D tg bs sa yX12_reckon cX12_reckon 3 (some .int) 0 [.int p0, .int p1, .int p2] hp (FX12_reckon p0 p1 p2) (fun r => some (.int r)) (fun _ => hp) := by
  refine Ct.of (by decide) (Nat.le_of_ble_eq_true rfl) ?_
  intro V Q hVl hVd hVt hVb hVs hC
  subst hVl; subst hVd; subst hVt; subst hVb; subst hVs
  unfold FX12_reckon
  show Zs V Q (0, 0) 3 _ _ hp [(0, .int p0), (1, .int p1), (2, .int p2)] 0 []
  refine z_iload_n hC 0 dX12_reckon_0 rfl rfl ?_
  refine z_tsw hC (2 : Int32) 44 (43) dX12_reckon_1 (by decide) (by decide) (by decide) (by decide) (fun _ => ?_) (fun q1 => ?_)
  · refine z_iload_n hC 1 dX12_reckon_44 rfl rfl ?_
    refine z_iload_n hC 2 dX12_reckon_45 rfl rfl ?_
    refine z_iadd hC dX12_reckon_46 ?_
    exact z_iret hC (fun h => h) dX12_reckon_47
  refine z_tsw hC (3 : Int32) 48 (47) dX12_reckon_1 (by decide) (by decide) (by decide) (by decide) (fun _ => ?_) (fun q2 => ?_)
  · refine z_iload_n hC 1 dX12_reckon_48 rfl rfl ?_
    refine z_iload_n hC 2 dX12_reckon_49 rfl rfl ?_
    refine z_isub hC dX12_reckon_50 ?_
    exact z_iret hC (fun h => h) dX12_reckon_51
  refine z_tsw hC (4 : Int32) 52 (51) dX12_reckon_1 (by decide) (by decide) (by decide) (by decide) (fun _ => ?_) (fun q3 => ?_)
  · refine z_iload_n hC 1 dX12_reckon_52 rfl rfl ?_
    refine z_iload_n hC 2 dX12_reckon_53 rfl rfl ?_
    refine z_imul hC dX12_reckon_54 ?_
    exact z_iret hC (fun h => h) dX12_reckon_55
  refine z_tsw hC (5 : Int32) 56 (55) dX12_reckon_1 (by decide) (by decide) (by decide) (by decide) (fun _ => ?_) (fun q4 => ?_)
  · refine z_iload_n hC 1 dX12_reckon_56 rfl rfl ?_
    refine z_iload_n hC 2 dX12_reckon_57 rfl rfl ?_
    refine z_idiv hC dX12_reckon_58 (fun v5 => ?_)
    exact z_iret hC (fun h => h) dX12_reckon_59
  refine z_tsw hC (6 : Int32) 60 (59) dX12_reckon_1 (by decide) (by decide) (by decide) (by decide) (fun _ => ?_) (fun q6 => ?_)
  · refine z_iload_n hC 1 dX12_reckon_60 rfl rfl ?_
    refine z_iload_n hC 2 dX12_reckon_61 rfl rfl ?_
    refine z_irem hC dX12_reckon_62 (fun v7 => ?_)
    exact z_iret hC (fun h => h) dX12_reckon_63
  refine z_tsw hC (7 : Int32) 64 (63) dX12_reckon_1 (by decide) (by decide) (by decide) (by decide) (fun _ => ?_) (fun q8 => ?_)
  · refine z_iload_n hC 1 dX12_reckon_64 rfl rfl ?_
    refine z_iload_n hC 2 dX12_reckon_65 rfl rfl ?_
    refine z_icmp_ge hC 73 dX12_reckon_66 (by decide) (fun _ => ?_) (fun _ => ?_)
    · refine z_iconst hC (0 : Int32) dX12_reckon_73 (by decide) ?_
      exact z_iret hC (fun h => h) dX12_reckon_74
    · refine z_iconst hC (1 : Int32) dX12_reckon_69 (by decide) ?_
      refine z_goto hC 74 dX12_reckon_70 (by decide) ?_
      exact z_iret hC (fun h => h) dX12_reckon_74
  refine z_tsw hC (8 : Int32) 75 (74) dX12_reckon_1 (by decide) (by decide) (by decide) (by decide) (fun _ => ?_) (fun q9 => ?_)
  · refine z_iload_n hC 1 dX12_reckon_75 rfl rfl ?_
    refine z_iload_n hC 2 dX12_reckon_76 rfl rfl ?_
    refine z_icmp_le hC 84 dX12_reckon_77 (by decide) (fun _ => ?_) (fun _ => ?_)
    · refine z_iconst hC (0 : Int32) dX12_reckon_84 (by decide) ?_
      exact z_iret hC (fun h => h) dX12_reckon_85
    · refine z_iconst hC (1 : Int32) dX12_reckon_80 (by decide) ?_
      refine z_goto hC 85 dX12_reckon_81 (by decide) ?_
      exact z_iret hC (fun h => h) dX12_reckon_85
  refine z_tswd hC 86 dX12_reckon_1 (by decide) (by have eq1 := sw_ne q1 (z := 2) (by decide); have eq2 := sw_ne q2 (z := 3) (by decide); have eq3 := sw_ne q3 (z := 4) (by decide); have eq4 := sw_ne q4 (z := 5) (by decide); have eq6 := sw_ne q6 (z := 6) (by decide); have eq8 := sw_ne q8 (z := 7) (by decide); have eq9 := sw_ne q9 (z := 8) (by decide); omega) ?_
  refine z_iload_n hC 1 dX12_reckon_86 rfl rfl ?_
  refine z_iload_n hC 2 dX12_reckon_87 rfl rfl ?_
  refine z_icmp_ne hC 95 dX12_reckon_88 (by decide) (fun _ => ?_) (fun _ => ?_)
  · refine z_iconst hC (1 : Int32) dX12_reckon_91 (by decide) ?_
    refine z_goto hC 96 dX12_reckon_92 (by decide) ?_
    exact z_iret hC (fun h => h) dX12_reckon_96
  · refine z_iconst hC (0 : Int32) dX12_reckon_95 (by decide) ?_
    exact z_iret hC (fun h => h) dX12_reckon_96

