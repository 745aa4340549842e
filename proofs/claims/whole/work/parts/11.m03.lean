theorem dX12_comesTo_0 : decode cX12_comesTo 0 = .ok (.iconst 0, 1) := by decide +kernel
theorem dX12_comesTo_1 : decode cX12_comesTo 1 = .ok (.istore_n 3, 1) := by decide +kernel
theorem dX12_comesTo_2 : decode cX12_comesTo 2 = .ok (.sipush 260, 3) := by decide +kernel
theorem dX12_comesTo_5 : decode cX12_comesTo 5 = .ok (.iload_n 1, 1) := by decide +kernel
theorem dX12_comesTo_6 : decode cX12_comesTo 6 = .ok (.sipush 260, 3) := by decide +kernel
theorem dX12_comesTo_9 : decode cX12_comesTo 9 = .ok (.idiv, 1) := by decide +kernel
theorem dX12_comesTo_10 : decode cX12_comesTo 10 = .ok (.imul, 1) := by decide +kernel
theorem dX12_comesTo_11 : decode cX12_comesTo 11 = .ok (.istore 4, 2) := by decide +kernel
theorem dX12_comesTo_13 : decode cX12_comesTo 13 = .ok (.iload_n 1, 1) := by decide +kernel
theorem dX12_comesTo_14 : decode cX12_comesTo 14 = .ok (.istore 5, 2) := by decide +kernel
theorem dX12_comesTo_16 : decode cX12_comesTo 16 = .ok (.iload 5, 2) := by decide +kernel
theorem dX12_comesTo_18 : decode cX12_comesTo 18 = .ok (.iload_n 2, 1) := by decide +kernel
theorem dX12_comesTo_19 : decode cX12_comesTo 19 = .ok (.if_icmp .ge 214, 3) := by decide +kernel
theorem dX12_comesTo_22 : decode cX12_comesTo 22 = .ok (.aload_n 0, 1) := by decide +kernel
theorem dX12_comesTo_23 : decode cX12_comesTo 23 = .ok (.getfield 48, 3) := by decide +kernel
theorem dX12_comesTo_26 : decode cX12_comesTo 26 = .ok (.iload 5, 2) := by decide +kernel
theorem dX12_comesTo_28 : decode cX12_comesTo 28 = .ok (.iaload, 1) := by decide +kernel
theorem dX12_comesTo_29 : decode cX12_comesTo 29 = .ok (.ldc 157, 2) := by decide +kernel
theorem dX12_comesTo_31 : decode cX12_comesTo 31 = .ok (.idiv, 1) := by decide +kernel
theorem dX12_comesTo_32 : decode cX12_comesTo 32 = .ok (.istore 6, 2) := by decide +kernel
theorem dX12_comesTo_34 : decode cX12_comesTo 34 = .ok (.aload_n 0, 1) := by decide +kernel
theorem dX12_comesTo_35 : decode cX12_comesTo 35 = .ok (.getfield 48, 3) := by decide +kernel
theorem dX12_comesTo_38 : decode cX12_comesTo 38 = .ok (.iload 5, 2) := by decide +kernel
theorem dX12_comesTo_40 : decode cX12_comesTo 40 = .ok (.iaload, 1) := by decide +kernel
theorem dX12_comesTo_41 : decode cX12_comesTo 41 = .ok (.ldc 157, 2) := by decide +kernel
theorem dX12_comesTo_43 : decode cX12_comesTo 43 = .ok (.irem, 1) := by decide +kernel
theorem dX12_comesTo_44 : decode cX12_comesTo 44 = .ok (.istore 7, 2) := by decide +kernel
theorem dX12_comesTo_46 : decode cX12_comesTo 46 = .ok (.iload 5, 2) := by decide +kernel
theorem dX12_comesTo_48 : decode cX12_comesTo 48 = .ok (.iconst 1, 1) := by decide +kernel
theorem dX12_comesTo_49 : decode cX12_comesTo 49 = .ok (.iadd, 1) := by decide +kernel
theorem dX12_comesTo_50 : decode cX12_comesTo 50 = .ok (.istore 5, 2) := by decide +kernel
theorem dX12_comesTo_52 : decode cX12_comesTo 52 = .ok (.iload 6, 2) := by decide +kernel
theorem dX12_comesTo_54 : decode cX12_comesTo 54 = .ok (.ifCond .eq 9, 3) := by decide +kernel
theorem dX12_comesTo_57 : decode cX12_comesTo 57 = .ok (.iload 6, 2) := by decide +kernel
theorem dX12_comesTo_59 : decode cX12_comesTo 59 = .ok (.iconst 1, 1) := by decide +kernel
theorem dX12_comesTo_60 : decode cX12_comesTo 60 = .ok (.if_icmp .ne 33, 3) := by decide +kernel
theorem dX12_comesTo_63 : decode cX12_comesTo 63 = .ok (.aload_n 0, 1) := by decide +kernel
theorem dX12_comesTo_64 : decode cX12_comesTo 64 = .ok (.getfield 63, 3) := by decide +kernel
theorem dX12_comesTo_67 : decode cX12_comesTo 67 = .ok (.iload_n 3, 1) := by decide +kernel
theorem dX12_comesTo_68 : decode cX12_comesTo 68 = .ok (.iload 6, 2) := by decide +kernel
theorem dX12_comesTo_70 : decode cX12_comesTo 70 = .ok (.ifCond .ne 8, 3) := by decide +kernel
theorem dX12_comesTo_73 : decode cX12_comesTo 73 = .ok (.iload 7, 2) := by decide +kernel
theorem dX12_comesTo_75 : decode cX12_comesTo 75 = .ok (.goto 10, 3) := by decide +kernel
theorem dX12_comesTo_78 : decode cX12_comesTo 78 = .ok (.aload_n 0, 1) := by decide +kernel
theorem dX12_comesTo_79 : decode cX12_comesTo 79 = .ok (.getfield 66, 3) := by decide +kernel
theorem dX12_comesTo_82 : decode cX12_comesTo 82 = .ok (.iload 7, 2) := by decide +kernel
theorem dX12_comesTo_84 : decode cX12_comesTo 84 = .ok (.iaload, 1) := by decide +kernel
theorem dX12_comesTo_85 : decode cX12_comesTo 85 = .ok (.iastore, 1) := by decide +kernel
theorem dX12_comesTo_86 : decode cX12_comesTo 86 = .ok (.iload_n 3, 1) := by decide +kernel
theorem dX12_comesTo_87 : decode cX12_comesTo 87 = .ok (.iconst 1, 1) := by decide +kernel
theorem dX12_comesTo_88 : decode cX12_comesTo 88 = .ok (.iadd, 1) := by decide +kernel
theorem dX12_comesTo_89 : decode cX12_comesTo 89 = .ok (.istore_n 3, 1) := by decide +kernel
theorem dX12_comesTo_90 : decode cX12_comesTo 90 = .ok (.goto 140, 3) := by decide +kernel
theorem dX12_comesTo_93 : decode cX12_comesTo 93 = .ok (.iload 6, 2) := by decide +kernel
theorem dX12_comesTo_95 : decode cX12_comesTo 95 = .ok (.bipush 10, 2) := by decide +kernel
theorem dX12_comesTo_97 : decode cX12_comesTo 97 = .ok (.if_icmp .ne 24, 3) := by decide +kernel
theorem dX12_comesTo_100 : decode cX12_comesTo 100 = .ok (.aload_n 0, 1) := by decide +kernel
theorem dX12_comesTo_101 : decode cX12_comesTo 101 = .ok (.getfield 63, 3) := by decide +kernel
theorem dX12_comesTo_104 : decode cX12_comesTo 104 = .ok (.iload_n 3, 1) := by decide +kernel
theorem dX12_comesTo_105 : decode cX12_comesTo 105 = .ok (.iconst 1, 1) := by decide +kernel
theorem dX12_comesTo_106 : decode cX12_comesTo 106 = .ok (.isub, 1) := by decide +kernel
theorem dX12_comesTo_107 : decode cX12_comesTo 107 = .ok (.iconst 1, 1) := by decide +kernel
theorem dX12_comesTo_108 : decode cX12_comesTo 108 = .ok (.aload_n 0, 1) := by decide +kernel
theorem dX12_comesTo_109 : decode cX12_comesTo 109 = .ok (.getfield 63, 3) := by decide +kernel
theorem dX12_comesTo_112 : decode cX12_comesTo 112 = .ok (.iload_n 3, 1) := by decide +kernel
theorem dX12_comesTo_113 : decode cX12_comesTo 113 = .ok (.iconst 1, 1) := by decide +kernel
theorem dX12_comesTo_114 : decode cX12_comesTo 114 = .ok (.isub, 1) := by decide +kernel
theorem dX12_comesTo_115 : decode cX12_comesTo 115 = .ok (.iaload, 1) := by decide +kernel
theorem dX12_comesTo_116 : decode cX12_comesTo 116 = .ok (.isub, 1) := by decide +kernel
theorem dX12_comesTo_117 : decode cX12_comesTo 117 = .ok (.iastore, 1) := by decide +kernel
theorem dX12_comesTo_118 : decode cX12_comesTo 118 = .ok (.goto 112, 3) := by decide +kernel
theorem dX12_comesTo_121 : decode cX12_comesTo 121 = .ok (.iload 6, 2) := by decide +kernel
theorem dX12_comesTo_123 : decode cX12_comesTo 123 = .ok (.bipush 11, 2) := by decide +kernel
theorem dX12_comesTo_125 : decode cX12_comesTo 125 = .ok (.if_icmp .eq 10, 3) := by decide +kernel
theorem dX12_comesTo_128 : decode cX12_comesTo 128 = .ok (.iload 6, 2) := by decide +kernel
theorem dX12_comesTo_130 : decode cX12_comesTo 130 = .ok (.bipush 12, 2) := by decide +kernel
theorem dX12_comesTo_132 : decode cX12_comesTo 132 = .ok (.if_icmp .ne 43, 3) := by decide +kernel
theorem dX12_comesTo_135 : decode cX12_comesTo 135 = .ok (.aload_n 0, 1) := by decide +kernel
theorem dX12_comesTo_136 : decode cX12_comesTo 136 = .ok (.getfield 63, 3) := by decide +kernel
theorem dX12_comesTo_139 : decode cX12_comesTo 139 = .ok (.iload_n 3, 1) := by decide +kernel
theorem dX12_comesTo_140 : decode cX12_comesTo 140 = .ok (.iconst 1, 1) := by decide +kernel
theorem dX12_comesTo_141 : decode cX12_comesTo 141 = .ok (.isub, 1) := by decide +kernel
theorem dX12_comesTo_142 : decode cX12_comesTo 142 = .ok (.iaload, 1) := by decide +kernel
theorem dX12_comesTo_143 : decode cX12_comesTo 143 = .ok (.iload 6, 2) := by decide +kernel
theorem dX12_comesTo_145 : decode cX12_comesTo 145 = .ok (.bipush 12, 2) := by decide +kernel
theorem dX12_comesTo_147 : decode cX12_comesTo 147 = .ok (.if_icmp .ne 7, 3) := by decide +kernel
theorem dX12_comesTo_150 : decode cX12_comesTo 150 = .ok (.iconst 1, 1) := by decide +kernel
theorem dX12_comesTo_151 : decode cX12_comesTo 151 = .ok (.goto 4, 3) := by decide +kernel
theorem dX12_comesTo_154 : decode cX12_comesTo 154 = .ok (.iconst 0, 1) := by decide +kernel
theorem dX12_comesTo_155 : decode cX12_comesTo 155 = .ok (.if_icmp .ne 13, 3) := by decide +kernel
theorem dX12_comesTo_158 : decode cX12_comesTo 158 = .ok (.iload 4, 2) := by decide +kernel
theorem dX12_comesTo_160 : decode cX12_comesTo 160 = .ok (.iload 7, 2) := by decide +kernel
theorem dX12_comesTo_162 : decode cX12_comesTo 162 = .ok (.iadd, 1) := by decide +kernel
theorem dX12_comesTo_163 : decode cX12_comesTo 163 = .ok (.istore 5, 2) := by decide +kernel
theorem dX12_comesTo_165 : decode cX12_comesTo 165 = .ok (.goto 65, 3) := by decide +kernel
theorem dX12_comesTo_168 : decode cX12_comesTo 168 = .ok (.iload_n 3, 1) := by decide +kernel
theorem dX12_comesTo_169 : decode cX12_comesTo 169 = .ok (.iconst 1, 1) := by decide +kernel
theorem dX12_comesTo_170 : decode cX12_comesTo 170 = .ok (.isub, 1) := by decide +kernel
theorem dX12_comesTo_171 : decode cX12_comesTo 171 = .ok (.istore_n 3, 1) := by decide +kernel
theorem dX12_comesTo_172 : decode cX12_comesTo 172 = .ok (.goto 58, 3) := by decide +kernel
theorem dX12_comesTo_175 : decode cX12_comesTo 175 = .ok (.iload_n 3, 1) := by decide +kernel
theorem dX12_comesTo_176 : decode cX12_comesTo 176 = .ok (.iconst 1, 1) := by decide +kernel
theorem dX12_comesTo_177 : decode cX12_comesTo 177 = .ok (.isub, 1) := by decide +kernel
theorem dX12_comesTo_178 : decode cX12_comesTo 178 = .ok (.istore_n 3, 1) := by decide +kernel
theorem dX12_comesTo_179 : decode cX12_comesTo 179 = .ok (.iload 6, 2) := by decide +kernel
theorem dX12_comesTo_181 : decode cX12_comesTo 181 = .ok (.iconst 5, 1) := by decide +kernel
theorem dX12_comesTo_182 : decode cX12_comesTo 182 = .ok (.if_icmp .eq 10, 3) := by decide +kernel
theorem dX12_comesTo_185 : decode cX12_comesTo 185 = .ok (.iload 6, 2) := by decide +kernel
theorem dX12_comesTo_187 : decode cX12_comesTo 187 = .ok (.bipush 6, 2) := by decide +kernel
theorem dX12_comesTo_189 : decode cX12_comesTo 189 = .ok (.if_icmp .ne 14, 3) := by decide +kernel
theorem dX12_comesTo_192 : decode cX12_comesTo 192 = .ok (.aload_n 0, 1) := by decide +kernel
theorem dX12_comesTo_193 : decode cX12_comesTo 193 = .ok (.getfield 63, 3) := by decide +kernel
theorem dX12_comesTo_196 : decode cX12_comesTo 196 = .ok (.iload_n 3, 1) := by decide +kernel
theorem dX12_comesTo_197 : decode cX12_comesTo 197 = .ok (.iaload, 1) := by decide +kernel
theorem dX12_comesTo_198 : decode cX12_comesTo 198 = .ok (.ifCond .ne 5, 3) := by decide +kernel
theorem dX12_comesTo_201 : decode cX12_comesTo 201 = .ok (.iconst 0, 1) := by decide +kernel
theorem dX12_comesTo_202 : decode cX12_comesTo 202 = .ok (.ireturn, 1) := by decide +kernel
theorem dX12_comesTo_203 : decode cX12_comesTo 203 = .ok (.aload_n 0, 1) := by decide +kernel
theorem dX12_comesTo_204 : decode cX12_comesTo 204 = .ok (.getfield 63, 3) := by decide +kernel
theorem dX12_comesTo_207 : decode cX12_comesTo 207 = .ok (.iload_n 3, 1) := by decide +kernel
theorem dX12_comesTo_208 : decode cX12_comesTo 208 = .ok (.iconst 1, 1) := by decide +kernel
theorem dX12_comesTo_209 : decode cX12_comesTo 209 = .ok (.isub, 1) := by decide +kernel
theorem dX12_comesTo_210 : decode cX12_comesTo 210 = .ok (.iload 6, 2) := by decide +kernel
theorem dX12_comesTo_212 : decode cX12_comesTo 212 = .ok (.aload_n 0, 1) := by decide +kernel
theorem dX12_comesTo_213 : decode cX12_comesTo 213 = .ok (.getfield 63, 3) := by decide +kernel
theorem dX12_comesTo_216 : decode cX12_comesTo 216 = .ok (.iload_n 3, 1) := by decide +kernel
theorem dX12_comesTo_217 : decode cX12_comesTo 217 = .ok (.iconst 1, 1) := by decide +kernel
theorem dX12_comesTo_218 : decode cX12_comesTo 218 = .ok (.isub, 1) := by decide +kernel
theorem dX12_comesTo_219 : decode cX12_comesTo 219 = .ok (.iaload, 1) := by decide +kernel
theorem dX12_comesTo_220 : decode cX12_comesTo 220 = .ok (.aload_n 0, 1) := by decide +kernel
theorem dX12_comesTo_221 : decode cX12_comesTo 221 = .ok (.getfield 63, 3) := by decide +kernel
theorem dX12_comesTo_224 : decode cX12_comesTo 224 = .ok (.iload_n 3, 1) := by decide +kernel
theorem dX12_comesTo_225 : decode cX12_comesTo 225 = .ok (.iaload, 1) := by decide +kernel
theorem dX12_comesTo_226 : decode cX12_comesTo 226 = .ok (.invokestatic 224, 3) := by decide +kernel
theorem dX12_comesTo_229 : decode cX12_comesTo 229 = .ok (.iastore, 1) := by decide +kernel
theorem dX12_comesTo_230 : decode cX12_comesTo 230 = .ok (.goto (-214), 3) := by decide +kernel
theorem dX12_comesTo_233 : decode cX12_comesTo 233 = .ok (.aload_n 0, 1) := by decide +kernel
theorem dX12_comesTo_234 : decode cX12_comesTo 234 = .ok (.getfield 63, 3) := by decide +kernel
theorem dX12_comesTo_237 : decode cX12_comesTo 237 = .ok (.iconst 0, 1) := by decide +kernel
theorem dX12_comesTo_238 : decode cX12_comesTo 238 = .ok (.iaload, 1) := by decide +kernel
theorem dX12_comesTo_239 : decode cX12_comesTo 239 = .ok (.ireturn, 1) := by decide +kernel
def FX12_comesTo (hp : HP) (p0 : Nat) (p1 : Int32) (p2 : Int32) : Option (Int32 × HP) := (dvI p1 (260 : Int32)).bind (fun v1 => vl ((260 : Int32) * v1) (fun x2 => (lp (fun (s3 : Int32 × Int32 × HP) => if p2 ≤ s3.2.1 then some (Sum.inl (Sum.inr s3.2.2)) else (gR [12] 30 s3.2.2 p0).bind (fun v7 => (rdN 0 s3.2.2 v7 s3.2.1).bind (fun v8 => (dvI v8 (1048576 : Int32)).bind (fun v9 => (gR [12] 30 s3.2.2 p0).bind (fun v10 => (rdN 0 s3.2.2 v10 s3.2.1).bind (fun v11 => (rmI v11 (1048576 : Int32)).bind (fun v12 => vl (s3.2.1 + (1 : Int32)) (fun x13 => jn (A := Unit) (fun a14 => (gR [12] 35 s3.2.2 p0).bind (fun v16 => jn (A := Int32) (fun a17 => (wrI s3.2.2 v16 s3.1 a17).bind (fun hp19 => vl (s3.1 + (1 : Int32)) (fun x20 => some (Sum.inr (x20, x13, hp19))))) (fun J18 => if v9 = 0 then J18 v12 else (gR [12] 36 s3.2.2 p0).bind (fun v21 => (rdN 0 s3.2.2 v21 v12).bind (fun v22 => J18 v22))))) (fun J15 => if v9 = 0 then J15 () else if v9 = (1 : Int32) then J15 () else if v9 = (10 : Int32) then (gR [12] 35 s3.2.2 p0).bind (fun v23 => (gR [12] 35 s3.2.2 p0).bind (fun v24 => (rdN 0 s3.2.2 v24 (s3.1 - (1 : Int32))).bind (fun v25 => (wrI s3.2.2 v23 (s3.1 - (1 : Int32)) ((1 : Int32) - v25)).bind (fun hp26 => some (Sum.inr (s3.1, x13, hp26)))))) else jn (A := Unit) (fun a27 => (gR [12] 35 s3.2.2 p0).bind (fun v29 => (rdN 0 s3.2.2 v29 (s3.1 - (1 : Int32))).bind (fun v30 => jn (A := Int32) (fun a31 => if v30 = a31 then vl (x2 + v12) (fun x33 => some (Sum.inr (s3.1, x33, s3.2.2))) else vl (s3.1 - (1 : Int32)) (fun x34 => some (Sum.inr (x34, x13, s3.2.2)))) (fun J32 => if v9 = (12 : Int32) then J32 (1 : Int32) else J32 (0 : Int32))))) (fun J28 => if v9 = (11 : Int32) then J28 () else if v9 = (12 : Int32) then J28 () else vl (s3.1 - (1 : Int32)) (fun x35 => jn (A := Unit) (fun a36 => (gR [12] 35 s3.2.2 p0).bind (fun v38 => (gR [12] 35 s3.2.2 p0).bind (fun v39 => (rdN 0 s3.2.2 v39 (x35 - (1 : Int32))).bind (fun v40 => (gR [12] 35 s3.2.2 p0).bind (fun v41 => (rdN 0 s3.2.2 v41 x35).bind (fun v42 => (FX12_reckon v9 v40 v42).bind (fun v43 => (wrI s3.2.2 v38 (x35 - (1 : Int32)) v43).bind (fun hp44 => some (Sum.inr (x35, x13, hp44)))))))))) (fun J37 => jn (A := Unit) (fun a45 => (gR [12] 35 s3.2.2 p0).bind (fun v47 => (rdN 0 s3.2.2 v47 x35).bind (fun v48 => if v48 = 0 then some (Sum.inl (Sum.inl ((0 : Int32), s3.2.2))) else J37 ()))) (fun J46 => if v9 = (5 : Int32) then J46 () else if v9 = (6 : Int32) then J46 () else J37 ()))))))))))))) FU ((0 : Int32), p1, hp)).bind (lk (P := Int32 × HP) (fun r => r) (fun (y4 : HP) => (gR [12] 35 y4 p0).bind (fun v5 => (rdN 0 y4 v5 (0 : Int32)).bind (fun v6 => some (v6, y4)))))))
set_option maxHeartbeats 4000000 in
set_option maxRecDepth 100000 in
theorem ctX12_comesTo (l : Launch) (D : va_G) (tg : Nat → ClassId) (bs : Nat) (sa : Nat → Nat) (hp : HP) (p0 : Nat) (p1 : Int32) (p2 : Int32) : Ct l D tg bs sa yX12_comesTo cX12_comesTo 8 (some .int) 1 [.ref p0, .int p1, .int p2] hp (FX12_comesTo hp p0 p1 p2) (fun r => some (.int r.1)) (fun r => r.2) := by
  refine Ct.of (by decide) (Nat.le_of_ble_eq_true rfl) ?_
  intro V Q hVl hVd hVt hVb hVs hC
  subst hVl; subst hVd; subst hVt; subst hVb; subst hVs
  unfold FX12_comesTo
  show Zs V Q (0, 0) 8 _ _ hp [(0, .ref p0), (1, .int p1), (2, .int p2)] 0 []
  refine z_iconst hC (0 : Int32) dX12_comesTo_0 (by decide) ?_
  refine z_istore_n hC [(0, .ref p0), (1, .int p1), (2, .int p2), (3, .int (0 : Int32))] [1, 2, 3, 0] dX12_comesTo_1 rfl (by decide) rfl ?_
  refine z_sipush hC (260 : Int32) dX12_comesTo_2 (by decide) ?_
  refine z_iload_n hC 1 dX12_comesTo_5 rfl rfl ?_
  refine z_sipush hC (260 : Int32) dX12_comesTo_6 (by decide) ?_
  refine z_idiv hC dX12_comesTo_9 (fun v1 => ?_)
  refine z_imul hC dX12_comesTo_10 ?_
  refine z_vli (fun x2 => ?_)
  refine z_istore hC [(0, .ref p0), (1, .int p1), (2, .int p2), (3, .int (0 : Int32)), (4, .int x2)] [1, 2, 3, 4, 0] dX12_comesTo_11 (by decide) rfl ?_
  refine z_iload_n hC 1 dX12_comesTo_13 rfl rfl ?_
  refine z_istore hC [(0, .ref p0), (1, .int p1), (2, .int p2), (3, .int (0 : Int32)), (4, .int x2), (5, .int p1)] [1, 2, 3, 4, 5, 0] dX12_comesTo_14 (by decide) rfl ?_
  refine z_weak [(0, .ref p0), (2, .int p2), (3, .int (0 : Int32)), (4, .int x2), (5, .int p1)] [0, 2, 3, 4, 5] rfl ?_
  refine z_lpR (S := Int32 × Int32 × HP) (Y := HP) (fun s3 => s3.2.2) (fun s3 => [(0, .ref p0), (2, .int p2), (3, .int s3.1), (4, .int x2), (5, .int s3.2.1)]) (fun y4 => y4) (fun y4 => [(0, .ref p0)]) 233 [] (fun y4 => ?_) (fun s3 => ?_) rfl rfl
  · refine z_aload_n hC 0 dX12_comesTo_233 rfl rfl ?_
    refine z_getR hC lgRX12_63 dX12_comesTo_234 (fun v5 => ?_)
    refine z_iconst hC (0 : Int32) dX12_comesTo_237 (by decide) ?_
    refine z_iald hC dX12_comesTo_238 (fun v6 => ?_)
    exact z_iret hC (fun h => h) dX12_comesTo_239
  · refine z_iload hC 4 dX12_comesTo_16 rfl ?_
    refine z_iload_n hC 1 dX12_comesTo_18 rfl rfl ?_
    refine z_icmp_ge hC 233 dX12_comesTo_19 (by decide) (fun _ => ?_) (fun _ => ?_)
    · refine z_weak [(0, .ref p0)] [0] rfl ?_
      exact z_leaf (fun h => h)
    · refine z_aload_n hC 0 dX12_comesTo_22 rfl rfl ?_
      refine z_getR hC lgRX12_48 dX12_comesTo_23 (fun v7 => ?_)
      refine z_iload hC 4 dX12_comesTo_26 rfl ?_
      refine z_iald hC dX12_comesTo_28 (fun v8 => ?_)
      refine z_ldc hC (1048576 : Int32) lcRX12_157 dX12_comesTo_29 ?_
      refine z_idiv hC dX12_comesTo_31 (fun v9 => ?_)
      refine z_istore hC [(0, .ref p0), (2, .int p2), (3, .int s3.1), (4, .int x2), (5, .int s3.2.1), (6, .int v9)] [1, 2, 3, 4, 5, 0] dX12_comesTo_32 (by decide) rfl ?_
      refine z_aload_n hC 0 dX12_comesTo_34 rfl rfl ?_
      refine z_getR hC lgRX12_48 dX12_comesTo_35 (fun v10 => ?_)
      refine z_iload hC 4 dX12_comesTo_38 rfl ?_
      refine z_iald hC dX12_comesTo_40 (fun v11 => ?_)
      refine z_ldc hC (1048576 : Int32) lcRX12_157 dX12_comesTo_41 ?_
      refine z_irem hC dX12_comesTo_43 (fun v12 => ?_)
      refine z_istore hC [(0, .ref p0), (2, .int p2), (3, .int s3.1), (4, .int x2), (5, .int s3.2.1), (6, .int v9), (7, .int v12)] [1, 2, 3, 4, 5, 6, 0] dX12_comesTo_44 (by decide) rfl ?_
      refine z_iload hC 4 dX12_comesTo_46 rfl ?_
      refine z_iconst hC (1 : Int32) dX12_comesTo_48 (by decide) ?_
      refine z_iadd hC dX12_comesTo_49 ?_
      refine z_vli (fun x13 => ?_)
      refine z_istore hC [(0, .ref p0), (2, .int p2), (3, .int s3.1), (4, .int x2), (5, .int x13), (6, .int v9), (7, .int v12)] [1, 2, 3, 4, 0, 5, 6] dX12_comesTo_50 (by decide) rfl ?_
      refine z_iload hC 5 dX12_comesTo_52 rfl ?_
      refine z_jn (A := Unit) (fun a14 => s3.2.2) (fun a14 => [(0, .ref p0), (2, .int p2), (3, .int s3.1), (4, .int x2), (5, .int x13), (6, .int v9), (7, .int v12)]) 63 (fun a14 => []) (fun a14 => ?_) (fun J15 hJ15 => ?_)
      · refine z_aload_n hC 0 dX12_comesTo_63 rfl rfl ?_
        refine z_getR hC lgRX12_63 dX12_comesTo_64 (fun v16 => ?_)
        refine z_iload_n hC 2 dX12_comesTo_67 rfl rfl ?_
        refine z_iload hC 5 dX12_comesTo_68 rfl ?_
        refine z_jn (A := Int32) (fun a17 => s3.2.2) (fun a17 => [(0, .ref p0), (2, .int p2), (3, .int s3.1), (4, .int x2), (5, .int x13)]) 85 (fun a17 => [.int a17, .int s3.1, .ref v16]) (fun a17 => ?_) (fun J18 hJ18 => ?_)
        · refine z_iast hC dX12_comesTo_85 (fun hp19 => ?_)
          refine z_iload_n hC 2 dX12_comesTo_86 rfl rfl ?_
          refine z_iconst hC (1 : Int32) dX12_comesTo_87 (by decide) ?_
          refine z_iadd hC dX12_comesTo_88 ?_
          refine z_vli (fun x20 => ?_)
          refine z_istore_n hC [(0, .ref p0), (2, .int p2), (3, .int x20), (4, .int x2), (5, .int x13)] [1, 2, 0, 3, 4] dX12_comesTo_89 rfl (by decide) rfl ?_
          refine z_goto hC 230 dX12_comesTo_90 (by decide) ?_
          refine z_goto hC 16 dX12_comesTo_230 (by decide) ?_
          exact z_leaf (fun h => h)
        · refine z_if_ne hC 78 dX12_comesTo_70 (by decide) (fun _ => ?_) (fun _ => ?_)
          · refine z_iload hC 6 dX12_comesTo_73 rfl ?_
            refine z_goto hC 85 dX12_comesTo_75 (by decide) ?_
            refine z_weak [(0, .ref p0), (2, .int p2), (3, .int s3.1), (4, .int x2), (5, .int x13)] [0, 1, 2, 3, 4] rfl ?_
            exact hJ18 v12
          · refine z_aload_n hC 0 dX12_comesTo_78 rfl rfl ?_
            refine z_getR hC lgRX12_66 dX12_comesTo_79 (fun v21 => ?_)
            refine z_iload hC 6 dX12_comesTo_82 rfl ?_
            refine z_iald hC dX12_comesTo_84 (fun v22 => ?_)
            refine z_weak [(0, .ref p0), (2, .int p2), (3, .int s3.1), (4, .int x2), (5, .int x13)] [0, 1, 2, 3, 4] rfl ?_
            exact hJ18 v22
      · refine z_if_eq hC 63 dX12_comesTo_54 (by decide) (fun _ => ?_) (fun _ => ?_)
        · exact hJ15 ()
        · refine z_iload hC 5 dX12_comesTo_57 rfl ?_
          refine z_iconst hC (1 : Int32) dX12_comesTo_59 (by decide) ?_
          refine z_icmp_ne hC 93 dX12_comesTo_60 (by decide) (fun _ => ?_) (fun _ => ?_)
          · exact hJ15 ()
          · refine z_iload hC 5 dX12_comesTo_93 rfl ?_
            refine z_bipush hC (10 : Int32) dX12_comesTo_95 (by decide) ?_
            refine z_icmp_ne hC 121 dX12_comesTo_97 (by decide) (fun _ => ?_) (fun _ => ?_)
            · refine z_aload_n hC 0 dX12_comesTo_100 rfl rfl ?_
              refine z_getR hC lgRX12_63 dX12_comesTo_101 (fun v23 => ?_)
              refine z_iload_n hC 2 dX12_comesTo_104 rfl rfl ?_
              refine z_iconst hC (1 : Int32) dX12_comesTo_105 (by decide) ?_
              refine z_isub hC dX12_comesTo_106 ?_
              refine z_iconst hC (1 : Int32) dX12_comesTo_107 (by decide) ?_
              refine z_aload_n hC 0 dX12_comesTo_108 rfl rfl ?_
              refine z_getR hC lgRX12_63 dX12_comesTo_109 (fun v24 => ?_)
              refine z_iload_n hC 2 dX12_comesTo_112 rfl rfl ?_
              refine z_iconst hC (1 : Int32) dX12_comesTo_113 (by decide) ?_
              refine z_isub hC dX12_comesTo_114 ?_
              refine z_iald hC dX12_comesTo_115 (fun v25 => ?_)
              refine z_isub hC dX12_comesTo_116 ?_
              refine z_iast hC dX12_comesTo_117 (fun hp26 => ?_)
              refine z_goto hC 230 dX12_comesTo_118 (by decide) ?_
              refine z_goto hC 16 dX12_comesTo_230 (by decide) ?_
              refine z_weak [(0, .ref p0), (2, .int p2), (3, .int s3.1), (4, .int x2), (5, .int x13)] [0, 1, 2, 3, 4] rfl ?_
              exact z_leaf (fun h => h)
            · refine z_iload hC 5 dX12_comesTo_121 rfl ?_
              refine z_bipush hC (11 : Int32) dX12_comesTo_123 (by decide) ?_
              refine z_jn (A := Unit) (fun a27 => s3.2.2) (fun a27 => [(0, .ref p0), (2, .int p2), (3, .int s3.1), (4, .int x2), (5, .int x13), (6, .int v9), (7, .int v12)]) 135 (fun a27 => []) (fun a27 => ?_) (fun J28 hJ28 => ?_)
              · refine z_aload_n hC 0 dX12_comesTo_135 rfl rfl ?_
                refine z_getR hC lgRX12_63 dX12_comesTo_136 (fun v29 => ?_)
                refine z_iload_n hC 2 dX12_comesTo_139 rfl rfl ?_
                refine z_iconst hC (1 : Int32) dX12_comesTo_140 (by decide) ?_
                refine z_isub hC dX12_comesTo_141 ?_
                refine z_iald hC dX12_comesTo_142 (fun v30 => ?_)
                refine z_iload hC 5 dX12_comesTo_143 rfl ?_
                refine z_bipush hC (12 : Int32) dX12_comesTo_145 (by decide) ?_
                refine z_jn (A := Int32) (fun a31 => s3.2.2) (fun a31 => [(0, .ref p0), (2, .int p2), (3, .int s3.1), (4, .int x2), (5, .int x13), (7, .int v12)]) 155 (fun a31 => [.int a31, .int v30]) (fun a31 => ?_) (fun J32 hJ32 => ?_)
                · refine z_icmp_ne hC 168 dX12_comesTo_155 (by decide) (fun _ => ?_) (fun _ => ?_)
                  · refine z_iload hC 3 dX12_comesTo_158 rfl ?_
                    refine z_iload hC 5 dX12_comesTo_160 rfl ?_
                    refine z_iadd hC dX12_comesTo_162 ?_
                    refine z_vli (fun x33 => ?_)
                    refine z_istore hC [(0, .ref p0), (2, .int p2), (3, .int s3.1), (4, .int x2), (5, .int x33), (7, .int v12)] [1, 2, 3, 4, 0, 5] dX12_comesTo_163 (by decide) rfl ?_
                    refine z_goto hC 230 dX12_comesTo_165 (by decide) ?_
                    refine z_goto hC 16 dX12_comesTo_230 (by decide) ?_
                    refine z_weak [(0, .ref p0), (2, .int p2), (3, .int s3.1), (4, .int x2), (5, .int x33)] [0, 1, 2, 3, 4] rfl ?_
                    exact z_leaf (fun h => h)
                  · refine z_iload_n hC 2 dX12_comesTo_168 rfl rfl ?_
                    refine z_iconst hC (1 : Int32) dX12_comesTo_169 (by decide) ?_
                    refine z_isub hC dX12_comesTo_170 ?_
                    refine z_vli (fun x34 => ?_)
                    refine z_istore_n hC [(0, .ref p0), (2, .int p2), (3, .int x34), (4, .int x2), (5, .int x13), (7, .int v12)] [1, 2, 0, 3, 4, 5] dX12_comesTo_171 rfl (by decide) rfl ?_
                    refine z_goto hC 230 dX12_comesTo_172 (by decide) ?_
                    refine z_goto hC 16 dX12_comesTo_230 (by decide) ?_
                    refine z_weak [(0, .ref p0), (2, .int p2), (3, .int x34), (4, .int x2), (5, .int x13)] [0, 1, 2, 3, 4] rfl ?_
                    exact z_leaf (fun h => h)
                · refine z_icmp_ne hC 154 dX12_comesTo_147 (by decide) (fun _ => ?_) (fun _ => ?_)
                  · refine z_iconst hC (1 : Int32) dX12_comesTo_150 (by decide) ?_
                    refine z_goto hC 155 dX12_comesTo_151 (by decide) ?_
                    refine z_weak [(0, .ref p0), (2, .int p2), (3, .int s3.1), (4, .int x2), (5, .int x13), (7, .int v12)] [0, 1, 2, 3, 4, 6] rfl ?_
                    exact hJ32 (1 : Int32)
                  · refine z_iconst hC (0 : Int32) dX12_comesTo_154 (by decide) ?_
                    refine z_weak [(0, .ref p0), (2, .int p2), (3, .int s3.1), (4, .int x2), (5, .int x13), (7, .int v12)] [0, 1, 2, 3, 4, 6] rfl ?_
                    exact hJ32 (0 : Int32)
              · refine z_icmp_eq hC 135 dX12_comesTo_125 (by decide) (fun _ => ?_) (fun _ => ?_)
                · exact hJ28 ()
                · refine z_iload hC 5 dX12_comesTo_128 rfl ?_
                  refine z_bipush hC (12 : Int32) dX12_comesTo_130 (by decide) ?_
                  refine z_icmp_ne hC 175 dX12_comesTo_132 (by decide) (fun _ => ?_) (fun _ => ?_)
                  · exact hJ28 ()
                  · refine z_iload_n hC 2 dX12_comesTo_175 rfl rfl ?_
                    refine z_iconst hC (1 : Int32) dX12_comesTo_176 (by decide) ?_
                    refine z_isub hC dX12_comesTo_177 ?_
                    refine z_vli (fun x35 => ?_)
                    refine z_istore_n hC [(0, .ref p0), (2, .int p2), (3, .int x35), (4, .int x2), (5, .int x13), (6, .int v9), (7, .int v12)] [1, 2, 0, 3, 4, 5, 6] dX12_comesTo_178 rfl (by decide) rfl ?_
                    refine z_iload hC 5 dX12_comesTo_179 rfl ?_
                    refine z_iconst hC (5 : Int32) dX12_comesTo_181 (by decide) ?_
                    refine z_jn (A := Unit) (fun a36 => s3.2.2) (fun a36 => [(0, .ref p0), (2, .int p2), (3, .int x35), (4, .int x2), (5, .int x13), (6, .int v9)]) 203 (fun a36 => []) (fun a36 => ?_) (fun J37 hJ37 => ?_)
                    · refine z_aload_n hC 0 dX12_comesTo_203 rfl rfl ?_
                      refine z_getR hC lgRX12_63 dX12_comesTo_204 (fun v38 => ?_)
                      refine z_iload_n hC 2 dX12_comesTo_207 rfl rfl ?_
                      refine z_iconst hC (1 : Int32) dX12_comesTo_208 (by decide) ?_
                      refine z_isub hC dX12_comesTo_209 ?_
                      refine z_iload hC 5 dX12_comesTo_210 rfl ?_
                      refine z_aload_n hC 0 dX12_comesTo_212 rfl rfl ?_
                      refine z_getR hC lgRX12_63 dX12_comesTo_213 (fun v39 => ?_)
                      refine z_iload_n hC 2 dX12_comesTo_216 rfl rfl ?_
                      refine z_iconst hC (1 : Int32) dX12_comesTo_217 (by decide) ?_
                      refine z_isub hC dX12_comesTo_218 ?_
                      refine z_iald hC dX12_comesTo_219 (fun v40 => ?_)
                      refine z_aload_n hC 0 dX12_comesTo_220 rfl rfl ?_
                      refine z_getR hC lgRX12_63 dX12_comesTo_221 (fun v41 => ?_)
                      refine z_iload_n hC 2 dX12_comesTo_224 rfl rfl ?_
                      refine z_iald hC dX12_comesTo_225 (fun v42 => ?_)
                      refine z_callSi hC lmRX12_224 (ctX12_reckon (vLa V) (vDa V) (vTg V) (vBs V) (vSa V) s3.2.2 v9 v40 v42) (by decide) hn0 dX12_comesTo_226 rfl rfl (Nat.le_of_ble_eq_true rfl) (fun v43 => ?_)
                      refine z_iast hC dX12_comesTo_229 (fun hp44 => ?_)
                      refine z_goto hC 16 dX12_comesTo_230 (by decide) ?_
                      refine z_weak [(0, .ref p0), (2, .int p2), (3, .int x35), (4, .int x2), (5, .int x13)] [0, 1, 2, 3, 4] rfl ?_
                      exact z_leaf (fun h => h)
                    · refine z_jn (A := Unit) (fun a45 => s3.2.2) (fun a45 => [(0, .ref p0), (2, .int p2), (3, .int x35), (4, .int x2), (5, .int x13), (6, .int v9)]) 192 (fun a45 => []) (fun a45 => ?_) (fun J46 hJ46 => ?_)
                      · refine z_aload_n hC 0 dX12_comesTo_192 rfl rfl ?_
                        refine z_getR hC lgRX12_63 dX12_comesTo_193 (fun v47 => ?_)
                        refine z_iload_n hC 2 dX12_comesTo_196 rfl rfl ?_
                        refine z_iald hC dX12_comesTo_197 (fun v48 => ?_)
                        refine z_if_ne hC 203 dX12_comesTo_198 (by decide) (fun _ => ?_) (fun _ => ?_)
                        · refine z_iconst hC (0 : Int32) dX12_comesTo_201 (by decide) ?_
                          exact z_iret hC (fun h => h) dX12_comesTo_202
                        · exact hJ37 ()
                      · refine z_icmp_eq hC 192 dX12_comesTo_182 (by decide) (fun _ => ?_) (fun _ => ?_)
                        · refine z_weak [(0, .ref p0), (2, .int p2), (3, .int x35), (4, .int x2), (5, .int x13), (6, .int v9)] [0, 1, 2, 3, 4, 5] rfl ?_
                          exact hJ46 ()
                        · refine z_iload hC 5 dX12_comesTo_185 rfl ?_
                          refine z_bipush hC (6 : Int32) dX12_comesTo_187 (by decide) ?_
                          refine z_icmp_ne hC 203 dX12_comesTo_189 (by decide) (fun _ => ?_) (fun _ => ?_)
                          · refine z_weak [(0, .ref p0), (2, .int p2), (3, .int x35), (4, .int x2), (5, .int x13), (6, .int v9)] [0, 1, 2, 3, 4, 5] rfl ?_
                            exact hJ46 ()
                          · refine z_weak [(0, .ref p0), (2, .int p2), (3, .int x35), (4, .int x2), (5, .int x13), (6, .int v9)] [0, 1, 2, 3, 4, 5] rfl ?_
                            exact hJ37 ()

theorem dX12_byLaw_0 : decode cX12_byLaw 0 = .ok (.iconst 0, 1) := by decide +kernel
theorem dX12_byLaw_1 : decode cX12_byLaw 1 = .ok (.istore_n 3, 1) := by decide +kernel
theorem dX12_byLaw_2 : decode cX12_byLaw 2 = .ok (.iload_n 3, 1) := by decide +kernel
theorem dX12_byLaw_3 : decode cX12_byLaw 3 = .ok (.aload_n 0, 1) := by decide +kernel
theorem dX12_byLaw_4 : decode cX12_byLaw 4 = .ok (.getfield 221, 3) := by decide +kernel
theorem dX12_byLaw_7 : decode cX12_byLaw 7 = .ok (.if_icmp .ge 82, 3) := by decide +kernel
theorem dX12_byLaw_10 : decode cX12_byLaw 10 = .ok (.aload_n 0, 1) := by decide +kernel
theorem dX12_byLaw_11 : decode cX12_byLaw 11 = .ok (.getfield 51, 3) := by decide +kernel
theorem dX12_byLaw_14 : decode cX12_byLaw 14 = .ok (.iload_n 3, 1) := by decide +kernel
theorem dX12_byLaw_15 : decode cX12_byLaw 15 = .ok (.iaload, 1) := by decide +kernel
theorem dX12_byLaw_16 : decode cX12_byLaw 16 = .ok (.iload_n 1, 1) := by decide +kernel
theorem dX12_byLaw_17 : decode cX12_byLaw 17 = .ok (.if_icmp .ne 66, 3) := by decide +kernel
theorem dX12_byLaw_20 : decode cX12_byLaw 20 = .ok (.aload_n 0, 1) := by decide +kernel
theorem dX12_byLaw_21 : decode cX12_byLaw 21 = .ok (.aload_n 0, 1) := by decide +kernel
theorem dX12_byLaw_22 : decode cX12_byLaw 22 = .ok (.getfield 57, 3) := by decide +kernel
theorem dX12_byLaw_25 : decode cX12_byLaw 25 = .ok (.iload_n 3, 1) := by decide +kernel
theorem dX12_byLaw_26 : decode cX12_byLaw 26 = .ok (.iaload, 1) := by decide +kernel
theorem dX12_byLaw_27 : decode cX12_byLaw 27 = .ok (.aload_n 0, 1) := by decide +kernel
theorem dX12_byLaw_28 : decode cX12_byLaw 28 = .ok (.getfield 60, 3) := by decide +kernel
theorem dX12_byLaw_31 : decode cX12_byLaw 31 = .ok (.iload_n 3, 1) := by decide +kernel
theorem dX12_byLaw_32 : decode cX12_byLaw 32 = .ok (.iaload, 1) := by decide +kernel
theorem dX12_byLaw_33 : decode cX12_byLaw 33 = .ok (.invokevirtual 228, 3) := by decide +kernel
theorem dX12_byLaw_36 : decode cX12_byLaw 36 = .ok (.iconst 1, 1) := by decide +kernel
theorem dX12_byLaw_37 : decode cX12_byLaw 37 = .ok (.if_icmp .eq 6, 3) := by decide +kernel
theorem dX12_byLaw_40 : decode cX12_byLaw 40 = .ok (.goto 43, 3) := by decide +kernel
theorem dX12_byLaw_43 : decode cX12_byLaw 43 = .ok (.aload_n 0, 1) := by decide +kernel
theorem dX12_byLaw_44 : decode cX12_byLaw 44 = .ok (.aload_n 0, 1) := by decide +kernel
theorem dX12_byLaw_45 : decode cX12_byLaw 45 = .ok (.getfield 54, 3) := by decide +kernel
theorem dX12_byLaw_48 : decode cX12_byLaw 48 = .ok (.iload_n 3, 1) := by decide +kernel
theorem dX12_byLaw_49 : decode cX12_byLaw 49 = .ok (.iaload, 1) := by decide +kernel
theorem dX12_byLaw_50 : decode cX12_byLaw 50 = .ok (.aload_n 0, 1) := by decide +kernel
theorem dX12_byLaw_51 : decode cX12_byLaw 51 = .ok (.getfield 57, 3) := by decide +kernel
theorem dX12_byLaw_54 : decode cX12_byLaw 54 = .ok (.iload_n 3, 1) := by decide +kernel
theorem dX12_byLaw_55 : decode cX12_byLaw 55 = .ok (.iaload, 1) := by decide +kernel
theorem dX12_byLaw_56 : decode cX12_byLaw 56 = .ok (.invokevirtual 228, 3) := by decide +kernel
theorem dX12_byLaw_59 : decode cX12_byLaw 59 = .ok (.istore 4, 2) := by decide +kernel
theorem dX12_byLaw_61 : decode cX12_byLaw 61 = .ok (.iload 4, 2) := by decide +kernel
theorem dX12_byLaw_63 : decode cX12_byLaw 63 = .ok (.ifCond .ge 7, 3) := by decide +kernel
theorem dX12_byLaw_66 : decode cX12_byLaw 66 = .ok (.iconst 0, 1) := by decide +kernel
theorem dX12_byLaw_67 : decode cX12_byLaw 67 = .ok (.goto 15, 3) := by decide +kernel
theorem dX12_byLaw_70 : decode cX12_byLaw 70 = .ok (.iload 4, 2) := by decide +kernel
theorem dX12_byLaw_72 : decode cX12_byLaw 72 = .ok (.iload_n 2, 1) := by decide +kernel
theorem dX12_byLaw_73 : decode cX12_byLaw 73 = .ok (.if_icmp .le 7, 3) := by decide +kernel
theorem dX12_byLaw_76 : decode cX12_byLaw 76 = .ok (.iload_n 2, 1) := by decide +kernel
theorem dX12_byLaw_77 : decode cX12_byLaw 77 = .ok (.goto 5, 3) := by decide +kernel
theorem dX12_byLaw_80 : decode cX12_byLaw 80 = .ok (.iload 4, 2) := by decide +kernel
theorem dX12_byLaw_82 : decode cX12_byLaw 82 = .ok (.ireturn, 1) := by decide +kernel
theorem dX12_byLaw_83 : decode cX12_byLaw 83 = .ok (.iinc 3 1, 3) := by decide +kernel
theorem dX12_byLaw_86 : decode cX12_byLaw 86 = .ok (.goto (-84), 3) := by decide +kernel
theorem dX12_byLaw_89 : decode cX12_byLaw 89 = .ok (.iconst 0, 1) := by decide +kernel
theorem dX12_byLaw_90 : decode cX12_byLaw 90 = .ok (.ireturn, 1) := by decide +kernel
def FX12_byLaw (hp : HP) (p0 : Nat) (p1 : Int32) (p2 : Int32) : Option (Int32 × HP) := (lp (fun (s1 : Int32 × HP) => (gI [12] 23 s1.2 p0).bind (fun v3 => if v3 ≤ s1.1 then some (Sum.inl (Sum.inr s1.2)) else (gR [12] 31 s1.2 p0).bind (fun v4 => (rdN 0 s1.2 v4 s1.1).bind (fun v5 => if v5 = p1 then (gR [12] 33 s1.2 p0).bind (fun v6 => (rdN 0 s1.2 v6 s1.1).bind (fun v7 => (gR [12] 34 s1.2 p0).bind (fun v8 => (rdN 0 s1.2 v8 s1.1).bind (fun v9 => (rc [12] s1.2 p0 (FX12_comesTo s1.2 p0 v7 v9)).bind (fun w10 => if w10.1 = (1 : Int32) then (gR [12] 32 w10.2 p0).bind (fun v11 => (rdN 0 w10.2 v11 s1.1).bind (fun v12 => (gR [12] 33 w10.2 p0).bind (fun v13 => (rdN 0 w10.2 v13 s1.1).bind (fun v14 => (rc [12] w10.2 p0 (FX12_comesTo w10.2 p0 v12 v14)).bind (fun w15 => if 0 ≤ w15.1 then if w15.1 ≤ p2 then some (Sum.inl (Sum.inl (w15.1, w15.2))) else some (Sum.inl (Sum.inl (p2, w15.2))) else some (Sum.inl (Sum.inl ((0 : Int32), w15.2)))))))) else vl (s1.1 + (1 : Int32)) (fun x16 => some (Sum.inr (x16, w10.2)))))))) else vl (s1.1 + (1 : Int32)) (fun x17 => some (Sum.inr (x17, s1.2))))))) FU ((0 : Int32), hp)).bind (lk (P := Int32 × HP) (fun r => r) (fun (y2 : HP) => some ((0 : Int32), y2)))
set_option maxHeartbeats 4000000 in
set_option maxRecDepth 100000 in
theorem ctX12_byLaw (l : Launch) (D : va_G) (tg : Nat → ClassId) (bs : Nat) (sa : Nat → Nat) (hp : HP) (p0 : Nat) (p1 : Int32) (p2 : Int32) : Ct l D tg bs sa yX12_byLaw cX12_byLaw 5 (some .int) 2 [.ref p0, .int p1, .int p2] hp (FX12_byLaw hp p0 p1 p2) (fun r => some (.int r.1)) (fun r => r.2) := by
  refine Ct.of (by decide) (Nat.le_of_ble_eq_true rfl) ?_
  intro V Q hVl hVd hVt hVb hVs hC
  subst hVl; subst hVd; subst hVt; subst hVb; subst hVs
  unfold FX12_byLaw
  show Zs V Q (0, 0) 5 _ _ hp [(0, .ref p0), (1, .int p1), (2, .int p2)] 0 []
  refine z_iconst hC (0 : Int32) dX12_byLaw_0 (by decide) ?_
  refine z_istore_n hC [(0, .ref p0), (1, .int p1), (2, .int p2), (3, .int (0 : Int32))] [1, 2, 3, 0] dX12_byLaw_1 rfl (by decide) rfl ?_
  refine z_lpR (S := Int32 × HP) (Y := HP) (fun s1 => s1.2) (fun s1 => [(0, .ref p0), (1, .int p1), (2, .int p2), (3, .int s1.1)]) (fun y2 => y2) (fun y2 => []) 89 [] (fun y2 => ?_) (fun s1 => ?_) rfl rfl
  · refine z_iconst hC (0 : Int32) dX12_byLaw_89 (by decide) ?_
    exact z_iret hC (fun h => h) dX12_byLaw_90
  · refine z_iload_n hC 3 dX12_byLaw_2 rfl rfl ?_
    refine z_aload_n hC 0 dX12_byLaw_3 rfl rfl ?_
    refine z_getI hC lgRX12_221 dX12_byLaw_4 (fun v3 => ?_)
    refine z_icmp_ge hC 89 dX12_byLaw_7 (by decide) (fun _ => ?_) (fun _ => ?_)
    · refine z_weak [] [] rfl ?_
      exact z_leaf (fun h => h)
    · refine z_aload_n hC 0 dX12_byLaw_10 rfl rfl ?_
      refine z_getR hC lgRX12_51 dX12_byLaw_11 (fun v4 => ?_)
      refine z_iload_n hC 3 dX12_byLaw_14 rfl rfl ?_
      refine z_iald hC dX12_byLaw_15 (fun v5 => ?_)
      refine z_iload_n hC 1 dX12_byLaw_16 rfl rfl ?_
      refine z_icmp_ne hC 83 dX12_byLaw_17 (by decide) (fun _ => ?_) (fun _ => ?_)
      · refine z_aload_n hC 0 dX12_byLaw_20 rfl rfl ?_
        refine z_aload_n hC 0 dX12_byLaw_21 rfl rfl ?_
        refine z_getR hC lgRX12_57 dX12_byLaw_22 (fun v6 => ?_)
        refine z_iload_n hC 3 dX12_byLaw_25 rfl rfl ?_
        refine z_iald hC dX12_byLaw_26 (fun v7 => ?_)
        refine z_aload_n hC 0 dX12_byLaw_27 rfl rfl ?_
        refine z_getR hC lgRX12_60 dX12_byLaw_28 (fun v8 => ?_)
        refine z_iload_n hC 3 dX12_byLaw_31 rfl rfl ?_
        refine z_iald hC dX12_byLaw_32 (fun v9 => ?_)
        refine z_callVi hC (ci := 12) rfl lmRX12_228 (ctX12_comesTo (vLa V) (vDa V) (vTg V) (vBs V) (vSa V) s1.2 p0 v7 v9) (by decide) hn0 dX12_byLaw_33 rfl rfl (Nat.le_of_ble_eq_true rfl) (fun w10 => ?_)
        refine z_iconst hC (1 : Int32) dX12_byLaw_36 (by decide) ?_
        refine z_icmp_eq hC 43 dX12_byLaw_37 (by decide) (fun _ => ?_) (fun _ => ?_)
        · refine z_aload_n hC 0 dX12_byLaw_43 rfl rfl ?_
          refine z_aload_n hC 0 dX12_byLaw_44 rfl rfl ?_
          refine z_getR hC lgRX12_54 dX12_byLaw_45 (fun v11 => ?_)
          refine z_iload_n hC 3 dX12_byLaw_48 rfl rfl ?_
          refine z_iald hC dX12_byLaw_49 (fun v12 => ?_)
          refine z_aload_n hC 0 dX12_byLaw_50 rfl rfl ?_
          refine z_getR hC lgRX12_57 dX12_byLaw_51 (fun v13 => ?_)
          refine z_iload_n hC 3 dX12_byLaw_54 rfl rfl ?_
          refine z_iald hC dX12_byLaw_55 (fun v14 => ?_)
          refine z_callVi hC (ci := 12) rfl lmRX12_228 (ctX12_comesTo (vLa V) (vDa V) (vTg V) (vBs V) (vSa V) w10.2 p0 v12 v14) (by decide) hn0 dX12_byLaw_56 rfl rfl (Nat.le_of_ble_eq_true rfl) (fun w15 => ?_)
          refine z_istore hC [(0, .ref p0), (1, .int p1), (2, .int p2), (3, .int s1.1), (4, .int w15.1)] [1, 2, 3, 4, 0] dX12_byLaw_59 (by decide) rfl ?_
          refine z_iload hC 4 dX12_byLaw_61 rfl ?_
          refine z_if_ge hC 70 dX12_byLaw_63 (by decide) (fun _ => ?_) (fun _ => ?_)
          · refine z_iload hC 4 dX12_byLaw_70 rfl ?_
            refine z_iload_n hC 2 dX12_byLaw_72 rfl rfl ?_
            refine z_icmp_le hC 80 dX12_byLaw_73 (by decide) (fun _ => ?_) (fun _ => ?_)
            · refine z_iload hC 4 dX12_byLaw_80 rfl ?_
              exact z_iret hC (fun h => h) dX12_byLaw_82
            · refine z_iload_n hC 2 dX12_byLaw_76 rfl rfl ?_
              refine z_goto hC 82 dX12_byLaw_77 (by decide) ?_
              exact z_iret hC (fun h => h) dX12_byLaw_82
          · refine z_iconst hC (0 : Int32) dX12_byLaw_66 (by decide) ?_
            refine z_goto hC 82 dX12_byLaw_67 (by decide) ?_
            exact z_iret hC (fun h => h) dX12_byLaw_82
        · refine z_goto hC 83 dX12_byLaw_40 (by decide) ?_
          refine z_iincv hC (1 : Int32) 3 (fun x16 => [(0, .ref p0), (1, .int p1), (2, .int p2), (3, .int x16)]) [1, 2, 3, 0] dX12_byLaw_83 rfl (by decide) (by decide) (fun _ => rfl) (fun x16 => ?_)
          refine z_goto hC 2 dX12_byLaw_86 (by decide) ?_
          exact z_leaf (fun h => h)
      · refine z_iincv hC (1 : Int32) 3 (fun x17 => [(0, .ref p0), (1, .int p1), (2, .int p2), (3, .int x17)]) [1, 2, 3, 0] dX12_byLaw_83 rfl (by decide) (by decide) (fun _ => rfl) (fun x17 => ?_)
        refine z_goto hC 2 dX12_byLaw_86 (by decide) ?_
        exact z_leaf (fun h => h)

theorem dX12_balks_0 : decode cX12_balks 0 = .ok (.iconst 0, 1) := by decide +kernel
theorem dX12_balks_1 : decode cX12_balks 1 = .ok (.istore_n 1, 1) := by decide +kernel
theorem dX12_balks_2 : decode cX12_balks 2 = .ok (.iload_n 1, 1) := by decide +kernel
theorem dX12_balks_3 : decode cX12_balks 3 = .ok (.aload_n 0, 1) := by decide +kernel
theorem dX12_balks_4 : decode cX12_balks 4 = .ok (.getfield 221, 3) := by decide +kernel
theorem dX12_balks_7 : decode cX12_balks 7 = .ok (.if_icmp .ge 42, 3) := by decide +kernel
theorem dX12_balks_10 : decode cX12_balks 10 = .ok (.aload_n 0, 1) := by decide +kernel
theorem dX12_balks_11 : decode cX12_balks 11 = .ok (.getfield 51, 3) := by decide +kernel
theorem dX12_balks_14 : decode cX12_balks 14 = .ok (.iload_n 1, 1) := by decide +kernel
theorem dX12_balks_15 : decode cX12_balks 15 = .ok (.iaload, 1) := by decide +kernel
theorem dX12_balks_16 : decode cX12_balks 16 = .ok (.bipush 120, 2) := by decide +kernel
theorem dX12_balks_18 : decode cX12_balks 18 = .ok (.if_icmp .ne 25, 3) := by decide +kernel
theorem dX12_balks_21 : decode cX12_balks 21 = .ok (.aload_n 0, 1) := by decide +kernel
theorem dX12_balks_22 : decode cX12_balks 22 = .ok (.aload_n 0, 1) := by decide +kernel
theorem dX12_balks_23 : decode cX12_balks 23 = .ok (.getfield 57, 3) := by decide +kernel
theorem dX12_balks_26 : decode cX12_balks 26 = .ok (.iload_n 1, 1) := by decide +kernel
theorem dX12_balks_27 : decode cX12_balks 27 = .ok (.iaload, 1) := by decide +kernel
theorem dX12_balks_28 : decode cX12_balks 28 = .ok (.aload_n 0, 1) := by decide +kernel
theorem dX12_balks_29 : decode cX12_balks 29 = .ok (.getfield 60, 3) := by decide +kernel
theorem dX12_balks_32 : decode cX12_balks 32 = .ok (.iload_n 1, 1) := by decide +kernel
theorem dX12_balks_33 : decode cX12_balks 33 = .ok (.iaload, 1) := by decide +kernel
theorem dX12_balks_34 : decode cX12_balks 34 = .ok (.invokevirtual 228, 3) := by decide +kernel
theorem dX12_balks_37 : decode cX12_balks 37 = .ok (.iconst 1, 1) := by decide +kernel
theorem dX12_balks_38 : decode cX12_balks 38 = .ok (.if_icmp .ne 5, 3) := by decide +kernel
theorem dX12_balks_41 : decode cX12_balks 41 = .ok (.iconst 1, 1) := by decide +kernel
theorem dX12_balks_42 : decode cX12_balks 42 = .ok (.ireturn, 1) := by decide +kernel
theorem dX12_balks_43 : decode cX12_balks 43 = .ok (.iinc 1 1, 3) := by decide +kernel
theorem dX12_balks_46 : decode cX12_balks 46 = .ok (.goto (-44), 3) := by decide +kernel
theorem dX12_balks_49 : decode cX12_balks 49 = .ok (.iconst 0, 1) := by decide +kernel
theorem dX12_balks_50 : decode cX12_balks 50 = .ok (.ireturn, 1) := by decide +kernel
def FX12_balks (hp : HP) (p0 : Nat) : Option (Int32 × HP) := (lp (fun (s1 : Int32 × HP) => (gI [12] 23 s1.2 p0).bind (fun v3 => if v3 ≤ s1.1 then some (Sum.inl (Sum.inr s1.2)) else (gR [12] 31 s1.2 p0).bind (fun v4 => (rdN 0 s1.2 v4 s1.1).bind (fun v5 => if v5 = (120 : Int32) then (gR [12] 33 s1.2 p0).bind (fun v6 => (rdN 0 s1.2 v6 s1.1).bind (fun v7 => (gR [12] 34 s1.2 p0).bind (fun v8 => (rdN 0 s1.2 v8 s1.1).bind (fun v9 => (rc [12] s1.2 p0 (FX12_comesTo s1.2 p0 v7 v9)).bind (fun w10 => if w10.1 = (1 : Int32) then some (Sum.inl (Sum.inl ((1 : Int32), w10.2))) else vl (s1.1 + (1 : Int32)) (fun x11 => some (Sum.inr (x11, w10.2)))))))) else vl (s1.1 + (1 : Int32)) (fun x12 => some (Sum.inr (x12, s1.2))))))) FU ((0 : Int32), hp)).bind (lk (P := Int32 × HP) (fun r => r) (fun (y2 : HP) => some ((0 : Int32), y2)))
set_option maxHeartbeats 4000000 in
set_option maxRecDepth 100000 in
theorem ctX12_balks (l : Launch) (D : va_G) (tg : Nat → ClassId) (bs : Nat) (sa : Nat → Nat) (hp : HP) (p0 : Nat) : Ct l D tg bs sa yX12_balks cX12_balks 2 (some .boolean) 2 [.ref p0] hp (FX12_balks hp p0) (fun r => some (.int r.1)) (fun r => r.2) := by
  refine Ct.of (by decide) (Nat.le_of_ble_eq_true rfl) ?_
  intro V Q hVl hVd hVt hVb hVs hC
  subst hVl; subst hVd; subst hVt; subst hVb; subst hVs
  unfold FX12_balks
  show Zs V Q (0, 0) 2 _ _ hp [(0, .ref p0)] 0 []
  refine z_iconst hC (0 : Int32) dX12_balks_0 (by decide) ?_
  refine z_istore_n hC [(0, .ref p0), (1, .int (0 : Int32))] [1, 0] dX12_balks_1 rfl (by decide) rfl ?_
  refine z_lpR (S := Int32 × HP) (Y := HP) (fun s1 => s1.2) (fun s1 => [(0, .ref p0), (1, .int s1.1)]) (fun y2 => y2) (fun y2 => []) 49 [] (fun y2 => ?_) (fun s1 => ?_) rfl rfl
  · refine z_iconst hC (0 : Int32) dX12_balks_49 (by decide) ?_
    exact z_zret hC (by decide) (fun h => h) dX12_balks_50
  · refine z_iload_n hC 1 dX12_balks_2 rfl rfl ?_
    refine z_aload_n hC 0 dX12_balks_3 rfl rfl ?_
    refine z_getI hC lgRX12_221 dX12_balks_4 (fun v3 => ?_)
    refine z_icmp_ge hC 49 dX12_balks_7 (by decide) (fun _ => ?_) (fun _ => ?_)
    · refine z_weak [] [] rfl ?_
      exact z_leaf (fun h => h)
    · refine z_aload_n hC 0 dX12_balks_10 rfl rfl ?_
      refine z_getR hC lgRX12_51 dX12_balks_11 (fun v4 => ?_)
      refine z_iload_n hC 1 dX12_balks_14 rfl rfl ?_
      refine z_iald hC dX12_balks_15 (fun v5 => ?_)
      refine z_bipush hC (120 : Int32) dX12_balks_16 (by decide) ?_
      refine z_icmp_ne hC 43 dX12_balks_18 (by decide) (fun _ => ?_) (fun _ => ?_)
      · refine z_aload_n hC 0 dX12_balks_21 rfl rfl ?_
        refine z_aload_n hC 0 dX12_balks_22 rfl rfl ?_
        refine z_getR hC lgRX12_57 dX12_balks_23 (fun v6 => ?_)
        refine z_iload_n hC 1 dX12_balks_26 rfl rfl ?_
        refine z_iald hC dX12_balks_27 (fun v7 => ?_)
        refine z_aload_n hC 0 dX12_balks_28 rfl rfl ?_
        refine z_getR hC lgRX12_60 dX12_balks_29 (fun v8 => ?_)
        refine z_iload_n hC 1 dX12_balks_32 rfl rfl ?_
        refine z_iald hC dX12_balks_33 (fun v9 => ?_)
        refine z_callVi hC (ci := 12) rfl lmRX12_228 (ctX12_comesTo (vLa V) (vDa V) (vTg V) (vBs V) (vSa V) s1.2 p0 v7 v9) (by decide) hn0 dX12_balks_34 rfl rfl (Nat.le_of_ble_eq_true rfl) (fun w10 => ?_)
        refine z_iconst hC (1 : Int32) dX12_balks_37 (by decide) ?_
        refine z_icmp_ne hC 43 dX12_balks_38 (by decide) (fun _ => ?_) (fun _ => ?_)
        · refine z_iconst hC (1 : Int32) dX12_balks_41 (by decide) ?_
          exact z_zret hC (by decide) (fun h => h) dX12_balks_42
        · refine z_iincv hC (1 : Int32) 1 (fun x11 => [(0, .ref p0), (1, .int x11)]) [1, 0] dX12_balks_43 rfl (by decide) (by decide) (fun _ => rfl) (fun x11 => ?_)
          refine z_goto hC 2 dX12_balks_46 (by decide) ?_
          exact z_leaf (fun h => h)
      · refine z_iincv hC (1 : Int32) 1 (fun x12 => [(0, .ref p0), (1, .int x12)]) [1, 0] dX12_balks_43 rfl (by decide) (by decide) (fun _ => rfl) (fun x12 => ?_)
        refine z_goto hC 2 dX12_balks_46 (by decide) ?_
        exact z_leaf (fun h => h)

theorem dX12_feels_0 : decode cX12_feels 0 = .ok (.aload_n 0, 1) := by decide +kernel
theorem dX12_feels_1 : decode cX12_feels 1 = .ok (.getfield 66, 3) := by decide +kernel
theorem dX12_feels_4 : decode cX12_feels 4 = .ok (.iconst 0, 1) := by decide +kernel
theorem dX12_feels_5 : decode cX12_feels 5 = .ok (.iload_n 1, 1) := by decide +kernel
theorem dX12_feels_6 : decode cX12_feels 6 = .ok (.iastore, 1) := by decide +kernel
theorem dX12_feels_7 : decode cX12_feels 7 = .ok (.aload_n 0, 1) := by decide +kernel
theorem dX12_feels_8 : decode cX12_feels 8 = .ok (.getfield 66, 3) := by decide +kernel
theorem dX12_feels_11 : decode cX12_feels 11 = .ok (.iconst 1, 1) := by decide +kernel
theorem dX12_feels_12 : decode cX12_feels 12 = .ok (.iload_n 2, 1) := by decide +kernel
theorem dX12_feels_13 : decode cX12_feels 13 = .ok (.invokestatic 111, 3) := by decide +kernel
theorem dX12_feels_16 : decode cX12_feels 16 = .ok (.iastore, 1) := by decide +kernel
theorem dX12_feels_17 : decode cX12_feels 17 = .ok (.aload_n 0, 1) := by decide +kernel
theorem dX12_feels_18 : decode cX12_feels 18 = .ok (.getfield 66, 3) := by decide +kernel
theorem dX12_feels_21 : decode cX12_feels 21 = .ok (.iconst 2, 1) := by decide +kernel
theorem dX12_feels_22 : decode cX12_feels 22 = .ok (.aload_n 0, 1) := by decide +kernel
theorem dX12_feels_23 : decode cX12_feels 23 = .ok (.iload_n 2, 1) := by decide +kernel
theorem dX12_feels_24 : decode cX12_feels 24 = .ok (.invokevirtual 232, 3) := by decide +kernel
theorem dX12_feels_27 : decode cX12_feels 27 = .ok (.iastore, 1) := by decide +kernel
theorem dX12_feels_28 : decode cX12_feels 28 = .ok (.aload_n 0, 1) := by decide +kernel
theorem dX12_feels_29 : decode cX12_feels 29 = .ok (.getfield 66, 3) := by decide +kernel
theorem dX12_feels_32 : decode cX12_feels 32 = .ok (.iconst 3, 1) := by decide +kernel
theorem dX12_feels_33 : decode cX12_feels 33 = .ok (.aload_n 0, 1) := by decide +kernel
theorem dX12_feels_34 : decode cX12_feels 34 = .ok (.getfield 121, 3) := by decide +kernel
theorem dX12_feels_37 : decode cX12_feels 37 = .ok (.invokestatic 111, 3) := by decide +kernel
theorem dX12_feels_40 : decode cX12_feels 40 = .ok (.iastore, 1) := by decide +kernel
theorem dX12_feels_41 : decode cX12_feels 41 = .ok (.aload_n 0, 1) := by decide +kernel
theorem dX12_feels_42 : decode cX12_feels 42 = .ok (.getfield 66, 3) := by decide +kernel
theorem dX12_feels_45 : decode cX12_feels 45 = .ok (.iconst 4, 1) := by decide +kernel
theorem dX12_feels_46 : decode cX12_feels 46 = .ok (.aload_n 0, 1) := by decide +kernel
theorem dX12_feels_47 : decode cX12_feels 47 = .ok (.getfield 235, 3) := by decide +kernel
theorem dX12_feels_50 : decode cX12_feels 50 = .ok (.iastore, 1) := by decide +kernel
theorem dX12_feels_51 : decode cX12_feels 51 = .ok (.aload_n 0, 1) := by decide +kernel
theorem dX12_feels_52 : decode cX12_feels 52 = .ok (.getfield 66, 3) := by decide +kernel
theorem dX12_feels_55 : decode cX12_feels 55 = .ok (.iconst 5, 1) := by decide +kernel
theorem dX12_feels_56 : decode cX12_feels 56 = .ok (.aload_n 0, 1) := by decide +kernel
theorem dX12_feels_57 : decode cX12_feels 57 = .ok (.getfield 238, 3) := by decide +kernel
theorem dX12_feels_60 : decode cX12_feels 60 = .ok (.sipush 360, 3) := by decide +kernel
theorem dX12_feels_63 : decode cX12_feels 63 = .ok (.idiv, 1) := by decide +kernel
theorem dX12_feels_64 : decode cX12_feels 64 = .ok (.iastore, 1) := by decide +kernel
theorem dX12_feels_65 : decode cX12_feels 65 = .ok (.aload_n 0, 1) := by decide +kernel
theorem dX12_feels_66 : decode cX12_feels 66 = .ok (.getfield 66, 3) := by decide +kernel
theorem dX12_feels_69 : decode cX12_feels 69 = .ok (.bipush 6, 2) := by decide +kernel
theorem dX12_feels_71 : decode cX12_feels 71 = .ok (.aload_n 0, 1) := by decide +kernel
theorem dX12_feels_72 : decode cX12_feels 72 = .ok (.getfield 238, 3) := by decide +kernel
theorem dX12_feels_75 : decode cX12_feels 75 = .ok (.sipush 360, 3) := by decide +kernel
theorem dX12_feels_78 : decode cX12_feels 78 = .ok (.irem, 1) := by decide +kernel
theorem dX12_feels_79 : decode cX12_feels 79 = .ok (.bipush 30, 2) := by decide +kernel
theorem dX12_feels_81 : decode cX12_feels 81 = .ok (.idiv, 1) := by decide +kernel
theorem dX12_feels_82 : decode cX12_feels 82 = .ok (.iastore, 1) := by decide +kernel
theorem dX12_feels_83 : decode cX12_feels 83 = .ok (.aload_n 0, 1) := by decide +kernel
theorem dX12_feels_84 : decode cX12_feels 84 = .ok (.getfield 66, 3) := by decide +kernel
theorem dX12_feels_87 : decode cX12_feels 87 = .ok (.bipush 7, 2) := by decide +kernel
theorem dX12_feels_89 : decode cX12_feels 89 = .ok (.aload_n 0, 1) := by decide +kernel
theorem dX12_feels_90 : decode cX12_feels 90 = .ok (.getfield 241, 3) := by decide +kernel
theorem dX12_feels_93 : decode cX12_feels 93 = .ok (.iastore, 1) := by decide +kernel
theorem dX12_feels_94 : decode cX12_feels 94 = .ok (.return_, 1) := by decide +kernel
def FX12_feels (hp : HP) (p0 : Nat) (p1 : Int32) (p2 : Int32) : Option (HP) := (gR [12] 36 hp p0).bind (fun v1 => (wrI hp v1 (0 : Int32) p1).bind (fun hp2 => (gR [12] 36 hp2 p0).bind (fun v3 => (FX12_bits p2).bind (fun v4 => (wrI hp2 v3 (1 : Int32) v4).bind (fun hp5 => (gR [12] 36 hp5 p0).bind (fun v6 => (rc [12] hp5 p0 (FX12_pricesOf hp5 p0 p2)).bind (fun v7 => (wrI hp5 v6 (2 : Int32) v7).bind (fun hp8 => (gR [12] 36 hp8 p0).bind (fun v9 => (gI [12] 7 hp8 p0).bind (fun v10 => (FX12_bits v10).bind (fun v11 => (wrI hp8 v9 (3 : Int32) v11).bind (fun hp12 => (gR [12] 36 hp12 p0).bind (fun v13 => (gI [12] 10 hp12 p0).bind (fun v14 => (wrI hp12 v13 (4 : Int32) v14).bind (fun hp15 => (gR [12] 36 hp15 p0).bind (fun v16 => (gI [12] 8 hp15 p0).bind (fun v17 => (dvI v17 (360 : Int32)).bind (fun v18 => (wrI hp15 v16 (5 : Int32) v18).bind (fun hp19 => (gR [12] 36 hp19 p0).bind (fun v20 => (gI [12] 8 hp19 p0).bind (fun v21 => (rmI v21 (360 : Int32)).bind (fun v22 => (dvI v22 (30 : Int32)).bind (fun v23 => (wrI hp19 v20 (6 : Int32) v23).bind (fun hp24 => (gR [12] 36 hp24 p0).bind (fun v25 => (gI [12] 9 hp24 p0).bind (fun v26 => (wrI hp24 v25 (7 : Int32) v26).bind (fun hp27 => some hp27)))))))))))))))))))))))))))
set_option maxHeartbeats 4000000 in
set_option maxRecDepth 100000 in
theorem ctX12_feels (l : Launch) (D : va_G) (tg : Nat → ClassId) (bs : Nat) (sa : Nat → Nat) (hp : HP) (p0 : Nat) (p1 : Int32) (p2 : Int32) : Ct l D tg bs sa yX12_feels cX12_feels 3 none 2 [.ref p0, .int p1, .int p2] hp (FX12_feels hp p0 p1 p2) (fun _ => none) (fun r => r) := by
  refine Ct.of (by decide) (Nat.le_of_ble_eq_true rfl) ?_
  intro V Q hVl hVd hVt hVb hVs hC
  subst hVl; subst hVd; subst hVt; subst hVb; subst hVs
  unfold FX12_feels
  show Zs V Q (0, 0) 3 _ _ hp [(0, .ref p0), (1, .int p1), (2, .int p2)] 0 []
  refine z_aload_n hC 0 dX12_feels_0 rfl rfl ?_
  refine z_getR hC lgRX12_66 dX12_feels_1 (fun v1 => ?_)
  refine z_iconst hC (0 : Int32) dX12_feels_4 (by decide) ?_
  refine z_iload_n hC 1 dX12_feels_5 rfl rfl ?_
  refine z_iast hC dX12_feels_6 (fun hp2 => ?_)
  refine z_aload_n hC 0 dX12_feels_7 rfl rfl ?_
  refine z_getR hC lgRX12_66 dX12_feels_8 (fun v3 => ?_)
  refine z_iconst hC (1 : Int32) dX12_feels_11 (by decide) ?_
  refine z_iload_n hC 2 dX12_feels_12 rfl rfl ?_
  refine z_callSi hC lmRX12_111 (ctX12_bits (vLa V) (vDa V) (vTg V) (vBs V) (vSa V) hp2 p2) (by decide) hn0 dX12_feels_13 rfl rfl (Nat.le_of_ble_eq_true rfl) (fun v4 => ?_)
  refine z_iast hC dX12_feels_16 (fun hp5 => ?_)
  refine z_aload_n hC 0 dX12_feels_17 rfl rfl ?_
  refine z_getR hC lgRX12_66 dX12_feels_18 (fun v6 => ?_)
  refine z_iconst hC (2 : Int32) dX12_feels_21 (by decide) ?_
  refine z_aload_n hC 0 dX12_feels_22 rfl rfl ?_
  refine z_iload_n hC 2 dX12_feels_23 rfl rfl ?_
  refine z_callVi hC (ci := 12) rfl lmRX12_232 (ctX12_pricesOf (vLa V) (vDa V) (vTg V) (vBs V) (vSa V) hp5 p0 p2) (by decide) hn0 dX12_feels_24 rfl rfl (Nat.le_of_ble_eq_true rfl) (fun v7 => ?_)
  refine z_iast hC dX12_feels_27 (fun hp8 => ?_)
  refine z_aload_n hC 0 dX12_feels_28 rfl rfl ?_
  refine z_getR hC lgRX12_66 dX12_feels_29 (fun v9 => ?_)
  refine z_iconst hC (3 : Int32) dX12_feels_32 (by decide) ?_
  refine z_aload_n hC 0 dX12_feels_33 rfl rfl ?_
  refine z_getI hC lgRX12_121 dX12_feels_34 (fun v10 => ?_)
  refine z_callSi hC lmRX12_111 (ctX12_bits (vLa V) (vDa V) (vTg V) (vBs V) (vSa V) hp8 v10) (by decide) hn0 dX12_feels_37 rfl rfl (Nat.le_of_ble_eq_true rfl) (fun v11 => ?_)
  refine z_iast hC dX12_feels_40 (fun hp12 => ?_)
  refine z_aload_n hC 0 dX12_feels_41 rfl rfl ?_
  refine z_getR hC lgRX12_66 dX12_feels_42 (fun v13 => ?_)
  refine z_iconst hC (4 : Int32) dX12_feels_45 (by decide) ?_
  refine z_aload_n hC 0 dX12_feels_46 rfl rfl ?_
  refine z_getI hC lgRX12_235 dX12_feels_47 (fun v14 => ?_)
  refine z_iast hC dX12_feels_50 (fun hp15 => ?_)
  refine z_aload_n hC 0 dX12_feels_51 rfl rfl ?_
  refine z_getR hC lgRX12_66 dX12_feels_52 (fun v16 => ?_)
  refine z_iconst hC (5 : Int32) dX12_feels_55 (by decide) ?_
  refine z_aload_n hC 0 dX12_feels_56 rfl rfl ?_
  refine z_getI hC lgRX12_238 dX12_feels_57 (fun v17 => ?_)
  refine z_sipush hC (360 : Int32) dX12_feels_60 (by decide) ?_
  refine z_idiv hC dX12_feels_63 (fun v18 => ?_)
  refine z_iast hC dX12_feels_64 (fun hp19 => ?_)
  refine z_aload_n hC 0 dX12_feels_65 rfl rfl ?_
  refine z_getR hC lgRX12_66 dX12_feels_66 (fun v20 => ?_)
  refine z_bipush hC (6 : Int32) dX12_feels_69 (by decide) ?_
  refine z_aload_n hC 0 dX12_feels_71 rfl rfl ?_
  refine z_getI hC lgRX12_238 dX12_feels_72 (fun v21 => ?_)
  refine z_sipush hC (360 : Int32) dX12_feels_75 (by decide) ?_
  refine z_irem hC dX12_feels_78 (fun v22 => ?_)
  refine z_bipush hC (30 : Int32) dX12_feels_79 (by decide) ?_
  refine z_idiv hC dX12_feels_81 (fun v23 => ?_)
  refine z_iast hC dX12_feels_82 (fun hp24 => ?_)
  refine z_aload_n hC 0 dX12_feels_83 rfl rfl ?_
  refine z_getR hC lgRX12_66 dX12_feels_84 (fun v25 => ?_)
  refine z_bipush hC (7 : Int32) dX12_feels_87 (by decide) ?_
  refine z_aload_n hC 0 dX12_feels_89 rfl rfl ?_
  refine z_getI hC lgRX12_241 dX12_feels_90 (fun v26 => ?_)
  refine z_iast hC dX12_feels_93 (fun hp27 => ?_)
  exact z_vret hC (fun h => h) dX12_feels_94

theorem dX12_isFact_0 : decode cX12_isFact 0 = .ok (.iload_n 0, 1) := by decide +kernel
theorem dX12_isFact_1 : decode cX12_isFact 1 = .ok (.bipush 97, 2) := by decide +kernel
theorem dX12_isFact_3 : decode cX12_isFact 3 = .ok (.bipush 106, 2) := by decide +kernel
theorem dX12_isFact_5 : decode cX12_isFact 5 = .ok (.invokestatic 99, 3) := by decide +kernel
theorem dX12_isFact_8 : decode cX12_isFact 8 = .ok (.ireturn, 1) := by decide +kernel
def FX12_isFact (p0 : Int32) : Option (Int32) := (FX12_in p0 (97 : Int32) (106 : Int32)).bind (fun v1 => bz v1 (some v1))
set_option maxHeartbeats 4000000 in
set_option maxRecDepth 100000 in
theorem ctX12_isFact (l : Launch) (D : va_G) (tg : Nat → ClassId) (bs : Nat) (sa : Nat → Nat) (hp : HP) (p0 : Int32) : Ct l D tg bs sa yX12_isFact cX12_isFact 1 (some .boolean) 1 [.int p0] hp (FX12_isFact p0) (fun r => some (.int r)) (fun _ => hp) := by
  refine Ct.of (by decide) (Nat.le_of_ble_eq_true rfl) ?_
  intro V Q hVl hVd hVt hVb hVs hC
  subst hVl; subst hVd; subst hVt; subst hVb; subst hVs
  unfold FX12_isFact
  show Zs V Q (0, 0) 1 _ _ hp [(0, .int p0)] 0 []
  refine z_iload_n hC 0 dX12_isFact_0 rfl rfl ?_
  refine z_bipush hC (97 : Int32) dX12_isFact_1 (by decide) ?_
  refine z_bipush hC (106 : Int32) dX12_isFact_3 (by decide) ?_
  refine z_callSi hC lmRX12_99 (ctX12_in (vLa V) (vDa V) (vTg V) (vBs V) (vSa V) hp p0 (97 : Int32) (106 : Int32)) (by decide) hn0 dX12_isFact_5 rfl rfl (Nat.le_of_ble_eq_true rfl) (fun v1 => ?_)
  exact z_bz (fun hv => z_zret hC hv (fun h => h) dX12_isFact_8)

theorem dX12_begins_0 : decode cX12_begins 0 = .ok (.iload_n 0, 1) := by decide +kernel
theorem dX12_begins_1 : decode cX12_begins 1 = .ok (.bipush 33, 2) := by decide +kernel
theorem dX12_begins_3 : decode cX12_begins 3 = .ok (.if_icmp .eq 27, 3) := by decide +kernel
theorem dX12_begins_6 : decode cX12_begins 6 = .ok (.iload_n 0, 1) := by decide +kernel
theorem dX12_begins_7 : decode cX12_begins 7 = .ok (.bipush 40, 2) := by decide +kernel
theorem dX12_begins_9 : decode cX12_begins 9 = .ok (.if_icmp .eq 21, 3) := by decide +kernel
theorem dX12_begins_12 : decode cX12_begins 12 = .ok (.iload_n 0, 1) := by decide +kernel
theorem dX12_begins_13 : decode cX12_begins 13 = .ok (.invokestatic 244, 3) := by decide +kernel
theorem dX12_begins_16 : decode cX12_begins 16 = .ok (.ifCond .ne 14, 3) := by decide +kernel
theorem dX12_begins_19 : decode cX12_begins 19 = .ok (.iload_n 0, 1) := by decide +kernel
theorem dX12_begins_20 : decode cX12_begins 20 = .ok (.bipush 48, 2) := by decide +kernel
theorem dX12_begins_22 : decode cX12_begins 22 = .ok (.bipush 57, 2) := by decide +kernel
theorem dX12_begins_24 : decode cX12_begins 24 = .ok (.invokestatic 99, 3) := by decide +kernel
theorem dX12_begins_27 : decode cX12_begins 27 = .ok (.ifCond .eq 7, 3) := by decide +kernel
theorem dX12_begins_30 : decode cX12_begins 30 = .ok (.iconst 1, 1) := by decide +kernel
theorem dX12_begins_31 : decode cX12_begins 31 = .ok (.goto 4, 3) := by decide +kernel
theorem dX12_begins_34 : decode cX12_begins 34 = .ok (.iconst 0, 1) := by decide +kernel
theorem dX12_begins_35 : decode cX12_begins 35 = .ok (.ireturn, 1) := by decide +kernel
def FX12_begins (p0 : Int32) : Option (Int32) := if p0 = (33 : Int32) then some (1 : Int32) else if p0 = (40 : Int32) then some (1 : Int32) else (FX12_isFact p0).bind (fun v1 => if v1 = 0 then (FX12_in p0 (48 : Int32) (57 : Int32)).bind (fun v2 => if v2 = 0 then some (0 : Int32) else some (1 : Int32)) else some (1 : Int32))
set_option maxHeartbeats 4000000 in
set_option maxRecDepth 100000 in
theorem ctX12_begins (l : Launch) (D : va_G) (tg : Nat → ClassId) (bs : Nat) (sa : Nat → Nat) (hp : HP) (p0 : Int32) : Ct l D tg bs sa yX12_begins cX12_begins 1 (some .boolean) 2 [.int p0] hp (FX12_begins p0) (fun r => some (.int r)) (fun _ => hp) := by
  refine Ct.of (by decide) (Nat.le_of_ble_eq_true rfl) ?_
  intro V Q hVl hVd hVt hVb hVs hC
  subst hVl; subst hVd; subst hVt; subst hVb; subst hVs
  unfold FX12_begins
  show Zs V Q (0, 0) 1 _ _ hp [(0, .int p0)] 0 []
  refine z_iload_n hC 0 dX12_begins_0 rfl rfl ?_
  refine z_bipush hC (33 : Int32) dX12_begins_1 (by decide) ?_
  refine z_icmp_eq hC 30 dX12_begins_3 (by decide) (fun _ => ?_) (fun _ => ?_)
  · refine z_iconst hC (1 : Int32) dX12_begins_30 (by decide) ?_
    refine z_goto hC 35 dX12_begins_31 (by decide) ?_
    exact z_zret hC (by decide) (fun h => h) dX12_begins_35
  · refine z_iload_n hC 0 dX12_begins_6 rfl rfl ?_
    refine z_bipush hC (40 : Int32) dX12_begins_7 (by decide) ?_
    refine z_icmp_eq hC 30 dX12_begins_9 (by decide) (fun _ => ?_) (fun _ => ?_)
    · refine z_iconst hC (1 : Int32) dX12_begins_30 (by decide) ?_
      refine z_goto hC 35 dX12_begins_31 (by decide) ?_
      exact z_zret hC (by decide) (fun h => h) dX12_begins_35
    · refine z_iload_n hC 0 dX12_begins_12 rfl rfl ?_
      refine z_callSi hC lmRX12_244 (ctX12_isFact (vLa V) (vDa V) (vTg V) (vBs V) (vSa V) hp p0) (by decide) hn0 dX12_begins_13 rfl rfl (Nat.le_of_ble_eq_true rfl) (fun v1 => ?_)
      refine z_if_ne hC 30 dX12_begins_16 (by decide) (fun _ => ?_) (fun _ => ?_)
      · refine z_iload_n hC 0 dX12_begins_19 rfl rfl ?_
        refine z_bipush hC (48 : Int32) dX12_begins_20 (by decide) ?_
        refine z_bipush hC (57 : Int32) dX12_begins_22 (by decide) ?_
        refine z_callSi hC lmRX12_99 (ctX12_in (vLa V) (vDa V) (vTg V) (vBs V) (vSa V) hp p0 (48 : Int32) (57 : Int32)) (by decide) hn0 dX12_begins_24 rfl rfl (Nat.le_of_ble_eq_true rfl) (fun v2 => ?_)
        refine z_if_eq hC 34 dX12_begins_27 (by decide) (fun _ => ?_) (fun _ => ?_)
        · refine z_iconst hC (0 : Int32) dX12_begins_34 (by decide) ?_
          exact z_zret hC (by decide) (fun h => h) dX12_begins_35
        · refine z_iconst hC (1 : Int32) dX12_begins_30 (by decide) ?_
          refine z_goto hC 35 dX12_begins_31 (by decide) ?_
          exact z_zret hC (by decide) (fun h => h) dX12_begins_35
      · refine z_iconst hC (1 : Int32) dX12_begins_30 (by decide) ?_
        refine z_goto hC 35 dX12_begins_31 (by decide) ?_
        exact z_zret hC (by decide) (fun h => h) dX12_begins_35

theorem dX12_lays_0 : decode cX12_lays 0 = .ok (.aload_n 0, 1) := by decide +kernel
theorem dX12_lays_1 : decode cX12_lays 1 = .ok (.getfield 69, 3) := by decide +kernel
theorem dX12_lays_4 : decode cX12_lays 4 = .ok (.aload_n 0, 1) := by decide +kernel
theorem dX12_lays_5 : decode cX12_lays 5 = .ok (.getfield 247, 3) := by decide +kernel
theorem dX12_lays_8 : decode cX12_lays 8 = .ok (.iload_n 1, 1) := by decide +kernel
theorem dX12_lays_9 : decode cX12_lays 9 = .ok (.iastore, 1) := by decide +kernel
theorem dX12_lays_10 : decode cX12_lays 10 = .ok (.aload_n 0, 1) := by decide +kernel
theorem dX12_lays_11 : decode cX12_lays 11 = .ok (.aload_n 0, 1) := by decide +kernel
theorem dX12_lays_12 : decode cX12_lays 12 = .ok (.getfield 247, 3) := by decide +kernel
theorem dX12_lays_15 : decode cX12_lays 15 = .ok (.iconst 1, 1) := by decide +kernel
theorem dX12_lays_16 : decode cX12_lays 16 = .ok (.iadd, 1) := by decide +kernel
theorem dX12_lays_17 : decode cX12_lays 17 = .ok (.putfield 247, 3) := by decide +kernel
theorem dX12_lays_20 : decode cX12_lays 20 = .ok (.return_, 1) := by decide +kernel
def FX12_lays (hp : HP) (p0 : Nat) (p1 : Int32) : Option (HP) := (gR [12] 37 hp p0).bind (fun v1 => (gI [12] 40 hp p0).bind (fun v2 => (wrI hp v1 v2 p1).bind (fun hp3 => (gI [12] 40 hp3 p0).bind (fun v4 => (sI [12] 40 hp3 p0 (v4 + (1 : Int32))).bind (fun hp5 => some hp5)))))
set_option maxHeartbeats 4000000 in
set_option maxRecDepth 100000 in
theorem ctX12_lays (l : Launch) (D : va_G) (tg : Nat → ClassId) (bs : Nat) (sa : Nat → Nat) (hp : HP) (p0 : Nat) (p1 : Int32) : Ct l D tg bs sa yX12_lays cX12_lays 2 none 0 [.ref p0, .int p1] hp (FX12_lays hp p0 p1) (fun _ => none) (fun r => r) := by
  refine Ct.of (by decide) (Nat.le_of_ble_eq_true rfl) ?_
  intro V Q hVl hVd hVt hVb hVs hC
  subst hVl; subst hVd; subst hVt; subst hVb; subst hVs
  unfold FX12_lays
  show Zs V Q (0, 0) 2 _ _ hp [(0, .ref p0), (1, .int p1)] 0 []
  refine z_aload_n hC 0 dX12_lays_0 rfl rfl ?_
  refine z_getR hC lgRX12_69 dX12_lays_1 (fun v1 => ?_)
  refine z_aload_n hC 0 dX12_lays_4 rfl rfl ?_
  refine z_getI hC lgRX12_247 dX12_lays_5 (fun v2 => ?_)
  refine z_iload_n hC 1 dX12_lays_8 rfl rfl ?_
  refine z_iast hC dX12_lays_9 (fun hp3 => ?_)
  refine z_aload_n hC 0 dX12_lays_10 rfl rfl ?_
  refine z_aload_n hC 0 dX12_lays_11 rfl rfl ?_
  refine z_getI hC lgRX12_247 dX12_lays_12 (fun v4 => ?_)
  refine z_iconst hC (1 : Int32) dX12_lays_15 (by decide) ?_
  refine z_iadd hC dX12_lays_16 ?_
  refine z_putI hC lpRX12_247 dX12_lays_17 (fun hp5 => ?_)
  exact z_vret hC (fun h => h) dX12_lays_20

theorem dX12_waitsFor_0 : decode cX12_waitsFor 0 = .ok (.aload_n 0, 1) := by decide +kernel
theorem dX12_waitsFor_1 : decode cX12_waitsFor 1 = .ok (.getfield 72, 3) := by decide +kernel
theorem dX12_waitsFor_4 : decode cX12_waitsFor 4 = .ok (.aload_n 0, 1) := by decide +kernel
theorem dX12_waitsFor_5 : decode cX12_waitsFor 5 = .ok (.getfield 250, 3) := by decide +kernel
theorem dX12_waitsFor_8 : decode cX12_waitsFor 8 = .ok (.iload_n 1, 1) := by decide +kernel
theorem dX12_waitsFor_9 : decode cX12_waitsFor 9 = .ok (.iastore, 1) := by decide +kernel
theorem dX12_waitsFor_10 : decode cX12_waitsFor 10 = .ok (.aload_n 0, 1) := by decide +kernel
theorem dX12_waitsFor_11 : decode cX12_waitsFor 11 = .ok (.getfield 75, 3) := by decide +kernel
theorem dX12_waitsFor_14 : decode cX12_waitsFor 14 = .ok (.aload_n 0, 1) := by decide +kernel
theorem dX12_waitsFor_15 : decode cX12_waitsFor 15 = .ok (.getfield 250, 3) := by decide +kernel
theorem dX12_waitsFor_18 : decode cX12_waitsFor 18 = .ok (.iconst 1, 1) := by decide +kernel
theorem dX12_waitsFor_19 : decode cX12_waitsFor 19 = .ok (.iastore, 1) := by decide +kernel
theorem dX12_waitsFor_20 : decode cX12_waitsFor 20 = .ok (.aload_n 0, 1) := by decide +kernel
theorem dX12_waitsFor_21 : decode cX12_waitsFor 21 = .ok (.aload_n 0, 1) := by decide +kernel
theorem dX12_waitsFor_22 : decode cX12_waitsFor 22 = .ok (.getfield 250, 3) := by decide +kernel
theorem dX12_waitsFor_25 : decode cX12_waitsFor 25 = .ok (.iconst 1, 1) := by decide +kernel
theorem dX12_waitsFor_26 : decode cX12_waitsFor 26 = .ok (.iadd, 1) := by decide +kernel
theorem dX12_waitsFor_27 : decode cX12_waitsFor 27 = .ok (.putfield 250, 3) := by decide +kernel
theorem dX12_waitsFor_30 : decode cX12_waitsFor 30 = .ok (.return_, 1) := by decide +kernel
def FX12_waitsFor (hp : HP) (p0 : Nat) (p1 : Int32) : Option (HP) := (gR [12] 38 hp p0).bind (fun v1 => (gI [12] 41 hp p0).bind (fun v2 => (wrI hp v1 v2 p1).bind (fun hp3 => (gR [12] 39 hp3 p0).bind (fun v4 => (gI [12] 41 hp3 p0).bind (fun v5 => (wrI hp3 v4 v5 (1 : Int32)).bind (fun hp6 => (gI [12] 41 hp6 p0).bind (fun v7 => (sI [12] 41 hp6 p0 (v7 + (1 : Int32))).bind (fun hp8 => some hp8))))))))
set_option maxHeartbeats 4000000 in
set_option maxRecDepth 100000 in
theorem ctX12_waitsFor (l : Launch) (D : va_G) (tg : Nat → ClassId) (bs : Nat) (sa : Nat → Nat) (hp : HP) (p0 : Nat) (p1 : Int32) : Ct l D tg bs sa yX12_waitsFor cX12_waitsFor 2 none 0 [.ref p0, .int p1] hp (FX12_waitsFor hp p0 p1) (fun _ => none) (fun r => r) := by
  refine Ct.of (by decide) (Nat.le_of_ble_eq_true rfl) ?_
  intro V Q hVl hVd hVt hVb hVs hC
  subst hVl; subst hVd; subst hVt; subst hVb; subst hVs
  unfold FX12_waitsFor
  show Zs V Q (0, 0) 2 _ _ hp [(0, .ref p0), (1, .int p1)] 0 []
  refine z_aload_n hC 0 dX12_waitsFor_0 rfl rfl ?_
  refine z_getR hC lgRX12_72 dX12_waitsFor_1 (fun v1 => ?_)
  refine z_aload_n hC 0 dX12_waitsFor_4 rfl rfl ?_
  refine z_getI hC lgRX12_250 dX12_waitsFor_5 (fun v2 => ?_)
  refine z_iload_n hC 1 dX12_waitsFor_8 rfl rfl ?_
  refine z_iast hC dX12_waitsFor_9 (fun hp3 => ?_)
  refine z_aload_n hC 0 dX12_waitsFor_10 rfl rfl ?_
  refine z_getR hC lgRX12_75 dX12_waitsFor_11 (fun v4 => ?_)
  refine z_aload_n hC 0 dX12_waitsFor_14 rfl rfl ?_
  refine z_getI hC lgRX12_250 dX12_waitsFor_15 (fun v5 => ?_)
  refine z_iconst hC (1 : Int32) dX12_waitsFor_18 (by decide) ?_
  refine z_iast hC dX12_waitsFor_19 (fun hp6 => ?_)
  refine z_aload_n hC 0 dX12_waitsFor_20 rfl rfl ?_
  refine z_aload_n hC 0 dX12_waitsFor_21 rfl rfl ?_
  refine z_getI hC lgRX12_250 dX12_waitsFor_22 (fun v7 => ?_)
  refine z_iconst hC (1 : Int32) dX12_waitsFor_25 (by decide) ?_
  refine z_iadd hC dX12_waitsFor_26 ?_
  refine z_putI hC lpRX12_250 dX12_waitsFor_27 (fun hp8 => ?_)
  exact z_vret hC (fun h => h) dX12_waitsFor_30

theorem dX12_lastSign_0 : decode cX12_lastSign 0 = .ok (.aload_n 0, 1) := by decide +kernel
theorem dX12_lastSign_1 : decode cX12_lastSign 1 = .ok (.getfield 250, 3) := by decide +kernel
theorem dX12_lastSign_4 : decode cX12_lastSign 4 = .ok (.ifCond .ne 7, 3) := by decide +kernel
theorem dX12_lastSign_7 : decode cX12_lastSign 7 = .ok (.iconst (-1), 1) := by decide +kernel
theorem dX12_lastSign_8 : decode cX12_lastSign 8 = .ok (.goto 14, 3) := by decide +kernel
theorem dX12_lastSign_11 : decode cX12_lastSign 11 = .ok (.aload_n 0, 1) := by decide +kernel
theorem dX12_lastSign_12 : decode cX12_lastSign 12 = .ok (.getfield 72, 3) := by decide +kernel
theorem dX12_lastSign_15 : decode cX12_lastSign 15 = .ok (.aload_n 0, 1) := by decide +kernel
theorem dX12_lastSign_16 : decode cX12_lastSign 16 = .ok (.getfield 250, 3) := by decide +kernel
theorem dX12_lastSign_19 : decode cX12_lastSign 19 = .ok (.iconst 1, 1) := by decide +kernel
theorem dX12_lastSign_20 : decode cX12_lastSign 20 = .ok (.isub, 1) := by decide +kernel
theorem dX12_lastSign_21 : decode cX12_lastSign 21 = .ok (.iaload, 1) := by decide +kernel
theorem dX12_lastSign_22 : decode cX12_lastSign 22 = .ok (.ireturn, 1) := by decide +kernel
def FX12_lastSign (hp : HP) (p0 : Nat) : Option (Int32) := (gI [12] 41 hp p0).bind (fun v1 => if v1 = 0 then some (-1 : Int32) else (gR [12] 38 hp p0).bind (fun v2 => (gI [12] 41 hp p0).bind (fun v3 => (rdN 0 hp v2 (v3 - (1 : Int32))).bind (fun v4 => some v4))))
set_option maxHeartbeats 4000000 in
set_option maxRecDepth 100000 in
theorem ctX12_lastSign (l : Launch) (D : va_G) (tg : Nat → ClassId) (bs : Nat) (sa : Nat → Nat) (hp : HP) (p0 : Nat) : Ct l D tg bs sa yX12_lastSign cX12_lastSign 1 (some .int) 0 [.ref p0] hp (FX12_lastSign hp p0) (fun r => some (.int r)) (fun _ => hp) := by
  refine Ct.of (by decide) (Nat.le_of_ble_eq_true rfl) ?_
  intro V Q hVl hVd hVt hVb hVs hC
  subst hVl; subst hVd; subst hVt; subst hVb; subst hVs
  unfold FX12_lastSign
  show Zs V Q (0, 0) 1 _ _ hp [(0, .ref p0)] 0 []
  refine z_aload_n hC 0 dX12_lastSign_0 rfl rfl ?_
  refine z_getI hC lgRX12_250 dX12_lastSign_1 (fun v1 => ?_)
  refine z_if_ne hC 11 dX12_lastSign_4 (by decide) (fun _ => ?_) (fun _ => ?_)
  · refine z_iconst hC (-1 : Int32) dX12_lastSign_7 (by decide) ?_
    refine z_goto hC 22 dX12_lastSign_8 (by decide) ?_
    exact z_iret hC (fun h => h) dX12_lastSign_22
  · refine z_aload_n hC 0 dX12_lastSign_11 rfl rfl ?_
    refine z_getR hC lgRX12_72 dX12_lastSign_12 (fun v2 => ?_)
    refine z_aload_n hC 0 dX12_lastSign_15 rfl rfl ?_
    refine z_getI hC lgRX12_250 dX12_lastSign_16 (fun v3 => ?_)
    refine z_iconst hC (1 : Int32) dX12_lastSign_19 (by decide) ?_
    refine z_isub hC dX12_lastSign_20 ?_
    refine z_iald hC dX12_lastSign_21 (fun v4 => ?_)
    exact z_iret hC (fun h => h) dX12_lastSign_22

theorem dX12_laysLast_0 : decode cX12_laysLast 0 = .ok (.aload_n 0, 1) := by decide +kernel
theorem dX12_laysLast_1 : decode cX12_laysLast 1 = .ok (.aload_n 0, 1) := by decide +kernel
theorem dX12_laysLast_2 : decode cX12_laysLast 2 = .ok (.getfield 250, 3) := by decide +kernel
theorem dX12_laysLast_5 : decode cX12_laysLast 5 = .ok (.iconst 1, 1) := by decide +kernel
theorem dX12_laysLast_6 : decode cX12_laysLast 6 = .ok (.isub, 1) := by decide +kernel
theorem dX12_laysLast_7 : decode cX12_laysLast 7 = .ok (.putfield 250, 3) := by decide +kernel
theorem dX12_laysLast_10 : decode cX12_laysLast 10 = .ok (.aload_n 0, 1) := by decide +kernel
theorem dX12_laysLast_11 : decode cX12_laysLast 11 = .ok (.aload_n 0, 1) := by decide +kernel
theorem dX12_laysLast_12 : decode cX12_laysLast 12 = .ok (.getfield 72, 3) := by decide +kernel
theorem dX12_laysLast_15 : decode cX12_laysLast 15 = .ok (.aload_n 0, 1) := by decide +kernel
theorem dX12_laysLast_16 : decode cX12_laysLast 16 = .ok (.getfield 250, 3) := by decide +kernel
theorem dX12_laysLast_19 : decode cX12_laysLast 19 = .ok (.iaload, 1) := by decide +kernel
theorem dX12_laysLast_20 : decode cX12_laysLast 20 = .ok (.invokevirtual 253, 3) := by decide +kernel
theorem dX12_laysLast_23 : decode cX12_laysLast 23 = .ok (.return_, 1) := by decide +kernel
def FX12_laysLast (hp : HP) (p0 : Nat) : Option (HP) := (gI [12] 41 hp p0).bind (fun v1 => (sI [12] 41 hp p0 (v1 - (1 : Int32))).bind (fun hp2 => (gR [12] 38 hp2 p0).bind (fun v3 => (gI [12] 41 hp2 p0).bind (fun v4 => (rdN 0 hp2 v3 v4).bind (fun v5 => (rc [12] hp2 p0 (FX12_lays hp2 p0 v5)).bind (fun w6 => some w6))))))
set_option maxHeartbeats 4000000 in
set_option maxRecDepth 100000 in
theorem ctX12_laysLast (l : Launch) (D : va_G) (tg : Nat → ClassId) (bs : Nat) (sa : Nat → Nat) (hp : HP) (p0 : Nat) : Ct l D tg bs sa yX12_laysLast cX12_laysLast 1 none 1 [.ref p0] hp (FX12_laysLast hp p0) (fun _ => none) (fun r => r) := by
  refine Ct.of (by decide) (Nat.le_of_ble_eq_true rfl) ?_
  intro V Q hVl hVd hVt hVb hVs hC
  subst hVl; subst hVd; subst hVt; subst hVb; subst hVs
  unfold FX12_laysLast
  show Zs V Q (0, 0) 1 _ _ hp [(0, .ref p0)] 0 []
  refine z_aload_n hC 0 dX12_laysLast_0 rfl rfl ?_
  refine z_aload_n hC 0 dX12_laysLast_1 rfl rfl ?_
  refine z_getI hC lgRX12_250 dX12_laysLast_2 (fun v1 => ?_)
  refine z_iconst hC (1 : Int32) dX12_laysLast_5 (by decide) ?_
  refine z_isub hC dX12_laysLast_6 ?_
  refine z_putI hC lpRX12_250 dX12_laysLast_7 (fun hp2 => ?_)
  refine z_aload_n hC 0 dX12_laysLast_10 rfl rfl ?_
  refine z_aload_n hC 0 dX12_laysLast_11 rfl rfl ?_
  refine z_getR hC lgRX12_72 dX12_laysLast_12 (fun v3 => ?_)
  refine z_aload_n hC 0 dX12_laysLast_15 rfl rfl ?_
  refine z_getI hC lgRX12_250 dX12_laysLast_16 (fun v4 => ?_)
  refine z_iald hC dX12_laysLast_19 (fun v5 => ?_)
  refine z_callVv hC (ci := 12) rfl lmRX12_253 (ctX12_lays (vLa V) (vDa V) (vTg V) (vBs V) (vSa V) hp2 p0 v5) (by decide) hn0 dX12_laysLast_20 rfl rfl (Nat.le_of_ble_eq_true rfl) (fun w6 => ?_)
  exact z_vret hC (fun h => h) dX12_laysLast_23

theorem dX12_laysTo_0 : decode cX12_laysTo 0 = .ok (.aload_n 0, 1) := by decide +kernel
theorem dX12_laysTo_1 : decode cX12_laysTo 1 = .ok (.invokevirtual 256, 3) := by decide +kernel
theorem dX12_laysTo_4 : decode cX12_laysTo 4 = .ok (.bipush 30, 2) := by decide +kernel
theorem dX12_laysTo_6 : decode cX12_laysTo 6 = .ok (.iload_n 1, 1) := by decide +kernel
theorem dX12_laysTo_7 : decode cX12_laysTo 7 = .ok (.invokestatic 99, 3) := by decide +kernel
theorem dX12_laysTo_10 : decode cX12_laysTo 10 = .ok (.ifCond .eq 10, 3) := by decide +kernel
theorem dX12_laysTo_13 : decode cX12_laysTo 13 = .ok (.aload_n 0, 1) := by decide +kernel
theorem dX12_laysTo_14 : decode cX12_laysTo 14 = .ok (.invokevirtual 259, 3) := by decide +kernel
theorem dX12_laysTo_17 : decode cX12_laysTo 17 = .ok (.goto (-17), 3) := by decide +kernel
theorem dX12_laysTo_20 : decode cX12_laysTo 20 = .ok (.return_, 1) := by decide +kernel
def FX12_laysTo (hp : HP) (p0 : Nat) (p1 : Int32) : Option (HP) := (lp (fun (s1 : HP) => (rc [12] s1 p0 (FX12_lastSign s1 p0)).bind (fun v3 => (FX12_in v3 (30 : Int32) p1).bind (fun v4 => if v4 = 0 then some (Sum.inl s1) else (rc [12] s1 p0 (FX12_laysLast s1 p0)).bind (fun w5 => some (Sum.inr w5))))) FU hp).bind (fun (y2 : HP) => some y2)
set_option maxHeartbeats 4000000 in
set_option maxRecDepth 100000 in
theorem ctX12_laysTo (l : Launch) (D : va_G) (tg : Nat → ClassId) (bs : Nat) (sa : Nat → Nat) (hp : HP) (p0 : Nat) (p1 : Int32) : Ct l D tg bs sa yX12_laysTo cX12_laysTo 2 none 2 [.ref p0, .int p1] hp (FX12_laysTo hp p0 p1) (fun _ => none) (fun r => r) := by
  refine Ct.of (by decide) (Nat.le_of_ble_eq_true rfl) ?_
  intro V Q hVl hVd hVt hVb hVs hC
  subst hVl; subst hVd; subst hVt; subst hVb; subst hVs
  unfold FX12_laysTo
  show Zs V Q (0, 0) 2 _ _ hp [(0, .ref p0), (1, .int p1)] 0 []
  refine z_lp (S := HP) (Y := HP) (fun s1 => s1) (fun s1 => [(0, .ref p0), (1, .int p1)]) (fun y2 => y2) (fun y2 => []) 20 [] (fun y2 => ?_) (fun s1 => ?_) rfl rfl
  · exact z_vret hC (fun h => h) dX12_laysTo_20
  · refine z_aload_n hC 0 dX12_laysTo_0 rfl rfl ?_
    refine z_callVi hC (ci := 12) rfl lmRX12_256 (ctX12_lastSign (vLa V) (vDa V) (vTg V) (vBs V) (vSa V) s1 p0) (by decide) hn0 dX12_laysTo_1 rfl rfl (Nat.le_of_ble_eq_true rfl) (fun v3 => ?_)
    refine z_bipush hC (30 : Int32) dX12_laysTo_4 (by decide) ?_
    refine z_iload_n hC 1 dX12_laysTo_6 rfl rfl ?_
    refine z_callSi hC lmRX12_99 (ctX12_in (vLa V) (vDa V) (vTg V) (vBs V) (vSa V) s1 v3 (30 : Int32) p1) (by decide) hn0 dX12_laysTo_7 rfl rfl (Nat.le_of_ble_eq_true rfl) (fun v4 => ?_)
    refine z_if_eq hC 20 dX12_laysTo_10 (by decide) (fun _ => ?_) (fun _ => ?_)
    · refine z_weak [] [] rfl ?_
      exact z_leaf (fun h => h)
    · refine z_aload_n hC 0 dX12_laysTo_13 rfl rfl ?_
      refine z_callVv hC (ci := 12) rfl lmRX12_259 (ctX12_laysLast (vLa V) (vDa V) (vTg V) (vBs V) (vSa V) s1 p0) (by decide) hn0 dX12_laysTo_14 rfl rfl (Nat.le_of_ble_eq_true rfl) (fun w5 => ?_)
      refine z_goto hC 0 dX12_laysTo_17 (by decide) ?_
      exact z_leaf (fun h => h)

theorem dX12_endsTruth_0 : decode cX12_endsTruth 0 = .ok (.aload_n 0, 1) := by decide +kernel
theorem dX12_endsTruth_1 : decode cX12_endsTruth 1 = .ok (.invokevirtual 256, 3) := by decide +kernel
theorem dX12_endsTruth_4 : decode cX12_endsTruth 4 = .ok (.bipush 33, 2) := by decide +kernel
theorem dX12_endsTruth_6 : decode cX12_endsTruth 6 = .ok (.if_icmp .ne 20, 3) := by decide +kernel
theorem dX12_endsTruth_9 : decode cX12_endsTruth 9 = .ok (.aload_n 0, 1) := by decide +kernel
theorem dX12_endsTruth_10 : decode cX12_endsTruth 10 = .ok (.invokevirtual 259, 3) := by decide +kernel
theorem dX12_endsTruth_13 : decode cX12_endsTruth 13 = .ok (.aload_n 0, 1) := by decide +kernel
theorem dX12_endsTruth_14 : decode cX12_endsTruth 14 = .ok (.aload_n 0, 1) := by decide +kernel
theorem dX12_endsTruth_15 : decode cX12_endsTruth 15 = .ok (.getfield 262, 3) := by decide +kernel
theorem dX12_endsTruth_18 : decode cX12_endsTruth 18 = .ok (.iconst 1, 1) := by decide +kernel
theorem dX12_endsTruth_19 : decode cX12_endsTruth 19 = .ok (.isub, 1) := by decide +kernel
theorem dX12_endsTruth_20 : decode cX12_endsTruth 20 = .ok (.putfield 262, 3) := by decide +kernel
theorem dX12_endsTruth_23 : decode cX12_endsTruth 23 = .ok (.goto (-23), 3) := by decide +kernel
theorem dX12_endsTruth_26 : decode cX12_endsTruth 26 = .ok (.aload_n 0, 1) := by decide +kernel
theorem dX12_endsTruth_27 : decode cX12_endsTruth 27 = .ok (.iconst 0, 1) := by decide +kernel
theorem dX12_endsTruth_28 : decode cX12_endsTruth 28 = .ok (.putfield 265, 3) := by decide +kernel
theorem dX12_endsTruth_31 : decode cX12_endsTruth 31 = .ok (.return_, 1) := by decide +kernel
def FX12_endsTruth (hp : HP) (p0 : Nat) : Option (HP) := (lp (fun (s1 : HP) => (rc [12] s1 p0 (FX12_lastSign s1 p0)).bind (fun v4 => if v4 = (33 : Int32) then (rc [12] s1 p0 (FX12_laysLast s1 p0)).bind (fun w5 => (gI [12] 42 w5 p0).bind (fun v6 => (sI [12] 42 w5 p0 (v6 - (1 : Int32))).bind (fun hp7 => some (Sum.inr hp7)))) else some (Sum.inl s1))) FU hp).bind (fun (y2 : HP) => (sZ [12] 43 y2 p0 (0 : Int32)).bind (fun hp3 => some hp3))
set_option maxHeartbeats 4000000 in
set_option maxRecDepth 100000 in
theorem ctX12_endsTruth (l : Launch) (D : va_G) (tg : Nat → ClassId) (bs : Nat) (sa : Nat → Nat) (hp : HP) (p0 : Nat) : Ct l D tg bs sa yX12_endsTruth cX12_endsTruth 1 none 2 [.ref p0] hp (FX12_endsTruth hp p0) (fun _ => none) (fun r => r) := by
  refine Ct.of (by decide) (Nat.le_of_ble_eq_true rfl) ?_
  intro V Q hVl hVd hVt hVb hVs hC
  subst hVl; subst hVd; subst hVt; subst hVb; subst hVs
  unfold FX12_endsTruth
  show Zs V Q (0, 0) 1 _ _ hp [(0, .ref p0)] 0 []
  refine z_lp (S := HP) (Y := HP) (fun s1 => s1) (fun s1 => [(0, .ref p0)]) (fun y2 => y2) (fun y2 => [(0, .ref p0)]) 26 [] (fun y2 => ?_) (fun s1 => ?_) rfl rfl
  · refine z_aload_n hC 0 dX12_endsTruth_26 rfl rfl ?_
    refine z_iconst hC (0 : Int32) dX12_endsTruth_27 (by decide) ?_
    refine z_putZ hC lpRX12_265 dX12_endsTruth_28 (fun hp3 => ?_)
    exact z_vret hC (fun h => h) dX12_endsTruth_31
  · refine z_aload_n hC 0 dX12_endsTruth_0 rfl rfl ?_
    refine z_callVi hC (ci := 12) rfl lmRX12_256 (ctX12_lastSign (vLa V) (vDa V) (vTg V) (vBs V) (vSa V) s1 p0) (by decide) hn0 dX12_endsTruth_1 rfl rfl (Nat.le_of_ble_eq_true rfl) (fun v4 => ?_)
    refine z_bipush hC (33 : Int32) dX12_endsTruth_4 (by decide) ?_
    refine z_icmp_ne hC 26 dX12_endsTruth_6 (by decide) (fun _ => ?_) (fun _ => ?_)
    · refine z_aload_n hC 0 dX12_endsTruth_9 rfl rfl ?_
      refine z_callVv hC (ci := 12) rfl lmRX12_259 (ctX12_laysLast (vLa V) (vDa V) (vTg V) (vBs V) (vSa V) s1 p0) (by decide) hn0 dX12_endsTruth_10 rfl rfl (Nat.le_of_ble_eq_true rfl) (fun w5 => ?_)
      refine z_aload_n hC 0 dX12_endsTruth_13 rfl rfl ?_
      refine z_aload_n hC 0 dX12_endsTruth_14 rfl rfl ?_
      refine z_getI hC lgRX12_262 dX12_endsTruth_15 (fun v6 => ?_)
      refine z_iconst hC (1 : Int32) dX12_endsTruth_18 (by decide) ?_
      refine z_isub hC dX12_endsTruth_19 ?_
      refine z_putI hC lpRX12_262 dX12_endsTruth_20 (fun hp7 => ?_)
      refine z_goto hC 0 dX12_endsTruth_23 (by decide) ?_
      exact z_leaf (fun h => h)
    · exact z_leaf (fun h => h)

theorem dX12_opensOne_0 : decode cX12_opensOne 0 = .ok (.aload_n 0, 1) := by decide +kernel
theorem dX12_opensOne_1 : decode cX12_opensOne 1 = .ok (.getfield 262, 3) := by decide +kernel
theorem dX12_opensOne_4 : decode cX12_opensOne 4 = .ok (.bipush 6, 2) := by decide +kernel
theorem dX12_opensOne_6 : decode cX12_opensOne 6 = .ok (.if_icmp .ne 13, 3) := by decide +kernel
theorem dX12_opensOne_9 : decode cX12_opensOne 9 = .ok (.aload_n 0, 1) := by decide +kernel
theorem dX12_opensOne_10 : decode cX12_opensOne 10 = .ok (.iconst 5, 1) := by decide +kernel
theorem dX12_opensOne_11 : decode cX12_opensOne 11 = .ok (.aload_n 0, 1) := by decide +kernel
theorem dX12_opensOne_12 : decode cX12_opensOne 12 = .ok (.getfield 131, 3) := by decide +kernel
theorem dX12_opensOne_15 : decode cX12_opensOne 15 = .ok (.invokevirtual 144, 3) := by decide +kernel
theorem dX12_opensOne_18 : decode cX12_opensOne 18 = .ok (.ireturn, 1) := by decide +kernel
theorem dX12_opensOne_19 : decode cX12_opensOne 19 = .ok (.aload_n 0, 1) := by decide +kernel
theorem dX12_opensOne_20 : decode cX12_opensOne 20 = .ok (.aload_n 0, 1) := by decide +kernel
theorem dX12_opensOne_21 : decode cX12_opensOne 21 = .ok (.getfield 262, 3) := by decide +kernel
theorem dX12_opensOne_24 : decode cX12_opensOne 24 = .ok (.iconst 1, 1) := by decide +kernel
theorem dX12_opensOne_25 : decode cX12_opensOne 25 = .ok (.iadd, 1) := by decide +kernel
theorem dX12_opensOne_26 : decode cX12_opensOne 26 = .ok (.putfield 262, 3) := by decide +kernel
theorem dX12_opensOne_29 : decode cX12_opensOne 29 = .ok (.iconst 1, 1) := by decide +kernel
theorem dX12_opensOne_30 : decode cX12_opensOne 30 = .ok (.ireturn, 1) := by decide +kernel
def FX12_opensOne (hp : HP) (p0 : Nat) : Option (Int32 × HP) := (gI [12] 42 hp p0).bind (fun v1 => if v1 = (6 : Int32) then (gI [12] 15 hp p0).bind (fun v2 => (rc [12] hp p0 (FX12_wrongAt hp p0 (5 : Int32) v2)).bind (fun w3 => bz w3.1 (some (w3.1, w3.2)))) else (gI [12] 42 hp p0).bind (fun v4 => (sI [12] 42 hp p0 (v4 + (1 : Int32))).bind (fun hp5 => some ((1 : Int32), hp5))))
set_option maxHeartbeats 4000000 in
set_option maxRecDepth 100000 in
theorem ctX12_opensOne (l : Launch) (D : va_G) (tg : Nat → ClassId) (bs : Nat) (sa : Nat → Nat) (hp : HP) (p0 : Nat) : Ct l D tg bs sa yX12_opensOne cX12_opensOne 1 (some .boolean) 1 [.ref p0] hp (FX12_opensOne hp p0) (fun r => some (.int r.1)) (fun r => r.2) := by
  refine Ct.of (by decide) (Nat.le_of_ble_eq_true rfl) ?_
  intro V Q hVl hVd hVt hVb hVs hC
  subst hVl; subst hVd; subst hVt; subst hVb; subst hVs
  unfold FX12_opensOne
  show Zs V Q (0, 0) 1 _ _ hp [(0, .ref p0)] 0 []
  refine z_aload_n hC 0 dX12_opensOne_0 rfl rfl ?_
  refine z_getI hC lgRX12_262 dX12_opensOne_1 (fun v1 => ?_)
  refine z_bipush hC (6 : Int32) dX12_opensOne_4 (by decide) ?_
  refine z_icmp_ne hC 19 dX12_opensOne_6 (by decide) (fun _ => ?_) (fun _ => ?_)
  · refine z_aload_n hC 0 dX12_opensOne_9 rfl rfl ?_
    refine z_iconst hC (5 : Int32) dX12_opensOne_10 (by decide) ?_
    refine z_aload_n hC 0 dX12_opensOne_11 rfl rfl ?_
    refine z_getI hC lgRX12_131 dX12_opensOne_12 (fun v2 => ?_)
    refine z_callVi hC (ci := 12) rfl lmRX12_144 (ctX12_wrongAt (vLa V) (vDa V) (vTg V) (vBs V) (vSa V) hp p0 (5 : Int32) v2) (by decide) hn0 dX12_opensOne_15 rfl rfl (Nat.le_of_ble_eq_true rfl) (fun w3 => ?_)
    exact z_bz (fun hv => z_zret hC hv (fun h => h) dX12_opensOne_18)
  · refine z_aload_n hC 0 dX12_opensOne_19 rfl rfl ?_
    refine z_aload_n hC 0 dX12_opensOne_20 rfl rfl ?_
    refine z_getI hC lgRX12_262 dX12_opensOne_21 (fun v4 => ?_)
    refine z_iconst hC (1 : Int32) dX12_opensOne_24 (by decide) ?_
    refine z_iadd hC dX12_opensOne_25 ?_
    refine z_putI hC lpRX12_262 dX12_opensOne_26 (fun hp5 => ?_)
    refine z_iconst hC (1 : Int32) dX12_opensOne_29 (by decide) ?_
    exact z_zret hC (by decide) (fun h => h) dX12_opensOne_30

