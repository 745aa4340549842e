theorem dX12_isTrue_0 : decode cX12_isTrue 0 = .ok (.iconst 0, 1) := by decide +kernel
theorem dX12_isTrue_1 : decode cX12_isTrue 1 = .ok (.istore_n 2, 1) := by decide +kernel
theorem dX12_isTrue_2 : decode cX12_isTrue 2 = .ok (.iconst 0, 1) := by decide +kernel
theorem dX12_isTrue_3 : decode cX12_isTrue 3 = .ok (.istore_n 3, 1) := by decide +kernel
theorem dX12_isTrue_4 : decode cX12_isTrue 4 = .ok (.iload_n 3, 1) := by decide +kernel
theorem dX12_isTrue_5 : decode cX12_isTrue 5 = .ok (.aload_n 0, 1) := by decide +kernel
theorem dX12_isTrue_6 : decode cX12_isTrue 6 = .ok (.getfield 247, 3) := by decide +kernel
theorem dX12_isTrue_9 : decode cX12_isTrue 9 = .ok (.if_icmp .ge 283, 3) := by decide +kernel
theorem dX12_isTrue_12 : decode cX12_isTrue 12 = .ok (.aload_n 0, 1) := by decide +kernel
theorem dX12_isTrue_13 : decode cX12_isTrue 13 = .ok (.getfield 69, 3) := by decide +kernel
theorem dX12_isTrue_16 : decode cX12_isTrue 16 = .ok (.iload_n 3, 1) := by decide +kernel
theorem dX12_isTrue_17 : decode cX12_isTrue 17 = .ok (.iaload, 1) := by decide +kernel
theorem dX12_isTrue_18 : decode cX12_isTrue 18 = .ok (.istore 4, 2) := by decide +kernel
theorem dX12_isTrue_20 : decode cX12_isTrue 20 = .ok (.iload 4, 2) := by decide +kernel
theorem dX12_isTrue_22 : decode cX12_isTrue 22 = .ok (.bipush 100, 2) := by decide +kernel
theorem dX12_isTrue_24 : decode cX12_isTrue 24 = .ok (.if_icmp .lt 88, 3) := by decide +kernel
theorem dX12_isTrue_27 : decode cX12_isTrue 27 = .ok (.iload 4, 2) := by decide +kernel
theorem dX12_isTrue_29 : decode cX12_isTrue 29 = .ok (.bipush 100, 2) := by decide +kernel
theorem dX12_isTrue_31 : decode cX12_isTrue 31 = .ok (.idiv, 1) := by decide +kernel
theorem dX12_isTrue_32 : decode cX12_isTrue 32 = .ok (.iconst 1, 1) := by decide +kernel
theorem dX12_isTrue_33 : decode cX12_isTrue 33 = .ok (.isub, 1) := by decide +kernel
theorem dX12_isTrue_34 : decode cX12_isTrue 34 = .ok (.istore 5, 2) := by decide +kernel
theorem dX12_isTrue_36 : decode cX12_isTrue 36 = .ok (.iconst 0, 1) := by decide +kernel
theorem dX12_isTrue_37 : decode cX12_isTrue 37 = .ok (.istore 6, 2) := by decide +kernel
theorem dX12_isTrue_39 : decode cX12_isTrue 39 = .ok (.iconst 0, 1) := by decide +kernel
theorem dX12_isTrue_40 : decode cX12_isTrue 40 = .ok (.istore 7, 2) := by decide +kernel
theorem dX12_isTrue_42 : decode cX12_isTrue 42 = .ok (.iload 7, 2) := by decide +kernel
theorem dX12_isTrue_44 : decode cX12_isTrue 44 = .ok (.iload 5, 2) := by decide +kernel
theorem dX12_isTrue_46 : decode cX12_isTrue 46 = .ok (.if_icmp .ge 33, 3) := by decide +kernel
theorem dX12_isTrue_49 : decode cX12_isTrue 49 = .ok (.iload 6, 2) := by decide +kernel
theorem dX12_isTrue_51 : decode cX12_isTrue 51 = .ok (.aload_n 0, 1) := by decide +kernel
theorem dX12_isTrue_52 : decode cX12_isTrue 52 = .ok (.getfield 78, 3) := by decide +kernel
theorem dX12_isTrue_55 : decode cX12_isTrue 55 = .ok (.iload_n 2, 1) := by decide +kernel
theorem dX12_isTrue_56 : decode cX12_isTrue 56 = .ok (.iconst 1, 1) := by decide +kernel
theorem dX12_isTrue_57 : decode cX12_isTrue 57 = .ok (.isub, 1) := by decide +kernel
theorem dX12_isTrue_58 : decode cX12_isTrue 58 = .ok (.iload 7, 2) := by decide +kernel
theorem dX12_isTrue_60 : decode cX12_isTrue 60 = .ok (.isub, 1) := by decide +kernel
theorem dX12_isTrue_61 : decode cX12_isTrue 61 = .ok (.baload, 1) := by decide +kernel
theorem dX12_isTrue_62 : decode cX12_isTrue 62 = .ok (.ifCond .eq 7, 3) := by decide +kernel
theorem dX12_isTrue_65 : decode cX12_isTrue 65 = .ok (.iconst 1, 1) := by decide +kernel
theorem dX12_isTrue_66 : decode cX12_isTrue 66 = .ok (.goto 4, 3) := by decide +kernel
theorem dX12_isTrue_69 : decode cX12_isTrue 69 = .ok (.iconst 0, 1) := by decide +kernel
theorem dX12_isTrue_70 : decode cX12_isTrue 70 = .ok (.iadd, 1) := by decide +kernel
theorem dX12_isTrue_71 : decode cX12_isTrue 71 = .ok (.istore 6, 2) := by decide +kernel
theorem dX12_isTrue_73 : decode cX12_isTrue 73 = .ok (.iinc 7 1, 3) := by decide +kernel
theorem dX12_isTrue_76 : decode cX12_isTrue 76 = .ok (.goto (-34), 3) := by decide +kernel
theorem dX12_isTrue_79 : decode cX12_isTrue 79 = .ok (.iload_n 2, 1) := by decide +kernel
theorem dX12_isTrue_80 : decode cX12_isTrue 80 = .ok (.iload 5, 2) := by decide +kernel
theorem dX12_isTrue_82 : decode cX12_isTrue 82 = .ok (.isub, 1) := by decide +kernel
theorem dX12_isTrue_83 : decode cX12_isTrue 83 = .ok (.istore_n 2, 1) := by decide +kernel
theorem dX12_isTrue_84 : decode cX12_isTrue 84 = .ok (.aload_n 0, 1) := by decide +kernel
theorem dX12_isTrue_85 : decode cX12_isTrue 85 = .ok (.getfield 78, 3) := by decide +kernel
theorem dX12_isTrue_88 : decode cX12_isTrue 88 = .ok (.iload_n 2, 1) := by decide +kernel
theorem dX12_isTrue_89 : decode cX12_isTrue 89 = .ok (.iload 6, 2) := by decide +kernel
theorem dX12_isTrue_91 : decode cX12_isTrue 91 = .ok (.iload 4, 2) := by decide +kernel
theorem dX12_isTrue_93 : decode cX12_isTrue 93 = .ok (.bipush 100, 2) := by decide +kernel
theorem dX12_isTrue_95 : decode cX12_isTrue 95 = .ok (.irem, 1) := by decide +kernel
theorem dX12_isTrue_96 : decode cX12_isTrue 96 = .ok (.if_icmp .lt 7, 3) := by decide +kernel
theorem dX12_isTrue_99 : decode cX12_isTrue 99 = .ok (.iconst 1, 1) := by decide +kernel
theorem dX12_isTrue_100 : decode cX12_isTrue 100 = .ok (.goto 4, 3) := by decide +kernel
theorem dX12_isTrue_103 : decode cX12_isTrue 103 = .ok (.iconst 0, 1) := by decide +kernel
theorem dX12_isTrue_104 : decode cX12_isTrue 104 = .ok (.bastore, 1) := by decide +kernel
theorem dX12_isTrue_105 : decode cX12_isTrue 105 = .ok (.iload_n 2, 1) := by decide +kernel
theorem dX12_isTrue_106 : decode cX12_isTrue 106 = .ok (.iconst 1, 1) := by decide +kernel
theorem dX12_isTrue_107 : decode cX12_isTrue 107 = .ok (.iadd, 1) := by decide +kernel
theorem dX12_isTrue_108 : decode cX12_isTrue 108 = .ok (.istore_n 2, 1) := by decide +kernel
theorem dX12_isTrue_109 : decode cX12_isTrue 109 = .ok (.goto 177, 3) := by decide +kernel
theorem dX12_isTrue_112 : decode cX12_isTrue 112 = .ok (.iload 4, 2) := by decide +kernel
theorem dX12_isTrue_114 : decode cX12_isTrue 114 = .ok (.bipush 30, 2) := by decide +kernel
theorem dX12_isTrue_116 : decode cX12_isTrue 116 = .ok (.if_icmp .ge 44, 3) := by decide +kernel
theorem dX12_isTrue_119 : decode cX12_isTrue 119 = .ok (.aload_n 0, 1) := by decide +kernel
theorem dX12_isTrue_120 : decode cX12_isTrue 120 = .ok (.getfield 78, 3) := by decide +kernel
theorem dX12_isTrue_123 : decode cX12_isTrue 123 = .ok (.iload_n 2, 1) := by decide +kernel
theorem dX12_isTrue_124 : decode cX12_isTrue 124 = .ok (.iload 4, 2) := by decide +kernel
theorem dX12_isTrue_126 : decode cX12_isTrue 126 = .ok (.bipush 20, 2) := by decide +kernel
theorem dX12_isTrue_128 : decode cX12_isTrue 128 = .ok (.if_icmp .ge 12, 3) := by decide +kernel
theorem dX12_isTrue_131 : decode cX12_isTrue 131 = .ok (.iload_n 1, 1) := by decide +kernel
theorem dX12_isTrue_132 : decode cX12_isTrue 132 = .ok (.iload 4, 2) := by decide +kernel
theorem dX12_isTrue_134 : decode cX12_isTrue 134 = .ok (.invokestatic 107, 3) := by decide +kernel
theorem dX12_isTrue_137 : decode cX12_isTrue 137 = .ok (.goto 15, 3) := by decide +kernel
theorem dX12_isTrue_140 : decode cX12_isTrue 140 = .ok (.iload 4, 2) := by decide +kernel
theorem dX12_isTrue_142 : decode cX12_isTrue 142 = .ok (.bipush 21, 2) := by decide +kernel
theorem dX12_isTrue_144 : decode cX12_isTrue 144 = .ok (.if_icmp .ne 7, 3) := by decide +kernel
theorem dX12_isTrue_147 : decode cX12_isTrue 147 = .ok (.iconst 1, 1) := by decide +kernel
theorem dX12_isTrue_148 : decode cX12_isTrue 148 = .ok (.goto 4, 3) := by decide +kernel
theorem dX12_isTrue_151 : decode cX12_isTrue 151 = .ok (.iconst 0, 1) := by decide +kernel
theorem dX12_isTrue_152 : decode cX12_isTrue 152 = .ok (.bastore, 1) := by decide +kernel
theorem dX12_isTrue_153 : decode cX12_isTrue 153 = .ok (.iload_n 2, 1) := by decide +kernel
theorem dX12_isTrue_154 : decode cX12_isTrue 154 = .ok (.iconst 1, 1) := by decide +kernel
theorem dX12_isTrue_155 : decode cX12_isTrue 155 = .ok (.iadd, 1) := by decide +kernel
theorem dX12_isTrue_156 : decode cX12_isTrue 156 = .ok (.istore_n 2, 1) := by decide +kernel
theorem dX12_isTrue_157 : decode cX12_isTrue 157 = .ok (.goto 129, 3) := by decide +kernel
theorem dX12_isTrue_160 : decode cX12_isTrue 160 = .ok (.iload 4, 2) := by decide +kernel
theorem dX12_isTrue_162 : decode cX12_isTrue 162 = .ok (.bipush 33, 2) := by decide +kernel
theorem dX12_isTrue_164 : decode cX12_isTrue 164 = .ok (.if_icmp .ne 30, 3) := by decide +kernel
theorem dX12_isTrue_167 : decode cX12_isTrue 167 = .ok (.aload_n 0, 1) := by decide +kernel
theorem dX12_isTrue_168 : decode cX12_isTrue 168 = .ok (.getfield 78, 3) := by decide +kernel
theorem dX12_isTrue_171 : decode cX12_isTrue 171 = .ok (.iload_n 2, 1) := by decide +kernel
theorem dX12_isTrue_172 : decode cX12_isTrue 172 = .ok (.iconst 1, 1) := by decide +kernel
theorem dX12_isTrue_173 : decode cX12_isTrue 173 = .ok (.isub, 1) := by decide +kernel
theorem dX12_isTrue_174 : decode cX12_isTrue 174 = .ok (.aload_n 0, 1) := by decide +kernel
theorem dX12_isTrue_175 : decode cX12_isTrue 175 = .ok (.getfield 78, 3) := by decide +kernel
theorem dX12_isTrue_178 : decode cX12_isTrue 178 = .ok (.iload_n 2, 1) := by decide +kernel
theorem dX12_isTrue_179 : decode cX12_isTrue 179 = .ok (.iconst 1, 1) := by decide +kernel
theorem dX12_isTrue_180 : decode cX12_isTrue 180 = .ok (.isub, 1) := by decide +kernel
theorem dX12_isTrue_181 : decode cX12_isTrue 181 = .ok (.baload, 1) := by decide +kernel
theorem dX12_isTrue_182 : decode cX12_isTrue 182 = .ok (.ifCond .ne 7, 3) := by decide +kernel
theorem dX12_isTrue_185 : decode cX12_isTrue 185 = .ok (.iconst 1, 1) := by decide +kernel
theorem dX12_isTrue_186 : decode cX12_isTrue 186 = .ok (.goto 4, 3) := by decide +kernel
theorem dX12_isTrue_189 : decode cX12_isTrue 189 = .ok (.iconst 0, 1) := by decide +kernel
theorem dX12_isTrue_190 : decode cX12_isTrue 190 = .ok (.bastore, 1) := by decide +kernel
theorem dX12_isTrue_191 : decode cX12_isTrue 191 = .ok (.goto 95, 3) := by decide +kernel
theorem dX12_isTrue_194 : decode cX12_isTrue 194 = .ok (.iload_n 2, 1) := by decide +kernel
theorem dX12_isTrue_195 : decode cX12_isTrue 195 = .ok (.iconst 1, 1) := by decide +kernel
theorem dX12_isTrue_196 : decode cX12_isTrue 196 = .ok (.isub, 1) := by decide +kernel
theorem dX12_isTrue_197 : decode cX12_isTrue 197 = .ok (.istore_n 2, 1) := by decide +kernel
theorem dX12_isTrue_198 : decode cX12_isTrue 198 = .ok (.aload_n 0, 1) := by decide +kernel
theorem dX12_isTrue_199 : decode cX12_isTrue 199 = .ok (.getfield 78, 3) := by decide +kernel
theorem dX12_isTrue_202 : decode cX12_isTrue 202 = .ok (.iload_n 2, 1) := by decide +kernel
theorem dX12_isTrue_203 : decode cX12_isTrue 203 = .ok (.iconst 1, 1) := by decide +kernel
theorem dX12_isTrue_204 : decode cX12_isTrue 204 = .ok (.isub, 1) := by decide +kernel
theorem dX12_isTrue_205 : decode cX12_isTrue 205 = .ok (.baload, 1) := by decide +kernel
theorem dX12_isTrue_206 : decode cX12_isTrue 206 = .ok (.istore 5, 2) := by decide +kernel
theorem dX12_isTrue_208 : decode cX12_isTrue 208 = .ok (.aload_n 0, 1) := by decide +kernel
theorem dX12_isTrue_209 : decode cX12_isTrue 209 = .ok (.getfield 78, 3) := by decide +kernel
theorem dX12_isTrue_212 : decode cX12_isTrue 212 = .ok (.iload_n 2, 1) := by decide +kernel
theorem dX12_isTrue_213 : decode cX12_isTrue 213 = .ok (.baload, 1) := by decide +kernel
theorem dX12_isTrue_214 : decode cX12_isTrue 214 = .ok (.istore 6, 2) := by decide +kernel
theorem dX12_isTrue_216 : decode cX12_isTrue 216 = .ok (.aload_n 0, 1) := by decide +kernel
theorem dX12_isTrue_217 : decode cX12_isTrue 217 = .ok (.getfield 78, 3) := by decide +kernel
theorem dX12_isTrue_220 : decode cX12_isTrue 220 = .ok (.iload_n 2, 1) := by decide +kernel
theorem dX12_isTrue_221 : decode cX12_isTrue 221 = .ok (.iconst 1, 1) := by decide +kernel
theorem dX12_isTrue_222 : decode cX12_isTrue 222 = .ok (.isub, 1) := by decide +kernel
theorem dX12_isTrue_223 : decode cX12_isTrue 223 = .ok (.iload 4, 2) := by decide +kernel
theorem dX12_isTrue_225 : decode cX12_isTrue 225 = .ok (.bipush 30, 2) := by decide +kernel
theorem dX12_isTrue_227 : decode cX12_isTrue 227 = .ok (.if_icmp .ne 21, 3) := by decide +kernel
theorem dX12_isTrue_230 : decode cX12_isTrue 230 = .ok (.iload 5, 2) := by decide +kernel
theorem dX12_isTrue_232 : decode cX12_isTrue 232 = .ok (.ifCond .eq 12, 3) := by decide +kernel
theorem dX12_isTrue_235 : decode cX12_isTrue 235 = .ok (.iload 6, 2) := by decide +kernel
theorem dX12_isTrue_237 : decode cX12_isTrue 237 = .ok (.ifCond .eq 7, 3) := by decide +kernel
theorem dX12_isTrue_240 : decode cX12_isTrue 240 = .ok (.iconst 1, 1) := by decide +kernel
theorem dX12_isTrue_241 : decode cX12_isTrue 241 = .ok (.goto 44, 3) := by decide +kernel
theorem dX12_isTrue_244 : decode cX12_isTrue 244 = .ok (.iconst 0, 1) := by decide +kernel
theorem dX12_isTrue_245 : decode cX12_isTrue 245 = .ok (.goto 40, 3) := by decide +kernel
theorem dX12_isTrue_248 : decode cX12_isTrue 248 = .ok (.iload 4, 2) := by decide +kernel
theorem dX12_isTrue_250 : decode cX12_isTrue 250 = .ok (.bipush 31, 2) := by decide +kernel
theorem dX12_isTrue_252 : decode cX12_isTrue 252 = .ok (.if_icmp .ne 18, 3) := by decide +kernel
theorem dX12_isTrue_255 : decode cX12_isTrue 255 = .ok (.iload 5, 2) := by decide +kernel
theorem dX12_isTrue_257 : decode cX12_isTrue 257 = .ok (.iload 6, 2) := by decide +kernel
theorem dX12_isTrue_259 : decode cX12_isTrue 259 = .ok (.if_icmp .eq 7, 3) := by decide +kernel
theorem dX12_isTrue_262 : decode cX12_isTrue 262 = .ok (.iconst 1, 1) := by decide +kernel
theorem dX12_isTrue_263 : decode cX12_isTrue 263 = .ok (.goto 22, 3) := by decide +kernel
theorem dX12_isTrue_266 : decode cX12_isTrue 266 = .ok (.iconst 0, 1) := by decide +kernel
theorem dX12_isTrue_267 : decode cX12_isTrue 267 = .ok (.goto 18, 3) := by decide +kernel
theorem dX12_isTrue_270 : decode cX12_isTrue 270 = .ok (.iload 5, 2) := by decide +kernel
theorem dX12_isTrue_272 : decode cX12_isTrue 272 = .ok (.ifCond .ne 8, 3) := by decide +kernel
theorem dX12_isTrue_275 : decode cX12_isTrue 275 = .ok (.iload 6, 2) := by decide +kernel
theorem dX12_isTrue_277 : decode cX12_isTrue 277 = .ok (.ifCond .eq 7, 3) := by decide +kernel
theorem dX12_isTrue_280 : decode cX12_isTrue 280 = .ok (.iconst 1, 1) := by decide +kernel
theorem dX12_isTrue_281 : decode cX12_isTrue 281 = .ok (.goto 4, 3) := by decide +kernel
theorem dX12_isTrue_284 : decode cX12_isTrue 284 = .ok (.iconst 0, 1) := by decide +kernel
theorem dX12_isTrue_285 : decode cX12_isTrue 285 = .ok (.bastore, 1) := by decide +kernel
theorem dX12_isTrue_286 : decode cX12_isTrue 286 = .ok (.iinc 3 1, 3) := by decide +kernel
theorem dX12_isTrue_289 : decode cX12_isTrue 289 = .ok (.goto (-285), 3) := by decide +kernel
theorem dX12_isTrue_292 : decode cX12_isTrue 292 = .ok (.aload_n 0, 1) := by decide +kernel
theorem dX12_isTrue_293 : decode cX12_isTrue 293 = .ok (.getfield 78, 3) := by decide +kernel
theorem dX12_isTrue_296 : decode cX12_isTrue 296 = .ok (.iconst 0, 1) := by decide +kernel
theorem dX12_isTrue_297 : decode cX12_isTrue 297 = .ok (.baload, 1) := by decide +kernel
theorem dX12_isTrue_298 : decode cX12_isTrue 298 = .ok (.ireturn, 1) := by decide +kernel
def FX12_isTrue (hp : HP) (p0 : Nat) (p1 : Int32) : Option (Int32 × HP) := (lp (fun (s1 : Int32 × Int32 × HP) => (gI [12] 40 s1.2.2 p0).bind (fun v5 => if v5 ≤ s1.2.1 then some (Sum.inl s1.2.2) else (gR [12] 37 s1.2.2 p0).bind (fun v6 => (rdN 0 s1.2.2 v6 s1.2.1).bind (fun v7 => if v7 < (100 : Int32) then if (30 : Int32) ≤ v7 then if v7 = (33 : Int32) then (gR [12] 44 s1.2.2 p0).bind (fun v8 => (gR [12] 44 s1.2.2 p0).bind (fun v9 => (rdN 2 s1.2.2 v9 (s1.1 - (1 : Int32))).bind (fun v10 => jn (A := Int32) (fun a11 => (wrZ s1.2.2 v8 (s1.1 - (1 : Int32)) a11).bind (fun hp13 => vl (s1.2.1 + (1 : Int32)) (fun x14 => some (Sum.inr (s1.1, x14, hp13))))) (fun J12 => if v10 = 0 then J12 (1 : Int32) else J12 (0 : Int32))))) else vl (s1.1 - (1 : Int32)) (fun x15 => (gR [12] 44 s1.2.2 p0).bind (fun v16 => (rdN 2 s1.2.2 v16 (x15 - (1 : Int32))).bind (fun v17 => (gR [12] 44 s1.2.2 p0).bind (fun v18 => (rdN 2 s1.2.2 v18 x15).bind (fun v19 => (gR [12] 44 s1.2.2 p0).bind (fun v20 => jn (A := Int32) (fun a21 => (wrZ s1.2.2 v20 (x15 - (1 : Int32)) a21).bind (fun hp23 => vl (s1.2.1 + (1 : Int32)) (fun x24 => some (Sum.inr (x15, x24, hp23))))) (fun J22 => if v7 = (30 : Int32) then if v17 = 0 then J22 (0 : Int32) else if v19 = 0 then J22 (0 : Int32) else J22 (1 : Int32) else if v7 = (31 : Int32) then if v17 = v19 then J22 (0 : Int32) else J22 (1 : Int32) else if v17 = 0 then if v19 = 0 then J22 (0 : Int32) else J22 (1 : Int32) else J22 (1 : Int32)))))))) else (gR [12] 44 s1.2.2 p0).bind (fun v25 => jn (A := Int32) (fun a26 => (wrZ s1.2.2 v25 s1.1 a26).bind (fun hp28 => vl (s1.1 + (1 : Int32)) (fun x29 => vl (s1.2.1 + (1 : Int32)) (fun x30 => some (Sum.inr (x29, x30, hp28)))))) (fun J27 => if (20 : Int32) ≤ v7 then if v7 = (21 : Int32) then J27 (1 : Int32) else J27 (0 : Int32) else (FX12_has p1 v7).bind (fun v31 => J27 v31))) else (dvI v7 (100 : Int32)).bind (fun v32 => vl (v32 - (1 : Int32)) (fun x33 => (lp (fun (s34 : Int32 × Int32) => if x33 ≤ s34.2 then some (Sum.inl s34.1) else (gR [12] 44 s1.2.2 p0).bind (fun v44 => (rdN 2 s1.2.2 v44 ((s1.1 - (1 : Int32)) - s34.2)).bind (fun v45 => if v45 = 0 then vl (s34.1 + (0 : Int32)) (fun x46 => vl (s34.2 + (1 : Int32)) (fun x47 => some (Sum.inr (x46, x47)))) else vl (s34.1 + (1 : Int32)) (fun x48 => vl (s34.2 + (1 : Int32)) (fun x49 => some (Sum.inr (x48, x49))))))) FU ((0 : Int32), (0 : Int32))).bind (fun (y35 : Int32) => vl (s1.1 - x33) (fun x36 => (gR [12] 44 s1.2.2 p0).bind (fun v37 => (rmI v7 (100 : Int32)).bind (fun v38 => jn (A := Int32) (fun a39 => (wrZ s1.2.2 v37 x36 a39).bind (fun hp41 => vl (x36 + (1 : Int32)) (fun x42 => vl (s1.2.1 + (1 : Int32)) (fun x43 => some (Sum.inr (x42, x43, hp41)))))) (fun J40 => if y35 < v38 then J40 (0 : Int32) else J40 (1 : Int32)))))))))))) FU ((0 : Int32), (0 : Int32), hp)).bind (fun (y2 : HP) => (gR [12] 44 y2 p0).bind (fun v3 => (rdN 2 y2 v3 (0 : Int32)).bind (fun v4 => bz v4 (some (v4, y2)))))
set_option maxHeartbeats 4000000 in
set_option maxRecDepth 100000 in
theorem ctX12_isTrue (l : Launch) (D : va_G) (tg : Nat → ClassId) (bs : Nat) (sa : Nat → Nat) (hp : HP) (p0 : Nat) (p1 : Int32) : Ct l D tg bs sa yX12_isTrue cX12_isTrue 8 (some .boolean) 1 [.ref p0, .int p1] hp (FX12_isTrue hp p0 p1) (fun r => some (.int r.1)) (fun r => r.2) := by
  refine Ct.of (by decide) (Nat.le_of_ble_eq_true rfl) ?_
  intro V Q hVl hVd hVt hVb hVs hC
  subst hVl; subst hVd; subst hVt; subst hVb; subst hVs
  unfold FX12_isTrue
  show Zs V Q (0, 0) 8 _ _ hp [(0, .ref p0), (1, .int p1)] 0 []
  refine z_iconst hC (0 : Int32) dX12_isTrue_0 (by decide) ?_
  refine z_istore_n hC [(0, .ref p0), (1, .int p1), (2, .int (0 : Int32))] [1, 2, 0] dX12_isTrue_1 rfl (by decide) rfl ?_
  refine z_iconst hC (0 : Int32) dX12_isTrue_2 (by decide) ?_
  refine z_istore_n hC [(0, .ref p0), (1, .int p1), (2, .int (0 : Int32)), (3, .int (0 : Int32))] [1, 2, 3, 0] dX12_isTrue_3 rfl (by decide) rfl ?_
  refine z_lp (S := Int32 × Int32 × HP) (Y := HP) (fun s1 => s1.2.2) (fun s1 => [(0, .ref p0), (1, .int p1), (2, .int s1.1), (3, .int s1.2.1)]) (fun y2 => y2) (fun y2 => [(0, .ref p0)]) 292 [] (fun y2 => ?_) (fun s1 => ?_) rfl rfl
  · refine z_aload_n hC 0 dX12_isTrue_292 rfl rfl ?_
    refine z_getR hC lgRX12_78 dX12_isTrue_293 (fun v3 => ?_)
    refine z_iconst hC (0 : Int32) dX12_isTrue_296 (by decide) ?_
    refine z_zald hC dX12_isTrue_297 (fun v4 => ?_)
    exact z_bz (fun hv => z_zret hC hv (fun h => h) dX12_isTrue_298)
  · refine z_iload_n hC 3 dX12_isTrue_4 rfl rfl ?_
    refine z_aload_n hC 0 dX12_isTrue_5 rfl rfl ?_
    refine z_getI hC lgRX12_247 dX12_isTrue_6 (fun v5 => ?_)
    refine z_icmp_ge hC 292 dX12_isTrue_9 (by decide) (fun _ => ?_) (fun _ => ?_)
    · refine z_weak [(0, .ref p0)] [0] rfl ?_
      exact z_leaf (fun h => h)
    · refine z_aload_n hC 0 dX12_isTrue_12 rfl rfl ?_
      refine z_getR hC lgRX12_69 dX12_isTrue_13 (fun v6 => ?_)
      refine z_iload_n hC 3 dX12_isTrue_16 rfl rfl ?_
      refine z_iald hC dX12_isTrue_17 (fun v7 => ?_)
      refine z_istore hC [(0, .ref p0), (1, .int p1), (2, .int s1.1), (3, .int s1.2.1), (4, .int v7)] [1, 2, 3, 4, 0] dX12_isTrue_18 (by decide) rfl ?_
      refine z_iload hC 4 dX12_isTrue_20 rfl ?_
      refine z_bipush hC (100 : Int32) dX12_isTrue_22 (by decide) ?_
      refine z_icmp_lt hC 112 dX12_isTrue_24 (by decide) (fun _ => ?_) (fun _ => ?_)
      · refine z_iload hC 4 dX12_isTrue_112 rfl ?_
        refine z_bipush hC (30 : Int32) dX12_isTrue_114 (by decide) ?_
        refine z_icmp_ge hC 160 dX12_isTrue_116 (by decide) (fun _ => ?_) (fun _ => ?_)
        · refine z_iload hC 4 dX12_isTrue_160 rfl ?_
          refine z_bipush hC (33 : Int32) dX12_isTrue_162 (by decide) ?_
          refine z_icmp_ne hC 194 dX12_isTrue_164 (by decide) (fun _ => ?_) (fun _ => ?_)
          · refine z_aload_n hC 0 dX12_isTrue_167 rfl rfl ?_
            refine z_getR hC lgRX12_78 dX12_isTrue_168 (fun v8 => ?_)
            refine z_iload_n hC 2 dX12_isTrue_171 rfl rfl ?_
            refine z_iconst hC (1 : Int32) dX12_isTrue_172 (by decide) ?_
            refine z_isub hC dX12_isTrue_173 ?_
            refine z_aload_n hC 0 dX12_isTrue_174 rfl rfl ?_
            refine z_getR hC lgRX12_78 dX12_isTrue_175 (fun v9 => ?_)
            refine z_iload_n hC 2 dX12_isTrue_178 rfl rfl ?_
            refine z_iconst hC (1 : Int32) dX12_isTrue_179 (by decide) ?_
            refine z_isub hC dX12_isTrue_180 ?_
            refine z_zald hC dX12_isTrue_181 (fun v10 => ?_)
            refine z_jn (A := Int32) (fun a11 => s1.2.2) (fun a11 => [(0, .ref p0), (1, .int p1), (2, .int s1.1), (3, .int s1.2.1)]) 190 (fun a11 => [.int a11, .int (s1.1 - (1 : Int32)), .ref v8]) (fun a11 => ?_) (fun J12 hJ12 => ?_)
            · refine z_zast hC dX12_isTrue_190 (fun hp13 => ?_)
              refine z_goto hC 286 dX12_isTrue_191 (by decide) ?_
              refine z_iincv hC (1 : Int32) 3 (fun x14 => [(0, .ref p0), (1, .int p1), (2, .int s1.1), (3, .int x14)]) [1, 2, 3, 0] dX12_isTrue_286 rfl (by decide) (by decide) (fun _ => rfl) (fun x14 => ?_)
              refine z_goto hC 4 dX12_isTrue_289 (by decide) ?_
              exact z_leaf (fun h => h)
            · refine z_if_ne hC 189 dX12_isTrue_182 (by decide) (fun _ => ?_) (fun _ => ?_)
              · refine z_iconst hC (1 : Int32) dX12_isTrue_185 (by decide) ?_
                refine z_goto hC 190 dX12_isTrue_186 (by decide) ?_
                refine z_weak [(0, .ref p0), (1, .int p1), (2, .int s1.1), (3, .int s1.2.1)] [0, 1, 2, 3] rfl ?_
                exact hJ12 (1 : Int32)
              · refine z_iconst hC (0 : Int32) dX12_isTrue_189 (by decide) ?_
                refine z_weak [(0, .ref p0), (1, .int p1), (2, .int s1.1), (3, .int s1.2.1)] [0, 1, 2, 3] rfl ?_
                exact hJ12 (0 : Int32)
          · refine z_iload_n hC 2 dX12_isTrue_194 rfl rfl ?_
            refine z_iconst hC (1 : Int32) dX12_isTrue_195 (by decide) ?_
            refine z_isub hC dX12_isTrue_196 ?_
            refine z_vli (fun x15 => ?_)
            refine z_istore_n hC [(0, .ref p0), (1, .int p1), (2, .int x15), (3, .int s1.2.1), (4, .int v7)] [1, 2, 0, 3, 4] dX12_isTrue_197 rfl (by decide) rfl ?_
            refine z_aload_n hC 0 dX12_isTrue_198 rfl rfl ?_
            refine z_getR hC lgRX12_78 dX12_isTrue_199 (fun v16 => ?_)
            refine z_iload_n hC 2 dX12_isTrue_202 rfl rfl ?_
            refine z_iconst hC (1 : Int32) dX12_isTrue_203 (by decide) ?_
            refine z_isub hC dX12_isTrue_204 ?_
            refine z_zald hC dX12_isTrue_205 (fun v17 => ?_)
            refine z_istore hC [(0, .ref p0), (1, .int p1), (2, .int x15), (3, .int s1.2.1), (4, .int v7), (5, .int v17)] [1, 2, 3, 4, 5, 0] dX12_isTrue_206 (by decide) rfl ?_
            refine z_aload_n hC 0 dX12_isTrue_208 rfl rfl ?_
            refine z_getR hC lgRX12_78 dX12_isTrue_209 (fun v18 => ?_)
            refine z_iload_n hC 2 dX12_isTrue_212 rfl rfl ?_
            refine z_zald hC dX12_isTrue_213 (fun v19 => ?_)
            refine z_istore hC [(0, .ref p0), (1, .int p1), (2, .int x15), (3, .int s1.2.1), (4, .int v7), (5, .int v17), (6, .int v19)] [1, 2, 3, 4, 5, 6, 0] dX12_isTrue_214 (by decide) rfl ?_
            refine z_aload_n hC 0 dX12_isTrue_216 rfl rfl ?_
            refine z_getR hC lgRX12_78 dX12_isTrue_217 (fun v20 => ?_)
            refine z_iload_n hC 2 dX12_isTrue_220 rfl rfl ?_
            refine z_iconst hC (1 : Int32) dX12_isTrue_221 (by decide) ?_
            refine z_isub hC dX12_isTrue_222 ?_
            refine z_iload hC 4 dX12_isTrue_223 rfl ?_
            refine z_bipush hC (30 : Int32) dX12_isTrue_225 (by decide) ?_
            refine z_jn (A := Int32) (fun a21 => s1.2.2) (fun a21 => [(0, .ref p0), (1, .int p1), (2, .int x15), (3, .int s1.2.1)]) 285 (fun a21 => [.int a21, .int (x15 - (1 : Int32)), .ref v20]) (fun a21 => ?_) (fun J22 hJ22 => ?_)
            · refine z_zast hC dX12_isTrue_285 (fun hp23 => ?_)
              refine z_iincv hC (1 : Int32) 3 (fun x24 => [(0, .ref p0), (1, .int p1), (2, .int x15), (3, .int x24)]) [1, 2, 3, 0] dX12_isTrue_286 rfl (by decide) (by decide) (fun _ => rfl) (fun x24 => ?_)
              refine z_goto hC 4 dX12_isTrue_289 (by decide) ?_
              exact z_leaf (fun h => h)
            · refine z_icmp_ne hC 248 dX12_isTrue_227 (by decide) (fun _ => ?_) (fun _ => ?_)
              · refine z_iload hC 5 dX12_isTrue_230 rfl ?_
                refine z_if_eq hC 244 dX12_isTrue_232 (by decide) (fun _ => ?_) (fun _ => ?_)
                · refine z_iconst hC (0 : Int32) dX12_isTrue_244 (by decide) ?_
                  refine z_goto hC 285 dX12_isTrue_245 (by decide) ?_
                  refine z_weak [(0, .ref p0), (1, .int p1), (2, .int x15), (3, .int s1.2.1)] [0, 1, 2, 3] rfl ?_
                  exact hJ22 (0 : Int32)
                · refine z_iload hC 6 dX12_isTrue_235 rfl ?_
                  refine z_if_eq hC 244 dX12_isTrue_237 (by decide) (fun _ => ?_) (fun _ => ?_)
                  · refine z_iconst hC (0 : Int32) dX12_isTrue_244 (by decide) ?_
                    refine z_goto hC 285 dX12_isTrue_245 (by decide) ?_
                    refine z_weak [(0, .ref p0), (1, .int p1), (2, .int x15), (3, .int s1.2.1)] [0, 1, 2, 3] rfl ?_
                    exact hJ22 (0 : Int32)
                  · refine z_iconst hC (1 : Int32) dX12_isTrue_240 (by decide) ?_
                    refine z_goto hC 285 dX12_isTrue_241 (by decide) ?_
                    refine z_weak [(0, .ref p0), (1, .int p1), (2, .int x15), (3, .int s1.2.1)] [0, 1, 2, 3] rfl ?_
                    exact hJ22 (1 : Int32)
              · refine z_iload hC 4 dX12_isTrue_248 rfl ?_
                refine z_bipush hC (31 : Int32) dX12_isTrue_250 (by decide) ?_
                refine z_icmp_ne hC 270 dX12_isTrue_252 (by decide) (fun _ => ?_) (fun _ => ?_)
                · refine z_iload hC 5 dX12_isTrue_255 rfl ?_
                  refine z_iload hC 6 dX12_isTrue_257 rfl ?_
                  refine z_icmp_eq hC 266 dX12_isTrue_259 (by decide) (fun _ => ?_) (fun _ => ?_)
                  · refine z_iconst hC (0 : Int32) dX12_isTrue_266 (by decide) ?_
                    refine z_goto hC 285 dX12_isTrue_267 (by decide) ?_
                    refine z_weak [(0, .ref p0), (1, .int p1), (2, .int x15), (3, .int s1.2.1)] [0, 1, 2, 3] rfl ?_
                    exact hJ22 (0 : Int32)
                  · refine z_iconst hC (1 : Int32) dX12_isTrue_262 (by decide) ?_
                    refine z_goto hC 285 dX12_isTrue_263 (by decide) ?_
                    refine z_weak [(0, .ref p0), (1, .int p1), (2, .int x15), (3, .int s1.2.1)] [0, 1, 2, 3] rfl ?_
                    exact hJ22 (1 : Int32)
                · refine z_iload hC 5 dX12_isTrue_270 rfl ?_
                  refine z_if_ne hC 280 dX12_isTrue_272 (by decide) (fun _ => ?_) (fun _ => ?_)
                  · refine z_iload hC 6 dX12_isTrue_275 rfl ?_
                    refine z_if_eq hC 284 dX12_isTrue_277 (by decide) (fun _ => ?_) (fun _ => ?_)
                    · refine z_iconst hC (0 : Int32) dX12_isTrue_284 (by decide) ?_
                      refine z_weak [(0, .ref p0), (1, .int p1), (2, .int x15), (3, .int s1.2.1)] [0, 1, 2, 3] rfl ?_
                      exact hJ22 (0 : Int32)
                    · refine z_iconst hC (1 : Int32) dX12_isTrue_280 (by decide) ?_
                      refine z_goto hC 285 dX12_isTrue_281 (by decide) ?_
                      refine z_weak [(0, .ref p0), (1, .int p1), (2, .int x15), (3, .int s1.2.1)] [0, 1, 2, 3] rfl ?_
                      exact hJ22 (1 : Int32)
                  · refine z_iconst hC (1 : Int32) dX12_isTrue_280 (by decide) ?_
                    refine z_goto hC 285 dX12_isTrue_281 (by decide) ?_
                    refine z_weak [(0, .ref p0), (1, .int p1), (2, .int x15), (3, .int s1.2.1)] [0, 1, 2, 3] rfl ?_
                    exact hJ22 (1 : Int32)
        · refine z_aload_n hC 0 dX12_isTrue_119 rfl rfl ?_
          refine z_getR hC lgRX12_78 dX12_isTrue_120 (fun v25 => ?_)
          refine z_iload_n hC 2 dX12_isTrue_123 rfl rfl ?_
          refine z_iload hC 4 dX12_isTrue_124 rfl ?_
          refine z_bipush hC (20 : Int32) dX12_isTrue_126 (by decide) ?_
          refine z_jn (A := Int32) (fun a26 => s1.2.2) (fun a26 => [(0, .ref p0), (1, .int p1), (2, .int s1.1), (3, .int s1.2.1)]) 152 (fun a26 => [.int a26, .int s1.1, .ref v25]) (fun a26 => ?_) (fun J27 hJ27 => ?_)
          · refine z_zast hC dX12_isTrue_152 (fun hp28 => ?_)
            refine z_iload_n hC 2 dX12_isTrue_153 rfl rfl ?_
            refine z_iconst hC (1 : Int32) dX12_isTrue_154 (by decide) ?_
            refine z_iadd hC dX12_isTrue_155 ?_
            refine z_vli (fun x29 => ?_)
            refine z_istore_n hC [(0, .ref p0), (1, .int p1), (2, .int x29), (3, .int s1.2.1)] [1, 2, 0, 3] dX12_isTrue_156 rfl (by decide) rfl ?_
            refine z_goto hC 286 dX12_isTrue_157 (by decide) ?_
            refine z_iincv hC (1 : Int32) 3 (fun x30 => [(0, .ref p0), (1, .int p1), (2, .int x29), (3, .int x30)]) [1, 2, 3, 0] dX12_isTrue_286 rfl (by decide) (by decide) (fun _ => rfl) (fun x30 => ?_)
            refine z_goto hC 4 dX12_isTrue_289 (by decide) ?_
            exact z_leaf (fun h => h)
          · refine z_icmp_ge hC 140 dX12_isTrue_128 (by decide) (fun _ => ?_) (fun _ => ?_)
            · refine z_iload hC 4 dX12_isTrue_140 rfl ?_
              refine z_bipush hC (21 : Int32) dX12_isTrue_142 (by decide) ?_
              refine z_icmp_ne hC 151 dX12_isTrue_144 (by decide) (fun _ => ?_) (fun _ => ?_)
              · refine z_iconst hC (1 : Int32) dX12_isTrue_147 (by decide) ?_
                refine z_goto hC 152 dX12_isTrue_148 (by decide) ?_
                refine z_weak [(0, .ref p0), (1, .int p1), (2, .int s1.1), (3, .int s1.2.1)] [0, 1, 2, 3] rfl ?_
                exact hJ27 (1 : Int32)
              · refine z_iconst hC (0 : Int32) dX12_isTrue_151 (by decide) ?_
                refine z_weak [(0, .ref p0), (1, .int p1), (2, .int s1.1), (3, .int s1.2.1)] [0, 1, 2, 3] rfl ?_
                exact hJ27 (0 : Int32)
            · refine z_iload_n hC 1 dX12_isTrue_131 rfl rfl ?_
              refine z_iload hC 4 dX12_isTrue_132 rfl ?_
              refine z_callSi hC lmRX12_107 (ctX12_has (vLa V) (vDa V) (vTg V) (vBs V) (vSa V) s1.2.2 p1 v7) (by decide) hn0 dX12_isTrue_134 rfl rfl (Nat.le_of_ble_eq_true rfl) (fun v31 => ?_)
              refine z_goto hC 152 dX12_isTrue_137 (by decide) ?_
              refine z_weak [(0, .ref p0), (1, .int p1), (2, .int s1.1), (3, .int s1.2.1)] [0, 1, 2, 3] rfl ?_
              exact hJ27 v31
      · refine z_iload hC 4 dX12_isTrue_27 rfl ?_
        refine z_bipush hC (100 : Int32) dX12_isTrue_29 (by decide) ?_
        refine z_idiv hC dX12_isTrue_31 (fun v32 => ?_)
        refine z_iconst hC (1 : Int32) dX12_isTrue_32 (by decide) ?_
        refine z_isub hC dX12_isTrue_33 ?_
        refine z_vli (fun x33 => ?_)
        refine z_istore hC [(0, .ref p0), (1, .int p1), (2, .int s1.1), (3, .int s1.2.1), (4, .int v7), (5, .int x33)] [1, 2, 3, 4, 5, 0] dX12_isTrue_34 (by decide) rfl ?_
        refine z_iconst hC (0 : Int32) dX12_isTrue_36 (by decide) ?_
        refine z_istore hC [(0, .ref p0), (1, .int p1), (2, .int s1.1), (3, .int s1.2.1), (4, .int v7), (5, .int x33), (6, .int (0 : Int32))] [1, 2, 3, 4, 5, 6, 0] dX12_isTrue_37 (by decide) rfl ?_
        refine z_iconst hC (0 : Int32) dX12_isTrue_39 (by decide) ?_
        refine z_istore hC [(0, .ref p0), (1, .int p1), (2, .int s1.1), (3, .int s1.2.1), (4, .int v7), (5, .int x33), (6, .int (0 : Int32)), (7, .int (0 : Int32))] [1, 2, 3, 4, 5, 6, 7, 0] dX12_isTrue_40 (by decide) rfl ?_
        refine z_lp (S := Int32 × Int32) (Y := Int32) (fun s34 => s1.2.2) (fun s34 => [(0, .ref p0), (1, .int p1), (2, .int s1.1), (3, .int s1.2.1), (4, .int v7), (5, .int x33), (6, .int s34.1), (7, .int s34.2)]) (fun y35 => s1.2.2) (fun y35 => [(0, .ref p0), (1, .int p1), (2, .int s1.1), (3, .int s1.2.1), (4, .int v7), (5, .int x33), (6, .int y35)]) 79 [] (fun y35 => ?_) (fun s34 => ?_) rfl rfl
        · refine z_iload_n hC 2 dX12_isTrue_79 rfl rfl ?_
          refine z_iload hC 5 dX12_isTrue_80 rfl ?_
          refine z_isub hC dX12_isTrue_82 ?_
          refine z_vli (fun x36 => ?_)
          refine z_istore_n hC [(0, .ref p0), (1, .int p1), (2, .int x36), (3, .int s1.2.1), (4, .int v7), (5, .int x33), (6, .int y35)] [1, 2, 0, 3, 4, 5, 6] dX12_isTrue_83 rfl (by decide) rfl ?_
          refine z_aload_n hC 0 dX12_isTrue_84 rfl rfl ?_
          refine z_getR hC lgRX12_78 dX12_isTrue_85 (fun v37 => ?_)
          refine z_iload_n hC 2 dX12_isTrue_88 rfl rfl ?_
          refine z_iload hC 6 dX12_isTrue_89 rfl ?_
          refine z_iload hC 4 dX12_isTrue_91 rfl ?_
          refine z_bipush hC (100 : Int32) dX12_isTrue_93 (by decide) ?_
          refine z_irem hC dX12_isTrue_95 (fun v38 => ?_)
          refine z_jn (A := Int32) (fun a39 => s1.2.2) (fun a39 => [(0, .ref p0), (1, .int p1), (2, .int x36), (3, .int s1.2.1)]) 104 (fun a39 => [.int a39, .int x36, .ref v37]) (fun a39 => ?_) (fun J40 hJ40 => ?_)
          · refine z_zast hC dX12_isTrue_104 (fun hp41 => ?_)
            refine z_iload_n hC 2 dX12_isTrue_105 rfl rfl ?_
            refine z_iconst hC (1 : Int32) dX12_isTrue_106 (by decide) ?_
            refine z_iadd hC dX12_isTrue_107 ?_
            refine z_vli (fun x42 => ?_)
            refine z_istore_n hC [(0, .ref p0), (1, .int p1), (2, .int x42), (3, .int s1.2.1)] [1, 2, 0, 3] dX12_isTrue_108 rfl (by decide) rfl ?_
            refine z_goto hC 286 dX12_isTrue_109 (by decide) ?_
            refine z_iincv hC (1 : Int32) 3 (fun x43 => [(0, .ref p0), (1, .int p1), (2, .int x42), (3, .int x43)]) [1, 2, 3, 0] dX12_isTrue_286 rfl (by decide) (by decide) (fun _ => rfl) (fun x43 => ?_)
            refine z_goto hC 4 dX12_isTrue_289 (by decide) ?_
            exact z_leaf (fun h => h)
          · refine z_icmp_lt hC 103 dX12_isTrue_96 (by decide) (fun _ => ?_) (fun _ => ?_)
            · refine z_iconst hC (0 : Int32) dX12_isTrue_103 (by decide) ?_
              refine z_weak [(0, .ref p0), (1, .int p1), (2, .int x36), (3, .int s1.2.1)] [0, 1, 2, 3] rfl ?_
              exact hJ40 (0 : Int32)
            · refine z_iconst hC (1 : Int32) dX12_isTrue_99 (by decide) ?_
              refine z_goto hC 104 dX12_isTrue_100 (by decide) ?_
              refine z_weak [(0, .ref p0), (1, .int p1), (2, .int x36), (3, .int s1.2.1)] [0, 1, 2, 3] rfl ?_
              exact hJ40 (1 : Int32)
        · refine z_iload hC 7 dX12_isTrue_42 rfl ?_
          refine z_iload hC 5 dX12_isTrue_44 rfl ?_
          refine z_icmp_ge hC 79 dX12_isTrue_46 (by decide) (fun _ => ?_) (fun _ => ?_)
          · refine z_weak [(0, .ref p0), (1, .int p1), (2, .int s1.1), (3, .int s1.2.1), (4, .int v7), (5, .int x33), (6, .int s34.1)] [0, 1, 2, 3, 4, 5, 6] rfl ?_
            exact z_leaf (fun h => h)
          · refine z_iload hC 6 dX12_isTrue_49 rfl ?_
            refine z_aload_n hC 0 dX12_isTrue_51 rfl rfl ?_
            refine z_getR hC lgRX12_78 dX12_isTrue_52 (fun v44 => ?_)
            refine z_iload_n hC 2 dX12_isTrue_55 rfl rfl ?_
            refine z_iconst hC (1 : Int32) dX12_isTrue_56 (by decide) ?_
            refine z_isub hC dX12_isTrue_57 ?_
            refine z_iload hC 7 dX12_isTrue_58 rfl ?_
            refine z_isub hC dX12_isTrue_60 ?_
            refine z_zald hC dX12_isTrue_61 (fun v45 => ?_)
            refine z_if_eq hC 69 dX12_isTrue_62 (by decide) (fun _ => ?_) (fun _ => ?_)
            · refine z_iconst hC (0 : Int32) dX12_isTrue_69 (by decide) ?_
              refine z_iadd hC dX12_isTrue_70 ?_
              refine z_vli (fun x46 => ?_)
              refine z_istore hC [(0, .ref p0), (1, .int p1), (2, .int s1.1), (3, .int s1.2.1), (4, .int v7), (5, .int x33), (6, .int x46), (7, .int s34.2)] [1, 2, 3, 4, 5, 6, 0, 7] dX12_isTrue_71 (by decide) rfl ?_
              refine z_iincv hC (1 : Int32) 7 (fun x47 => [(0, .ref p0), (1, .int p1), (2, .int s1.1), (3, .int s1.2.1), (4, .int v7), (5, .int x33), (6, .int x46), (7, .int x47)]) [1, 2, 3, 4, 5, 6, 7, 0] dX12_isTrue_73 rfl (by decide) (by decide) (fun _ => rfl) (fun x47 => ?_)
              refine z_goto hC 42 dX12_isTrue_76 (by decide) ?_
              exact z_leaf (fun h => h)
            · refine z_iconst hC (1 : Int32) dX12_isTrue_65 (by decide) ?_
              refine z_goto hC 70 dX12_isTrue_66 (by decide) ?_
              refine z_iadd hC dX12_isTrue_70 ?_
              refine z_vli (fun x48 => ?_)
              refine z_istore hC [(0, .ref p0), (1, .int p1), (2, .int s1.1), (3, .int s1.2.1), (4, .int v7), (5, .int x33), (6, .int x48), (7, .int s34.2)] [1, 2, 3, 4, 5, 6, 0, 7] dX12_isTrue_71 (by decide) rfl ?_
              refine z_iincv hC (1 : Int32) 7 (fun x49 => [(0, .ref p0), (1, .int p1), (2, .int s1.1), (3, .int s1.2.1), (4, .int v7), (5, .int x33), (6, .int x48), (7, .int x49)]) [1, 2, 3, 4, 5, 6, 7, 0] dX12_isTrue_73 rfl (by decide) (by decide) (fun _ => rfl) (fun x49 => ?_)
              refine z_goto hC 42 dX12_isTrue_76 (by decide) ?_
              exact z_leaf (fun h => h)

theorem dX12_laysRow_0 : decode cX12_laysRow 0 = .ok (.iconst 0, 1) := by decide +kernel
theorem dX12_laysRow_1 : decode cX12_laysRow 1 = .ok (.istore_n 3, 1) := by decide +kernel
theorem dX12_laysRow_2 : decode cX12_laysRow 2 = .ok (.iconst 0, 1) := by decide +kernel
theorem dX12_laysRow_3 : decode cX12_laysRow 3 = .ok (.istore 4, 2) := by decide +kernel
theorem dX12_laysRow_5 : decode cX12_laysRow 5 = .ok (.iload 4, 2) := by decide +kernel
theorem dX12_laysRow_7 : decode cX12_laysRow 7 = .ok (.sipush 1024, 3) := by decide +kernel
theorem dX12_laysRow_10 : decode cX12_laysRow 10 = .ok (.if_icmp .ge 46, 3) := by decide +kernel
theorem dX12_laysRow_13 : decode cX12_laysRow 13 = .ok (.aload_n 1, 1) := by decide +kernel
theorem dX12_laysRow_14 : decode cX12_laysRow 14 = .ok (.sipush 1024, 3) := by decide +kernel
theorem dX12_laysRow_17 : decode cX12_laysRow 17 = .ok (.iload_n 2, 1) := by decide +kernel
theorem dX12_laysRow_18 : decode cX12_laysRow 18 = .ok (.imul, 1) := by decide +kernel
theorem dX12_laysRow_19 : decode cX12_laysRow 19 = .ok (.iload 4, 2) := by decide +kernel
theorem dX12_laysRow_21 : decode cX12_laysRow 21 = .ok (.iadd, 1) := by decide +kernel
theorem dX12_laysRow_22 : decode cX12_laysRow 22 = .ok (.aload_n 0, 1) := by decide +kernel
theorem dX12_laysRow_23 : decode cX12_laysRow 23 = .ok (.iload 4, 2) := by decide +kernel
theorem dX12_laysRow_25 : decode cX12_laysRow 25 = .ok (.invokevirtual 296, 3) := by decide +kernel
theorem dX12_laysRow_28 : decode cX12_laysRow 28 = .ok (.bastore, 1) := by decide +kernel
theorem dX12_laysRow_29 : decode cX12_laysRow 29 = .ok (.iload_n 3, 1) := by decide +kernel
theorem dX12_laysRow_30 : decode cX12_laysRow 30 = .ok (.aload_n 1, 1) := by decide +kernel
theorem dX12_laysRow_31 : decode cX12_laysRow 31 = .ok (.sipush 1024, 3) := by decide +kernel
theorem dX12_laysRow_34 : decode cX12_laysRow 34 = .ok (.iload_n 2, 1) := by decide +kernel
theorem dX12_laysRow_35 : decode cX12_laysRow 35 = .ok (.imul, 1) := by decide +kernel
theorem dX12_laysRow_36 : decode cX12_laysRow 36 = .ok (.iload 4, 2) := by decide +kernel
theorem dX12_laysRow_38 : decode cX12_laysRow 38 = .ok (.iadd, 1) := by decide +kernel
theorem dX12_laysRow_39 : decode cX12_laysRow 39 = .ok (.baload, 1) := by decide +kernel
theorem dX12_laysRow_40 : decode cX12_laysRow 40 = .ok (.ifCond .eq 7, 3) := by decide +kernel
theorem dX12_laysRow_43 : decode cX12_laysRow 43 = .ok (.iconst 1, 1) := by decide +kernel
theorem dX12_laysRow_44 : decode cX12_laysRow 44 = .ok (.goto 4, 3) := by decide +kernel
theorem dX12_laysRow_47 : decode cX12_laysRow 47 = .ok (.iconst 0, 1) := by decide +kernel
theorem dX12_laysRow_48 : decode cX12_laysRow 48 = .ok (.iadd, 1) := by decide +kernel
theorem dX12_laysRow_49 : decode cX12_laysRow 49 = .ok (.istore_n 3, 1) := by decide +kernel
theorem dX12_laysRow_50 : decode cX12_laysRow 50 = .ok (.iinc 4 1, 3) := by decide +kernel
theorem dX12_laysRow_53 : decode cX12_laysRow 53 = .ok (.goto (-48), 3) := by decide +kernel
theorem dX12_laysRow_56 : decode cX12_laysRow 56 = .ok (.iload_n 3, 1) := by decide +kernel
theorem dX12_laysRow_57 : decode cX12_laysRow 57 = .ok (.ireturn, 1) := by decide +kernel
def FX12_laysRow (hp : HP) (p0 : Nat) (p1 : Nat) (p2 : Int32) : Option (Int32 × HP) := (lp (fun (s1 : Int32 × Int32 × HP) => if (1024 : Int32) ≤ s1.2.1 then some (Sum.inl (s1.1, s1.2.2)) else (rc [12] s1.2.2 p0 (FX12_isTrue s1.2.2 p0 s1.2.1)).bind (fun w3 => (wrZ w3.2 p1 (((1024 : Int32) * p2) + s1.2.1) w3.1).bind (fun hp4 => (rdN 2 hp4 p1 (((1024 : Int32) * p2) + s1.2.1)).bind (fun v5 => if v5 = 0 then vl (s1.1 + (0 : Int32)) (fun x6 => vl (s1.2.1 + (1 : Int32)) (fun x7 => some (Sum.inr (x6, x7, hp4)))) else vl (s1.1 + (1 : Int32)) (fun x8 => vl (s1.2.1 + (1 : Int32)) (fun x9 => some (Sum.inr (x8, x9, hp4)))))))) FU ((0 : Int32), (0 : Int32), hp)).bind (fun (y2 : Int32 × HP) => some (y2.1, y2.2))
set_option maxHeartbeats 4000000 in
set_option maxRecDepth 100000 in
theorem ctX12_laysRow (l : Launch) (D : va_G) (tg : Nat → ClassId) (bs : Nat) (sa : Nat → Nat) (hp : HP) (p0 : Nat) (p1 : Nat) (p2 : Int32) : Ct l D tg bs sa yX12_laysRow cX12_laysRow 5 (some .int) 2 [.ref p0, .ref p1, .int p2] hp (FX12_laysRow hp p0 p1 p2) (fun r => some (.int r.1)) (fun r => r.2) := by
  refine Ct.of (by decide) (Nat.le_of_ble_eq_true rfl) ?_
  intro V Q hVl hVd hVt hVb hVs hC
  subst hVl; subst hVd; subst hVt; subst hVb; subst hVs
  unfold FX12_laysRow
  show Zs V Q (0, 0) 5 _ _ hp [(0, .ref p0), (1, .ref p1), (2, .int p2)] 0 []
  refine z_iconst hC (0 : Int32) dX12_laysRow_0 (by decide) ?_
  refine z_istore_n hC [(0, .ref p0), (1, .ref p1), (2, .int p2), (3, .int (0 : Int32))] [1, 2, 3, 0] dX12_laysRow_1 rfl (by decide) rfl ?_
  refine z_iconst hC (0 : Int32) dX12_laysRow_2 (by decide) ?_
  refine z_istore hC [(0, .ref p0), (1, .ref p1), (2, .int p2), (3, .int (0 : Int32)), (4, .int (0 : Int32))] [1, 2, 3, 4, 0] dX12_laysRow_3 (by decide) rfl ?_
  refine z_lp (S := Int32 × Int32 × HP) (Y := Int32 × HP) (fun s1 => s1.2.2) (fun s1 => [(0, .ref p0), (1, .ref p1), (2, .int p2), (3, .int s1.1), (4, .int s1.2.1)]) (fun y2 => y2.2) (fun y2 => [(3, .int y2.1)]) 56 [] (fun y2 => ?_) (fun s1 => ?_) rfl rfl
  · refine z_iload_n hC 0 dX12_laysRow_56 rfl rfl ?_
    exact z_iret hC (fun h => h) dX12_laysRow_57
  · refine z_iload hC 4 dX12_laysRow_5 rfl ?_
    refine z_sipush hC (1024 : Int32) dX12_laysRow_7 (by decide) ?_
    refine z_icmp_ge hC 56 dX12_laysRow_10 (by decide) (fun _ => ?_) (fun _ => ?_)
    · refine z_weak [(3, .int s1.1)] [3] rfl ?_
      exact z_leaf (fun h => h)
    · refine z_aload_n hC 1 dX12_laysRow_13 rfl rfl ?_
      refine z_sipush hC (1024 : Int32) dX12_laysRow_14 (by decide) ?_
      refine z_iload_n hC 2 dX12_laysRow_17 rfl rfl ?_
      refine z_imul hC dX12_laysRow_18 ?_
      refine z_iload hC 4 dX12_laysRow_19 rfl ?_
      refine z_iadd hC dX12_laysRow_21 ?_
      refine z_aload_n hC 0 dX12_laysRow_22 rfl rfl ?_
      refine z_iload hC 4 dX12_laysRow_23 rfl ?_
      refine z_callVi hC (ci := 12) rfl lmRX12_296 (ctX12_isTrue (vLa V) (vDa V) (vTg V) (vBs V) (vSa V) s1.2.2 p0 s1.2.1) (by decide) hn0 dX12_laysRow_25 rfl rfl (Nat.le_of_ble_eq_true rfl) (fun w3 => ?_)
      refine z_zast hC dX12_laysRow_28 (fun hp4 => ?_)
      refine z_iload_n hC 3 dX12_laysRow_29 rfl rfl ?_
      refine z_aload_n hC 1 dX12_laysRow_30 rfl rfl ?_
      refine z_sipush hC (1024 : Int32) dX12_laysRow_31 (by decide) ?_
      refine z_iload_n hC 2 dX12_laysRow_34 rfl rfl ?_
      refine z_imul hC dX12_laysRow_35 ?_
      refine z_iload hC 4 dX12_laysRow_36 rfl ?_
      refine z_iadd hC dX12_laysRow_38 ?_
      refine z_zald hC dX12_laysRow_39 (fun v5 => ?_)
      refine z_if_eq hC 47 dX12_laysRow_40 (by decide) (fun _ => ?_) (fun _ => ?_)
      · refine z_iconst hC (0 : Int32) dX12_laysRow_47 (by decide) ?_
        refine z_iadd hC dX12_laysRow_48 ?_
        refine z_vli (fun x6 => ?_)
        refine z_istore_n hC [(0, .ref p0), (1, .ref p1), (2, .int p2), (3, .int x6), (4, .int s1.2.1)] [1, 2, 3, 0, 4] dX12_laysRow_49 rfl (by decide) rfl ?_
        refine z_iincv hC (1 : Int32) 4 (fun x7 => [(0, .ref p0), (1, .ref p1), (2, .int p2), (3, .int x6), (4, .int x7)]) [1, 2, 3, 4, 0] dX12_laysRow_50 rfl (by decide) (by decide) (fun _ => rfl) (fun x7 => ?_)
        refine z_goto hC 5 dX12_laysRow_53 (by decide) ?_
        exact z_leaf (fun h => h)
      · refine z_iconst hC (1 : Int32) dX12_laysRow_43 (by decide) ?_
        refine z_goto hC 48 dX12_laysRow_44 (by decide) ?_
        refine z_iadd hC dX12_laysRow_48 ?_
        refine z_vli (fun x8 => ?_)
        refine z_istore_n hC [(0, .ref p0), (1, .ref p1), (2, .int p2), (3, .int x8), (4, .int s1.2.1)] [1, 2, 3, 0, 4] dX12_laysRow_49 rfl (by decide) rfl ?_
        refine z_iincv hC (1 : Int32) 4 (fun x9 => [(0, .ref p0), (1, .ref p1), (2, .int p2), (3, .int x8), (4, .int x9)]) [1, 2, 3, 4, 0] dX12_laysRow_50 rfl (by decide) (by decide) (fun _ => rfl) (fun x9 => ?_)
        refine z_goto hC 5 dX12_laysRow_53 (by decide) ?_
        exact z_leaf (fun h => h)

theorem dX12_wish_0 : decode cX12_wish 0 = .ok (.iload_n 1, 1) := by decide +kernel
theorem dX12_wish_1 : decode cX12_wish 1 = .ok (.iconst 0, 1) := by decide +kernel
theorem dX12_wish_2 : decode cX12_wish 2 = .ok (.bipush 7, 2) := by decide +kernel
theorem dX12_wish_4 : decode cX12_wish 4 = .ok (.invokestatic 99, 3) := by decide +kernel
theorem dX12_wish_7 : decode cX12_wish 7 = .ok (.ifCond .eq 21, 3) := by decide +kernel
theorem dX12_wish_10 : decode cX12_wish 10 = .ok (.iload_n 2, 1) := by decide +kernel
theorem dX12_wish_11 : decode cX12_wish 11 = .ok (.iconst 1, 1) := by decide +kernel
theorem dX12_wish_12 : decode cX12_wish 12 = .ok (.bipush 100, 2) := by decide +kernel
theorem dX12_wish_14 : decode cX12_wish 14 = .ok (.invokestatic 99, 3) := by decide +kernel
theorem dX12_wish_17 : decode cX12_wish 17 = .ok (.ifCond .eq 11, 3) := by decide +kernel
theorem dX12_wish_20 : decode cX12_wish 20 = .ok (.iload_n 2, 1) := by decide +kernel
theorem dX12_wish_21 : decode cX12_wish 21 = .ok (.aload_n 0, 1) := by decide +kernel
theorem dX12_wish_22 : decode cX12_wish 22 = .ok (.getfield 124, 3) := by decide +kernel
theorem dX12_wish_25 : decode cX12_wish 25 = .ok (.if_icmp .le 5, 3) := by decide +kernel
theorem dX12_wish_28 : decode cX12_wish 28 = .ok (.iconst (-1), 1) := by decide +kernel
theorem dX12_wish_29 : decode cX12_wish 29 = .ok (.ireturn, 1) := by decide +kernel
theorem dX12_wish_30 : decode cX12_wish 30 = .ok (.aload_n 0, 1) := by decide +kernel
theorem dX12_wish_31 : decode cX12_wish 31 = .ok (.iload_n 2, 1) := by decide +kernel
theorem dX12_wish_32 : decode cX12_wish 32 = .ok (.invokevirtual 299, 3) := by decide +kernel
theorem dX12_wish_35 : decode cX12_wish 35 = .ok (.istore_n 3, 1) := by decide +kernel
theorem dX12_wish_36 : decode cX12_wish 36 = .ok (.iload_n 3, 1) := by decide +kernel
theorem dX12_wish_37 : decode cX12_wish 37 = .ok (.ifCond .eq 5, 3) := by decide +kernel
theorem dX12_wish_40 : decode cX12_wish 40 = .ok (.iload_n 3, 1) := by decide +kernel
theorem dX12_wish_41 : decode cX12_wish 41 = .ok (.ireturn, 1) := by decide +kernel
theorem dX12_wish_42 : decode cX12_wish 42 = .ok (.aload_n 0, 1) := by decide +kernel
theorem dX12_wish_43 : decode cX12_wish 43 = .ok (.aload_n 0, 1) := by decide +kernel
theorem dX12_wish_44 : decode cX12_wish 44 = .ok (.getfield 103, 3) := by decide +kernel
theorem dX12_wish_47 : decode cX12_wish 47 = .ok (.iconst 1, 1) := by decide +kernel
theorem dX12_wish_48 : decode cX12_wish 48 = .ok (.iload_n 1, 1) := by decide +kernel
theorem dX12_wish_49 : decode cX12_wish 49 = .ok (.ishl, 1) := by decide +kernel
theorem dX12_wish_50 : decode cX12_wish 50 = .ok (.ior, 1) := by decide +kernel
theorem dX12_wish_51 : decode cX12_wish 51 = .ok (.putfield 103, 3) := by decide +kernel
theorem dX12_wish_54 : decode cX12_wish 54 = .ok (.aload_n 0, 1) := by decide +kernel
theorem dX12_wish_55 : decode cX12_wish 55 = .ok (.aload_n 0, 1) := by decide +kernel
theorem dX12_wish_56 : decode cX12_wish 56 = .ok (.getfield 302, 3) := by decide +kernel
theorem dX12_wish_59 : decode cX12_wish 59 = .ok (.iconst 1, 1) := by decide +kernel
theorem dX12_wish_60 : decode cX12_wish 60 = .ok (.iload_n 1, 1) := by decide +kernel
theorem dX12_wish_61 : decode cX12_wish 61 = .ok (.ishl, 1) := by decide +kernel
theorem dX12_wish_62 : decode cX12_wish 62 = .ok (.iconst (-1), 1) := by decide +kernel
theorem dX12_wish_63 : decode cX12_wish 63 = .ok (.ixor, 1) := by decide +kernel
theorem dX12_wish_64 : decode cX12_wish 64 = .ok (.iand, 1) := by decide +kernel
theorem dX12_wish_65 : decode cX12_wish 65 = .ok (.putfield 302, 3) := by decide +kernel
theorem dX12_wish_68 : decode cX12_wish 68 = .ok (.aload_n 0, 1) := by decide +kernel
theorem dX12_wish_69 : decode cX12_wish 69 = .ok (.aload_n 0, 1) := by decide +kernel
theorem dX12_wish_70 : decode cX12_wish 70 = .ok (.getfield 13, 3) := by decide +kernel
theorem dX12_wish_73 : decode cX12_wish 73 = .ok (.iload_n 1, 1) := by decide +kernel
theorem dX12_wish_74 : decode cX12_wish 74 = .ok (.invokevirtual 305, 3) := by decide +kernel
theorem dX12_wish_77 : decode cX12_wish 77 = .ok (.ireturn, 1) := by decide +kernel
def FX12_wish (hp : HP) (p0 : Nat) (p1 : Int32) (p2 : Int32) : Option (Int32 × HP) := (FX12_in p1 (0 : Int32) (7 : Int32)).bind (fun v1 => if v1 = 0 then some ((-1 : Int32), hp) else (FX12_in p2 (1 : Int32) (100 : Int32)).bind (fun v2 => if v2 = 0 then some ((-1 : Int32), hp) else (gI [12] 14 hp p0).bind (fun v3 => if p2 ≤ v3 then (rc [12] hp p0 (FX12_readsFormula hp p0 p2)).bind (fun w4 => if w4.1 = 0 then (gI [12] 5 w4.2 p0).bind (fun v5 => (sI [12] 5 w4.2 p0 (v5 ||| ((1 : Int32) <<< (p1 &&& 31)))).bind (fun hp6 => (gI [12] 11 hp6 p0).bind (fun v7 => (sI [12] 11 hp6 p0 (v7 &&& (((1 : Int32) <<< (p1 &&& 31)) ^^^ (-1 : Int32)))).bind (fun hp8 => (gR [12] 1 hp8 p0).bind (fun v9 => (rc [12] hp8 p0 (FX12_laysRow hp8 p0 v9 p1)).bind (fun w10 => some (w10.1, w10.2))))))) else some (w4.1, w4.2)) else some ((-1 : Int32), hp))))
set_option maxHeartbeats 4000000 in
set_option maxRecDepth 100000 in
theorem ctX12_wish (l : Launch) (D : va_G) (tg : Nat → ClassId) (bs : Nat) (sa : Nat → Nat) (hp : HP) (p0 : Nat) (p1 : Int32) (p2 : Int32) : Ct l D tg bs sa yX12_wish cX12_wish 4 (some .int) 6 [.ref p0, .int p1, .int p2] hp (FX12_wish hp p0 p1 p2) (fun r => some (.int r.1)) (fun r => r.2) := by
  refine Ct.of (by decide) (Nat.le_of_ble_eq_true rfl) ?_
  intro V Q hVl hVd hVt hVb hVs hC
  subst hVl; subst hVd; subst hVt; subst hVb; subst hVs
  unfold FX12_wish
  show Zs V Q (0, 0) 4 _ _ hp [(0, .ref p0), (1, .int p1), (2, .int p2)] 0 []
  refine z_iload_n hC 1 dX12_wish_0 rfl rfl ?_
  refine z_iconst hC (0 : Int32) dX12_wish_1 (by decide) ?_
  refine z_bipush hC (7 : Int32) dX12_wish_2 (by decide) ?_
  refine z_callSi hC lmRX12_99 (ctX12_in (vLa V) (vDa V) (vTg V) (vBs V) (vSa V) hp p1 (0 : Int32) (7 : Int32)) (by decide) hn0 dX12_wish_4 rfl rfl (Nat.le_of_ble_eq_true rfl) (fun v1 => ?_)
  refine z_if_eq hC 28 dX12_wish_7 (by decide) (fun _ => ?_) (fun _ => ?_)
  · refine z_iconst hC (-1 : Int32) dX12_wish_28 (by decide) ?_
    exact z_iret hC (fun h => h) dX12_wish_29
  · refine z_iload_n hC 2 dX12_wish_10 rfl rfl ?_
    refine z_iconst hC (1 : Int32) dX12_wish_11 (by decide) ?_
    refine z_bipush hC (100 : Int32) dX12_wish_12 (by decide) ?_
    refine z_callSi hC lmRX12_99 (ctX12_in (vLa V) (vDa V) (vTg V) (vBs V) (vSa V) hp p2 (1 : Int32) (100 : Int32)) (by decide) hn0 dX12_wish_14 rfl rfl (Nat.le_of_ble_eq_true rfl) (fun v2 => ?_)
    refine z_if_eq hC 28 dX12_wish_17 (by decide) (fun _ => ?_) (fun _ => ?_)
    · refine z_iconst hC (-1 : Int32) dX12_wish_28 (by decide) ?_
      exact z_iret hC (fun h => h) dX12_wish_29
    · refine z_iload_n hC 2 dX12_wish_20 rfl rfl ?_
      refine z_aload_n hC 0 dX12_wish_21 rfl rfl ?_
      refine z_getI hC lgRX12_124 dX12_wish_22 (fun v3 => ?_)
      refine z_icmp_le hC 30 dX12_wish_25 (by decide) (fun _ => ?_) (fun _ => ?_)
      · refine z_aload_n hC 0 dX12_wish_30 rfl rfl ?_
        refine z_iload_n hC 2 dX12_wish_31 rfl rfl ?_
        refine z_callVi hC (ci := 12) rfl lmRX12_299 (ctX12_readsFormula (vLa V) (vDa V) (vTg V) (vBs V) (vSa V) hp p0 p2) (by decide) hn0 dX12_wish_32 rfl rfl (Nat.le_of_ble_eq_true rfl) (fun w4 => ?_)
        refine z_istore_n hC [(0, .ref p0), (1, .int p1), (2, .int p2), (3, .int w4.1)] [1, 2, 3, 0] dX12_wish_35 rfl (by decide) rfl ?_
        refine z_iload_n hC 3 dX12_wish_36 rfl rfl ?_
        refine z_if_eq hC 42 dX12_wish_37 (by decide) (fun _ => ?_) (fun _ => ?_)
        · refine z_aload_n hC 0 dX12_wish_42 rfl rfl ?_
          refine z_aload_n hC 0 dX12_wish_43 rfl rfl ?_
          refine z_getI hC lgRX12_103 dX12_wish_44 (fun v5 => ?_)
          refine z_iconst hC (1 : Int32) dX12_wish_47 (by decide) ?_
          refine z_iload_n hC 1 dX12_wish_48 rfl rfl ?_
          refine z_ishl hC dX12_wish_49 ?_
          refine z_ior hC dX12_wish_50 ?_
          refine z_putI hC lpRX12_103 dX12_wish_51 (fun hp6 => ?_)
          refine z_aload_n hC 0 dX12_wish_54 rfl rfl ?_
          refine z_aload_n hC 0 dX12_wish_55 rfl rfl ?_
          refine z_getI hC lgRX12_302 dX12_wish_56 (fun v7 => ?_)
          refine z_iconst hC (1 : Int32) dX12_wish_59 (by decide) ?_
          refine z_iload_n hC 1 dX12_wish_60 rfl rfl ?_
          refine z_ishl hC dX12_wish_61 ?_
          refine z_iconst hC (-1 : Int32) dX12_wish_62 (by decide) ?_
          refine z_ixor hC dX12_wish_63 ?_
          refine z_iand hC dX12_wish_64 ?_
          refine z_putI hC lpRX12_302 dX12_wish_65 (fun hp8 => ?_)
          refine z_aload_n hC 0 dX12_wish_68 rfl rfl ?_
          refine z_aload_n hC 0 dX12_wish_69 rfl rfl ?_
          refine z_getR hC lgRX12_13 dX12_wish_70 (fun v9 => ?_)
          refine z_iload_n hC 1 dX12_wish_73 rfl rfl ?_
          refine z_callVi hC (ci := 12) rfl lmRX12_305 (ctX12_laysRow (vLa V) (vDa V) (vTg V) (vBs V) (vSa V) hp8 p0 v9 p1) (by decide) hn0 dX12_wish_74 rfl rfl (Nat.le_of_ble_eq_true rfl) (fun w10 => ?_)
          exact z_iret hC (fun h => h) dX12_wish_77
        · refine z_iload_n hC 3 dX12_wish_40 rfl rfl ?_
          exact z_iret hC (fun h => h) dX12_wish_41
      · refine z_iconst hC (-1 : Int32) dX12_wish_28 (by decide) ?_
        exact z_iret hC (fun h => h) dX12_wish_29

theorem dX12_clause_0 : decode cX12_clause 0 = .ok (.iload_n 1, 1) := by decide +kernel
theorem dX12_clause_1 : decode cX12_clause 1 = .ok (.iconst 0, 1) := by decide +kernel
theorem dX12_clause_2 : decode cX12_clause 2 = .ok (.bipush 7, 2) := by decide +kernel
theorem dX12_clause_4 : decode cX12_clause 4 = .ok (.invokestatic 99, 3) := by decide +kernel
theorem dX12_clause_7 : decode cX12_clause 7 = .ok (.ifCond .eq 21, 3) := by decide +kernel
theorem dX12_clause_10 : decode cX12_clause 10 = .ok (.iload_n 2, 1) := by decide +kernel
theorem dX12_clause_11 : decode cX12_clause 11 = .ok (.iconst 1, 1) := by decide +kernel
theorem dX12_clause_12 : decode cX12_clause 12 = .ok (.bipush 100, 2) := by decide +kernel
theorem dX12_clause_14 : decode cX12_clause 14 = .ok (.invokestatic 99, 3) := by decide +kernel
theorem dX12_clause_17 : decode cX12_clause 17 = .ok (.ifCond .eq 11, 3) := by decide +kernel
theorem dX12_clause_20 : decode cX12_clause 20 = .ok (.iload_n 2, 1) := by decide +kernel
theorem dX12_clause_21 : decode cX12_clause 21 = .ok (.aload_n 0, 1) := by decide +kernel
theorem dX12_clause_22 : decode cX12_clause 22 = .ok (.getfield 124, 3) := by decide +kernel
theorem dX12_clause_25 : decode cX12_clause 25 = .ok (.if_icmp .le 5, 3) := by decide +kernel
theorem dX12_clause_28 : decode cX12_clause 28 = .ok (.iconst (-1), 1) := by decide +kernel
theorem dX12_clause_29 : decode cX12_clause 29 = .ok (.ireturn, 1) := by decide +kernel
theorem dX12_clause_30 : decode cX12_clause 30 = .ok (.aload_n 0, 1) := by decide +kernel
theorem dX12_clause_31 : decode cX12_clause 31 = .ok (.iload_n 2, 1) := by decide +kernel
theorem dX12_clause_32 : decode cX12_clause 32 = .ok (.invokevirtual 299, 3) := by decide +kernel
theorem dX12_clause_35 : decode cX12_clause 35 = .ok (.istore_n 3, 1) := by decide +kernel
theorem dX12_clause_36 : decode cX12_clause 36 = .ok (.iload_n 3, 1) := by decide +kernel
theorem dX12_clause_37 : decode cX12_clause 37 = .ok (.ifCond .eq 5, 3) := by decide +kernel
theorem dX12_clause_40 : decode cX12_clause 40 = .ok (.iload_n 3, 1) := by decide +kernel
theorem dX12_clause_41 : decode cX12_clause 41 = .ok (.ireturn, 1) := by decide +kernel
theorem dX12_clause_42 : decode cX12_clause 42 = .ok (.aload_n 0, 1) := by decide +kernel
theorem dX12_clause_43 : decode cX12_clause 43 = .ok (.aload_n 0, 1) := by decide +kernel
theorem dX12_clause_44 : decode cX12_clause 44 = .ok (.getfield 115, 3) := by decide +kernel
theorem dX12_clause_47 : decode cX12_clause 47 = .ok (.iconst 1, 1) := by decide +kernel
theorem dX12_clause_48 : decode cX12_clause 48 = .ok (.iload_n 1, 1) := by decide +kernel
theorem dX12_clause_49 : decode cX12_clause 49 = .ok (.ishl, 1) := by decide +kernel
theorem dX12_clause_50 : decode cX12_clause 50 = .ok (.ior, 1) := by decide +kernel
theorem dX12_clause_51 : decode cX12_clause 51 = .ok (.putfield 115, 3) := by decide +kernel
theorem dX12_clause_54 : decode cX12_clause 54 = .ok (.aload_n 0, 1) := by decide +kernel
theorem dX12_clause_55 : decode cX12_clause 55 = .ok (.aload_n 0, 1) := by decide +kernel
theorem dX12_clause_56 : decode cX12_clause 56 = .ok (.getfield 17, 3) := by decide +kernel
theorem dX12_clause_59 : decode cX12_clause 59 = .ok (.iload_n 1, 1) := by decide +kernel
theorem dX12_clause_60 : decode cX12_clause 60 = .ok (.invokevirtual 305, 3) := by decide +kernel
theorem dX12_clause_63 : decode cX12_clause 63 = .ok (.istore 4, 2) := by decide +kernel
theorem dX12_clause_65 : decode cX12_clause 65 = .ok (.aload_n 0, 1) := by decide +kernel
theorem dX12_clause_66 : decode cX12_clause 66 = .ok (.invokevirtual 96, 3) := by decide +kernel
theorem dX12_clause_69 : decode cX12_clause 69 = .ok (.iload 4, 2) := by decide +kernel
theorem dX12_clause_71 : decode cX12_clause 71 = .ok (.ireturn, 1) := by decide +kernel
def FX12_clause (hp : HP) (p0 : Nat) (p1 : Int32) (p2 : Int32) : Option (Int32 × HP) := (FX12_in p1 (0 : Int32) (7 : Int32)).bind (fun v1 => if v1 = 0 then some ((-1 : Int32), hp) else (FX12_in p2 (1 : Int32) (100 : Int32)).bind (fun v2 => if v2 = 0 then some ((-1 : Int32), hp) else (gI [12] 14 hp p0).bind (fun v3 => if p2 ≤ v3 then (rc [12] hp p0 (FX12_readsFormula hp p0 p2)).bind (fun w4 => if w4.1 = 0 then (gI [12] 6 w4.2 p0).bind (fun v5 => (sI [12] 6 w4.2 p0 (v5 ||| ((1 : Int32) <<< (p1 &&& 31)))).bind (fun hp6 => (gR [12] 2 hp6 p0).bind (fun v7 => (rc [12] hp6 p0 (FX12_laysRow hp6 p0 v7 p1)).bind (fun w8 => (rc [12] w8.2 p0 (FX12_laysFits w8.2 p0)).bind (fun w9 => some (w8.1, w9)))))) else some (w4.1, w4.2)) else some ((-1 : Int32), hp))))
set_option maxHeartbeats 4000000 in
set_option maxRecDepth 100000 in
theorem ctX12_clause (l : Launch) (D : va_G) (tg : Nat → ClassId) (bs : Nat) (sa : Nat → Nat) (hp : HP) (p0 : Nat) (p1 : Int32) (p2 : Int32) : Ct l D tg bs sa yX12_clause cX12_clause 5 (some .int) 6 [.ref p0, .int p1, .int p2] hp (FX12_clause hp p0 p1 p2) (fun r => some (.int r.1)) (fun r => r.2) := by
  refine Ct.of (by decide) (Nat.le_of_ble_eq_true rfl) ?_
  intro V Q hVl hVd hVt hVb hVs hC
  subst hVl; subst hVd; subst hVt; subst hVb; subst hVs
  unfold FX12_clause
  show Zs V Q (0, 0) 5 _ _ hp [(0, .ref p0), (1, .int p1), (2, .int p2)] 0 []
  refine z_iload_n hC 1 dX12_clause_0 rfl rfl ?_
  refine z_iconst hC (0 : Int32) dX12_clause_1 (by decide) ?_
  refine z_bipush hC (7 : Int32) dX12_clause_2 (by decide) ?_
  refine z_callSi hC lmRX12_99 (ctX12_in (vLa V) (vDa V) (vTg V) (vBs V) (vSa V) hp p1 (0 : Int32) (7 : Int32)) (by decide) hn0 dX12_clause_4 rfl rfl (Nat.le_of_ble_eq_true rfl) (fun v1 => ?_)
  refine z_if_eq hC 28 dX12_clause_7 (by decide) (fun _ => ?_) (fun _ => ?_)
  · refine z_iconst hC (-1 : Int32) dX12_clause_28 (by decide) ?_
    exact z_iret hC (fun h => h) dX12_clause_29
  · refine z_iload_n hC 2 dX12_clause_10 rfl rfl ?_
    refine z_iconst hC (1 : Int32) dX12_clause_11 (by decide) ?_
    refine z_bipush hC (100 : Int32) dX12_clause_12 (by decide) ?_
    refine z_callSi hC lmRX12_99 (ctX12_in (vLa V) (vDa V) (vTg V) (vBs V) (vSa V) hp p2 (1 : Int32) (100 : Int32)) (by decide) hn0 dX12_clause_14 rfl rfl (Nat.le_of_ble_eq_true rfl) (fun v2 => ?_)
    refine z_if_eq hC 28 dX12_clause_17 (by decide) (fun _ => ?_) (fun _ => ?_)
    · refine z_iconst hC (-1 : Int32) dX12_clause_28 (by decide) ?_
      exact z_iret hC (fun h => h) dX12_clause_29
    · refine z_iload_n hC 2 dX12_clause_20 rfl rfl ?_
      refine z_aload_n hC 0 dX12_clause_21 rfl rfl ?_
      refine z_getI hC lgRX12_124 dX12_clause_22 (fun v3 => ?_)
      refine z_icmp_le hC 30 dX12_clause_25 (by decide) (fun _ => ?_) (fun _ => ?_)
      · refine z_aload_n hC 0 dX12_clause_30 rfl rfl ?_
        refine z_iload_n hC 2 dX12_clause_31 rfl rfl ?_
        refine z_callVi hC (ci := 12) rfl lmRX12_299 (ctX12_readsFormula (vLa V) (vDa V) (vTg V) (vBs V) (vSa V) hp p0 p2) (by decide) hn0 dX12_clause_32 rfl rfl (Nat.le_of_ble_eq_true rfl) (fun w4 => ?_)
        refine z_istore_n hC [(0, .ref p0), (1, .int p1), (2, .int p2), (3, .int w4.1)] [1, 2, 3, 0] dX12_clause_35 rfl (by decide) rfl ?_
        refine z_iload_n hC 3 dX12_clause_36 rfl rfl ?_
        refine z_if_eq hC 42 dX12_clause_37 (by decide) (fun _ => ?_) (fun _ => ?_)
        · refine z_aload_n hC 0 dX12_clause_42 rfl rfl ?_
          refine z_aload_n hC 0 dX12_clause_43 rfl rfl ?_
          refine z_getI hC lgRX12_115 dX12_clause_44 (fun v5 => ?_)
          refine z_iconst hC (1 : Int32) dX12_clause_47 (by decide) ?_
          refine z_iload_n hC 1 dX12_clause_48 rfl rfl ?_
          refine z_ishl hC dX12_clause_49 ?_
          refine z_ior hC dX12_clause_50 ?_
          refine z_putI hC lpRX12_115 dX12_clause_51 (fun hp6 => ?_)
          refine z_aload_n hC 0 dX12_clause_54 rfl rfl ?_
          refine z_aload_n hC 0 dX12_clause_55 rfl rfl ?_
          refine z_getR hC lgRX12_17 dX12_clause_56 (fun v7 => ?_)
          refine z_iload_n hC 1 dX12_clause_59 rfl rfl ?_
          refine z_callVi hC (ci := 12) rfl lmRX12_305 (ctX12_laysRow (vLa V) (vDa V) (vTg V) (vBs V) (vSa V) hp6 p0 v7 p1) (by decide) hn0 dX12_clause_60 rfl rfl (Nat.le_of_ble_eq_true rfl) (fun w8 => ?_)
          refine z_istore hC [(0, .ref p0), (1, .int p1), (2, .int p2), (3, .int w4.1), (4, .int w8.1)] [1, 2, 3, 4, 0] dX12_clause_63 (by decide) rfl ?_
          refine z_aload_n hC 0 dX12_clause_65 rfl rfl ?_
          refine z_callVv hC (ci := 12) rfl lmRX12_96 (ctX12_laysFits (vLa V) (vDa V) (vTg V) (vBs V) (vSa V) w8.2 p0) (by decide) hn0 dX12_clause_66 rfl rfl (Nat.le_of_ble_eq_true rfl) (fun w9 => ?_)
          refine z_iload hC 4 dX12_clause_69 rfl ?_
          exact z_iret hC (fun h => h) dX12_clause_71
        · refine z_iload_n hC 3 dX12_clause_40 rfl rfl ?_
          exact z_iret hC (fun h => h) dX12_clause_41
      · refine z_iconst hC (-1 : Int32) dX12_clause_28 (by decide) ?_
        exact z_iret hC (fun h => h) dX12_clause_29

theorem dX12_drop_0 : decode cX12_drop 0 = .ok (.iload_n 1, 1) := by decide +kernel
theorem dX12_drop_1 : decode cX12_drop 1 = .ok (.iconst 0, 1) := by decide +kernel
theorem dX12_drop_2 : decode cX12_drop 2 = .ok (.bipush 7, 2) := by decide +kernel
theorem dX12_drop_4 : decode cX12_drop 4 = .ok (.invokestatic 99, 3) := by decide +kernel
theorem dX12_drop_7 : decode cX12_drop 7 = .ok (.ifCond .eq 14, 3) := by decide +kernel
theorem dX12_drop_10 : decode cX12_drop 10 = .ok (.aload_n 0, 1) := by decide +kernel
theorem dX12_drop_11 : decode cX12_drop 11 = .ok (.getfield 115, 3) := by decide +kernel
theorem dX12_drop_14 : decode cX12_drop 14 = .ok (.iload_n 1, 1) := by decide +kernel
theorem dX12_drop_15 : decode cX12_drop 15 = .ok (.invokestatic 107, 3) := by decide +kernel
theorem dX12_drop_18 : decode cX12_drop 18 = .ok (.ifCond .ne 5, 3) := by decide +kernel
theorem dX12_drop_21 : decode cX12_drop 21 = .ok (.iconst 0, 1) := by decide +kernel
theorem dX12_drop_22 : decode cX12_drop 22 = .ok (.ireturn, 1) := by decide +kernel
theorem dX12_drop_23 : decode cX12_drop 23 = .ok (.aload_n 0, 1) := by decide +kernel
theorem dX12_drop_24 : decode cX12_drop 24 = .ok (.aload_n 0, 1) := by decide +kernel
theorem dX12_drop_25 : decode cX12_drop 25 = .ok (.getfield 115, 3) := by decide +kernel
theorem dX12_drop_28 : decode cX12_drop 28 = .ok (.iconst 1, 1) := by decide +kernel
theorem dX12_drop_29 : decode cX12_drop 29 = .ok (.iload_n 1, 1) := by decide +kernel
theorem dX12_drop_30 : decode cX12_drop 30 = .ok (.ishl, 1) := by decide +kernel
theorem dX12_drop_31 : decode cX12_drop 31 = .ok (.iconst (-1), 1) := by decide +kernel
theorem dX12_drop_32 : decode cX12_drop 32 = .ok (.ixor, 1) := by decide +kernel
theorem dX12_drop_33 : decode cX12_drop 33 = .ok (.iand, 1) := by decide +kernel
theorem dX12_drop_34 : decode cX12_drop 34 = .ok (.putfield 115, 3) := by decide +kernel
theorem dX12_drop_37 : decode cX12_drop 37 = .ok (.aload_n 0, 1) := by decide +kernel
theorem dX12_drop_38 : decode cX12_drop 38 = .ok (.invokevirtual 96, 3) := by decide +kernel
theorem dX12_drop_41 : decode cX12_drop 41 = .ok (.iconst 1, 1) := by decide +kernel
theorem dX12_drop_42 : decode cX12_drop 42 = .ok (.ireturn, 1) := by decide +kernel
def FX12_drop (hp : HP) (p0 : Nat) (p1 : Int32) : Option (Int32 × HP) := (FX12_in p1 (0 : Int32) (7 : Int32)).bind (fun v1 => if v1 = 0 then some ((0 : Int32), hp) else (gI [12] 6 hp p0).bind (fun v2 => (FX12_has v2 p1).bind (fun v3 => if v3 = 0 then some ((0 : Int32), hp) else (gI [12] 6 hp p0).bind (fun v4 => (sI [12] 6 hp p0 (v4 &&& (((1 : Int32) <<< (p1 &&& 31)) ^^^ (-1 : Int32)))).bind (fun hp5 => (rc [12] hp5 p0 (FX12_laysFits hp5 p0)).bind (fun w6 => some ((1 : Int32), w6)))))))
set_option maxHeartbeats 4000000 in
set_option maxRecDepth 100000 in
theorem ctX12_drop (l : Launch) (D : va_G) (tg : Nat → ClassId) (bs : Nat) (sa : Nat → Nat) (hp : HP) (p0 : Nat) (p1 : Int32) : Ct l D tg bs sa yX12_drop cX12_drop 2 (some .boolean) 3 [.ref p0, .int p1] hp (FX12_drop hp p0 p1) (fun r => some (.int r.1)) (fun r => r.2) := by
  refine Ct.of (by decide) (Nat.le_of_ble_eq_true rfl) ?_
  intro V Q hVl hVd hVt hVb hVs hC
  subst hVl; subst hVd; subst hVt; subst hVb; subst hVs
  unfold FX12_drop
  show Zs V Q (0, 0) 2 _ _ hp [(0, .ref p0), (1, .int p1)] 0 []
  refine z_iload_n hC 1 dX12_drop_0 rfl rfl ?_
  refine z_iconst hC (0 : Int32) dX12_drop_1 (by decide) ?_
  refine z_bipush hC (7 : Int32) dX12_drop_2 (by decide) ?_
  refine z_callSi hC lmRX12_99 (ctX12_in (vLa V) (vDa V) (vTg V) (vBs V) (vSa V) hp p1 (0 : Int32) (7 : Int32)) (by decide) hn0 dX12_drop_4 rfl rfl (Nat.le_of_ble_eq_true rfl) (fun v1 => ?_)
  refine z_if_eq hC 21 dX12_drop_7 (by decide) (fun _ => ?_) (fun _ => ?_)
  · refine z_iconst hC (0 : Int32) dX12_drop_21 (by decide) ?_
    exact z_zret hC (by decide) (fun h => h) dX12_drop_22
  · refine z_aload_n hC 0 dX12_drop_10 rfl rfl ?_
    refine z_getI hC lgRX12_115 dX12_drop_11 (fun v2 => ?_)
    refine z_iload_n hC 1 dX12_drop_14 rfl rfl ?_
    refine z_callSi hC lmRX12_107 (ctX12_has (vLa V) (vDa V) (vTg V) (vBs V) (vSa V) hp v2 p1) (by decide) hn0 dX12_drop_15 rfl rfl (Nat.le_of_ble_eq_true rfl) (fun v3 => ?_)
    refine z_if_ne hC 23 dX12_drop_18 (by decide) (fun _ => ?_) (fun _ => ?_)
    · refine z_iconst hC (0 : Int32) dX12_drop_21 (by decide) ?_
      exact z_zret hC (by decide) (fun h => h) dX12_drop_22
    · refine z_aload_n hC 0 dX12_drop_23 rfl rfl ?_
      refine z_aload_n hC 0 dX12_drop_24 rfl rfl ?_
      refine z_getI hC lgRX12_115 dX12_drop_25 (fun v4 => ?_)
      refine z_iconst hC (1 : Int32) dX12_drop_28 (by decide) ?_
      refine z_iload_n hC 1 dX12_drop_29 rfl rfl ?_
      refine z_ishl hC dX12_drop_30 ?_
      refine z_iconst hC (-1 : Int32) dX12_drop_31 (by decide) ?_
      refine z_ixor hC dX12_drop_32 ?_
      refine z_iand hC dX12_drop_33 ?_
      refine z_putI hC lpRX12_115 dX12_drop_34 (fun hp5 => ?_)
      refine z_aload_n hC 0 dX12_drop_37 rfl rfl ?_
      refine z_callVv hC (ci := 12) rfl lmRX12_96 (ctX12_laysFits (vLa V) (vDa V) (vTg V) (vBs V) (vSa V) hp5 p0) (by decide) hn0 dX12_drop_38 rfl rfl (Nat.le_of_ble_eq_true rfl) (fun w6 => ?_)
      refine z_iconst hC (1 : Int32) dX12_drop_41 (by decide) ?_
      exact z_zret hC (by decide) (fun h => h) dX12_drop_42

theorem dX12_leadsTo_0 : decode cX12_leadsTo 0 = .ok (.iconst (-1), 1) := by decide +kernel
theorem dX12_leadsTo_1 : decode cX12_leadsTo 1 = .ok (.istore_n 2, 1) := by decide +kernel
theorem dX12_leadsTo_2 : decode cX12_leadsTo 2 = .ok (.ldc_w 309, 3) := by decide +kernel
theorem dX12_leadsTo_5 : decode cX12_leadsTo 5 = .ok (.istore_n 3, 1) := by decide +kernel
theorem dX12_leadsTo_6 : decode cX12_leadsTo 6 = .ok (.iconst 0, 1) := by decide +kernel
theorem dX12_leadsTo_7 : decode cX12_leadsTo 7 = .ok (.istore 4, 2) := by decide +kernel
theorem dX12_leadsTo_9 : decode cX12_leadsTo 9 = .ok (.iload 4, 2) := by decide +kernel
theorem dX12_leadsTo_11 : decode cX12_leadsTo 11 = .ok (.sipush 1024, 3) := by decide +kernel
theorem dX12_leadsTo_14 : decode cX12_leadsTo 14 = .ok (.if_icmp .ge 74, 3) := by decide +kernel
theorem dX12_leadsTo_17 : decode cX12_leadsTo 17 = .ok (.aload_n 0, 1) := by decide +kernel
theorem dX12_leadsTo_18 : decode cX12_leadsTo 18 = .ok (.getfield 20, 3) := by decide +kernel
theorem dX12_leadsTo_21 : decode cX12_leadsTo 21 = .ok (.iload 4, 2) := by decide +kernel
theorem dX12_leadsTo_23 : decode cX12_leadsTo 23 = .ok (.baload, 1) := by decide +kernel
theorem dX12_leadsTo_24 : decode cX12_leadsTo 24 = .ok (.ifCond .eq 58, 3) := by decide +kernel
theorem dX12_leadsTo_27 : decode cX12_leadsTo 27 = .ok (.aload_n 0, 1) := by decide +kernel
theorem dX12_leadsTo_28 : decode cX12_leadsTo 28 = .ok (.iload_n 1, 1) := by decide +kernel
theorem dX12_leadsTo_29 : decode cX12_leadsTo 29 = .ok (.iload 4, 2) := by decide +kernel
theorem dX12_leadsTo_31 : decode cX12_leadsTo 31 = .ok (.invokevirtual 310, 3) := by decide +kernel
theorem dX12_leadsTo_34 : decode cX12_leadsTo 34 = .ok (.ifCond .ne 6, 3) := by decide +kernel
theorem dX12_leadsTo_37 : decode cX12_leadsTo 37 = .ok (.goto 45, 3) := by decide +kernel
theorem dX12_leadsTo_40 : decode cX12_leadsTo 40 = .ok (.bipush 100, 2) := by decide +kernel
theorem dX12_leadsTo_42 : decode cX12_leadsTo 42 = .ok (.aload_n 0, 1) := by decide +kernel
theorem dX12_leadsTo_43 : decode cX12_leadsTo 43 = .ok (.iload 4, 2) := by decide +kernel
theorem dX12_leadsTo_45 : decode cX12_leadsTo 45 = .ok (.aload_n 0, 1) := by decide +kernel
theorem dX12_leadsTo_46 : decode cX12_leadsTo 46 = .ok (.getfield 121, 3) := by decide +kernel
theorem dX12_leadsTo_49 : decode cX12_leadsTo 49 = .ok (.ixor, 1) := by decide +kernel
theorem dX12_leadsTo_50 : decode cX12_leadsTo 50 = .ok (.invokevirtual 232, 3) := by decide +kernel
theorem dX12_leadsTo_53 : decode cX12_leadsTo 53 = .ok (.imul, 1) := by decide +kernel
theorem dX12_leadsTo_54 : decode cX12_leadsTo 54 = .ok (.iload 4, 2) := by decide +kernel
theorem dX12_leadsTo_56 : decode cX12_leadsTo 56 = .ok (.aload_n 0, 1) := by decide +kernel
theorem dX12_leadsTo_57 : decode cX12_leadsTo 57 = .ok (.getfield 121, 3) := by decide +kernel
theorem dX12_leadsTo_60 : decode cX12_leadsTo 60 = .ok (.ixor, 1) := by decide +kernel
theorem dX12_leadsTo_61 : decode cX12_leadsTo 61 = .ok (.invokestatic 111, 3) := by decide +kernel
theorem dX12_leadsTo_64 : decode cX12_leadsTo 64 = .ok (.iadd, 1) := by decide +kernel
theorem dX12_leadsTo_65 : decode cX12_leadsTo 65 = .ok (.istore 5, 2) := by decide +kernel
theorem dX12_leadsTo_67 : decode cX12_leadsTo 67 = .ok (.iload 5, 2) := by decide +kernel
theorem dX12_leadsTo_69 : decode cX12_leadsTo 69 = .ok (.iload_n 3, 1) := by decide +kernel
theorem dX12_leadsTo_70 : decode cX12_leadsTo 70 = .ok (.if_icmp .lt 6, 3) := by decide +kernel
theorem dX12_leadsTo_73 : decode cX12_leadsTo 73 = .ok (.goto 9, 3) := by decide +kernel
theorem dX12_leadsTo_76 : decode cX12_leadsTo 76 = .ok (.iload 5, 2) := by decide +kernel
theorem dX12_leadsTo_78 : decode cX12_leadsTo 78 = .ok (.istore_n 3, 1) := by decide +kernel
theorem dX12_leadsTo_79 : decode cX12_leadsTo 79 = .ok (.iload 4, 2) := by decide +kernel
theorem dX12_leadsTo_81 : decode cX12_leadsTo 81 = .ok (.istore_n 2, 1) := by decide +kernel
theorem dX12_leadsTo_82 : decode cX12_leadsTo 82 = .ok (.iinc 4 1, 3) := by decide +kernel
theorem dX12_leadsTo_85 : decode cX12_leadsTo 85 = .ok (.goto (-76), 3) := by decide +kernel
theorem dX12_leadsTo_88 : decode cX12_leadsTo 88 = .ok (.iload_n 2, 1) := by decide +kernel
theorem dX12_leadsTo_89 : decode cX12_leadsTo 89 = .ok (.ireturn, 1) := by decide +kernel
def FX12_leadsTo (hp : HP) (p0 : Nat) (p1 : Int32) : Option (Int32) := (lp (fun (s1 : Int32 × Int32 × Int32) => if (1024 : Int32) ≤ s1.2.2 then some (Sum.inl s1.1) else (gR [12] 3 hp p0).bind (fun v3 => (rdN 2 hp v3 s1.2.2).bind (fun v4 => if v4 = 0 then vl (s1.2.2 + (1 : Int32)) (fun x5 => some (Sum.inr (s1.1, s1.2.1, x5))) else (rc [12] hp p0 (FX12_holdsIn hp p0 p1 s1.2.2)).bind (fun v6 => if v6 = 0 then vl (s1.2.2 + (1 : Int32)) (fun x7 => some (Sum.inr (s1.1, s1.2.1, x7))) else (gI [12] 7 hp p0).bind (fun v8 => (rc [12] hp p0 (FX12_pricesOf hp p0 (s1.2.2 ^^^ v8))).bind (fun v9 => (gI [12] 7 hp p0).bind (fun v10 => (FX12_bits (s1.2.2 ^^^ v10)).bind (fun v11 => vl (((100 : Int32) * v9) + v11) (fun x12 => if x12 < s1.2.1 then vl (s1.2.2 + (1 : Int32)) (fun x13 => some (Sum.inr (s1.2.2, x12, x13))) else vl (s1.2.2 + (1 : Int32)) (fun x14 => some (Sum.inr (s1.1, s1.2.1, x14)))))))))))) FU ((-1 : Int32), (1000000 : Int32), (0 : Int32))).bind (fun (y2 : Int32) => some y2)
set_option maxHeartbeats 4000000 in
set_option maxRecDepth 100000 in
theorem ctX12_leadsTo (l : Launch) (D : va_G) (tg : Nat → ClassId) (bs : Nat) (sa : Nat → Nat) (hp : HP) (p0 : Nat) (p1 : Int32) : Ct l D tg bs sa yX12_leadsTo cX12_leadsTo 6 (some .int) 2 [.ref p0, .int p1] hp (FX12_leadsTo hp p0 p1) (fun r => some (.int r)) (fun _ => hp) := by
  refine Ct.of (by decide) (Nat.le_of_ble_eq_true rfl) ?_
  intro V Q hVl hVd hVt hVb hVs hC
  subst hVl; subst hVd; subst hVt; subst hVb; subst hVs
  unfold FX12_leadsTo
  show Zs V Q (0, 0) 6 _ _ hp [(0, .ref p0), (1, .int p1)] 0 []
  refine z_iconst hC (-1 : Int32) dX12_leadsTo_0 (by decide) ?_
  refine z_istore_n hC [(0, .ref p0), (1, .int p1), (2, .int (-1 : Int32))] [1, 2, 0] dX12_leadsTo_1 rfl (by decide) rfl ?_
  refine z_ldcw hC (1000000 : Int32) lcRX12_309 dX12_leadsTo_2 ?_
  refine z_istore_n hC [(0, .ref p0), (1, .int p1), (2, .int (-1 : Int32)), (3, .int (1000000 : Int32))] [1, 2, 3, 0] dX12_leadsTo_5 rfl (by decide) rfl ?_
  refine z_iconst hC (0 : Int32) dX12_leadsTo_6 (by decide) ?_
  refine z_istore hC [(0, .ref p0), (1, .int p1), (2, .int (-1 : Int32)), (3, .int (1000000 : Int32)), (4, .int (0 : Int32))] [1, 2, 3, 4, 0] dX12_leadsTo_7 (by decide) rfl ?_
  refine z_lp (S := Int32 × Int32 × Int32) (Y := Int32) (fun s1 => hp) (fun s1 => [(0, .ref p0), (1, .int p1), (2, .int s1.1), (3, .int s1.2.1), (4, .int s1.2.2)]) (fun y2 => hp) (fun y2 => [(2, .int y2)]) 88 [] (fun y2 => ?_) (fun s1 => ?_) rfl rfl
  · refine z_iload_n hC 0 dX12_leadsTo_88 rfl rfl ?_
    exact z_iret hC (fun h => h) dX12_leadsTo_89
  · refine z_iload hC 4 dX12_leadsTo_9 rfl ?_
    refine z_sipush hC (1024 : Int32) dX12_leadsTo_11 (by decide) ?_
    refine z_icmp_ge hC 88 dX12_leadsTo_14 (by decide) (fun _ => ?_) (fun _ => ?_)
    · refine z_weak [(2, .int s1.1)] [2] rfl ?_
      exact z_leaf (fun h => h)
    · refine z_aload_n hC 0 dX12_leadsTo_17 rfl rfl ?_
      refine z_getR hC lgRX12_20 dX12_leadsTo_18 (fun v3 => ?_)
      refine z_iload hC 4 dX12_leadsTo_21 rfl ?_
      refine z_zald hC dX12_leadsTo_23 (fun v4 => ?_)
      refine z_if_eq hC 82 dX12_leadsTo_24 (by decide) (fun _ => ?_) (fun _ => ?_)
      · refine z_iincv hC (1 : Int32) 4 (fun x5 => [(0, .ref p0), (1, .int p1), (2, .int s1.1), (3, .int s1.2.1), (4, .int x5)]) [1, 2, 3, 4, 0] dX12_leadsTo_82 rfl (by decide) (by decide) (fun _ => rfl) (fun x5 => ?_)
        refine z_goto hC 9 dX12_leadsTo_85 (by decide) ?_
        exact z_leaf (fun h => h)
      · refine z_aload_n hC 0 dX12_leadsTo_27 rfl rfl ?_
        refine z_iload_n hC 1 dX12_leadsTo_28 rfl rfl ?_
        refine z_iload hC 4 dX12_leadsTo_29 rfl ?_
        refine z_callVi hC (ci := 12) rfl lmRX12_310 (ctX12_holdsIn (vLa V) (vDa V) (vTg V) (vBs V) (vSa V) hp p0 p1 s1.2.2) (by decide) hn0 dX12_leadsTo_31 rfl rfl (Nat.le_of_ble_eq_true rfl) (fun v6 => ?_)
        refine z_if_ne hC 40 dX12_leadsTo_34 (by decide) (fun _ => ?_) (fun _ => ?_)
        · refine z_goto hC 82 dX12_leadsTo_37 (by decide) ?_
          refine z_iincv hC (1 : Int32) 4 (fun x7 => [(0, .ref p0), (1, .int p1), (2, .int s1.1), (3, .int s1.2.1), (4, .int x7)]) [1, 2, 3, 4, 0] dX12_leadsTo_82 rfl (by decide) (by decide) (fun _ => rfl) (fun x7 => ?_)
          refine z_goto hC 9 dX12_leadsTo_85 (by decide) ?_
          exact z_leaf (fun h => h)
        · refine z_bipush hC (100 : Int32) dX12_leadsTo_40 (by decide) ?_
          refine z_aload_n hC 0 dX12_leadsTo_42 rfl rfl ?_
          refine z_iload hC 4 dX12_leadsTo_43 rfl ?_
          refine z_aload_n hC 0 dX12_leadsTo_45 rfl rfl ?_
          refine z_getI hC lgRX12_121 dX12_leadsTo_46 (fun v8 => ?_)
          refine z_ixor hC dX12_leadsTo_49 ?_
          refine z_callVi hC (ci := 12) rfl lmRX12_232 (ctX12_pricesOf (vLa V) (vDa V) (vTg V) (vBs V) (vSa V) hp p0 (s1.2.2 ^^^ v8)) (by decide) hn0 dX12_leadsTo_50 rfl rfl (Nat.le_of_ble_eq_true rfl) (fun v9 => ?_)
          refine z_imul hC dX12_leadsTo_53 ?_
          refine z_iload hC 4 dX12_leadsTo_54 rfl ?_
          refine z_aload_n hC 0 dX12_leadsTo_56 rfl rfl ?_
          refine z_getI hC lgRX12_121 dX12_leadsTo_57 (fun v10 => ?_)
          refine z_ixor hC dX12_leadsTo_60 ?_
          refine z_callSi hC lmRX12_111 (ctX12_bits (vLa V) (vDa V) (vTg V) (vBs V) (vSa V) hp (s1.2.2 ^^^ v10)) (by decide) hn0 dX12_leadsTo_61 rfl rfl (Nat.le_of_ble_eq_true rfl) (fun v11 => ?_)
          refine z_iadd hC dX12_leadsTo_64 ?_
          refine z_vli (fun x12 => ?_)
          refine z_istore hC [(0, .ref p0), (1, .int p1), (2, .int s1.1), (3, .int s1.2.1), (4, .int s1.2.2), (5, .int x12)] [1, 2, 3, 4, 5, 0] dX12_leadsTo_65 (by decide) rfl ?_
          refine z_iload hC 5 dX12_leadsTo_67 rfl ?_
          refine z_iload_n hC 3 dX12_leadsTo_69 rfl rfl ?_
          refine z_icmp_lt hC 76 dX12_leadsTo_70 (by decide) (fun _ => ?_) (fun _ => ?_)
          · refine z_iload hC 5 dX12_leadsTo_76 rfl ?_
            refine z_istore_n hC [(0, .ref p0), (1, .int p1), (2, .int s1.1), (3, .int x12), (4, .int s1.2.2), (5, .int x12)] [1, 2, 3, 0, 4, 5] dX12_leadsTo_78 rfl (by decide) rfl ?_
            refine z_iload hC 4 dX12_leadsTo_79 rfl ?_
            refine z_istore_n hC [(0, .ref p0), (1, .int p1), (2, .int s1.2.2), (3, .int x12), (4, .int s1.2.2), (5, .int x12)] [1, 2, 0, 3, 4, 5] dX12_leadsTo_81 rfl (by decide) rfl ?_
            refine z_iincv hC (1 : Int32) 4 (fun x13 => [(0, .ref p0), (1, .int p1), (2, .int s1.2.2), (3, .int x12), (4, .int x13), (5, .int x12)]) [1, 2, 3, 4, 0, 5] dX12_leadsTo_82 rfl (by decide) (by decide) (fun _ => rfl) (fun x13 => ?_)
            refine z_goto hC 9 dX12_leadsTo_85 (by decide) ?_
            refine z_weak [(0, .ref p0), (1, .int p1), (2, .int s1.2.2), (3, .int x12), (4, .int x13)] [0, 1, 2, 3, 4] rfl ?_
            exact z_leaf (fun h => h)
          · refine z_goto hC 82 dX12_leadsTo_73 (by decide) ?_
            refine z_iincv hC (1 : Int32) 4 (fun x14 => [(0, .ref p0), (1, .int p1), (2, .int s1.1), (3, .int s1.2.1), (4, .int x14), (5, .int x12)]) [1, 2, 3, 4, 0, 5] dX12_leadsTo_82 rfl (by decide) (by decide) (fun _ => rfl) (fun x14 => ?_)
            refine z_goto hC 9 dX12_leadsTo_85 (by decide) ?_
            refine z_weak [(0, .ref p0), (1, .int p1), (2, .int s1.1), (3, .int s1.2.1), (4, .int x14)] [0, 1, 2, 3, 4] rfl ?_
            exact z_leaf (fun h => h)

theorem dX12_tells_0 : decode cX12_tells 0 = .ok (.aload_n 0, 1) := by decide +kernel
theorem dX12_tells_1 : decode cX12_tells 1 = .ok (.aload_n 0, 1) := by decide +kernel
theorem dX12_tells_2 : decode cX12_tells 2 = .ok (.getfield 121, 3) := by decide +kernel
theorem dX12_tells_5 : decode cX12_tells 5 = .ok (.putfield 313, 3) := by decide +kernel
theorem dX12_tells_8 : decode cX12_tells 8 = .ok (.aload_n 0, 1) := by decide +kernel
theorem dX12_tells_9 : decode cX12_tells 9 = .ok (.iconst 0, 1) := by decide +kernel
theorem dX12_tells_10 : decode cX12_tells 10 = .ok (.putfield 316, 3) := by decide +kernel
theorem dX12_tells_13 : decode cX12_tells 13 = .ok (.aload_n 0, 1) := by decide +kernel
theorem dX12_tells_14 : decode cX12_tells 14 = .ok (.getfield 319, 3) := by decide +kernel
theorem dX12_tells_17 : decode cX12_tells 17 = .ok (.iconst 1, 1) := by decide +kernel
theorem dX12_tells_18 : decode cX12_tells 18 = .ok (.if_icmp .eq 13, 3) := by decide +kernel
theorem dX12_tells_21 : decode cX12_tells 21 = .ok (.aload_n 0, 1) := by decide +kernel
theorem dX12_tells_22 : decode cX12_tells 22 = .ok (.getfield 238, 3) := by decide +kernel
theorem dX12_tells_25 : decode cX12_tells 25 = .ok (.sipush 8640, 3) := by decide +kernel
theorem dX12_tells_28 : decode cX12_tells 28 = .ok (.if_icmp .ne 6, 3) := by decide +kernel
theorem dX12_tells_31 : decode cX12_tells 31 = .ok (.bipush (-5), 2) := by decide +kernel
theorem dX12_tells_33 : decode cX12_tells 33 = .ok (.ireturn, 1) := by decide +kernel
theorem dX12_tells_34 : decode cX12_tells 34 = .ok (.aload_n 0, 1) := by decide +kernel
theorem dX12_tells_35 : decode cX12_tells 35 = .ok (.getfield 302, 3) := by decide +kernel
theorem dX12_tells_38 : decode cX12_tells 38 = .ok (.iload_n 1, 1) := by decide +kernel
theorem dX12_tells_39 : decode cX12_tells 39 = .ok (.invokestatic 107, 3) := by decide +kernel
theorem dX12_tells_42 : decode cX12_tells 42 = .ok (.ifCond .eq 6, 3) := by decide +kernel
theorem dX12_tells_45 : decode cX12_tells 45 = .ok (.bipush (-4), 2) := by decide +kernel
theorem dX12_tells_47 : decode cX12_tells 47 = .ok (.ireturn, 1) := by decide +kernel
theorem dX12_tells_48 : decode cX12_tells 48 = .ok (.aload_n 0, 1) := by decide +kernel
theorem dX12_tells_49 : decode cX12_tells 49 = .ok (.iload_n 1, 1) := by decide +kernel
theorem dX12_tells_50 : decode cX12_tells 50 = .ok (.invokevirtual 322, 3) := by decide +kernel
theorem dX12_tells_53 : decode cX12_tells 53 = .ok (.istore_n 2, 1) := by decide +kernel
theorem dX12_tells_54 : decode cX12_tells 54 = .ok (.iload_n 2, 1) := by decide +kernel
theorem dX12_tells_55 : decode cX12_tells 55 = .ok (.iconst (-1), 1) := by decide +kernel
theorem dX12_tells_56 : decode cX12_tells 56 = .ok (.if_icmp .ne 6, 3) := by decide +kernel
theorem dX12_tells_59 : decode cX12_tells 59 = .ok (.bipush (-2), 2) := by decide +kernel
theorem dX12_tells_61 : decode cX12_tells 61 = .ok (.ireturn, 1) := by decide +kernel
theorem dX12_tells_62 : decode cX12_tells 62 = .ok (.aload_n 0, 1) := by decide +kernel
theorem dX12_tells_63 : decode cX12_tells 63 = .ok (.iload_n 1, 1) := by decide +kernel
theorem dX12_tells_64 : decode cX12_tells 64 = .ok (.iload_n 2, 1) := by decide +kernel
theorem dX12_tells_65 : decode cX12_tells 65 = .ok (.aload_n 0, 1) := by decide +kernel
theorem dX12_tells_66 : decode cX12_tells 66 = .ok (.getfield 121, 3) := by decide +kernel
theorem dX12_tells_69 : decode cX12_tells 69 = .ok (.ixor, 1) := by decide +kernel
theorem dX12_tells_70 : decode cX12_tells 70 = .ok (.invokevirtual 325, 3) := by decide +kernel
theorem dX12_tells_73 : decode cX12_tells 73 = .ok (.aload_n 0, 1) := by decide +kernel
theorem dX12_tells_74 : decode cX12_tells 74 = .ok (.invokevirtual 328, 3) := by decide +kernel
theorem dX12_tells_77 : decode cX12_tells 77 = .ok (.ifCond .eq 6, 3) := by decide +kernel
theorem dX12_tells_80 : decode cX12_tells 80 = .ok (.bipush (-3), 2) := by decide +kernel
theorem dX12_tells_82 : decode cX12_tells 82 = .ok (.ireturn, 1) := by decide +kernel
theorem dX12_tells_83 : decode cX12_tells 83 = .ok (.aload_n 0, 1) := by decide +kernel
theorem dX12_tells_84 : decode cX12_tells 84 = .ok (.iload_n 2, 1) := by decide +kernel
theorem dX12_tells_85 : decode cX12_tells 85 = .ok (.putfield 313, 3) := by decide +kernel
theorem dX12_tells_88 : decode cX12_tells 88 = .ok (.aload_n 0, 1) := by decide +kernel
theorem dX12_tells_89 : decode cX12_tells 89 = .ok (.aload_n 0, 1) := by decide +kernel
theorem dX12_tells_90 : decode cX12_tells 90 = .ok (.bipush 100, 2) := by decide +kernel
theorem dX12_tells_92 : decode cX12_tells 92 = .ok (.sipush 999, 3) := by decide +kernel
theorem dX12_tells_95 : decode cX12_tells 95 = .ok (.invokevirtual 331, 3) := by decide +kernel
theorem dX12_tells_98 : decode cX12_tells 98 = .ok (.putfield 334, 3) := by decide +kernel
theorem dX12_tells_101 : decode cX12_tells 101 = .ok (.aload_n 0, 1) := by decide +kernel
theorem dX12_tells_102 : decode cX12_tells 102 = .ok (.aload_n 0, 1) := by decide +kernel
theorem dX12_tells_103 : decode cX12_tells 103 = .ok (.bipush 103, 2) := by decide +kernel
theorem dX12_tells_105 : decode cX12_tells 105 = .ok (.bipush 99, 2) := by decide +kernel
theorem dX12_tells_107 : decode cX12_tells 107 = .ok (.invokevirtual 331, 3) := by decide +kernel
theorem dX12_tells_110 : decode cX12_tells 110 = .ok (.putfield 316, 3) := by decide +kernel
theorem dX12_tells_113 : decode cX12_tells 113 = .ok (.aload_n 0, 1) := by decide +kernel
theorem dX12_tells_114 : decode cX12_tells 114 = .ok (.getfield 334, 3) := by decide +kernel
theorem dX12_tells_117 : decode cX12_tells 117 = .ok (.ireturn, 1) := by decide +kernel
def FX12_tells (hp : HP) (p0 : Nat) (p1 : Int32) : Option (Int32 × HP) := (gI [12] 7 hp p0).bind (fun v1 => (sI [12] 45 hp p0 v1).bind (fun hp2 => (sI [12] 47 hp2 p0 (0 : Int32)).bind (fun hp3 => (gI [12] 12 hp3 p0).bind (fun v4 => if v4 = (1 : Int32) then some ((-5 : Int32), hp3) else (gI [12] 8 hp3 p0).bind (fun v5 => if v5 = (8640 : Int32) then some ((-5 : Int32), hp3) else (gI [12] 11 hp3 p0).bind (fun v6 => (FX12_has v6 p1).bind (fun v7 => if v7 = 0 then (rc [12] hp3 p0 (FX12_leadsTo hp3 p0 p1)).bind (fun v8 => if v8 = (-1 : Int32) then some ((-2 : Int32), hp3) else (gI [12] 7 hp3 p0).bind (fun v9 => (rc [12] hp3 p0 (FX12_feels hp3 p0 p1 (v8 ^^^ v9))).bind (fun w10 => (rc [12] w10 p0 (FX12_balks w10 p0)).bind (fun w11 => if w11.1 = 0 then (sI [12] 45 w11.2 p0 v8).bind (fun hp12 => (rc [12] hp12 p0 (FX12_byLaw hp12 p0 (100 : Int32) (999 : Int32))).bind (fun w13 => (sI [12] 46 w13.2 p0 w13.1).bind (fun hp14 => (rc [12] hp14 p0 (FX12_byLaw hp14 p0 (103 : Int32) (99 : Int32))).bind (fun w15 => (sI [12] 47 w15.2 p0 w15.1).bind (fun hp16 => (gI [12] 46 hp16 p0).bind (fun v17 => some (v17, hp16))))))) else some ((-3 : Int32), w11.2))))) else some ((-4 : Int32), hp3))))))))
set_option maxHeartbeats 4000000 in
set_option maxRecDepth 100000 in
theorem ctX12_tells (l : Launch) (D : va_G) (tg : Nat → ClassId) (bs : Nat) (sa : Nat → Nat) (hp : HP) (p0 : Nat) (p1 : Int32) : Ct l D tg bs sa yX12_tells cX12_tells 3 (some .int) 3 [.ref p0, .int p1] hp (FX12_tells hp p0 p1) (fun r => some (.int r.1)) (fun r => r.2) := by
  refine Ct.of (by decide) (Nat.le_of_ble_eq_true rfl) ?_
  intro V Q hVl hVd hVt hVb hVs hC
  subst hVl; subst hVd; subst hVt; subst hVb; subst hVs
  unfold FX12_tells
  show Zs V Q (0, 0) 3 _ _ hp [(0, .ref p0), (1, .int p1)] 0 []
  refine z_aload_n hC 0 dX12_tells_0 rfl rfl ?_
  refine z_aload_n hC 0 dX12_tells_1 rfl rfl ?_
  refine z_getI hC lgRX12_121 dX12_tells_2 (fun v1 => ?_)
  refine z_putI hC lpRX12_313 dX12_tells_5 (fun hp2 => ?_)
  refine z_aload_n hC 0 dX12_tells_8 rfl rfl ?_
  refine z_iconst hC (0 : Int32) dX12_tells_9 (by decide) ?_
  refine z_putI hC lpRX12_316 dX12_tells_10 (fun hp3 => ?_)
  refine z_aload_n hC 0 dX12_tells_13 rfl rfl ?_
  refine z_getI hC lgRX12_319 dX12_tells_14 (fun v4 => ?_)
  refine z_iconst hC (1 : Int32) dX12_tells_17 (by decide) ?_
  refine z_icmp_eq hC 31 dX12_tells_18 (by decide) (fun _ => ?_) (fun _ => ?_)
  · refine z_bipush hC (-5 : Int32) dX12_tells_31 (by decide) ?_
    exact z_iret hC (fun h => h) dX12_tells_33
  · refine z_aload_n hC 0 dX12_tells_21 rfl rfl ?_
    refine z_getI hC lgRX12_238 dX12_tells_22 (fun v5 => ?_)
    refine z_sipush hC (8640 : Int32) dX12_tells_25 (by decide) ?_
    refine z_icmp_ne hC 34 dX12_tells_28 (by decide) (fun _ => ?_) (fun _ => ?_)
    · refine z_bipush hC (-5 : Int32) dX12_tells_31 (by decide) ?_
      exact z_iret hC (fun h => h) dX12_tells_33
    · refine z_aload_n hC 0 dX12_tells_34 rfl rfl ?_
      refine z_getI hC lgRX12_302 dX12_tells_35 (fun v6 => ?_)
      refine z_iload_n hC 1 dX12_tells_38 rfl rfl ?_
      refine z_callSi hC lmRX12_107 (ctX12_has (vLa V) (vDa V) (vTg V) (vBs V) (vSa V) hp3 v6 p1) (by decide) hn0 dX12_tells_39 rfl rfl (Nat.le_of_ble_eq_true rfl) (fun v7 => ?_)
      refine z_if_eq hC 48 dX12_tells_42 (by decide) (fun _ => ?_) (fun _ => ?_)
      · refine z_aload_n hC 0 dX12_tells_48 rfl rfl ?_
        refine z_iload_n hC 1 dX12_tells_49 rfl rfl ?_
        refine z_callVi hC (ci := 12) rfl lmRX12_322 (ctX12_leadsTo (vLa V) (vDa V) (vTg V) (vBs V) (vSa V) hp3 p0 p1) (by decide) hn0 dX12_tells_50 rfl rfl (Nat.le_of_ble_eq_true rfl) (fun v8 => ?_)
        refine z_istore_n hC [(0, .ref p0), (1, .int p1), (2, .int v8)] [1, 2, 0] dX12_tells_53 rfl (by decide) rfl ?_
        refine z_iload_n hC 2 dX12_tells_54 rfl rfl ?_
        refine z_iconst hC (-1 : Int32) dX12_tells_55 (by decide) ?_
        refine z_icmp_ne hC 62 dX12_tells_56 (by decide) (fun _ => ?_) (fun _ => ?_)
        · refine z_bipush hC (-2 : Int32) dX12_tells_59 (by decide) ?_
          exact z_iret hC (fun h => h) dX12_tells_61
        · refine z_aload_n hC 0 dX12_tells_62 rfl rfl ?_
          refine z_iload_n hC 1 dX12_tells_63 rfl rfl ?_
          refine z_iload_n hC 2 dX12_tells_64 rfl rfl ?_
          refine z_aload_n hC 0 dX12_tells_65 rfl rfl ?_
          refine z_getI hC lgRX12_121 dX12_tells_66 (fun v9 => ?_)
          refine z_ixor hC dX12_tells_69 ?_
          refine z_callVv hC (ci := 12) rfl lmRX12_325 (ctX12_feels (vLa V) (vDa V) (vTg V) (vBs V) (vSa V) hp3 p0 p1 (v8 ^^^ v9)) (by decide) hn0 dX12_tells_70 rfl rfl (Nat.le_of_ble_eq_true rfl) (fun w10 => ?_)
          refine z_aload_n hC 0 dX12_tells_73 rfl rfl ?_
          refine z_callVi hC (ci := 12) rfl lmRX12_328 (ctX12_balks (vLa V) (vDa V) (vTg V) (vBs V) (vSa V) w10 p0) (by decide) hn0 dX12_tells_74 rfl rfl (Nat.le_of_ble_eq_true rfl) (fun w11 => ?_)
          refine z_if_eq hC 83 dX12_tells_77 (by decide) (fun _ => ?_) (fun _ => ?_)
          · refine z_aload_n hC 0 dX12_tells_83 rfl rfl ?_
            refine z_iload_n hC 2 dX12_tells_84 rfl rfl ?_
            refine z_putI hC lpRX12_313 dX12_tells_85 (fun hp12 => ?_)
            refine z_aload_n hC 0 dX12_tells_88 rfl rfl ?_
            refine z_aload_n hC 0 dX12_tells_89 rfl rfl ?_
            refine z_bipush hC (100 : Int32) dX12_tells_90 (by decide) ?_
            refine z_sipush hC (999 : Int32) dX12_tells_92 (by decide) ?_
            refine z_callVi hC (ci := 12) rfl lmRX12_331 (ctX12_byLaw (vLa V) (vDa V) (vTg V) (vBs V) (vSa V) hp12 p0 (100 : Int32) (999 : Int32)) (by decide) hn0 dX12_tells_95 rfl rfl (Nat.le_of_ble_eq_true rfl) (fun w13 => ?_)
            refine z_putI hC lpRX12_334 dX12_tells_98 (fun hp14 => ?_)
            refine z_aload_n hC 0 dX12_tells_101 rfl rfl ?_
            refine z_aload_n hC 0 dX12_tells_102 rfl rfl ?_
            refine z_bipush hC (103 : Int32) dX12_tells_103 (by decide) ?_
            refine z_bipush hC (99 : Int32) dX12_tells_105 (by decide) ?_
            refine z_callVi hC (ci := 12) rfl lmRX12_331 (ctX12_byLaw (vLa V) (vDa V) (vTg V) (vBs V) (vSa V) hp14 p0 (103 : Int32) (99 : Int32)) (by decide) hn0 dX12_tells_107 rfl rfl (Nat.le_of_ble_eq_true rfl) (fun w15 => ?_)
            refine z_putI hC lpRX12_316 dX12_tells_110 (fun hp16 => ?_)
            refine z_aload_n hC 0 dX12_tells_113 rfl rfl ?_
            refine z_getI hC lgRX12_334 dX12_tells_114 (fun v17 => ?_)
            exact z_iret hC (fun h => h) dX12_tells_117
          · refine z_bipush hC (-3 : Int32) dX12_tells_80 (by decide) ?_
            exact z_iret hC (fun h => h) dX12_tells_82
      · refine z_bipush hC (-4 : Int32) dX12_tells_45 (by decide) ?_
        exact z_iret hC (fun h => h) dX12_tells_47

