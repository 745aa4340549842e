/-! the law's entry: its loop -/
section
variable {V : VT} {Q : State → Prop} {b L : Nat} {xs : Nat → Int32}
set_option maxHeartbeats 2000000 in
theorem law_body {i : Nat} {w : WD} (hC : CX V code R_law 4 ret 60) (hn : 106 ≤ (vRo V).cells ∧ 26231 ≤ (vRo V).slots) (hX : SX V b L xs) (hL : L ≤ 3072) (hi : i + 6 ≤ L) (h : Rel RLaw w) (kk : ∀ w2, Rel RLaw w2 → ZP V Q (106, 26231) 4 (mk (vBs V) w2) (lvL (vBs V) b i) 1240 []) : ∀ x : Int32, ZP V Q (106, 26231) 4 (mk (vBs V) w) (lvL (vBs V) b i) 33 [.int x] := by
  intro x
  rcases pk_ix x (show 35 < 2 ^ 31 by decide) with e | e | ⟨k, hk, e⟩
  · refine z_tswd hC 1240 dW_33 (by decide) (Or.inl ?_) (kk w h)
    rw [Int32.lt_iff_toInt_lt] at e
    exact e
  · refine z_tswd hC 1240 dW_33 (by decide) (Or.inr ?_) (kk w h)
    rw [Int32.le_iff_toInt_le] at e
    have e2 : (nI 35).toInt = 35 := by decide
    omega
  · obtain rfl | rfl | rfl | rfl | rfl | rfl | rfl | rfl | rfl | rfl | rfl | rfl | rfl | rfl | rfl | rfl | rfl | rfl | rfl | rfl | rfl | rfl | rfl | rfl | rfl | rfl | rfl | rfl | rfl | rfl | rfl | rfl | rfl | rfl | rfl := (show k = 0 ∨ k = 1 ∨ k = 2 ∨ k = 3 ∨ k = 4 ∨ k = 5 ∨ k = 6 ∨ k = 7 ∨ k = 8 ∨ k = 9 ∨ k = 10 ∨ k = 11 ∨ k = 12 ∨ k = 13 ∨ k = 14 ∨ k = 15 ∨ k = 16 ∨ k = 17 ∨ k = 18 ∨ k = 19 ∨ k = 20 ∨ k = 21 ∨ k = 22 ∨ k = 23 ∨ k = 24 ∨ k = 25 ∨ k = 26 ∨ k = 27 ∨ k = 28 ∨ k = 29 ∨ k = 30 ∨ k = 31 ∨ k = 32 ∨ k = 33 ∨ k = 34 by omega)
    · exact k_tsw (0 : Int32) 188 155 hC e dW_33 (by decide) (by decide) rfl (by decide) (law_c0 hC hn hX hL hi h kk)
    · exact k_tsw (1 : Int32) 237 204 hC e dW_33 (by decide) (by decide) rfl (by decide) (law_c1 hC hn hX hL hi h kk)
    · exact k_tsw (2 : Int32) 270 237 hC e dW_33 (by decide) (by decide) rfl (by decide) (law_c2 hC hn hX hL hi h kk)
    · exact k_tsw (3 : Int32) 333 300 hC e dW_33 (by decide) (by decide) rfl (by decide) (law_c3 hC hn hX hL hi h kk)
    · exact k_tsw (4 : Int32) 356 323 hC e dW_33 (by decide) (by decide) rfl (by decide) (law_c4 hC hn hX hL hi h kk)
    · exact k_tsw (5 : Int32) 389 356 hC e dW_33 (by decide) (by decide) rfl (by decide) (law_c5 hC hn hX hL hi h kk)
    · exact k_tsw (6 : Int32) 422 389 hC e dW_33 (by decide) (by decide) rfl (by decide) (law_c6 hC hn hX hL hi h kk)
    · exact k_tsw (7 : Int32) 445 412 hC e dW_33 (by decide) (by decide) rfl (by decide) (law_c7 hC hn hX hL hi h kk)
    · exact k_tsw (8 : Int32) 468 435 hC e dW_33 (by decide) (by decide) rfl (by decide) (law_c8 hC hn hX hL hi h kk)
    · exact k_tsw (9 : Int32) 501 468 hC e dW_33 (by decide) (by decide) rfl (by decide) (law_c9 hC hn hX hL hi h kk)
    · exact k_tsw (10 : Int32) 524 491 hC e dW_33 (by decide) (by decide) rfl (by decide) (law_c10 hC hn hX hL hi h kk)
    · exact k_tsw (11 : Int32) 547 514 hC e dW_33 (by decide) (by decide) rfl (by decide) (law_c11 hC hn hX hL hi h kk)
    · exact k_tsw (12 : Int32) 580 547 hC e dW_33 (by decide) (by decide) rfl (by decide) (law_c12 hC hn hX hL hi h kk)
    · exact k_tsw (13 : Int32) 613 580 hC e dW_33 (by decide) (by decide) rfl (by decide) (law_c13 hC hn hX hL hi h kk)
    · exact k_tsw (14 : Int32) 636 603 hC e dW_33 (by decide) (by decide) rfl (by decide) (law_c14 hC hn hX hL hi h kk)
    · exact k_tsw (15 : Int32) 649 616 hC e dW_33 (by decide) (by decide) rfl (by decide) (law_c15 hC hn hX hL hi h kk)
    · exact k_tsw (16 : Int32) 682 649 hC e dW_33 (by decide) (by decide) rfl (by decide) (law_c16 hC hn hX hL hi h kk)
    · exact k_tsw (17 : Int32) 715 682 hC e dW_33 (by decide) (by decide) rfl (by decide) (law_c17 hC hn hX hL hi h kk)
    · exact k_tsw (18 : Int32) 758 725 hC e dW_33 (by decide) (by decide) rfl (by decide) (law_c18 hC hn hX hL hi h kk)
    · exact k_tsw (19 : Int32) 791 758 hC e dW_33 (by decide) (by decide) rfl (by decide) (law_c19 hC hn hX hL hi h kk)
    · exact k_tsw (20 : Int32) 824 791 hC e dW_33 (by decide) (by decide) rfl (by decide) (law_c20 hC hn hX hL hi h kk)
    · exact k_tsw (21 : Int32) 857 824 hC e dW_33 (by decide) (by decide) rfl (by decide) (law_c21 hC hn hX hL hi h kk)
    · exact k_tsw (22 : Int32) 890 857 hC e dW_33 (by decide) (by decide) rfl (by decide) (law_c22 hC hn hX hL hi h kk)
    · exact k_tsw (23 : Int32) 924 891 hC e dW_33 (by decide) (by decide) rfl (by decide) (law_c23 hC hn hX hL hi h kk)
    · exact k_tsw (24 : Int32) 967 934 hC e dW_33 (by decide) (by decide) rfl (by decide) (law_c24 hC hn hX hL hi h kk)
    · exact k_tsw (25 : Int32) 1010 977 hC e dW_33 (by decide) (by decide) rfl (by decide) (law_c25 hC hn hX hL hi h kk)
    · exact k_tsw (26 : Int32) 1023 990 hC e dW_33 (by decide) (by decide) rfl (by decide) (law_c26 hC hn hX hL hi h kk)
    · exact k_tsw (27 : Int32) 1046 1013 hC e dW_33 (by decide) (by decide) rfl (by decide) (law_c27 hC hn hX hL hi h kk)
    · exact k_tsw (28 : Int32) 1079 1046 hC e dW_33 (by decide) (by decide) rfl (by decide) (law_c28 hC hn hX hL hi h kk)
    · exact k_tsw (29 : Int32) 1102 1069 hC e dW_33 (by decide) (by decide) rfl (by decide) (law_c29 hC hn hX hL hi h kk)
    · exact k_tsw (30 : Int32) 1135 1102 hC e dW_33 (by decide) (by decide) rfl (by decide) (law_c30 hC hn hX hL hi h kk)
    · exact k_tsw (31 : Int32) 1168 1135 hC e dW_33 (by decide) (by decide) rfl (by decide) (law_c31 hC hn hX hL hi h kk)
    · exact k_tsw (32 : Int32) 1181 1148 hC e dW_33 (by decide) (by decide) rfl (by decide) (law_c32 hC hn hX hL hi h kk)
    · exact k_tsw (33 : Int32) 1194 1161 hC e dW_33 (by decide) (by decide) rfl (by decide) (law_c33 hC hn hX hL hi h kk)
    · exact k_tsw (34 : Int32) 1217 1184 hC e dW_33 (by decide) (by decide) rfl (by decide) (law_c34 hC hn hX hL hi h kk)
set_option maxHeartbeats 1000000 in
theorem law_loop (hC : CX V code R_law 4 ret 60) (hn : 106 ≤ (vRo V).cells ∧ 26231 ≤ (vRo V).slots) (hX : SX V b L xs) (hL : L ≤ 3072) (hend : ∀ (w : WD) (i : Nat), ZP V Q (106, 26231) 4 (mk (vBs V) w) (lvL (vBs V) b i) 1246 []) : ∀ (d i : Nat) (w : WD), i ≤ 4000 → L < i + 6 * d + 6 → Rel RLaw w → ZP V Q (106, 26231) 4 (mk (vBs V) w) (lvL (vBs V) b i) 18 [] := by
  intro d
  induction d with
  | zero =>
    intro i w hi h1 h
    refine z_iload_n hC 0 dW_18 rfl rfl ?_
    refine z_aload_n hC 3 dW_19 rfl rfl ?_
    refine k_slen hC hX dW_20 ?_
    refine z_bipush hC (6 : Int32) dW_21 (by decide) ?_
    refine z_isub hC dW_23 ?_
    exact k_gt_yes 1246 hC (gt_yes (by omega) (by omega)) dW_24 (by decide) (hend w i)
  | succ d ih =>
    intro i w hi h1 h
    refine z_iload_n hC 0 dW_18 rfl rfl ?_
    refine z_aload_n hC 3 dW_19 rfl rfl ?_
    refine k_slen hC hX dW_20 ?_
    refine z_bipush hC (6 : Int32) dW_21 (by decide) ?_
    refine z_isub hC dW_23 ?_
    rcases Nat.lt_or_ge L (i + 6) with c | c
    · exact k_gt_yes 1246 hC (gt_yes (by omega) c) dW_24 (by decide) (hend w i)
    · refine k_gt_no 1246 hC (gt_no (by omega) c) dW_24 (by decide) ?_
      refine z_aload_n hC 3 dW_27 rfl rfl ?_
      refine z_iload_n hC 0 dW_28 rfl rfl ?_
      refine k_sld hC hX (nI_in (show i < L by omega) (by omega)) dW_29 ?_
      refine z_bipush hC (63 : Int32) dW_30 (by decide) ?_
      refine z_iand hC dW_32 ?_
      refine law_body hC hn hX hL c h (fun w2 h2 => ?_) _
      refine z_iinc hC (nI (i + 6)) 0 (lvL (vBs V) b (i + 6)) [0, 1, 2, 3] dW_1240 rfl ((congrArg (fun z => nI i + z) (show Int32.ofInt 6 = nI 6 by decide)).trans (nI_add i 6)) (by decide) rfl ?_
      refine z_goto hC 18 dW_1243 (by decide) ?_
      exact ih (i + 6) w2 (by omega) (by omega) h2
end
