/-! the law's entry: its cases, the rest -/
section
variable {V : VT} {Q : State → Prop} {b L : Nat} {xs : Nat → Int32}
set_option maxHeartbeats 1000000 in
theorem law_c18 {i : Nat} {w : WD} (hC : CX V code R_law 4 ret 60) (hn : 106 ≤ (vRo V).cells ∧ 26231 ≤ (vRo V).slots) (hX : SX V b L xs) (hL : L ≤ 3072) (hi : i + 6 ≤ L) (h : Rel RLaw w) (kk : ∀ w2, Rel RLaw w2 → ZP V Q (106, 26231) 4 (mk (vBs V) w2) (lvL (vBs V) b i) 1240 []) : ZP V Q (106, 26231) 4 (mk (vBs V) w) (lvL (vBs V) b i) 758 [] := by
  obtain ⟨r, w1, w2, e1, e2, hR⟩ := op_word RLaw_LOK h (b := vBs V) (xs (i + 1)) (xs (i + 2))
  refine z_aload_n hC 2 dW_758 rfl rfl ?_
  refine k_arg 1 hC hX hi hL (by decide) rfl rfl (by decide) dW_759 dW_760 dW_761 dW_762 dW_763 ?_
  refine k_arg 2 hC hX hi hL (by decide) rfl rfl (by decide) dW_764 dW_765 dW_766 dW_767 dW_768 ?_
  refine k_cVi (v := (r, mk (vBs V) w1)) hC (ci := 11) rfl lmW_93 (ctX11_word (vLa V) (vDa V) (vTg V) (vBs V) (vSa V) (mk (vBs V) w) (vBs V + 0) (xs (i + 1)) (xs (i + 2))) (by decide) hn dW_769 rfl rfl (Nat.le_of_ble_eq_true rfl) (isO_mk iO11 _ _) e1 ?_
  refine z_aload_n hC 1 dW_772 rfl rfl ?_
  refine k_arg 1 hC hX hi hL (by decide) rfl rfl (by decide) dW_773 dW_774 dW_775 dW_776 dW_777 ?_
  refine k_arg 2 hC hX hi hL (by decide) rfl rfl (by decide) dW_778 dW_779 dW_780 dW_781 dW_782 ?_
  refine k_cVi (v := (r, mk (vBs V) w2)) hC (ci := 12) rfl lmW_96 (ctX12_word (vLa V) (vDa V) (vTg V) (vBs V) (vSa V) (mk (vBs V) w1) (vBs V + 77) (xs (i + 1)) (xs (i + 2))) (by decide) hn dW_783 rfl rfl (Nat.le_of_ble_eq_true rfl) (isO_mk iO12 _ _) e2 ?_
  refine k_eq_yes 1240 hC rfl dW_786 (by decide) ?_
  exact kk _ hR
set_option maxHeartbeats 1000000 in
theorem law_c19 {i : Nat} {w : WD} (hC : CX V code R_law 4 ret 60) (hn : 106 ≤ (vRo V).cells ∧ 26231 ≤ (vRo V).slots) (hX : SX V b L xs) (hL : L ≤ 3072) (hi : i + 6 ≤ L) (h : Rel RLaw w) (kk : ∀ w2, Rel RLaw w2 → ZP V Q (106, 26231) 4 (mk (vBs V) w2) (lvL (vBs V) b i) 1240 []) : ZP V Q (106, 26231) 4 (mk (vBs V) w) (lvL (vBs V) b i) 791 [] := by
  obtain ⟨r, e1, e2⟩ := op_power h (b := vBs V) (xs (i + 1)) (xs (i + 2))
  refine z_aload_n hC 2 dW_791 rfl rfl ?_
  refine k_arg 1 hC hX hi hL (by decide) rfl rfl (by decide) dW_792 dW_793 dW_794 dW_795 dW_796 ?_
  refine k_arg 2 hC hX hi hL (by decide) rfl rfl (by decide) dW_797 dW_798 dW_799 dW_800 dW_801 ?_
  refine k_cVi (v := r) hC (ci := 11) rfl lmW_97 (ctX11_power (vLa V) (vDa V) (vTg V) (vBs V) (vSa V) (mk (vBs V) w) (vBs V + 0) (xs (i + 1)) (xs (i + 2))) (by decide) hn dW_802 rfl rfl (Nat.le_of_ble_eq_true rfl) (isO_mk iO11 _ _) e1 ?_
  refine z_aload_n hC 1 dW_805 rfl rfl ?_
  refine k_arg 1 hC hX hi hL (by decide) rfl rfl (by decide) dW_806 dW_807 dW_808 dW_809 dW_810 ?_
  refine k_arg 2 hC hX hi hL (by decide) rfl rfl (by decide) dW_811 dW_812 dW_813 dW_814 dW_815 ?_
  refine k_cVi (v := r) hC (ci := 12) rfl lmW_100 (ctX12_power (vLa V) (vDa V) (vTg V) (vBs V) (vSa V) (mk (vBs V) w) (vBs V + 77) (xs (i + 1)) (xs (i + 2))) (by decide) hn dW_816 rfl rfl (Nat.le_of_ble_eq_true rfl) (isO_mk iO12 _ _) e2 ?_
  refine k_eq_yes 1240 hC rfl dW_819 (by decide) ?_
  exact kk _ h
set_option maxHeartbeats 1000000 in
theorem law_c20 {i : Nat} {w : WD} (hC : CX V code R_law 4 ret 60) (hn : 106 ≤ (vRo V).cells ∧ 26231 ≤ (vRo V).slots) (hX : SX V b L xs) (hL : L ≤ 3072) (hi : i + 6 ≤ L) (h : Rel RLaw w) (kk : ∀ w2, Rel RLaw w2 → ZP V Q (106, 26231) 4 (mk (vBs V) w2) (lvL (vBs V) b i) 1240 []) : ZP V Q (106, 26231) 4 (mk (vBs V) w) (lvL (vBs V) b i) 824 [] := by
  obtain ⟨r, e1, e2⟩ := op_like h (b := vBs V) (xs (i + 1)) (xs (i + 2))
  refine z_aload_n hC 2 dW_824 rfl rfl ?_
  refine k_arg 1 hC hX hi hL (by decide) rfl rfl (by decide) dW_825 dW_826 dW_827 dW_828 dW_829 ?_
  refine k_arg 2 hC hX hi hL (by decide) rfl rfl (by decide) dW_830 dW_831 dW_832 dW_833 dW_834 ?_
  refine k_cVi (v := r) hC (ci := 11) rfl lmW_101 (ctX11_like (vLa V) (vDa V) (vTg V) (vBs V) (vSa V) (mk (vBs V) w) (vBs V + 0) (xs (i + 1)) (xs (i + 2))) (by decide) hn dW_835 rfl rfl (Nat.le_of_ble_eq_true rfl) (isO_mk iO11 _ _) e1 ?_
  refine z_aload_n hC 1 dW_838 rfl rfl ?_
  refine k_arg 1 hC hX hi hL (by decide) rfl rfl (by decide) dW_839 dW_840 dW_841 dW_842 dW_843 ?_
  refine k_arg 2 hC hX hi hL (by decide) rfl rfl (by decide) dW_844 dW_845 dW_846 dW_847 dW_848 ?_
  refine k_cVi (v := r) hC (ci := 12) rfl lmW_104 (ctX12_like (vLa V) (vDa V) (vTg V) (vBs V) (vSa V) (mk (vBs V) w) (vBs V + 77) (xs (i + 1)) (xs (i + 2))) (by decide) hn dW_849 rfl rfl (Nat.le_of_ble_eq_true rfl) (isO_mk iO12 _ _) e2 ?_
  refine k_eq_yes 1240 hC rfl dW_852 (by decide) ?_
  exact kk _ h
set_option maxHeartbeats 1000000 in
theorem law_c21 {i : Nat} {w : WD} (hC : CX V code R_law 4 ret 60) (hn : 106 ≤ (vRo V).cells ∧ 26231 ≤ (vRo V).slots) (hX : SX V b L xs) (hL : L ≤ 3072) (hi : i + 6 ≤ L) (h : Rel RLaw w) (kk : ∀ w2, Rel RLaw w2 → ZP V Q (106, 26231) 4 (mk (vBs V) w2) (lvL (vBs V) b i) 1240 []) : ZP V Q (106, 26231) 4 (mk (vBs V) w) (lvL (vBs V) b i) 857 [] := by
  obtain ⟨r, w1, w2, e1, e2, hR⟩ := op_ladder RLaw_LOK h (b := vBs V) (xs (i + 1)) (xs (i + 2))
  refine z_aload_n hC 2 dW_857 rfl rfl ?_
  refine k_arg 1 hC hX hi hL (by decide) rfl rfl (by decide) dW_858 dW_859 dW_860 dW_861 dW_862 ?_
  refine k_arg 2 hC hX hi hL (by decide) rfl rfl (by decide) dW_863 dW_864 dW_865 dW_866 dW_867 ?_
  refine k_cVi (v := (r, mk (vBs V) w1)) hC (ci := 11) rfl lmW_105 (ctX11_ladder (vLa V) (vDa V) (vTg V) (vBs V) (vSa V) (mk (vBs V) w) (vBs V + 0) (xs (i + 1)) (xs (i + 2))) (by decide) hn dW_868 rfl rfl (Nat.le_of_ble_eq_true rfl) (isO_mk iO11 _ _) e1 ?_
  refine z_aload_n hC 1 dW_871 rfl rfl ?_
  refine k_arg 1 hC hX hi hL (by decide) rfl rfl (by decide) dW_872 dW_873 dW_874 dW_875 dW_876 ?_
  refine k_arg 2 hC hX hi hL (by decide) rfl rfl (by decide) dW_877 dW_878 dW_879 dW_880 dW_881 ?_
  refine k_cVi (v := (r, mk (vBs V) w2)) hC (ci := 12) rfl lmW_108 (ctX12_ladder (vLa V) (vDa V) (vTg V) (vBs V) (vSa V) (mk (vBs V) w1) (vBs V + 77) (xs (i + 1)) (xs (i + 2))) (by decide) hn dW_882 rfl rfl (Nat.le_of_ble_eq_true rfl) (isO_mk iO12 _ _) e2 ?_
  refine k_eq_yes 1240 hC rfl dW_885 (by decide) ?_
  exact kk _ hR
set_option maxHeartbeats 1000000 in
theorem law_c22 {i : Nat} {w : WD} (hC : CX V code R_law 4 ret 60) (hn : 106 ≤ (vRo V).cells ∧ 26231 ≤ (vRo V).slots) (hX : SX V b L xs) (hL : L ≤ 3072) (hi : i + 6 ≤ L) (h : Rel RLaw w) (kk : ∀ w2, Rel RLaw w2 → ZP V Q (106, 26231) 4 (mk (vBs V) w2) (lvL (vBs V) b i) 1240 []) : ZP V Q (106, 26231) 4 (mk (vBs V) w) (lvL (vBs V) b i) 890 [] := by
  obtain ⟨r, w1, w2, e1, e2, hR⟩ := op_likely RLaw_LOK h (b := vBs V) (xs (i + 1)) (xs (i + 2))
  refine z_aload_n hC 2 dW_890 rfl rfl ?_
  refine k_arg 1 hC hX hi hL (by decide) rfl rfl (by decide) dW_891 dW_892 dW_893 dW_894 dW_895 ?_
  refine k_arg 2 hC hX hi hL (by decide) rfl rfl (by decide) dW_896 dW_897 dW_898 dW_899 dW_900 ?_
  refine k_cVl (v := (r, mk (vBs V) w1)) hC (ci := 11) rfl lmW_109 (ctX11_likely (vLa V) (vDa V) (vTg V) (vBs V) (vSa V) (mk (vBs V) w) (vBs V + 0) (xs (i + 1)) (xs (i + 2))) (by decide) hn dW_901 rfl rfl (Nat.le_of_ble_eq_true rfl) (isO_mk iO11 _ _) e1 ?_
  refine z_aload_n hC 1 dW_904 rfl rfl ?_
  refine k_arg 1 hC hX hi hL (by decide) rfl rfl (by decide) dW_905 dW_906 dW_907 dW_908 dW_909 ?_
  refine k_arg 2 hC hX hi hL (by decide) rfl rfl (by decide) dW_910 dW_911 dW_912 dW_913 dW_914 ?_
  refine k_cVl (v := (r, mk (vBs V) w2)) hC (ci := 12) rfl lmW_113 (ctX12_likely (vLa V) (vDa V) (vTg V) (vBs V) (vSa V) (mk (vBs V) w1) (vBs V + 77) (xs (i + 1)) (xs (i + 2))) (by decide) hn dW_915 rfl rfl (Nat.le_of_ble_eq_true rfl) (isO_mk iO12 _ _) e2 ?_
  refine z_lcmp hC dW_918 ?_
  refine k_if0_yes 1240 hC (lg_cmp_self _) dW_919 (by decide) ?_
  exact kk _ hR
set_option maxHeartbeats 1000000 in
theorem law_c23 {i : Nat} {w : WD} (hC : CX V code R_law 4 ret 60) (hn : 106 ≤ (vRo V).cells ∧ 26231 ≤ (vRo V).slots) (hX : SX V b L xs) (hL : L ≤ 3072) (hi : i + 6 ≤ L) (h : Rel RLaw w) (kk : ∀ w2, Rel RLaw w2 → ZP V Q (106, 26231) 4 (mk (vBs V) w2) (lvL (vBs V) b i) 1240 []) : ZP V Q (106, 26231) 4 (mk (vBs V) w) (lvL (vBs V) b i) 924 [] := by
  obtain ⟨r, w1, e1, e2, hs⟩ := op_asked RLaw_LOK h (b := vBs V) (xs (i + 1)) (xs (i + 2)) (xs (i + 3))
  refine z_aload_n hC 2 dW_924 rfl rfl ?_
  refine k_arg 1 hC hX hi hL (by decide) rfl rfl (by decide) dW_925 dW_926 dW_927 dW_928 dW_929 ?_
  refine k_arg 2 hC hX hi hL (by decide) rfl rfl (by decide) dW_930 dW_931 dW_932 dW_933 dW_934 ?_
  refine k_arg 3 hC hX hi hL (by decide) rfl rfl (by decide) dW_935 dW_936 dW_937 dW_938 dW_939 ?_
  refine k_cVi (v := (r, mk (vBs V) w1)) hC (ci := 11) rfl lmW_114 (ctX11_asked (vLa V) (vDa V) (vTg V) (vBs V) (vSa V) (mk (vBs V) w) (vBs V + 0) (xs (i + 1)) (xs (i + 2)) (xs (i + 3))) (by decide) hn dW_940 rfl rfl (Nat.le_of_ble_eq_true rfl) (isO_mk iO11 _ _) e1 ?_
  refine z_aload_n hC 1 dW_943 rfl rfl ?_
  refine k_arg 1 hC hX hi hL (by decide) rfl rfl (by decide) dW_944 dW_945 dW_946 dW_947 dW_948 ?_
  refine k_arg 2 hC hX hi hL (by decide) rfl rfl (by decide) dW_949 dW_950 dW_951 dW_952 dW_953 ?_
  refine k_arg 3 hC hX hi hL (by decide) rfl rfl (by decide) dW_954 dW_955 dW_956 dW_957 dW_958 ?_
  refine k_cVi (v := r) hC (ci := 12) rfl lmW_117 (ctX12_asked (vLa V) (vDa V) (vTg V) (vBs V) (vSa V) (mk (vBs V) w1) (vBs V + 77) (xs (i + 1)) (xs (i + 2)) (xs (i + 3))) (by decide) hn dW_959 rfl rfl (Nat.le_of_ble_eq_true rfl) (isO_mk iO12 _ _) e2 ?_
  refine k_eq_yes 1240 hC rfl dW_962 (by decide) ?_
  exact kk _ (Rel_sim RLaw_LOK h hs)
set_option maxHeartbeats 1000000 in
theorem law_c24 {i : Nat} {w : WD} (hC : CX V code R_law 4 ret 60) (hn : 106 ≤ (vRo V).cells ∧ 26231 ≤ (vRo V).slots) (hX : SX V b L xs) (hL : L ≤ 3072) (hi : i + 6 ≤ L) (h : Rel RLaw w) (kk : ∀ w2, Rel RLaw w2 → ZP V Q (106, 26231) 4 (mk (vBs V) w2) (lvL (vBs V) b i) 1240 []) : ZP V Q (106, 26231) 4 (mk (vBs V) w) (lvL (vBs V) b i) 967 [] := by
  obtain ⟨r, w1, e1, e2, hs⟩ := op_questions RLaw_LOK h (b := vBs V) (xs (i + 1)) (xs (i + 2)) (xs (i + 3))
  refine z_aload_n hC 2 dW_967 rfl rfl ?_
  refine k_arg 1 hC hX hi hL (by decide) rfl rfl (by decide) dW_968 dW_969 dW_970 dW_971 dW_972 ?_
  refine k_arg 2 hC hX hi hL (by decide) rfl rfl (by decide) dW_973 dW_974 dW_975 dW_976 dW_977 ?_
  refine k_arg 3 hC hX hi hL (by decide) rfl rfl (by decide) dW_978 dW_979 dW_980 dW_981 dW_982 ?_
  refine k_cVi (v := (r, mk (vBs V) w1)) hC (ci := 11) rfl lmW_118 (ctX11_questions (vLa V) (vDa V) (vTg V) (vBs V) (vSa V) (mk (vBs V) w) (vBs V + 0) (xs (i + 1)) (xs (i + 2)) (xs (i + 3))) (by decide) hn dW_983 rfl rfl (Nat.le_of_ble_eq_true rfl) (isO_mk iO11 _ _) e1 ?_
  refine z_aload_n hC 1 dW_986 rfl rfl ?_
  refine k_arg 1 hC hX hi hL (by decide) rfl rfl (by decide) dW_987 dW_988 dW_989 dW_990 dW_991 ?_
  refine k_arg 2 hC hX hi hL (by decide) rfl rfl (by decide) dW_992 dW_993 dW_994 dW_995 dW_996 ?_
  refine k_arg 3 hC hX hi hL (by decide) rfl rfl (by decide) dW_997 dW_998 dW_999 dW_1000 dW_1001 ?_
  refine k_cVi (v := r) hC (ci := 12) rfl lmW_121 (ctX12_questions (vLa V) (vDa V) (vTg V) (vBs V) (vSa V) (mk (vBs V) w1) (vBs V + 77) (xs (i + 1)) (xs (i + 2)) (xs (i + 3))) (by decide) hn dW_1002 rfl rfl (Nat.le_of_ble_eq_true rfl) (isO_mk iO12 _ _) e2 ?_
  refine k_eq_yes 1240 hC rfl dW_1005 (by decide) ?_
  exact kk _ (Rel_sim RLaw_LOK h hs)
set_option maxHeartbeats 1000000 in
theorem law_c25 {i : Nat} {w : WD} (hC : CX V code R_law 4 ret 60) (hn : 106 ≤ (vRo V).cells ∧ 26231 ≤ (vRo V).slots) (hX : SX V b L xs) (hL : L ≤ 3072) (hi : i + 6 ≤ L) (h : Rel RLaw w) (kk : ∀ w2, Rel RLaw w2 → ZP V Q (106, 26231) 4 (mk (vBs V) w2) (lvL (vBs V) b i) 1240 []) : ZP V Q (106, 26231) 4 (mk (vBs V) w) (lvL (vBs V) b i) 1010 [] := by
  obtain ⟨r, w1, w2, e1, e2, hR⟩ := op_copy RLaw_LOK h (b := vBs V)
  refine z_aload_n hC 2 dW_1010 rfl rfl ?_
  refine k_cVi (v := (r, mk (vBs V) w1)) hC (ci := 11) rfl lmW_122 (ctX11_copy (vLa V) (vDa V) (vTg V) (vBs V) (vSa V) (mk (vBs V) w) (vBs V + 0)) (by decide) hn dW_1011 rfl rfl (Nat.le_of_ble_eq_true rfl) (isO_mk iO11 _ _) e1 ?_
  refine z_aload_n hC 1 dW_1014 rfl rfl ?_
  refine k_cVi (v := (r, mk (vBs V) w2)) hC (ci := 12) rfl lmW_125 (ctX12_copy (vLa V) (vDa V) (vTg V) (vBs V) (vSa V) (mk (vBs V) w1) (vBs V + 77)) (by decide) hn dW_1015 rfl rfl (Nat.le_of_ble_eq_true rfl) (isO_mk iO12 _ _) e2 ?_
  refine k_eq_yes 1240 hC rfl dW_1018 (by decide) ?_
  exact kk _ hR
set_option maxHeartbeats 1000000 in
theorem law_c26 {i : Nat} {w : WD} (hC : CX V code R_law 4 ret 60) (hn : 106 ≤ (vRo V).cells ∧ 26231 ≤ (vRo V).slots) (hX : SX V b L xs) (hL : L ≤ 3072) (hi : i + 6 ≤ L) (h : Rel RLaw w) (kk : ∀ w2, Rel RLaw w2 → ZP V Q (106, 26231) 4 (mk (vBs V) w2) (lvL (vBs V) b i) 1240 []) : ZP V Q (106, 26231) 4 (mk (vBs V) w) (lvL (vBs V) b i) 1023 [] := by
  obtain ⟨r, e1, e2⟩ := op_compare h (b := vBs V) (xs (i + 1))
  refine z_aload_n hC 2 dW_1023 rfl rfl ?_
  refine k_arg 1 hC hX hi hL (by decide) rfl rfl (by decide) dW_1024 dW_1025 dW_1026 dW_1027 dW_1028 ?_
  refine k_cVi (v := r) hC (ci := 11) rfl lmW_126 (ctX11_compare (vLa V) (vDa V) (vTg V) (vBs V) (vSa V) (mk (vBs V) w) (vBs V + 0) (xs (i + 1))) (by decide) hn dW_1029 rfl rfl (Nat.le_of_ble_eq_true rfl) (isO_mk iO11 _ _) e1 ?_
  refine z_aload_n hC 1 dW_1032 rfl rfl ?_
  refine k_arg 1 hC hX hi hL (by decide) rfl rfl (by decide) dW_1033 dW_1034 dW_1035 dW_1036 dW_1037 ?_
  refine k_cVi (v := r) hC (ci := 12) rfl lmW_129 (ctX12_compare (vLa V) (vDa V) (vTg V) (vBs V) (vSa V) (mk (vBs V) w) (vBs V + 77) (xs (i + 1))) (by decide) hn dW_1038 rfl rfl (Nat.le_of_ble_eq_true rfl) (isO_mk iO12 _ _) e2 ?_
  refine k_eq_yes 1240 hC rfl dW_1041 (by decide) ?_
  exact kk _ h
set_option maxHeartbeats 1000000 in
theorem law_c27 {i : Nat} {w : WD} (hC : CX V code R_law 4 ret 60) (hn : 106 ≤ (vRo V).cells ∧ 26231 ≤ (vRo V).slots) (hX : SX V b L xs) (hL : L ≤ 3072) (hi : i + 6 ≤ L) (h : Rel RLaw w) (kk : ∀ w2, Rel RLaw w2 → ZP V Q (106, 26231) 4 (mk (vBs V) w2) (lvL (vBs V) b i) 1240 []) : ZP V Q (106, 26231) 4 (mk (vBs V) w) (lvL (vBs V) b i) 1046 [] := by
  obtain ⟨r, w1, w2, e1, e2, hR⟩ := op_dead RLaw_LOK h (b := vBs V) (xs (i + 1)) (xs (i + 2))
  refine z_aload_n hC 2 dW_1046 rfl rfl ?_
  refine k_arg 1 hC hX hi hL (by decide) rfl rfl (by decide) dW_1047 dW_1048 dW_1049 dW_1050 dW_1051 ?_
  refine k_arg 2 hC hX hi hL (by decide) rfl rfl (by decide) dW_1052 dW_1053 dW_1054 dW_1055 dW_1056 ?_
  refine k_cVi (v := (r, mk (vBs V) w1)) hC (ci := 11) rfl lmW_130 (ctX11_dead (vLa V) (vDa V) (vTg V) (vBs V) (vSa V) (mk (vBs V) w) (vBs V + 0) (xs (i + 1)) (xs (i + 2))) (by decide) hn dW_1057 rfl rfl (Nat.le_of_ble_eq_true rfl) (isO_mk iO11 _ _) e1 ?_
  refine z_aload_n hC 1 dW_1060 rfl rfl ?_
  refine k_arg 1 hC hX hi hL (by decide) rfl rfl (by decide) dW_1061 dW_1062 dW_1063 dW_1064 dW_1065 ?_
  refine k_arg 2 hC hX hi hL (by decide) rfl rfl (by decide) dW_1066 dW_1067 dW_1068 dW_1069 dW_1070 ?_
  refine k_cVi (v := (r, mk (vBs V) w2)) hC (ci := 12) rfl lmW_133 (ctX12_dead (vLa V) (vDa V) (vTg V) (vBs V) (vSa V) (mk (vBs V) w1) (vBs V + 77) (xs (i + 1)) (xs (i + 2))) (by decide) hn dW_1071 rfl rfl (Nat.le_of_ble_eq_true rfl) (isO_mk iO12 _ _) e2 ?_
  refine k_eq_yes 1240 hC rfl dW_1074 (by decide) ?_
  exact kk _ hR
set_option maxHeartbeats 1000000 in
theorem law_c28 {i : Nat} {w : WD} (hC : CX V code R_law 4 ret 60) (hn : 106 ≤ (vRo V).cells ∧ 26231 ≤ (vRo V).slots) (hX : SX V b L xs) (hL : L ≤ 3072) (hi : i + 6 ≤ L) (h : Rel RLaw w) (kk : ∀ w2, Rel RLaw w2 → ZP V Q (106, 26231) 4 (mk (vBs V) w2) (lvL (vBs V) b i) 1240 []) : ZP V Q (106, 26231) 4 (mk (vBs V) w) (lvL (vBs V) b i) 1079 [] := by
  obtain ⟨r, w1, w2, e1, e2, hR⟩ := op_summer RLaw_LOK h (b := vBs V) (xs (i + 1))
  refine z_aload_n hC 2 dW_1079 rfl rfl ?_
  refine k_arg 1 hC hX hi hL (by decide) rfl rfl (by decide) dW_1080 dW_1081 dW_1082 dW_1083 dW_1084 ?_
  refine k_cVi (v := (r, mk (vBs V) w1)) hC (ci := 11) rfl lmW_134 (ctX11_summer (vLa V) (vDa V) (vTg V) (vBs V) (vSa V) (mk (vBs V) w) (vBs V + 0) (xs (i + 1))) (by decide) hn dW_1085 rfl rfl (Nat.le_of_ble_eq_true rfl) (isO_mk iO11 _ _) e1 ?_
  refine z_aload_n hC 1 dW_1088 rfl rfl ?_
  refine k_arg 1 hC hX hi hL (by decide) rfl rfl (by decide) dW_1089 dW_1090 dW_1091 dW_1092 dW_1093 ?_
  refine k_cVi (v := (r, mk (vBs V) w2)) hC (ci := 12) rfl lmW_137 (ctX12_summer (vLa V) (vDa V) (vTg V) (vBs V) (vSa V) (mk (vBs V) w1) (vBs V + 77) (xs (i + 1))) (by decide) hn dW_1094 rfl rfl (Nat.le_of_ble_eq_true rfl) (isO_mk iO12 _ _) e2 ?_
  refine k_eq_yes 1240 hC rfl dW_1097 (by decide) ?_
  exact kk _ hR
set_option maxHeartbeats 1000000 in
theorem law_c29 {i : Nat} {w : WD} (hC : CX V code R_law 4 ret 60) (hn : 106 ≤ (vRo V).cells ∧ 26231 ≤ (vRo V).slots) (hX : SX V b L xs) (hL : L ≤ 3072) (hi : i + 6 ≤ L) (h : Rel RLaw w) (kk : ∀ w2, Rel RLaw w2 → ZP V Q (106, 26231) 4 (mk (vBs V) w2) (lvL (vBs V) b i) 1240 []) : ZP V Q (106, 26231) 4 (mk (vBs V) w) (lvL (vBs V) b i) 1102 [] := by
  obtain ⟨r, e1, e2⟩ := op_hindered h (b := vBs V) (xs (i + 1)) (xs (i + 2))
  refine z_aload_n hC 2 dW_1102 rfl rfl ?_
  refine k_arg 1 hC hX hi hL (by decide) rfl rfl (by decide) dW_1103 dW_1104 dW_1105 dW_1106 dW_1107 ?_
  refine k_arg 2 hC hX hi hL (by decide) rfl rfl (by decide) dW_1108 dW_1109 dW_1110 dW_1111 dW_1112 ?_
  refine k_cVi (v := r) hC (ci := 11) rfl lmW_138 (ctX11_hindered (vLa V) (vDa V) (vTg V) (vBs V) (vSa V) (mk (vBs V) w) (vBs V + 0) (xs (i + 1)) (xs (i + 2))) (by decide) hn dW_1113 rfl rfl (Nat.le_of_ble_eq_true rfl) (isO_mk iO11 _ _) e1 ?_
  refine z_aload_n hC 1 dW_1116 rfl rfl ?_
  refine k_arg 1 hC hX hi hL (by decide) rfl rfl (by decide) dW_1117 dW_1118 dW_1119 dW_1120 dW_1121 ?_
  refine k_arg 2 hC hX hi hL (by decide) rfl rfl (by decide) dW_1122 dW_1123 dW_1124 dW_1125 dW_1126 ?_
  refine k_cVi (v := r) hC (ci := 12) rfl lmW_141 (ctX12_hindered (vLa V) (vDa V) (vTg V) (vBs V) (vSa V) (mk (vBs V) w) (vBs V + 77) (xs (i + 1)) (xs (i + 2))) (by decide) hn dW_1127 rfl rfl (Nat.le_of_ble_eq_true rfl) (isO_mk iO12 _ _) e2 ?_
  refine k_eq_yes 1240 hC rfl dW_1130 (by decide) ?_
  exact kk _ h
set_option maxHeartbeats 1000000 in
theorem law_c30 {i : Nat} {w : WD} (hC : CX V code R_law 4 ret 60) (hn : 106 ≤ (vRo V).cells ∧ 26231 ≤ (vRo V).slots) (hX : SX V b L xs) (hL : L ≤ 3072) (hi : i + 6 ≤ L) (h : Rel RLaw w) (kk : ∀ w2, Rel RLaw w2 → ZP V Q (106, 26231) 4 (mk (vBs V) w2) (lvL (vBs V) b i) 1240 []) : ZP V Q (106, 26231) 4 (mk (vBs V) w) (lvL (vBs V) b i) 1135 [] := by
  obtain ⟨r, e1, e2⟩ := op_friends h (b := vBs V) (xs (i + 1)) (xs (i + 2))
  refine z_aload_n hC 2 dW_1135 rfl rfl ?_
  refine k_arg 1 hC hX hi hL (by decide) rfl rfl (by decide) dW_1136 dW_1137 dW_1138 dW_1139 dW_1140 ?_
  refine k_arg 2 hC hX hi hL (by decide) rfl rfl (by decide) dW_1141 dW_1142 dW_1143 dW_1144 dW_1145 ?_
  refine k_cVi (v := r) hC (ci := 11) rfl lmW_142 (ctX11_friends (vLa V) (vDa V) (vTg V) (vBs V) (vSa V) (mk (vBs V) w) (vBs V + 0) (xs (i + 1)) (xs (i + 2))) (by decide) hn dW_1146 rfl rfl (Nat.le_of_ble_eq_true rfl) (isO_mk iO11 _ _) e1 ?_
  refine z_aload_n hC 1 dW_1149 rfl rfl ?_
  refine k_arg 1 hC hX hi hL (by decide) rfl rfl (by decide) dW_1150 dW_1151 dW_1152 dW_1153 dW_1154 ?_
  refine k_arg 2 hC hX hi hL (by decide) rfl rfl (by decide) dW_1155 dW_1156 dW_1157 dW_1158 dW_1159 ?_
  refine k_cVi (v := r) hC (ci := 12) rfl lmW_145 (ctX12_friends (vLa V) (vDa V) (vTg V) (vBs V) (vSa V) (mk (vBs V) w) (vBs V + 77) (xs (i + 1)) (xs (i + 2))) (by decide) hn dW_1160 rfl rfl (Nat.le_of_ble_eq_true rfl) (isO_mk iO12 _ _) e2 ?_
  refine k_eq_yes 1240 hC rfl dW_1163 (by decide) ?_
  exact kk _ h
set_option maxHeartbeats 1000000 in
theorem law_c31 {i : Nat} {w : WD} (hC : CX V code R_law 4 ret 60) (hn : 106 ≤ (vRo V).cells ∧ 26231 ≤ (vRo V).slots) (hX : SX V b L xs) (hL : L ≤ 3072) (hi : i + 6 ≤ L) (h : Rel RLaw w) (kk : ∀ w2, Rel RLaw w2 → ZP V Q (106, 26231) 4 (mk (vBs V) w2) (lvL (vBs V) b i) 1240 []) : ZP V Q (106, 26231) 4 (mk (vBs V) w) (lvL (vBs V) b i) 1168 [] := by
  obtain ⟨r, w1, w2, e1, e2, hR⟩ := op_keep RLaw_LOK h (b := vBs V)
  refine z_aload_n hC 2 dW_1168 rfl rfl ?_
  refine k_cVi (v := (r, mk (vBs V) w1)) hC (ci := 11) rfl lmW_146 (ctX11_keep (vLa V) (vDa V) (vTg V) (vBs V) (vSa V) (mk (vBs V) w) (vBs V + 0)) (by decide) hn dW_1169 rfl rfl (Nat.le_of_ble_eq_true rfl) (isO_mk iO11 _ _) e1 ?_
  refine z_aload_n hC 1 dW_1172 rfl rfl ?_
  refine k_cVi (v := (r, mk (vBs V) w2)) hC (ci := 12) rfl lmW_149 (ctX12_keep (vLa V) (vDa V) (vTg V) (vBs V) (vSa V) (mk (vBs V) w1) (vBs V + 77)) (by decide) hn dW_1173 rfl rfl (Nat.le_of_ble_eq_true rfl) (isO_mk iO12 _ _) e2 ?_
  refine k_eq_yes 1240 hC rfl dW_1176 (by decide) ?_
  exact kk _ hR
set_option maxHeartbeats 1000000 in
theorem law_c32 {i : Nat} {w : WD} (hC : CX V code R_law 4 ret 60) (hn : 106 ≤ (vRo V).cells ∧ 26231 ≤ (vRo V).slots) (hX : SX V b L xs) (hL : L ≤ 3072) (hi : i + 6 ≤ L) (h : Rel RLaw w) (kk : ∀ w2, Rel RLaw w2 → ZP V Q (106, 26231) 4 (mk (vBs V) w2) (lvL (vBs V) b i) 1240 []) : ZP V Q (106, 26231) 4 (mk (vBs V) w) (lvL (vBs V) b i) 1181 [] := by
  obtain ⟨r, w1, w2, e1, e2, hR⟩ := op_undo RLaw_LOK h (b := vBs V)
  refine z_aload_n hC 2 dW_1181 rfl rfl ?_
  refine k_cVi (v := (r, mk (vBs V) w1)) hC (ci := 11) rfl lmW_150 (ctX11_undo (vLa V) (vDa V) (vTg V) (vBs V) (vSa V) (mk (vBs V) w) (vBs V + 0)) (by decide) hn dW_1182 rfl rfl (Nat.le_of_ble_eq_true rfl) (isO_mk iO11 _ _) e1 ?_
  refine z_aload_n hC 1 dW_1185 rfl rfl ?_
  refine k_cVi (v := (r, mk (vBs V) w2)) hC (ci := 12) rfl lmW_154 (ctX12_undo (vLa V) (vDa V) (vTg V) (vBs V) (vSa V) (mk (vBs V) w1) (vBs V + 77)) (by decide) hn dW_1186 rfl rfl (Nat.le_of_ble_eq_true rfl) (isO_mk iO12 _ _) e2 ?_
  refine k_eq_yes 1240 hC rfl dW_1189 (by decide) ?_
  exact kk _ hR
set_option maxHeartbeats 1000000 in
theorem law_c33 {i : Nat} {w : WD} (hC : CX V code R_law 4 ret 60) (hn : 106 ≤ (vRo V).cells ∧ 26231 ≤ (vRo V).slots) (hX : SX V b L xs) (hL : L ≤ 3072) (hi : i + 6 ≤ L) (h : Rel RLaw w) (kk : ∀ w2, Rel RLaw w2 → ZP V Q (106, 26231) 4 (mk (vBs V) w2) (lvL (vBs V) b i) 1240 []) : ZP V Q (106, 26231) 4 (mk (vBs V) w) (lvL (vBs V) b i) 1194 [] := by
  obtain ⟨r, w1, w2, e1, e2, hR⟩ := op_check RLaw_LOK h (b := vBs V) (xs (i + 1))
  refine z_aload_n hC 2 dW_1194 rfl rfl ?_
  refine k_arg 1 hC hX hi hL (by decide) rfl rfl (by decide) dW_1195 dW_1196 dW_1197 dW_1198 dW_1199 ?_
  refine k_cVi (v := (r, mk (vBs V) w1)) hC (ci := 11) rfl lmW_155 (ctX11_check (vLa V) (vDa V) (vTg V) (vBs V) (vSa V) (mk (vBs V) w) (vBs V + 0) (xs (i + 1))) (by decide) hn dW_1200 rfl rfl (Nat.le_of_ble_eq_true rfl) (isO_mk iO11 _ _) e1 ?_
  refine z_aload_n hC 1 dW_1203 rfl rfl ?_
  refine k_arg 1 hC hX hi hL (by decide) rfl rfl (by decide) dW_1204 dW_1205 dW_1206 dW_1207 dW_1208 ?_
  refine k_cVi (v := (r, mk (vBs V) w2)) hC (ci := 12) rfl lmW_158 (ctX12_check (vLa V) (vDa V) (vTg V) (vBs V) (vSa V) (mk (vBs V) w1) (vBs V + 77) (xs (i + 1))) (by decide) hn dW_1209 rfl rfl (Nat.le_of_ble_eq_true rfl) (isO_mk iO12 _ _) e2 ?_
  refine k_eq_yes 1240 hC rfl dW_1212 (by decide) ?_
  exact kk _ hR
set_option maxHeartbeats 1000000 in
theorem law_c34 {i : Nat} {w : WD} (hC : CX V code R_law 4 ret 60) (hn : 106 ≤ (vRo V).cells ∧ 26231 ≤ (vRo V).slots) (hX : SX V b L xs) (hL : L ≤ 3072) (hi : i + 6 ≤ L) (h : Rel RLaw w) (kk : ∀ w2, Rel RLaw w2 → ZP V Q (106, 26231) 4 (mk (vBs V) w2) (lvL (vBs V) b i) 1240 []) : ZP V Q (106, 26231) 4 (mk (vBs V) w) (lvL (vBs V) b i) 1217 [] := by
  obtain ⟨r, e1, e2⟩ := op_count h (RLaw_count h.2.2.2.2.2.2.2) (b := vBs V) (xs (i + 1))
  refine z_aload_n hC 2 dW_1217 rfl rfl ?_
  refine k_arg 1 hC hX hi hL (by decide) rfl rfl (by decide) dW_1218 dW_1219 dW_1220 dW_1221 dW_1222 ?_
  refine k_cVi (v := r) hC (ci := 11) rfl lmW_159 (ctX11_count (vLa V) (vDa V) (vTg V) (vBs V) (vSa V) (mk (vBs V) w) (vBs V + 0) (xs (i + 1))) (by decide) hn dW_1223 rfl rfl (Nat.le_of_ble_eq_true rfl) (isO_mk iO11 _ _) e1 ?_
  refine z_aload_n hC 1 dW_1226 rfl rfl ?_
  refine k_arg 1 hC hX hi hL (by decide) rfl rfl (by decide) dW_1227 dW_1228 dW_1229 dW_1230 dW_1231 ?_
  refine k_cVi (v := r) hC (ci := 12) rfl lmW_162 (ctX12_count (vLa V) (vDa V) (vTg V) (vBs V) (vSa V) (mk (vBs V) w) (vBs V + 77) (xs (i + 1))) (by decide) hn dW_1232 rfl rfl (Nat.le_of_ble_eq_true rfl) (isO_mk iO12 _ _) e2 ?_
  refine k_eq_yes 1240 hC rfl dW_1235 (by decide) ?_
  exact kk _ h
end
