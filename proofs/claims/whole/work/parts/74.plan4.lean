/-! a wish told, on both sides -/
theorem lwF_congr {k ch pr bs : Int32} {f g : Nat → Int32} (h : ∀ i, i < 6 → f i = g i) (i : Nat) : lwF k ch pr bs f i = lwF k ch pr bs g i := by
  unfold lwF
  rw [h 1 (by decide), h 2 (by decide), h 3 (by decide)]
section
variable {b : Nat} {w : WD}
theorem tells_spent (h : Rel RLaw w) {k : Nat} (hk : k < 8) {sv : Nat → Int32} (hv : okSv sv) (ho : ¬ (sv 5 = 1 ∨ sv 1 = 8640)) (hs : bt (sv 4) k = true) : Tells b w k sv (-4) (sv 0) 0 := by
  obtain ⟨⟨s0, hs0, e0⟩, ⟨d, hd, ed⟩, _, hf, _⟩ := hv
  refine ⟨⟨s0, s0, hs0, e0, hs0, e0, fun w1 s1 j hj hsv => ⟨uI (pl5 w1 (sv 0)) 34 1 (-4), ?_, sP_trans (pl5_f w1 _) (sP_uI _ _ rfl), rfl, rfl, ?_, ?_, rfl⟩⟩, fun w2 s2 hsv => ⟨pl3 w2 (sv 0), ?_, pl3_f w2 _, rfl, rfl, fun q => absurd q (by decide)⟩, Or.inl ⟨Or.inr (Or.inl rfl), rfl⟩⟩
  · rw [plan_go ed hd hf ho hj hsv]
    exact plR1_spent hj hk (by rw [pl5_j _ _ hj, hsv 4 (by decide)]; exact hs)
  · rw [Nat.xor_self]; rfl
  · rw [Nat.xor_self, prS_0]; rfl
  · rw [tell_go ho hsv]
    exact teR1_spent hk ((congrArg (fun x => bt x k) ((pl3_i w2 (sv 0) 4 (by decide)).trans (hsv 4 (by decide)))).trans hs)
theorem tells_no (h : Rel RLaw w) {k : Nat} (hk : k < 8) {sv : Nat → Int32} {s0 d : Nat} (hs0 : s0 < 1024) (e0 : sv 0 = nI s0) (ed : sv 1 = nI d) (hd : d < 8641) (hf : sv 5 = 0 ∨ sv 5 = 1) (ho : ¬ (sv 5 = 1 ∨ sv 1 = 8640)) (hs : bt (sv 4) k = false) (n1 : ∀ w1, env w w1 → FX3_nearest (mk b w1) (b + 25) (b + 30) (b + (7 + k)) (nI s0) = some (-1)) (n2 : ∀ w2, env w w2 → w2.1 77 7 = nI s0 → FX12_leadsTo (mk b w2) (b + 77) (nI k) = some (-1)) : Tells b w k sv (-2) (sv 0) 0 := by
  refine ⟨⟨s0, s0, hs0, e0, hs0, e0, fun w1 s1 j hj hsv => ⟨uI (pl5 w1 (sv 0)) 34 1 (-2), ?_, sP_trans (pl5_f w1 _) (sP_uI _ _ rfl), rfl, rfl, ?_, ?_, rfl⟩⟩, fun w2 s2 hsv => ⟨pl3 w2 (sv 0), ?_, pl3_f w2 _, rfl, rfl, fun q => absurd q (by decide)⟩, Or.inl ⟨Or.inr (Or.inr (Or.inr rfl)), rfl⟩⟩
  · rw [plan_go ed hd hf ho hj hsv, plR1_go (s0 := s0) hj hk (by rw [pl5_j _ _ hj, hsv 4 (by decide)]; exact hs) (by rw [pl5_j _ _ hj, hsv 0 (by decide)]; exact e0) (n1 _ (sP_trans s1 (frP_env (pl5_f w1 _)))), if_neg (by decide)]
  · rw [Nat.xor_self]; rfl
  · rw [Nat.xor_self, prS_0]; rfl
  · rw [tell_go ho hsv, teR1_go hk ((congrArg (fun x => bt x k) ((pl3_i w2 (sv 0) 4 (by decide)).trans (hsv 4 (by decide)))).trans hs) (n2 _ (sP_trans s2 (frT_env (pl3_f w2 _))) ((pl3_i w2 (sv 0) 0 (by decide)).trans ((hsv 0 (by decide)).trans e0))), if_pos rfl]
theorem tells_law (h : Rel RLaw w) {k : Nat} (hk : k < 8) {sv : Nat → Int32} {s0 d t : Nat} (hs0 : s0 < 1024) (e0 : sv 0 = nI s0) (ed : sv 1 = nI d) (hd : d < 8641) (hf : sv 5 = 0 ∨ sv 5 = 1) (ho : ¬ (sv 5 = 1 ∨ sv 1 = 8640)) (hs : bt (sv 4) k = false) (ht : t < 1024) (n1 : ∀ w1, env w w1 → FX3_nearest (mk b w1) (b + 25) (b + 30) (b + (7 + k)) (nI s0) = some (nI t)) (n2 : ∀ w2, env w w2 → w2.1 77 7 = nI s0 → FX12_leadsTo (mk b w2) (b + 77) (nI k) = some (nI t)) : ∃ a tg sn, Tells b w k sv a tg sn := by
  obtain ⟨n, kd, Wd, Td, hK, hC, hM, hO⟩ := h.2.2.2.2.2.2.2
  obtain ⟨tT, vW, hS⟩ := says_ex hK (lwF (nI k) (nI (pc (t ^^^ s0))) (nI (prS (w.2.1 78) (t ^^^ s0))) (nI (pc s0)) sv)
  have hn := hC.1
  have cls : ∀ w1, env w w1 → ∀ j, SJ j → (∀ i, i < 6 → w1.1 j i = sv i) → FX5_plan (mk b w1) (b + 34) (b + j) (nI k) = plR2 (mk b (pl5 w1 (sv 0))) (b + 34) (b + j) (nI k) (nI t) ∧ (pl5 w1 (sv 0)).2.2.2.1 = w.2.2.2.1 ∧ (pl5 w1 (sv 0)).1 j 0 = nI s0 ∧ R_price (pl5 w1 (sv 0)) ∧ lawC ((pl5 w1 (sv 0)).1 w.2.2.2.1 4) ((pl5 w1 (sv 0)).1 w.2.2.2.1 9) ((pl5 w1 (sv 0)).2.1 (w.2.2.2.1 + 1)) ((pl5 w1 (sv 0)).2.1 (w.2.2.2.1 + 2)) ((pl5 w1 (sv 0)).2.1 (w.2.2.2.1 + 3)) ((pl5 w1 (sv 0)).2.1 (w.2.2.2.1 + 4)) n kd Wd Td ∧ (pl5 w1 (sv 0)).2.1 78 = w.2.1 78 ∧ says (lwF (nI k) (nI (pc (t ^^^ s0))) (nI (prS ((pl5 w1 (sv 0)).2.1 78) (t ^^^ s0))) (nI (pc s0)) ((pl5 w1 (sv 0)).1 j)) n kd Wd Td tT vW := by
    intro w1 s1 j hj hsv
    have s5 : env w (pl5 w1 (sv 0)) := sP_trans s1 (frP_env (pl5_f w1 _))
    have hsv5 : ∀ i, i < 6 → (pl5 w1 (sv 0)).1 j i = sv i := fun i hi => (pl5_j _ _ hj i).trans (hsv i hi)
    have e78 := s5.2.1 78 rfl
    refine ⟨?_, by rw [s5.2.2.2], (hsv5 0 (by decide)).trans e0, env_price h.price s5, lawC_of hO (env_L s5) hC, e78, ?_⟩
    · rw [plan_go ed hd hf ho hj hsv, plR1_go (s0 := s0) hj hk ((congrArg (fun x => bt x k) (hsv5 4 (by decide))).trans hs) ((hsv5 0 (by decide)).trans e0) (n1 _ s5), if_pos (nI_pos' (by omega))]
    · rw [e78]
      exact says_congr (fun i _ => lwF_congr (fun i hi => (hsv5 i hi).symm) i) hS
  have rfc : ∀ w2, env w w2 → (∀ i, i < 6 → w2.1 77 (7 + i) = sv i) → FX12_tells (mk b w2) (b + 77) (nI k) = teR2 (mk b (pl3 w2 (sv 0))) (b + 77) (nI k) (nI t) ∧ (pl3 w2 (sv 0)).1 77 7 = nI s0 ∧ R_price (pl3 w2 (sv 0)) ∧ lawM ((pl3 w2 (sv 0)).1 77 23) ((pl3 w2 (sv 0)).2.1 91) ((pl3 w2 (sv 0)).2.1 92) ((pl3 w2 (sv 0)).2.1 93) ((pl3 w2 (sv 0)).2.1 94) ((pl3 w2 (sv 0)).2.1 90) n kd Wd Td ∧ says (lwF (nI k) (nI (pc (t ^^^ s0))) (nI (prS ((pl3 w2 (sv 0)).2.1 78) (t ^^^ s0))) (nI (pc s0)) (fun i => (pl3 w2 (sv 0)).1 77 (7 + i))) n kd Wd Td tT vW := by
    intro w2 s2 hsv
    have s5 : env w (pl3 w2 (sv 0)) := sP_trans s2 (frT_env (pl3_f w2 _))
    have hsv5 : ∀ i, i < 6 → (pl3 w2 (sv 0)).1 77 (7 + i) = sv i := fun i hi => (pl3_i _ _ i hi).trans (hsv i hi)
    have e78 := s5.2.1 78 rfl
    have q0 : (pl3 w2 (sv 0)).1 77 7 = nI s0 := (hsv5 0 (by decide)).trans e0
    refine ⟨?_, q0, env_price h.price s5, lawM_of (env_L s5) hM, ?_⟩
    · rw [tell_go ho hsv, teR1_go hk ((congrArg (fun x => bt x k) (hsv5 4 (by decide))).trans hs) (n2 _ s5 q0), if_neg (fun q => nI_pos (n := t) (by omega) (by rw [q]; decide))]
    · rw [e78]
      exact says_congr (fun i _ => lwF_congr (fun i hi => (hsv5 i hi).symm) i) hS
  cases he : ex (sp kd tT 120) n
  · obtain ⟨d1, hd1, ed1⟩ := worV_sm kd tT (fun j => if kd j = 120 then 1 else vW j) n 100 (most := 999) (by decide)
    obtain ⟨d2, hd2, ed2⟩ := worV_sm kd tT (fun j => if kd j = 120 then 1 else vW j) n 103 (most := 99) (by decide)
    refine ⟨worV kd tT (fun j => if kd j = 120 then 1 else vW j) n 100 999, nI t, worV kd tT (fun j => if kd j = 120 then 1 else vW j) n 103 99, ⟨t, s0, ht, e0, hs0, rfl, fun w1 s1 j hj hsv => ?_⟩, fun w2 s2 hsv => ?_, Or.inr ⟨d1, d2, hd1, ed1, hd2, ed2⟩⟩
    · obtain ⟨c1, c2, c3, c4, c5, c6, c7⟩ := cls w1 s1 j hj hsv
      obtain ⟨w', p1, p2, p3⟩ := (plR2_mk (b := b) (k := k) hO c2 hj c3 hs0 ht c4 hK c5 c7).2 he
      refine ⟨_, c1.trans p1, sP_trans (sP_trans (sP_trans (sP_trans (sP_trans (pl5_f w1 _) p2) (sP_uI _ _ rfl)) (sP_uI _ _ rfl)) (sP_uI _ _ rfl)) (sP_uI _ _ rfl), p3, rfl, rfl, ?_, rfl⟩
      rw [← c6]
      rfl
    · obtain ⟨c1, c2, c3, c4, c5⟩ := rfc w2 s2 hsv
      obtain ⟨w', p1, p2, p3, p4⟩ := (teR2_mk (b := b) (k := k) (t := t) c2 c3 hn hK c4 c5).2 he
      exact ⟨_, c1.trans p1, sP_trans (sP_trans (pl3_f w2 _) p2) (sP_uI _ _ rfl), p3, rfl, fun _ => p4⟩
  · refine ⟨-3, sv 0, 0, ⟨s0, s0, hs0, e0, hs0, e0, fun w1 s1 j hj hsv => ?_⟩, fun w2 s2 hsv => ?_, Or.inl ⟨Or.inr (Or.inr (Or.inl rfl)), rfl⟩⟩
    · obtain ⟨c1, c2, c3, c4, c5, c6, c7⟩ := cls w1 s1 j hj hsv
      obtain ⟨w', p1, p2, p3⟩ := (plR2_mk (b := b) (k := k) hO c2 hj c3 hs0 ht c4 hK c5 c7).1 he
      refine ⟨_, c1.trans p1, sP_trans (sP_trans (pl5_f w1 _) p2) (sP_uI _ _ rfl), rfl, p3 2, ?_, ?_, p3 5⟩
      · rw [Nat.xor_self]; exact p3 3
      · rw [Nat.xor_self, prS_0]; exact p3 4
    · obtain ⟨c1, c2, c3, c4, c5⟩ := rfc w2 s2 hsv
      obtain ⟨w', p1, p2, p3⟩ := (teR2_mk (b := b) (k := k) (t := t) c2 c3 hn hK c4 c5).1 he
      exact ⟨_, c1.trans p1, sP_trans (pl3_f w2 _) p2, p3 45, p3 47, fun q => absurd q (by decide)⟩
theorem tells_ex (h : Rel RLaw w) {k : Nat} (hk : k < 8) {sv : Nat → Int32} (hv : okSv sv) : ∃ a tg sn, Tells b w k sv a tg sn := by
  by_cases ho : sv 5 = 1 ∨ sv 1 = 8640
  · exact ⟨_, _, _, tells_over h hk hv ho⟩
  · cases hs : bt (sv 4) k
    · obtain ⟨⟨s0, hs0, e0⟩, ⟨d, hd, ed⟩, _, hf, _⟩ := hv
      obtain ⟨x, n1, n2, n3⟩ := near_env (b := b) h hs0 hk
      rcases n3 with rfl | ⟨t, ht, rfl⟩
      · exact ⟨_, _, _, tells_no h hk hs0 e0 ed hd hf ho hs n1 n2⟩
      · exact tells_law h hk hs0 e0 ed hd hf ho hs ht n1 n2
    · exact ⟨_, _, _, tells_spent h hk hv ho hs⟩
end
