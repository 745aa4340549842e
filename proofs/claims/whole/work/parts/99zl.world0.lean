/-! the world behind both constructors -/
def mpF (f : Nat → Nat → Value) : Nat → List Nat → List Value
  | _, [] => []
  | k, e :: l => f k e :: mpF f (k + 1) l
theorem mpF_at (f : Nat → Nat → Value) : ∀ (l : List Nat) (k i : Nat), (mpF f k l)[i]? = (l[i]?).map (f (k + i))
  | [], _, _ => by rfl
  | e :: l, k, 0 => by rfl
  | e :: l, k, i + 1 => by
    show (mpF f (k + 1) l)[i]? = _
    rw [mpF_at f l (k + 1) i, show k + 1 + i = k + (i + 1) by omega]
    rfl
def mpC (f : Nat → CT → AE) : Nat → List CT → List AE
  | _, [] => []
  | k, e :: l => f k e :: mpC f (k + 1) l
theorem mpC_at (f : Nat → CT → AE) : ∀ (l : List CT) (k i : Nat), (mpC f k l)[i]? = (l[i]?).map (f (k + i))
  | [], _, _ => by rfl
  | e :: l, k, 0 => by rfl
  | e :: l, k, i + 1 => by
    show (mpC f (k + 1) l)[i]? = _
    rw [mpC_at f l (k + 1) i, show k + 1 + i = k + (i + 1) by omega]
    rfl
def cellF (b : Nat) (w : WD) (j : Nat) (c : CT) : AE := match c with
  | .inl (ci, es) => .inr (ci, mpF (fun k e => fv b w j k e) 0 es)
  | .inr (t, n) => .inl (t, n, ac b w j t)
theorem cellF_eq (b : Nat) (w : WD) (j : Nat) (c : CT) : cellF b w j c = cell b w j c := by
  rcases c with ⟨ci, es⟩ | ⟨t, n⟩
  · show Sum.inr (ci, _) = Sum.inr (ci, _)
    congr 2
    refine List.ext_getElem? (fun i => ?_)
    rw [mpF_at, List.getElem?_mapIdx, Nat.zero_add]
  · rfl
theorem hl_mk {b : Nat} {w : WD} {A : List AE} (h : A = mpC (cellF b w) 0 lay) : hl b A = mk b w := by
  funext q
  unfold hl mk
  by_cases c : b ≤ q
  · rw [if_pos c, if_pos c, h, mpC_at, Nat.zero_add]
    congr 1
    funext x
    exact cellF_eq b w _ x
  · rw [if_neg c, if_neg c]
def W0 (fl fg fa p s t : Nat → Int32) : WD := (fun _ _ => 0, fun j => if j = 26 then pr10 else if j = 27 then fl else if j = 28 then fg else if j = 29 then fa else if j = 78 then p else if j = 81 then s else if j = 82 then t else fun _ => 0, fun j => if j = 30 then fF else if j = 31 then fF else fun _ => 0, (35, 70))
def pL44 (b : Nat) (fl fg fa : Nat → Int32) : List AE := pL43 b fl fg fa ++ [xO 12 [.null, .null, .null, .null, .null, .int 0, .int 0, .int 0, .int 0, .int 0, .int 0, .int 0, .int 0, .null, .int 0, .int 0, .int 0, .int 0, .int 0, .int 0, .int 0, .int 0, .int 0, .int 0, .null, .null, .null, .null, .null, .null, .null, .null, .null, .null, .null, .null, .null, .null, .null, .null, .int 0, .int 0, .int 0, .int 0, .null, .int 0, .int 0, .int 0, .int 0, .int 0, .int 0, .int 0, .int 0, .int 0, .null, .null, .null, .null, .null, .int 0, .int 0, .int 0, .int 0, .int 0, .int 0, .int 0]]
def OB0 (b : Nat) : AE := (xO 12 [.ref (b + 78), .ref (b + 79), .ref (b + 80), .ref (b + 81), .ref (b + 82), .int 0, .int 0, .int 0, .int 0, .int 0, .int 0, .int 0, .int 0, .ref (b + 83), .int 0, .int 0, .int 0, .int 0, .int 0, .int 0, .int 0, .int 0, .int 0, .int 0, .ref (b + 84), .ref (b + 85), .ref (b + 86), .ref (b + 87), .ref (b + 88), .ref (b + 89), .ref (b + 90), .ref (b + 91), .ref (b + 92), .ref (b + 93), .ref (b + 94), .ref (b + 95), .ref (b + 96), .ref (b + 97), .ref (b + 98), .ref (b + 99), .int 0, .int 0, .int 0, .int 0, .ref (b + 100), .int 0, .int 0, .int 0, .int 0, .int 0, .int 0, .int 0, .int 0, .int 0, .ref (b + 101), .ref (b + 102), .ref (b + 103), .ref (b + 104), .ref (b + 105), .int 0, .int 0, .int 0, .int 0, .int 0, .int 0, .int 0])
theorem OBm_eq {b : Nat} {L : List AE} (h : L.length = 78) : OBm b L = OB0 b := by
  unfold OBm obF
  rw [h]
  rfl
section
variable {b : Nat} {fl fg fa p s t : Nat → Int32}
theorem pL44_len : (pL44 b fl fg fa).length = 78 := rfl
set_option maxRecDepth 100000 in
set_option maxHeartbeats 4000000 in
theorem lst_W : nf (pL44 b fl fg fa) 77 (OB0 b) (CSm p s t) = mpC (cellF b (W0 fl fg fa p s t)) 0 lay := rfl
theorem hl_W : hl b (nf (pL44 b fl fg fa) 77 (OBm b (pL44 b fl fg fa)) (CSm p s t)) = mk b (W0 fl fg fa p s t) := by
  rw [OBm_eq pL44_len]
  exact hl_mk lst_W
theorem W0_81 (g : Nat → Int32) : uA (W0 fl fg fa p s t) 81 g = W0 fl fg fa p g t := by
  unfold uA W0
  refine congrArg (fun z => ((fun _ _ => (0 : Int32)), z, _)) (funext fun j => ?_)
  by_cases h : j = 81
  · subst h
    rfl
  · rw [if_neg h]
    dsimp only
    rw [if_neg h]
    by_cases a1 : j = 26
    · rw [if_pos a1, if_pos a1]
    rw [if_neg a1, if_neg a1]
    by_cases a2 : j = 27
    · rw [if_pos a2, if_pos a2]
    rw [if_neg a2, if_neg a2]
    by_cases a3 : j = 28
    · rw [if_pos a3, if_pos a3]
    rw [if_neg a3, if_neg a3]
    by_cases a4 : j = 29
    · rw [if_pos a4, if_pos a4]
    rw [if_neg a4, if_neg a4]
    by_cases a5 : j = 78
    · rw [if_pos a5, if_pos a5]
    rw [if_neg a5, if_neg a5, if_neg h]
end
def s10 : Nat → Int32 := fa_fill (fun s => if al (fun k => !bt 0 k || WC (W0 (fun _ => 0) (fun _ => 0) (fun _ => 0) (onU 10) (fun _ => 0) (fun _ => 0)) k s) 8 then 1 else 0) (fun _ => 0) 1024
theorem fits_W (b : Nat) (fl fg fa : Nat → Int32) : FX12_laysFits (hl b (nf (pL44 b fl fg fa) 77 (OBm b (pL44 b fl fg fa)) (CSm (onU 10) (fun _ => 0) (fun _ => 0)))) (b + 77) = some (hl b (nf (pL44 b fl fg fa) 77 (OBm b (pL44 b fl fg fa)) (CSm (onU 10) s10 (fun _ => 0)))) := by
  rw [hl_W, hl_W, laysFits_mk (fun i _ => Or.inl rfl), W0_81]
  rfl
theorem s10_at {s : Nat} (hs : s < 1024) : s10 s = 1 := by
  unfold s10
  rw [fa_fill_in hs, if_pos ((al_iff _ 8).mpr (fun k _ => by
    rw [show bt 0 k = false by unfold bt; simp]
    rfl))]
theorem tb_zero {s : Nat} : tb (fun _ => 0) s = false := lb_0 _
theorem tb_fF {s : Nat} (hs : s < 1024) : tb fF s = true := by
  unfold tb fF
  rw [fa_fill_in (by omega)]
  exact lb_m1 _ (Nat.mod_lt _ (by decide))
theorem onU_in {i n : Nat} (h : i < n) : onU n i = 1 := if_pos h
theorem lowN_U (n : Nat) : lowN (onU 10) n = lowN (fun _ => 1) n := fb_sm_cong (fun i hi => by
  unfold pN
  rw [onU_in (by omega)])
theorem highN_U (n : Nat) : highN (onU 10) n = highN (fun _ => 1) n := fb_sm_cong (fun i hi => by
  unfold pN
  rw [onU_in (by omega)])
theorem Rel_W0 {fl fg fa : Nat → Int32} (h : PR0 fl fg fa) : Rel RLaw (W0 fl fg fa (onU 10) s10 (onU 1024)) := by
  obtain ⟨h1, h2, c, h3, h4, h5⟩ := h
  have sm0 : ∀ n, 0 < n → sm 0 n := fun n hn => ⟨0, hn, rfl⟩
  refine ⟨Or.inl rfl, ⟨fun i _ => Or.inl rfl, fun i _ => Or.inl rfl, fun i hi => Or.inr (s10_at hi), fun i hi => Or.inr (onU_in hi), fun k hk s hs => ?_, fun k hk s hs => ?_, fun s hs => ?_, fun s hs => ?_, fun s hs => ?_⟩, ⟨fun k _ => rfl, sm0 _ (by decide), sm0 _ (by decide), sm0 _ (by decide), sm0 _ (by decide), Or.inl rfl⟩, ⟨fun k _ => rfl, sm0 _ (by decide), sm0 _ (by decide), sm0 _ (by decide), sm0 _ (by decide), Or.inl rfl⟩, ⟨rfl, sm0 _ (by decide), rfl, sm0 _ (by decide), rfl, Or.inl rfl⟩, ⟨rfl, sm0 _ (by decide), fun i _ => rfl, fun i _ => rfl⟩, ⟨fun i hi => ?_, fun i hi => ⟨1, by decide, onU_in hi⟩, fun n hn => ?_, fun n hn => ?_, c, h4, h3.1, h3.2, fun t ht => ?_⟩, 0, fun _ => 0, fun _ => [], fun _ => [], fun j hj => absurd hj (Nat.not_lt_zero j), ⟨by decide, rfl, 0, by decide, rfl, fun j hj => absurd hj (Nat.not_lt_zero j)⟩, ⟨rfl, fun j hj => absurd hj (Nat.not_lt_zero j)⟩, Or.inl rfl⟩
  · have e : (W0 fl fg fa (onU 10) s10 (onU 1024)).2.2.1 (7 + k) = fun _ => 0 := by
      show (if 7 + k = 30 then fF else if 7 + k = 31 then fF else fun _ => 0) = _
      rw [if_neg (by omega), if_neg (by omega)]
    rw [e]
    exact tb_zero
  · have e : (W0 fl fg fa (onU 10) s10 (onU 1024)).2.2.1 (17 + k) = fun _ => 0 := by
      show (if 17 + k = 30 then fF else if 17 + k = 31 then fF else fun _ => 0) = _
      rw [if_neg (by omega), if_neg (by omega)]
    rw [e]
    exact tb_zero
  · refine (tb_fF hs).trans ?_
    unfold WF
    exact (decide_eq_true (s10_at hs)).symm
  · refine (tb_fF hs).trans ?_
    unfold WO
    exact (decide_eq_true (onU_in hs)).symm
  · have e : WF (W0 fl fg fa (onU 10) s10 (onU 1024)) s = true := decide_eq_true (s10_at hs)
    rw [e]
    refine ((al_iff _ 8).mpr (fun k _ => ?_)).symm
    rw [show bt ((W0 fl fg fa (onU 10) s10 (onU 1024)).1 77 6) k = false by show bt 0 k = false; unfold bt; simp]
    rfl
  · exact (pr10_at i hi).trans (onU_in hi).symm
  · exact (h1 n hn).trans (congrArg nI (lowN_U n).symm)
  · exact (h2 n hn).trans (congrArg nI (highN_U n).symm)
  · show lowN (onU 10) (c t) ≤ lowN (onU 10) (c (t + 1))
    rw [lowN_U, lowN_U]
    exact h5 t ht
