/-! call: likely -/
theorem nI_any (x : Int32) : ∃ n, x = nI n := ⟨x.toBitVec.toNat, Int32.toBitVec_inj.mp (by
  show _ = BitVec.ofNat 32 _
  simp)⟩
theorem byte_any (x : Int32) : ∃ c, c < 256 ∧ (x &&& (255 : Int32)) = nI c := by
  obtain ⟨n, rfl⟩ := nI_any x
  refine ⟨n % 256, Nat.mod_lt n (by decide), ?_⟩
  have := fa_mask n 8
  exact this
theorem small_byte : ∀ c, c < 11 → (nI c).toInt8.toInt32 = nI c ∧ (nI c &&& (255 : Int32)) = nI c := by decide +kernel
theorem tenth : ∀ c, c < 11 → (nI c).toInt64 = lN c ∧ ((10 : Int32) - nI c).toInt64 = lN (10 - c) := by decide +kernel
/-- a byte from 0 to 10, read so or so -/
theorem in_byte {x : Int32} (hx : x.toInt8.toInt32 = x) : (∃ c, c < 11 ∧ x = nI c ∧ (x &&& (255 : Int32)) = nI c) ∨ ((¬ (x &&& (255 : Int32)) ≤ 10) ∧ ¬ ∃ k, k < 11 ∧ x = nI k) := by
  obtain ⟨c, hc, e⟩ := byte_any x
  rcases Nat.lt_or_ge c 11 with z | z
  · left
    have h := (sc_eq hx (n := c) (by omega)).mpr e
    rw [(small_byte c z).1] at h
    exact ⟨c, z, h, e⟩
  · right
    refine ⟨?_, ?_⟩
    · rw [e]
      exact Rnle (n := 10) (by omega) (by omega)
    · rintro ⟨k, hk, q⟩
      rw [q, (small_byte k hk).2] at e
      have := nI_inj (by omega) (by omega) e
      omega
section
variable {RL : WD → Prop} {b : Nat} {w : WD}
theorem chances_mk {p : Nat → Bool} {v : Nat → Nat} {k : Nat} (hk : k < 8) (hv : ∀ i, i < 10 → v i < 11 ∧ (w.2.1 2 i &&& (255 : Int32)) = nI (v i)) (hT : ∀ s, s < 1024 → tb (w.2.2.1 (7 + k)) s = p s) : ∀ (n e st : Nat), n ≤ 10 → n < e → st < 1024 → FGX11_chances e (mk b w) (b + 0) (b + (7 + k)) (nI n) (nI st) = some (lN (ch p v n st)) := by
  intro n
  induction n with
  | zero =>
    intro e st _ he hst
    obtain ⟨e, rfl⟩ : ∃ e', e = e' + 1 := ⟨e - 1, by omega⟩
    show FBX11_chances (FGX11_chances e) (mk b w) (b + 0) (b + (7 + k)) (nI 0) (nI st) = _
    unfold FBX11_chances
    rw [if_neg (show ¬ 0 < nI 0 by decide), thas_mk (okT k hk) hst, hT st hst, Option.bind_some, bite]
    show _ = some (lN (if p st then 1 else 0))
    cases p st <;> rfl
  | succ n ih =>
    intro e st hn he hst
    obtain ⟨e, rfl⟩ : ∃ e', e = e' + 1 := ⟨e - 1, by omega⟩
    show FBX11_chances (FGX11_chances e) (mk b w) (b + 0) (b + (7 + k)) (nI (n + 1)) (nI st) = _
    unfold FBX11_chances
    obtain ⟨v1, v2⟩ := hv n (by omega)
    have h2 : st ||| 2 ^ n < 1024 := Nat.or_lt_two_pow (n := 10) hst (p2_lt (by omega))
    rw [if_pos (Llt (n := 0) (by omega) (by omega)), vl_eq, nI_p, gR_11_0_0, Option.bind_some, rc_8_1, at_mk (by omega), v2, Option.bind_some, jn_eq]
    try dsimp only
    rw [rc_11_0, rc_11_0, ih e st (by omega) (by omega) hst, shl1 n (by omega), fa_or, ih e _ (by omega) (by omega) h2, Option.bind_some, Option.bind_some, vl_eq, (tenth _ v1).1, (tenth _ v1).2, lN_mul, lN_mul, ch_s]
    have z0 : (0 : Int64) + lN (v n * ch p v n (st ||| 2 ^ n)) = lN (v n * ch p v n (st ||| 2 ^ n)) := by
      rw [show (0 : Int64) = lN 0 from rfl, lN_add, Nat.zero_add]
    have last : ∀ a, (if (10 : Int32) ≤ nI (v n) then some (lN a) else vl (lN a + lN ((10 - v n) * ch p v n st)) (fun x7 => some x7)) = some (lN (a + (10 - v n) * ch p v n st)) := fun a => by
      by_cases q : 10 ≤ v n
      · rw [if_pos (Lle q (by omega)), show 10 - v n = 0 by omega, Nat.zero_mul, Nat.add_zero]
      · rw [if_neg (Lnle (n := 10) (by omega)), vl_eq, lN_add]
    by_cases q : v n = 0
    · rw [if_pos (by rw [q]; decide)]
      have := last 0
      rw [Nat.zero_add] at this
      rw [q, Nat.zero_mul, Nat.zero_add]
      rw [q] at this
      exact this
    · rw [if_neg (Rnle (n := 0) (by omega) (by omega)), z0, vl_eq]
      try dsimp only
      rw [Option.bind_some, lN_mul]
      exact last _
theorem weight_mk {v : Nat → Nat} (hv : ∀ i, i < 10 → v i < 11 ∧ w.2.1 83 i = nI (v i)) (s : Nat) : FX12_weightOf (mk b w) (b + 77) (nI s) = some (lN (wgt v 10 s)) := by
  unfold FX12_weightOf
  refine lpb_for (fun i => (lN (wgt v i s), nI i)) (lN (wgt v 10 s)) 10 rfl (by decide) (fun i hi => ?_) (by rfl) rfl
  obtain ⟨v1, v2⟩ := hv i hi
  try dsimp only
  rw [if_neg (Lnle hi), has_eq _ (by omega), bt_nI _ (by omega), Option.bind_some, bite, gR_12_77_13, Option.bind_some, Option.bind_some, rdN_mk (t := 1) (n := 260) (by decide +kernel) (by decide) b _ (show i < 260 by omega), Option.bind_some, Option.bind_some, v2, vl_eq, vl_eq, vl_eq, vl_eq, nI_1, (tenth _ v1).1, (tenth _ v1).2, lN_mul, lN_mul, wgt_s]
  cases s.testBit i <;> rfl
end
