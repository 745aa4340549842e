/-! how many bits of a long are set: the JDK's count, byte by byte -/
def lb (x : Int64) (j : Nat) : Bool := x.toBitVec.getLsbD j
def mk8 (d : Nat) : Nat → Nat
  | 0 => 0
  | k + 1 => 256 * mk8 d k + d
theorem mk8_s (d k : Nat) : mk8 d (k + 1) = 256 * mk8 d k + d := rfl
def p1 (k n : Nat) : Nat := n - ((n / 2) &&& mk8 85 k)
def p2 (k m : Nat) : Nat := (m &&& mk8 51 k) + ((m / 4) &&& mk8 51 k)
def p3 (k m : Nat) : Nat := (m + m / 16) &&& mk8 15 k
theorem and256 (a m : Nat) {c d : Nat} (hc : c < 256) (hd : d < 256) : (256 * a + c) &&& (256 * m + d) = 256 * (a &&& m) + (c &&& d) := by
  apply Nat.eq_of_testBit_eq
  intro i
  have h1 := Nat.testBit_two_pow_mul_add a (i := 8) hc i
  have h2 := Nat.testBit_two_pow_mul_add m (i := 8) hd i
  have h3 := Nat.testBit_two_pow_mul_add (a &&& m) (b := c &&& d) (i := 8) (Nat.lt_of_le_of_lt Nat.and_le_left hc) i
  rw [Nat.testBit_and, show (256 : Nat) = 2 ^ 8 from rfl, h1, h2, h3]
  split
  · rw [Nat.testBit_and]
  · rw [Nat.testBit_and]
theorem by1 : ∀ t, t < 2 → ∀ r, r < 256 → ((128 * t + r / 2) &&& 85) = (r / 2 &&& 85) := by decide +kernel
theorem by2 : ∀ t, t < 4 → ∀ r, r < 256 → ((64 * t + r / 4) &&& 51) = (r / 4 &&& 51) := by decide +kernel
theorem by3 : ∀ t, t < 5 → ∀ r, r < 69 → ((16 * t + (r + r / 16)) &&& 15) = ((r + r / 16) &&& 15) := by decide +kernel
def y1 (r : Nat) : Nat := r - ((r / 2) &&& 85)
def y2 (r : Nat) : Nat := (r &&& 51) + ((r / 4) &&& 51)
def y3 (r : Nat) : Nat := (r + r / 16) &&& 15
theorem y_all : ∀ r, r < 256 → y1 r < 256 ∧ y2 (y1 r) < 69 ∧ y2 (y1 r) % 16 < 5 ∧ y3 (y2 (y1 r)) = fb_ct (fun i => r.testBit i) 8 := by decide +kernel
theorem p1_s (k q : Nat) {r : Nat} (hr : r < 256) : p1 (k + 1) (256 * q + r) = 256 * p1 k q + y1 r := by
  unfold p1 y1
  rw [mk8_s]
  have e : (256 * q + r) / 2 = 256 * (q / 2) + (128 * (q % 2) + r / 2) := by omega
  rw [e, and256 _ _ (by omega) (by decide), by1 (q % 2) (by omega) r hr]
  have h1 : (q / 2 &&& mk8 85 k) ≤ q := Nat.le_trans Nat.and_le_left (Nat.div_le_self _ _)
  have h2 : (r / 2 &&& 85) ≤ r := Nat.le_trans Nat.and_le_left (Nat.div_le_self _ _)
  omega
theorem p2_s (k q : Nat) {r : Nat} (hr : r < 256) : p2 (k + 1) (256 * q + r) = 256 * p2 k q + y2 r := by
  unfold p2 y2
  rw [mk8_s]
  have e : (256 * q + r) / 4 = 256 * (q / 4) + (64 * (q % 4) + r / 4) := by omega
  rw [e, and256 _ _ hr (by decide), and256 _ _ (by omega) (by decide), by2 (q % 4) (by omega) r hr]
  omega
theorem p3_s (k q : Nat) {r : Nat} (hr : r < 69) (hq : q % 16 < 5) : p3 (k + 1) (256 * q + r) = 256 * p3 k q + y3 r := by
  unfold p3 y3
  rw [mk8_s]
  have e : 256 * q + r + (256 * q + r) / 16 = 256 * (q + q / 16) + (16 * (q % 16) + (r + r / 16)) := by omega
  rw [e, and256 _ _ (by omega) (by decide), by3 (q % 16) hq r hr]
def pT (k n : Nat) : Nat := p3 k (p2 k (p1 k n))
theorem p12_mod (k n : Nat) : p2 k (p1 k n) % 16 < 5 := by
  cases k with
  | zero =>
    have h : p2 0 (p1 0 n) = 0 := by
      unfold p2 mk8
      rw [Nat.and_zero, Nat.and_zero]
    rw [h]
    decide
  | succ k =>
    have hr : n % 256 < 256 := Nat.mod_lt _ (by decide)
    have e : n = 256 * (n / 256) + n % 256 := by omega
    have hy := y_all _ hr
    rw [e, p1_s _ _ hr, p2_s _ _ hy.1]
    omega
theorem pT_s (k n : Nat) : pT (k + 1) n = 256 * pT k (n / 256) + fb_ct (fun i => (n % 256).testBit i) 8 := by
  have hr : n % 256 < 256 := Nat.mod_lt _ (by decide)
  have e : n = 256 * (n / 256) + n % 256 := by omega
  have hy := y_all _ hr
  unfold pT
  conv => lhs; rw [e]
  rw [p1_s _ _ hr, p2_s _ _ hy.1, p3_s _ _ hy.2.1 (p12_mod _ _), hy.2.2.2]
theorem ct_byte (n k : Nat) : fb_ct (fun i => n.testBit i) (8 + k) = fb_ct (fun i => (n % 256).testBit i) 8 + fb_ct (fun i => (n / 256).testBit i) k := by
  rw [fb_ct_split, fb_ct_cong (p := fun i => n.testBit i) (q := fun i => (n % 256).testBit i) (n := 8) (fun i hi => by
    show n.testBit i = (n % 2 ^ 8).testBit i
    rw [Nat.testBit_mod_two_pow, decide_eq_true hi, Bool.true_and]), fb_ct_cong (p := fun i => n.testBit (8 + i)) (q := fun i => (n / 256).testBit i) (fun i _ => by
    show n.testBit (8 + i) = (n / 2 ^ 8).testBit i
    rw [Nat.testBit_div_two_pow, Nat.add_comm])]
theorem sum8 {c0 c1 c2 c3 c4 c5 c6 c7 N : Nat} (h0 : c0 ≤ 8) (h1 : c1 ≤ 8) (h2 : c2 ≤ 8) (h3 : c3 ≤ 8) (h4 : c4 ≤ 8) (h5 : c5 ≤ 8) (h6 : c6 ≤ 8) (h7 : c7 ≤ 8)
    (hN : N = 256 * (256 * (256 * (256 * (256 * (256 * (256 * (256 * 0 + c7) + c6) + c5) + c4) + c3) + c2) + c1) + c0) :
    N + N / 256 < 18446744073709551616 ∧ (N + N / 256) + (N + N / 256) / 65536 < 18446744073709551616 ∧ ((N + N / 256) + (N + N / 256) / 65536) + ((N + N / 256) + (N + N / 256) / 65536) / 4294967296 < 18446744073709551616 ∧ (((N + N / 256) + (N + N / 256) / 65536) + ((N + N / 256) + (N + N / 256) / 65536) / 4294967296) % 128 = c0 + (c1 + (c2 + (c3 + (c4 + (c5 + (c6 + c7)))))) := by
  have a1 : N / 256 = 256 * (256 * (256 * (256 * (256 * (256 * (256 * 0 + c7) + c6) + c5) + c4) + c3) + c2) + c1 := by omega
  obtain ⟨A, hA⟩ : ∃ A, A = N + N / 256 := ⟨_, rfl⟩
  have a2 : A = 256 * (256 * (256 * (256 * (256 * (256 * (256 * c7 + (c6 + c7)) + (c5 + c6)) + (c4 + c5)) + (c3 + c4)) + (c2 + c3)) + (c1 + c2)) + (c0 + c1) := by omega
  rw [← hA]
  clear hA a1 hN
  have a3 : A / 65536 = 256 * (256 * (256 * (256 * (256 * c7 + (c6 + c7)) + (c5 + c6)) + (c4 + c5)) + (c3 + c4)) + (c2 + c3) := by omega
  obtain ⟨B, hB⟩ : ∃ B, B = A + A / 65536 := ⟨_, rfl⟩
  have a4 : B / 4294967296 = 256 * (256 * (256 * c7 + (c6 + c7)) + (c5 + c6 + c7)) + (c4 + c5 + (c6 + c7)) := by omega
  rw [← hB]
  refine ⟨by omega, by omega, by omega, by omega⟩
theorem uN_bv (x : Int64) : uN x = x.toBitVec.toNat := rfl
theorem uN_and (x y : Int64) : uN (x &&& y) = uN x &&& uN y := by
  rw [uN_bv, uN_bv, uN_bv, Int64.toBitVec_and, BitVec.toNat_and]
theorem uN_sub {x y : Int64} (h : uN y ≤ uN x) : uN (x - y) = uN x - uN y := by
  have h1 := uN_lt x
  rw [uN_bv] at h h1
  rw [uN_bv] at h
  rw [uN_bv, uN_bv, uN_bv, Int64.toBitVec_sub, BitVec.toNat_sub]
  omega
theorem lb_uN (x : Int64) {j : Nat} : lb x j = (uN x).testBit j := rfl
theorem popc (x : Int64) : FJ13_bitCount_95d88 x = some (nI (fb_ct (fun j => lb x j) 64)) := by
  obtain ⟨n, hn⟩ : ∃ n, n = uN x := ⟨_, rfl⟩
  have hlt : n < 18446744073709551616 := by rw [hn]; exact uN_lt x
  have hc : fb_ct (fun j => lb x j) 64 = fb_ct (fun j => n.testBit j) 64 := by rw [hn]; rfl
  rw [hc]
  unfold FJ13_bitCount_95d88
  have sh : ∀ (y : Int64) (k : Nat), k < 64 → uN (y.toUInt64 >>> ((nI k).toInt64.toUInt64 &&& Int64.toUInt64 63)).toInt64 = uN y / 2 ^ k := fun y k hk => uN_sk y hk
  have m5 : uN 6148914691236517205 = mk8 85 8 := by decide +kernel
  have m3 : uN 3689348814741910323 = mk8 51 8 := by decide +kernel
  have mf : uN 1085102592571150095 = mk8 15 8 := by decide +kernel
  obtain ⟨x1, hx1⟩ : ∃ y, y = x - ((x.toUInt64 >>> ((1 : Int32).toInt64.toUInt64 &&& Int64.toUInt64 63)).toInt64 &&& (6148914691236517205 : Int64)) := ⟨_, rfl⟩
  have e1 : uN x1 = p1 8 n := by
    have q : uN ((x.toUInt64 >>> ((1 : Int32).toInt64.toUInt64 &&& Int64.toUInt64 63)).toInt64 &&& (6148914691236517205 : Int64)) = (n / 2) &&& mk8 85 8 := by rw [uN_and, m5, hn]; exact congrArg (· &&& mk8 85 8) (sh x 1 (by decide))
    rw [hx1, uN_sub (by rw [q, ← hn]; exact Nat.le_trans Nat.and_le_left (Nat.div_le_self _ _)), q, ← hn]
    rfl
  obtain ⟨x2, hx2⟩ : ∃ y, y = (x1 &&& (3689348814741910323 : Int64)) + ((x1.toUInt64 >>> ((2 : Int32).toInt64.toUInt64 &&& Int64.toUInt64 63)).toInt64 &&& (3689348814741910323 : Int64)) := ⟨_, rfl⟩
  have b2 : ∀ m, p2 8 m < 18446744073709551616 := fun m => by
    have q1 : (m &&& mk8 51 8) ≤ mk8 51 8 := Nat.and_le_right
    have q2 : ((m / 4) &&& mk8 51 8) ≤ mk8 51 8 := Nat.and_le_right
    have q3 : mk8 51 8 = 3689348814741910323 := by decide +kernel
    unfold p2
    omega
  have e2 : uN x2 = p2 8 (p1 8 n) := by
    have q : uN (x1.toUInt64 >>> ((2 : Int32).toInt64.toUInt64 &&& Int64.toUInt64 63)).toInt64 = p1 8 n / 4 := by rw [← e1]; exact sh x1 2 (by decide)
    rw [hx2, uN_add, uN_and, uN_and, m3, q, e1]
    exact Nat.mod_eq_of_lt (b2 _)
  have hm2 : p2 8 (p1 8 n) ≤ 7378697629483820646 := by
    have q1 : (p1 8 n &&& mk8 51 8) ≤ mk8 51 8 := Nat.and_le_right
    have q2 : ((p1 8 n / 4) &&& mk8 51 8) ≤ mk8 51 8 := Nat.and_le_right
    have q3 : mk8 51 8 = 3689348814741910323 := by decide +kernel
    unfold p2
    omega
  obtain ⟨x3, hx3⟩ : ∃ y, y = (x2 + (x2.toUInt64 >>> ((4 : Int32).toInt64.toUInt64 &&& Int64.toUInt64 63)).toInt64) &&& (1085102592571150095 : Int64) := ⟨_, rfl⟩
  have e3 : uN x3 = pT 8 n := by
    have q : uN (x2.toUInt64 >>> ((4 : Int32).toInt64.toUInt64 &&& Int64.toUInt64 63)).toInt64 = uN x2 / 16 := sh x2 4 (by decide)
    rw [hx3, uN_and, mf, uN_add, q, e2, Nat.mod_eq_of_lt (by omega)]
    rfl
  obtain ⟨x4, hx4⟩ : ∃ y, y = x3 + (x3.toUInt64 >>> ((8 : Int32).toInt64.toUInt64 &&& Int64.toUInt64 63)).toInt64 := ⟨_, rfl⟩
  obtain ⟨x5, hx5⟩ : ∃ y, y = x4 + (x4.toUInt64 >>> ((16 : Int32).toInt64.toUInt64 &&& Int64.toUInt64 63)).toInt64 := ⟨_, rfl⟩
  obtain ⟨x6, hx6⟩ : ∃ y, y = x5 + (x5.toUInt64 >>> ((32 : Int32).toInt64.toUInt64 &&& Int64.toUInt64 63)).toInt64 := ⟨_, rfl⟩
  have hN : pT 8 n = 256 * (256 * (256 * (256 * (256 * (256 * (256 * (256 * pT 0 (n / 256 / 256 / 256 / 256 / 256 / 256 / 256 / 256) + fb_ct (fun i => (n / 256 / 256 / 256 / 256 / 256 / 256 / 256 % 256).testBit i) 8) + fb_ct (fun i => (n / 256 / 256 / 256 / 256 / 256 / 256 % 256).testBit i) 8) + fb_ct (fun i => (n / 256 / 256 / 256 / 256 / 256 % 256).testBit i) 8) + fb_ct (fun i => (n / 256 / 256 / 256 / 256 % 256).testBit i) 8) + fb_ct (fun i => (n / 256 / 256 / 256 % 256).testBit i) 8) + fb_ct (fun i => (n / 256 / 256 % 256).testBit i) 8) + fb_ct (fun i => (n / 256 % 256).testBit i) 8) + fb_ct (fun i => (n % 256).testBit i) 8 := by
    rw [pT_s, pT_s, pT_s, pT_s, pT_s, pT_s, pT_s, pT_s]
  have h0 : ∀ m, pT 0 m = 0 := fun m => by unfold pT p3 mk8; exact Nat.and_zero _
  rw [h0] at hN
  have hS : fb_ct (fun j => n.testBit j) 64 = fb_ct (fun i => (n % 256).testBit i) 8 + (fb_ct (fun i => (n / 256 % 256).testBit i) 8 + (fb_ct (fun i => (n / 256 / 256 % 256).testBit i) 8 + (fb_ct (fun i => (n / 256 / 256 / 256 % 256).testBit i) 8 + (fb_ct (fun i => (n / 256 / 256 / 256 / 256 % 256).testBit i) 8 + (fb_ct (fun i => (n / 256 / 256 / 256 / 256 / 256 % 256).testBit i) 8 + (fb_ct (fun i => (n / 256 / 256 / 256 / 256 / 256 / 256 % 256).testBit i) 8 + fb_ct (fun i => (n / 256 / 256 / 256 / 256 / 256 / 256 / 256 % 256).testBit i) 8)))))) := by
    rw [show (64 : Nat) = 8 + (8 + (8 + (8 + (8 + (8 + (8 + (8 + 0))))))) from rfl, ct_byte, ct_byte, ct_byte, ct_byte, ct_byte, ct_byte, ct_byte, ct_byte]
    rfl
  have hh := sum8 (fb_ct_le _ 8) (fb_ct_le _ 8) (fb_ct_le _ 8) (fb_ct_le _ 8) (fb_ct_le _ 8) (fb_ct_le _ 8) (fb_ct_le _ 8) (fb_ct_le _ 8) hN
  rw [← hS] at hh
  have e4 : uN x4 = pT 8 n + pT 8 n / 256 := by
    have q : uN (x3.toUInt64 >>> ((8 : Int32).toInt64.toUInt64 &&& Int64.toUInt64 63)).toInt64 = uN x3 / 256 := sh x3 8 (by decide)
    rw [hx4, uN_add, q, e3]
    exact Nat.mod_eq_of_lt hh.1
  have e5 : uN x5 = uN x4 + uN x4 / 65536 := by
    have q : uN (x4.toUInt64 >>> ((16 : Int32).toInt64.toUInt64 &&& Int64.toUInt64 63)).toInt64 = uN x4 / 65536 := sh x4 16 (by decide)
    rw [hx5, uN_add, q, e4]
    exact Nat.mod_eq_of_lt hh.2.1
  have e6 : uN x6 = uN x5 + uN x5 / 4294967296 := by
    have q : uN (x5.toUInt64 >>> ((32 : Int32).toInt64.toUInt64 &&& Int64.toUInt64 63)).toInt64 = uN x5 / 4294967296 := sh x5 32 (by decide)
    rw [hx6, uN_add, q, e5, e4]
    exact Nat.mod_eq_of_lt hh.2.2.1
  rw [← hx1, vl_eq, ← hx2, vl_eq, ← hx3, vl_eq, ← hx4, vl_eq, ← hx5, vl_eq, ← hx6, vl_eq]
  have hf : uN x6 % 128 = fb_ct (fun j => n.testBit j) 64 := by rw [e6, e5, e4]; exact hh.2.2.2
  rw [← hf]
  have hz : ((x6.toInt32 &&& (127 : Int32))) = nI (x6.toInt32.toBitVec.toNat % 2 ^ 7) := pk_and _ 7 (by decide)
  rw [hz]
  have h32 : x6.toInt32.toBitVec.toNat = uN x6 % 4294967296 := by
    rw [uN_bv, Int64.toBitVec_toInt32, BitVec.signExtend_eq_setWidth_of_le _ (by decide), BitVec.toNat_setWidth]
  rw [h32]
  congr 2
  omega
