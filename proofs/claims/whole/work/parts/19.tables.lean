/-! the class's tables of states -/
def tb (f : Nat → Int64) (s : Nat) : Bool := lb (f (s / 64)) (s % 64)
theorem tb_at (f : Nat → Int64) (v : Nat) {q : Nat} (hq : q < 64) : tb f (64 * v + q) = lb (f v) q := by
  unfold tb
  rw [show (64 * v + q) / 64 = v by omega, show (64 * v + q) % 64 = q by omega]
theorem ct_words (p : Nat → Bool) : ∀ n, fb_ct p (64 * n) = fb_sm (fun v => fb_ct (fun q => p (64 * v + q)) 64) n
  | 0 => rfl
  | n + 1 => by
    rw [fb_sm_succ, ← ct_words p n, show 64 * (n + 1) = 64 * n + 64 by omega, fb_ct_split]
theorem ct_tb (f : Nat → Int64) : fb_ct (tb f) 1024 = fb_sm (fun v => fb_ct (fun q => lb (f v) q) 64) 16 := by
  rw [show (1024 : Nat) = 64 * 16 from rfl, ct_words]
  exact fb_sm_cong (fun v _ => fb_ct_cong (fun q hq => tb_at f v hq))
theorem ct_tbP {p : Nat → Bool} (g : Nat → Int64) (h : ∀ v, v < 16 → ∀ q, q < 64 → lb (g v) q = p (64 * v + q)) : fb_sm (fun v => fb_ct (fun q => lb (g v) q) 64) 16 = fb_ct p 1024 := by
  rw [show (1024 : Nat) = 64 * 16 from rfl, ct_words]
  exact fb_sm_cong (fun v hv => fb_ct_cong (fun q hq => h v hv q hq))
theorem fld_sum (g : Nat → Nat) (c : Nat) : ∀ n, fld (fun i (a : Int32) => a + nI (g i)) n (nI c) = nI (c + fb_sm g n)
  | 0 => rfl
  | n + 1 => by
    show fld _ n (nI c) + nI (g n) = _
    rw [fld_sum g c n, nI_add, fb_sm_succ, Nat.add_assoc]
theorem fld_sum0 (g : Nat → Nat) (n : Nat) : fld (fun i (a : Int32) => a + nI (g i)) n 0 = nI (fb_sm g n) := by
  have h := fld_sum g 0 n
  rw [Nat.zero_add] at h
  exact h
theorem lb_and (x y : Int64) (j : Nat) : lb (x &&& y) j = (lb x j && lb y j) := by unfold lb; rw [Int64.toBitVec_and, BitVec.getLsbD_and]
theorem lb_or (x y : Int64) (j : Nat) : lb (x ||| y) j = (lb x j || lb y j) := by unfold lb; rw [Int64.toBitVec_or, BitVec.getLsbD_or]
theorem lb_xor (x y : Int64) (j : Nat) : lb (x ^^^ y) j = (lb x j ^^ lb y j) := by unfold lb; rw [Int64.toBitVec_xor, BitVec.getLsbD_xor]
theorem lb_m1 : ∀ j, j < 64 → lb (-1) j = true := by decide +kernel
theorem lb_0 (j : Nat) : lb 0 j = false := by
  show (0 : BitVec 64).getLsbD j = false
  exact BitVec.getLsbD_zero
theorem lb_not (x : Int64) {j : Nat} (hj : j < 64) : lb (x ^^^ (-1)) j = !lb x j := by rw [lb_xor, lb_m1 j hj, Bool.xor_true]
theorem lb_ext {x y : Int64} (h : ∀ j, j < 64 → lb x j = lb y j) : x = y := wb_inj (BitVec.eq_of_getLsbD_eq (fun i hi => h i hi))
theorem lb_big {x : Int64} {j : Nat} (h : 64 ≤ j) : lb x j = false := BitVec.getLsbD_of_ge _ _ h
theorem lb_ushr (x : Int64) {k : Nat} (hk : k < 64) (q : Nat) : lb (x.toUInt64 >>> ((nI k).toInt64.toUInt64 &&& Int64.toUInt64 63)).toInt64 q = lb x (k + q) := by
  rw [lb_uN, lb_uN, uN_sk x hk, Nat.testBit_div_two_pow, Nat.add_comm]
theorem lb_lN (n : Nat) {q : Nat} (hq : q < 64) : lb (lN n) q = n.testBit q := by
  unfold lb
  rw [wb_tb, BitVec.getLsbD_ofNat, decide_eq_true hq, Bool.true_and]
theorem lb_shl (x : Int64) {k : Nat} (hk : k < 64) {q : Nat} (hq : q < 64) : lb (x <<< ((nI k).toInt64 &&& 63)) q = (decide (k ≤ q) && lb x (q - k)) := by
  obtain ⟨n, hn, rfl⟩ := wb_of x
  rw [wb_shl n hk, lb_lN _ hq, Nat.testBit_mul_two_pow]
  by_cases h : k ≤ q
  · rw [lb_lN _ (by omega)]
  · rw [decide_eq_false h, Bool.false_and, Bool.false_and]
theorem cmp0 (y : Int64) : lg_cmp y 0 = 0 ↔ y = 0 := by
  unfold lg_cmp
  by_cases h : y = 0
  · subst h
    exact ⟨fun _ => rfl, fun _ => by decide⟩
  · refine ⟨fun q => ?_, fun q => absurd q h⟩
    rw [if_neg h] at q
    split at q
    · exact absurd q (by decide)
    · exact absurd q (by decide)
theorem lbit0 (x : Int64) {k : Nat} (hk : k < 64) : lg_cmp ((x.toUInt64 >>> ((nI k).toInt64.toUInt64 &&& Int64.toUInt64 63)).toInt64 &&& 1) 0 = 0 ↔ lb x k = false := by
  rw [cmp0]
  exact ts_bit hk (by rw [wb_cu k hk]; exact u_tn (by omega))
theorem zero_bits (x : Int64) : x = 0 ↔ ∀ j, j < 64 → lb x j = false := by
  constructor
  · rintro rfl j _
    exact lb_0 j
  · exact fun h => lb_ext (fun j hj => by rw [h j hj, lb_0])
theorem word0 (x : Int64) : x = 0 ↔ fb_ct (fun q => lb x q) 64 = 0 := by rw [zero_bits, fb_ct_zero]
theorem sh6 {s : Nat} (hs : s < 1024) : (nI s >>> ((6 : Int32) &&& 31)) &&& (15 : Int32) = nI (s / 64) := by
  rw [pk_shrN (by omega) _ 6 (by decide), pk_andN (by omega) 4 (by decide)]
  congr 1
  omega
theorem an63 {s : Nat} (hs : s < 1024) : nI s &&& (63 : Int32) = nI (s % 64) := by
  rw [pk_andN (by omega) 6 (by decide)]
section
variable {b : Nat} {w : WD} {j : Nat}
theorem thas_mk (h : okA 3 j 16 = true) {s : Nat} (hs : s < 1024) : FX7_has (mk b w) (b + j) (nI s) = some (if tb (w.2.2.1 j) s then 1 else 0) := by
  unfold FX7_has
  rw [sh6 hs, rdL_mk h b w (by omega), Option.bind_some, an63 hs]
  unfold tb
  cases e : lb (w.2.2.1 j (s / 64)) (s % 64) with
  | false => exact if_pos ((lbit0 _ (by omega)).mpr e)
  | true => exact if_neg (fun q => by rw [(lbit0 _ (by omega)).mp q] at e; cases e)
theorem size_mk (h : okA 3 j 16 = true) : FX7_size (mk b w) (b + j) = some (nI (fb_ct (tb (w.2.2.1 j)) 1024)) := by
  unfold FX7_size
  refine lpb_fld (fun i a => a + nI (fb_ct (fun q => lb (w.2.2.1 j i) q) 64)) (fun a => a) 16 (by decide) (fun i hi a => ?_) (fun a => by rfl) ?_
  · dsimp only
    rw [if_neg (Lnle hi), rdL_mk h b w hi, Option.bind_some, popc, Option.bind_some, vl_eq, vl_eq, nI_1]
  · rw [fld_sum0, ← ct_tb]
theorem ssize_mk {k : Nat} (h : okA 3 j 16 = true) (hk : okA 3 k 16 = true) : FX7_sharedSize (mk b w) (b + j) (b + k) = some (nI (fb_ct (fun s => tb (w.2.2.1 j) s && tb (w.2.2.1 k) s) 1024)) := by
  unfold FX7_sharedSize
  refine lpb_fld (fun i a => a + nI (fb_ct (fun q => lb (w.2.2.1 j i &&& w.2.2.1 k i) q) 64)) (fun a => a) 16 (by decide) (fun i hi a => ?_) (fun a => by rfl) ?_
  · dsimp only
    rw [if_neg (Lnle hi), rdL_mk h b w hi, Option.bind_some, rdL_mk hk b w hi, Option.bind_some, popc, Option.bind_some, vl_eq, vl_eq, nI_1]
  · rw [fld_sum0]
    exact congrArg (fun n => some (nI n)) (ct_tbP _ (fun v _ q hq => by
      show _ = (tb _ _ && tb _ _)
      rw [lb_and, tb_at _ _ hq, tb_at _ _ hq]))
theorem lone_mk {k m : Nat} (h : okA 3 j 16 = true) (hk : okA 3 k 16 = true) (hm : okA 3 m 16 = true) : FX7_loneSize (mk b w) (b + j) (b + k) (b + m) = some (nI (fb_ct (fun s => tb (w.2.2.1 j) s && tb (w.2.2.1 k) s && !tb (w.2.2.1 m) s) 1024)) := by
  unfold FX7_loneSize
  refine lpb_fld (fun i a => a + nI (fb_ct (fun q => lb ((w.2.2.1 j i &&& w.2.2.1 k i) &&& (w.2.2.1 m i ^^^ (-1))) q) 64)) (fun a => a) 16 (by decide) (fun i hi a => ?_) (fun a => by rfl) ?_
  · dsimp only
    rw [if_neg (Lnle hi), rdL_mk h b w hi, Option.bind_some, rdL_mk hk b w hi, Option.bind_some, rdL_mk hm b w hi, Option.bind_some, popc, Option.bind_some, vl_eq, vl_eq, nI_1]
  · rw [fld_sum0]
    exact congrArg (fun n => some (nI n)) (ct_tbP _ (fun v _ q hq => by
      show _ = (tb _ _ && tb _ _ && !tb _ _)
      rw [lb_and, lb_and, lb_not _ hq, tb_at _ _ hq, tb_at _ _ hq, tb_at _ _ hq]))
def soX (i v : Nat) : Int64 := if i < 6 then soW i else if v.testBit (i - 6) then -1 else 0
theorem lb_soX : ∀ i, i < 10 → ∀ v, v < 16 → ∀ q, q < 64 → lb (soX i v) q = (64 * v + q).testBit i := by decide +kernel
theorem soN : ∀ i, i < 10 → ∀ v, v < 16 → FX7_soWord (fun _ => none) (nI i) (nI v) = some (soX i v) := by decide +kernel
theorem so_mk (hp : HP) {i v : Nat} (hi : i < 10) (hv : v < 16) : FX7_soWord hp (nI i) (nI v) = some (soX i v) := soN i hi v hv
theorem sizeW_mk (h : okA 3 j 16 = true) {i : Nat} (hi : i < 10) : FX7_sizeWith (mk b w) (b + j) (nI i) = some (nI (fb_ct (fun s => tb (w.2.2.1 j) s && s.testBit i) 1024)) := by
  unfold FX7_sizeWith
  refine lpb_fld (fun v a => a + nI (fb_ct (fun q => lb (w.2.2.1 j v &&& soX i v) q) 64)) (fun a => a) 16 (by decide) (fun v hv a => ?_) (fun a => by rfl) ?_
  · dsimp only
    rw [if_neg (Lnle hv), rdL_mk h b w hv, Option.bind_some, so_mk _ hi hv, Option.bind_some, popc, Option.bind_some, vl_eq, vl_eq, nI_1]
  · rw [fld_sum0]
    exact congrArg (fun n => some (nI n)) (ct_tbP _ (fun v hv q hq => by
      show _ = (tb _ _ && Nat.testBit _ _)
      rw [lb_and, lb_soX i hi v hv q hq, tb_at _ _ hq]))
/-- facts changed inside a word -/
def bfly (i : Nat) (a : Int64) : Int64 := ((a &&& soW i).toUInt64 >>> ((nI (2 ^ i)).toInt64.toUInt64 &&& Int64.toUInt64 63)).toInt64 ||| ((a &&& (soW i ^^^ (-1))) <<< ((nI (2 ^ i)).toInt64 &&& 63))
theorem lb_soW : ∀ i, i < 6 → ∀ q, q < 64 → lb (soW i) q = q.testBit i := by decide +kernel
theorem bf_fact : ∀ i, i < 6 → ∀ q, q < 64 → 2 ^ i < 64 ∧ (q ^^^ 2 ^ i) < 64 ∧ (if q.testBit i then (q ^^^ 2 ^ i) = q - 2 ^ i ∧ 2 ^ i ≤ q ∧ (q - 2 ^ i).testBit i = false ∧ (2 ^ i + q).testBit i = false else (q ^^^ 2 ^ i) = 2 ^ i + q ∧ (2 ^ i + q).testBit i = true ∧ (2 ^ i ≤ q → (q - 2 ^ i).testBit i = true)) := by decide +kernel
theorem lb_bfly {i : Nat} (hi : i < 6) (a : Int64) {q : Nat} (hq : q < 64) : lb (bfly i a) q = lb a (q ^^^ 2 ^ i) := by
  obtain ⟨h1, h2, h3⟩ := bf_fact i hi q hq
  unfold bfly
  rw [lb_or, lb_ushr _ h1, lb_shl _ h1 hq, lb_and, lb_and]
  by_cases e : q.testBit i = true
  · rw [if_pos e] at h3
    obtain ⟨h4, h5, h6, h7⟩ := h3
    rw [h4, decide_eq_true h5, Bool.true_and, lb_not _ (Nat.lt_of_le_of_lt (Nat.sub_le _ _) hq), lb_soW i hi (q - 2 ^ i) (Nat.lt_of_le_of_lt (Nat.sub_le _ _) hq), h6]
    by_cases e2 : 2 ^ i + q < 64
    · rw [lb_soW i hi _ e2, h7]
      simp
    · rw [lb_big (x := a) (show 64 ≤ 2 ^ i + q by omega)]
      simp
  · rw [if_neg e] at h3
    obtain ⟨h4, h5, h6⟩ := h3
    rw [h4] at h2
    rw [h4, lb_soW i hi _ h2, h5]
    by_cases e2 : 2 ^ i ≤ q
    · rw [lb_not _ (Nat.lt_of_le_of_lt (Nat.sub_le _ _) hq), lb_soW i hi (q - 2 ^ i) (Nat.lt_of_le_of_lt (Nat.sub_le _ _) hq), h6 e2]
      simp
    · rw [decide_eq_false e2]
      simp
def chg (f : Nat → Int64) (v m : Nat) : Int64 := fld (fun i a => if m.testBit i then bfly i a else a) 6 (f (v ^^^ m / 64))
theorem md_fact : ∀ m, m < 1024 → ∀ i, i < 6 → m % 2 ^ (i + 1) = if m.testBit i then (m % 2 ^ i) ^^^ 2 ^ i else m % 2 ^ i := by decide +kernel
theorem lb_chg (f : Nat → Int64) {v m : Nat} (hm : m < 1024) {q : Nat} (hq : q < 64) : lb (chg f v m) q = tb f ((64 * v + q) ^^^ m) := by
  have key : ∀ n, n ≤ 6 → ∀ q, q < 64 → lb (fld (fun i a => if m.testBit i then bfly i a else a) n (f (v ^^^ m / 64))) q = lb (f (v ^^^ m / 64)) (q ^^^ (m % 2 ^ n)) := by
    intro n
    induction n with
    | zero =>
      intro _ q _
      rw [Nat.pow_zero, Nat.mod_one, Nat.xor_zero]
      rfl
    | succ n ih =>
      intro hn q hq
      show lb (if m.testBit n then bfly n _ else _) q = _
      rw [md_fact m hm n (by omega)]
      by_cases e : m.testBit n = true
      · rw [if_pos e, if_pos e, lb_bfly (by omega) _ hq, ih (by omega) _ (bf_fact n (by omega) q hq).2.1, Nat.xor_assoc, Nat.xor_comm (2 ^ n)]
      · rw [if_neg e, if_neg e, ih (by omega) q hq]
  unfold chg
  rw [key 6 (Nat.le_refl 6) q hq]
  unfold tb
  have e1 : ((64 * v + q) ^^^ m) / 64 = v ^^^ m / 64 := by
    rw [show (64 : Nat) = 2 ^ 6 from rfl, Nat.xor_div_two_pow]
    congr 1
    omega
  have e2 : ((64 * v + q) ^^^ m) % 64 = q ^^^ m % 64 := by
    rw [show (64 : Nat) = 2 ^ 6 from rfl, Nat.xor_mod_two_pow]
    congr 1
    omega
  rw [e1, e2]
theorem xor16 : ∀ a, a < 16 → ∀ b, b < 16 → (a ^^^ b) < 16 := by decide +kernel
theorem chg_mk (h : okA 3 j 16 = true) {v m : Nat} (hv : v < 16) (hm : m < 1024) : FX7_changed (mk b w) (b + j) (nI v) (nI m) = some (chg (w.2.2.1 j) v m) := by
  unfold FX7_changed
  have e : (nI v ^^^ (nI m >>> ((6 : Int32) &&& 31))) &&& (15 : Int32) = nI (v ^^^ m / 64) := by
    rw [pk_shrN (by omega) _ 6 (by decide), fb_xorI, pk_andN (Nat.lt_trans (xor16 v hv (m / 2 ^ 6) (by omega)) (by decide)) 4 (by decide), Nat.mod_eq_of_lt (xor16 v hv (m / 2 ^ 6) (by omega))]
  rw [e, rdL_mk h b w (xor16 v hv _ (by omega)), Option.bind_some]
  refine lpb_fld (fun i a => if m.testBit i then bfly i a else a) (fun a => a) 6 (by decide) (fun i hi a => ?_) (fun a => by rfl) (by rfl)
  dsimp only
  rw [if_neg (Lnle hi), bit_nI m (by omega)]
  have hs : soR (nI i) = some (soW i) := by
    unfold soR
    rw [if_neg (nI_in hi (by decide)), nI_clamp (by omega)]
  by_cases e2 : m.testBit i = true
  · rw [if_pos e2, if_neg (by decide), hs, Option.bind_some, Option.bind_some, vl_eq, vl_eq, nI_1, shl1 i (by omega), if_pos e2]
    rfl
  · rw [if_neg e2, if_pos rfl, vl_eq, nI_1, if_neg e2]
end
