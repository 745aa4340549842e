/-! the class's tables, on: rising facts, like facts, forbidden changes; its books -/
theorem clr_idem (a m : Int32) : (a &&& m) &&& m = a &&& m := by
  refine b_ext (fun i _ => ?_)
  rw [b_and, b_and, Bool.and_assoc, Bool.and_self]
/-- a mask cleared where some word is not empty -/
theorem fld_clr (p : Nat → Bool) (m : Int32) (a : Int32) : ∀ n, fld (fun v (x : Int32) => if p v then x &&& m else x) n a = if ex p n then a &&& m else a
  | 0 => rfl
  | n + 1 => by
    show (if p n then fld _ n a &&& m else fld _ n a) = if (ex p n || p n) = true then a &&& m else a
    rw [fld_clr p m a n]
    cases p n <;> cases ex p n
    · rfl
    · rfl
    · rfl
    · show (a &&& m) &&& m = a &&& m
      exact clr_idem a m
theorem clr_pow (n : Nat) {i : Nat} (hi : i < 31) : nI n &&& (((1 : Int32) <<< (nI i &&& 31)) ^^^ (-1)) = nI (mO (fun k => n.testBit k && !decide (k = i)) 32) := by
  refine b_ext (fun k hk => ?_)
  rw [b_and, bt_not _ hk, bt_pow i (by omega) k hk, bt_nI _ hk, bt_nI _ hk, mO_bit, decide_eq_true hk, Bool.true_and]
theorem fld_clr10 (p : Nat → Bool) (m0 : Nat) (hm : m0 < 1024) : ∀ n, n ≤ 10 → fld (fun i (x : Int32) => if p i then x &&& (((1 : Int32) <<< (nI i &&& 31)) ^^^ (-1)) else x) n (nI m0) = nI (mO (fun k => m0.testBit k && !(decide (k < n) && p k)) 10)
  | 0, _ => by
    show nI m0 = _
    congr 1
    refine mO_eq hm (fun i _ => ?_)
    rw [decide_eq_false (Nat.not_lt_zero i), Bool.false_and]
    simp
  | n + 1, h => by
    show (if p n then fld _ n (nI m0) &&& _ else fld _ n (nI m0)) = _
    rw [fld_clr10 p m0 hm n (by omega)]
    by_cases e : p n = true
    · rw [if_pos e, clr_pow _ (by omega)]
      congr 1
      apply Nat.eq_of_testBit_eq
      intro k
      rw [mO_bit, mO_bit, mO_bit]
      by_cases q1 : k = n
      · subst q1
        rw [e]
        simp
      · have q2 : decide (k < n + 1) = decide (k < n) := by rw [decide_eq_decide]; omega
        rw [q2, decide_eq_false q1]
        by_cases q3 : k < 10
        · rw [decide_eq_true q3, decide_eq_true (show k < 32 by omega)]
          simp
        · rw [decide_eq_false q3]
          simp
    · rw [if_neg e]
      congr 1
      refine mO_cong (fun k _ => ?_)
      by_cases q1 : k = n
      · subst q1
        have : p k = false := by cases q : p k with
          | true => exact absurd q e
          | false => rfl
        rw [this]
        simp
      · have q2 : decide (k < n + 1) = decide (k < n) := by rw [decide_eq_decide]; omega
        rw [q2]
section
variable {b : Nat} {w : WD} {j : Nat}
theorem rising_mk (h : okA 3 j 16 = true) : FX7_rising (mk b w) (b + j) = some (nI (mO (fun i => ex (fun s => tb (w.2.2.1 j) s ^^ tb (w.2.2.1 j) (s ^^^ 2 ^ i)) 1024 && !ex (fun s => tb (w.2.2.1 j) s && !tb (w.2.2.1 j) (s ^^^ 2 ^ i) && !s.testBit i) 1024) 10)) := by
  unfold FX7_rising
  rw [dep_mk h, Option.bind_some]
  refine lpb_fld (fun i (x : Int32) => if ex (fun s => tb (w.2.2.1 j) s && !tb (w.2.2.1 j) (s ^^^ 2 ^ i) && !s.testBit i) 1024 then x &&& (((1 : Int32) <<< (nI i &&& 31)) ^^^ (-1)) else x) (fun a => a) 10 (by decide) (fun i hi a => ?_) (fun a => by rfl) ?_
  · dsimp only
    rw [if_neg (Lnle hi)]
    refine lpb_fld (fun v (x : Int32) => if (!decide ((w.2.2.1 j v &&& (chg (w.2.2.1 j) v (2 ^ i) ^^^ (-1))) &&& (soX i v ^^^ (-1)) = 0)) = true then x &&& (((1 : Int32) <<< (nI i &&& 31)) ^^^ (-1)) else x) (fun a => a) 16 (by decide) (fun v hv a => ?_) (fun a => by rfl) ?_
    · dsimp only
      rw [if_neg (Lnle hv), rdL_mk h b w hv, Option.bind_some, shl1 i (by omega), chg_mk h hv (p2_lt hi), Option.bind_some, so_mk _ hi hv, Option.bind_some]
      by_cases e : (w.2.2.1 j v &&& (chg (w.2.2.1 j) v (2 ^ i) ^^^ (-1))) &&& (soX i v ^^^ (-1)) = 0
      · rw [if_pos ((cmp0 _).mpr e), vl_eq, nI_1, decide_eq_true e, if_neg (by decide)]
      · rw [if_neg (fun q => e ((cmp0 _).mp q)), vl_eq, vl_eq, nI_1, decide_eq_false e, if_pos (by decide)]
    · rw [fld_clr (fun v => !decide ((w.2.2.1 j v &&& (chg (w.2.2.1 j) v (2 ^ i) ^^^ (-1))) &&& (soX i v ^^^ (-1)) = 0)), vl_eq, nI_1]
      have hw := words0 (f := fun v => (w.2.2.1 j v &&& (chg (w.2.2.1 j) v (2 ^ i) ^^^ (-1))) &&& (soX i v ^^^ (-1))) (p := fun s => tb (w.2.2.1 j) s && !tb (w.2.2.1 j) (s ^^^ 2 ^ i) && !s.testBit i) (fun v hv q hq => by
        rw [lb_and, lb_and, lb_not _ hq, lb_not _ hq, lb_chg _ (p2_lt hi) hq, lb_soX i hi v hv q hq, tb_at _ _ hq])
      have e : ex (fun v => !decide ((w.2.2.1 j v &&& (chg (w.2.2.1 j) v (2 ^ i) ^^^ (-1))) &&& (soX i v ^^^ (-1)) = 0)) 16 = ex (fun s => tb (w.2.2.1 j) s && !tb (w.2.2.1 j) (s ^^^ 2 ^ i) && !s.testBit i) 1024 := by
        rw [Bool.eq_iff_iff]
        constructor
        · intro q
          cases g : ex (fun s => tb (w.2.2.1 j) s && !tb (w.2.2.1 j) (s ^^^ 2 ^ i) && !s.testBit i) 1024 with
          | true => rfl
          | false =>
            obtain ⟨v, hv, q1⟩ := (ex_iff _ _).mp q
            have : ∀ s, s < 1024 → (tb (w.2.2.1 j) s && !tb (w.2.2.1 j) (s ^^^ 2 ^ i) && !s.testBit i) = false := fun s hs => by
              cases g2 : (tb (w.2.2.1 j) s && !tb (w.2.2.1 j) (s ^^^ 2 ^ i) && !s.testBit i) with
              | false => rfl
              | true => rw [(ex_iff _ _).mpr ⟨s, hs, g2⟩] at g; cases g
            rw [decide_eq_true (hw.mpr this v hv)] at q1
            cases q1
        · intro q
          cases g : ex (fun v => !decide ((w.2.2.1 j v &&& (chg (w.2.2.1 j) v (2 ^ i) ^^^ (-1))) &&& (soX i v ^^^ (-1)) = 0)) 16 with
          | true => rfl
          | false =>
            obtain ⟨s, hs, q1⟩ := (ex_iff _ _).mp q
            have : ∀ v, v < 16 → (w.2.2.1 j v &&& (chg (w.2.2.1 j) v (2 ^ i) ^^^ (-1))) &&& (soX i v ^^^ (-1)) = 0 := fun v hv => by
              by_cases g2 : (w.2.2.1 j v &&& (chg (w.2.2.1 j) v (2 ^ i) ^^^ (-1))) &&& (soX i v ^^^ (-1)) = 0
              · exact g2
              · rw [(ex_iff _ _).mpr ⟨v, hv, by rw [decide_eq_false g2]; rfl⟩] at g
                cases g
            rw [hw.mp this s hs] at q1
            cases q1
      rw [e]
  · rw [fld_clr10 _ _ (mO_lt _ 10) 10 (Nat.le_refl 10)]
    exact congrArg (fun n => some (nI n)) (mO_cong (fun k hk => by rw [mO_bit, decide_eq_true hk, Bool.true_and, Bool.true_and]))
theorem or_pow {i k : Nat} (hi : i < 10) (hk : k < 10) : (2 ^ i ||| 2 ^ k) < 1024 := Nat.or_lt_two_pow (n := 10) (p2_lt hi) (p2_lt hk)
theorem like_mk (h : okA 3 j 16 = true) {i k : Nat} (hi : i < 10) (hk : k < 10) : FX7_mayChangePlaces (mk b w) (b + j) (nI i) (nI k) = some (if ex (fun s => (tb (w.2.2.1 j) s ^^ tb (w.2.2.1 j) (s ^^^ (2 ^ i ||| 2 ^ k))) && (s.testBit i ^^ s.testBit k)) 1024 then 0 else 1) := by
  unfold FX7_mayChangePlaces
  refine lpb_fld (fun v a => a ||| ((w.2.2.1 j v ^^^ chg (w.2.2.1 j) v (2 ^ i ||| 2 ^ k)) &&& (soX i v ^^^ soX k v))) (fun a => a) 16 (by decide) (fun v hv a => ?_) (fun a => by rfl) ?_
  · dsimp only
    rw [if_neg (Lnle hv), so_mk _ hi hv, Option.bind_some, so_mk _ hk hv, Option.bind_some, vl_eq, rdL_mk h b w hv, Option.bind_some, shl1 i (by omega), shl1 k (by omega), fa_or, chg_mk h hv (or_pow hi hk), Option.bind_some, vl_eq, vl_eq, nI_1]
  · have h1 := words0 (f := fun v => (w.2.2.1 j v ^^^ chg (w.2.2.1 j) v (2 ^ i ||| 2 ^ k)) &&& (soX i v ^^^ soX k v)) (p := fun s => (tb (w.2.2.1 j) s ^^ tb (w.2.2.1 j) (s ^^^ (2 ^ i ||| 2 ^ k))) && (s.testBit i ^^ s.testBit k)) (fun v hv q hq => by
      rw [lb_and, lb_xor, lb_xor, lb_chg _ (or_pow hi hk) hq, lb_soX i hi v hv q hq, lb_soX k hk v hv q hq, tb_at _ _ hq])
    rw [← fld_or, ← cmp0] at h1
    by_cases e : ex (fun s => (tb (w.2.2.1 j) s ^^ tb (w.2.2.1 j) (s ^^^ (2 ^ i ||| 2 ^ k))) && (s.testBit i ^^ s.testBit k)) 1024 = true
    · rw [if_pos e, if_neg]
      intro q
      obtain ⟨s, hs, g⟩ := (ex_iff _ _).mp e
      rw [h1.mp q s hs] at g
      cases g
    · rw [if_neg e, if_pos]
      refine h1.mpr (fun s hs => ?_)
      cases g : ((tb (w.2.2.1 j) s ^^ tb (w.2.2.1 j) (s ^^^ (2 ^ i ||| 2 ^ k))) && (s.testBit i ^^ s.testBit k)) with
      | false => rfl
      | true => exact absurd ((ex_iff _ _).mpr ⟨s, hs, g⟩) e
theorem fill_mk (h : okA 3 j 16 = true) : FX7_fill (mk b w) (b + j) = some (mk b (uL w j (fa_fill (fun _ => -1) (w.2.2.1 j) 16))) := by
  unfold FX7_fill
  refine lpb_fillL j (fun _ => -1) (fun x => x) 16 (by decide) (fun v hv g hg => ?_) (fun g => by rfl) (by rfl)
  dsimp only
  rw [if_neg (Lnle hv), wrL_mk h b _ hv, Option.bind_some, vl_eq, nI_1, uL_at, uL_uL]
/-! books: o the book, o + 1 its tables, o + 2 on the tables -/
def okB (o : Nat) : Bool := okE [0] o 0 (o + 4) && (okE [0] o 1 0 && (okA 4 (o + 1) 8 && okO [0] o))
theorem okB5 : okB 5 = true := by decide +kernel
theorem okB15 : okB 15 = true := by decide +kernel
theorem okBt {o : Nat} (ho : o = 5 ∨ o = 15) {k : Nat} (hk : k < 8) : okA 3 (o + 2 + k) 16 = true := by
  rcases ho with rfl | rfl
  · exact okT k hk
  · exact okT2 k hk
theorem okB_of {o : Nat} (ho : o = 5 ∨ o = 15) : okE [0] o 0 (o + 1 + 3) = true ∧ okE [0] o 1 0 = true ∧ okA 4 (o + 1) 8 = true ∧ okO [0] o = true := by
  rcases ho with rfl | rfl <;> decide +kernel
def shw (w : WD) (o : Nat) (x : Int32) (v : Nat) : Int64 := fld (fun k a => if bt x k then a &&& w.2.2.1 (o + 2 + k) v else a) 8 (-1)
theorem lb_shw (w : WD) (o : Nat) (x : Int32) (v : Nat) {q : Nat} (hq : q < 64) : lb (shw w o x v) q = al (fun k => !bt x k || lb (w.2.2.1 (o + 2 + k) v) q) 8 := by
  have key : ∀ n, lb (fld (fun k a => if bt x k then a &&& w.2.2.1 (o + 2 + k) v else a) n (-1)) q = al (fun k => !bt x k || lb (w.2.2.1 (o + 2 + k) v) q) n := by
    intro n
    induction n with
    | zero => exact lb_m1 q hq
    | succ n ih =>
      show lb (if bt x n then fld _ n (-1) &&& w.2.2.1 (o + 2 + n) v else fld _ n (-1)) q = (al _ n && (!bt x n || lb (w.2.2.1 (o + 2 + n) v) q))
      rw [← ih]
      cases bt x n
      · rw [if_neg (by decide)]
        simp
      · rw [if_pos rfl, lb_and]
        simp
  exact key 8
theorem shw_mk {o : Nat} (ho : o = 5 ∨ o = 15) (x : Int32) {v : Nat} (hv : v < 16) : FX0_sharedWord (mk b w) (b + o) x (nI v) = some (shw w o x v) := by
  unfold FX0_sharedWord
  obtain ⟨o1, o2, o3, o4⟩ := okB_of ho
  refine lpb_fld (fun k a => if bt x k then a &&& w.2.2.1 (o + 2 + k) v else a) (fun a => a) 8 (by decide) (fun k hk a => ?_) (fun a => by rfl) (by rfl)
  dsimp only
  have e : nI v &&& (15 : Int32) = nI v := by
    rw [pk_andN (by omega) 4 (by decide), Nat.mod_eq_of_lt hv]
  rw [if_neg (Lnle hk), bit_at x (by omega), gR_mk (o + 1) o1, Option.bind_some, rdA_mk o3 (by decide) b w hk, Option.bind_some, e, show o + 1 + 1 + k = o + 2 + k by omega, rdL_mk (okBt ho hk) b w hv, Option.bind_some]
  cases bt x k
  · rw [if_pos (by rfl), vl_eq, nI_1, if_neg (by decide)]
  · rw [if_neg (by decide), vl_eq, vl_eq, nI_1, if_pos rfl]
theorem meet_mk {o d : Nat} (ho : o = 5 ∨ o = 15) (x : Int32) (hd : okA 3 d 16 = true) (hne : ∀ k, k < 8 → o + 2 + k ≠ d) : ∃ g, FX0_meet (mk b w) (b + o) x (b + d) = some (mk b (uL w d g)) ∧ ∀ s, s < 1024 → tb g s = al (fun k => !bt x k || tb (w.2.2.1 (o + 2 + k)) s) 8 := by
  refine ⟨fa_fill (shw w o x) (w.2.2.1 d) 16, ?_, fun s hs => ?_⟩
  · unfold FX0_meet
    refine lpb_fillL d (shw w o x) (fun x => x) 16 (by decide) (fun v hv g hg => ?_) (fun g => by rfl) (by rfl)
    dsimp only
    have e : shw (uL w d g) o x v = shw w o x v := by
      unfold shw
      have key : ∀ n, n ≤ 8 → fld (fun k a => if bt x k then a &&& (uL w d g).2.2.1 (o + 2 + k) v else a) n (-1) = fld (fun k a => if bt x k then a &&& w.2.2.1 (o + 2 + k) v else a) n (-1) := by
        intro n
        induction n with
        | zero => intro _; rfl
        | succ n ih =>
          intro hn
          show (if bt x n then fld _ n (-1) &&& (uL w d g).2.2.1 (o + 2 + n) v else fld _ n (-1)) = (if bt x n then fld _ n (-1) &&& w.2.2.1 (o + 2 + n) v else fld _ n (-1))
          rw [ih (by omega), uL_ne w g (hne n (by omega))]
      exact key 8 (Nat.le_refl 8)
    rw [if_neg (Lnle hv), rc_mk (okB_of ho).2.2.2, shw_mk ho x hv, Option.bind_some, wrL_mk hd b _ hv, Option.bind_some, vl_eq, nI_1, uL_at, uL_uL, e]
  · refine tb_of (p := fun s => al (fun k => !bt x k || tb (w.2.2.1 (o + 2 + k)) s) 8) (fun v hv q hq => ?_) hs
    rw [fa_fill_in hv, lb_shw _ _ _ _ hq]
    exact al_cong (fun k _ => by rw [tb_at _ _ hq])
theorem leaves_mk {o : Nat} (ho : o = 5 ∨ o = 15) (hj : okA 3 j 16 = true) (x : Int32) : FX0_leavesSome (mk b w) (b + o) (b + j) x = some (if ex (fun s => tb (w.2.2.1 j) s && al (fun k => !bt x k || tb (w.2.2.1 (o + 2 + k)) s) 8) 1024 then 1 else 0) := by
  unfold FX0_leavesSome
  have hw := words0 (f := fun v => w.2.2.1 j v &&& shw w o x v) (p := fun s => tb (w.2.2.1 j) s && al (fun k => !bt x k || tb (w.2.2.1 (o + 2 + k)) s) 8) (fun v hv q hq => by
    rw [lb_and, lb_shw _ _ _ _ hq, tb_at _ _ hq]
    congr 1
    exact al_cong (fun k _ => by rw [tb_at _ _ hq]))
  rw [lpb_first (P := Int32) (fun v => !decide (w.2.2.1 j v &&& shw w o x v = 0)) (fun _ => 1) () 16 (by decide) (fun v hv => ?_) (by rfl)]
  · have e : ex (fun v => !decide (w.2.2.1 j v &&& shw w o x v = 0)) 16 = ex (fun s => tb (w.2.2.1 j) s && al (fun k => !bt x k || tb (w.2.2.1 (o + 2 + k)) s) 8) 1024 := by
      cases g : ex (fun s => tb (w.2.2.1 j) s && al (fun k => !bt x k || tb (w.2.2.1 (o + 2 + k)) s) 8) 1024 with
      | false =>
        cases g2 : ex (fun v => !decide (w.2.2.1 j v &&& shw w o x v = 0)) 16 with
        | false => rfl
        | true =>
          obtain ⟨v, hv, q1⟩ := (ex_iff _ _).mp g2
          have : ∀ s, s < 1024 → (tb (w.2.2.1 j) s && al (fun k => !bt x k || tb (w.2.2.1 (o + 2 + k)) s) 8) = false := fun s hs => by
            cases g3 : (tb (w.2.2.1 j) s && al (fun k => !bt x k || tb (w.2.2.1 (o + 2 + k)) s) 8) with
            | false => rfl
            | true => rw [(ex_iff _ _).mpr ⟨s, hs, g3⟩] at g; cases g
          rw [decide_eq_true (hw.mpr this v hv)] at q1
          cases q1
      | true =>
        cases g2 : ex (fun v => !decide (w.2.2.1 j v &&& shw w o x v = 0)) 16 with
        | true => rfl
        | false =>
          obtain ⟨s, hs, q1⟩ := (ex_iff _ _).mp g
          have : ∀ v, v < 16 → w.2.2.1 j v &&& shw w o x v = 0 := fun v hv => by
            by_cases g3 : w.2.2.1 j v &&& shw w o x v = 0
            · exact g3
            · rw [(ex_iff _ _).mpr ⟨v, hv, by rw [decide_eq_false g3]; rfl⟩] at g2
              cases g2
          rw [hw.mp this s hs] at q1
          cases q1
    rw [e]
    cases ex (fun s => tb (w.2.2.1 j) s && al (fun k => !bt x k || tb (w.2.2.1 (o + 2 + k)) s) 8) 1024 <;> rfl
  · rw [if_neg (Lnle hv), rdL_mk hj b w hv, Option.bind_some, rc_mk (okB_of ho).2.2.2, shw_mk ho x hv, Option.bind_some]
    by_cases e : w.2.2.1 j v &&& shw w o x v = 0
    · rw [if_pos ((cmp0 _).mpr e), vl_eq, nI_1, decide_eq_true e, if_neg (by decide)]
    · rw [if_neg (fun q => e ((cmp0 _).mp q)), decide_eq_false e, if_pos (by decide)]
end
