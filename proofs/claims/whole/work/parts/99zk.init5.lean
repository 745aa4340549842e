/-! constructors: the reference -/
section
variable {L cs : List AE} {j : Nat} {o x : AE}
theorem wrZ_hl {A : List AE} {b p N : Nat} {f : Nat → Int32} {iv y : Int32} (h : A[p]? = some (xA 2 N (.inl f))) (hin : vp_in iv N) (hy : y = 0 ∨ y = 1) : wrZ (hl b A) (b + p) iv y = some (hl b (A.set p (xA 2 N (.inl (upd f iv.toNatClampNeg y))))) := by
  unfold wrZ
  rw [hl_at, h]
  show (if 2 = 2 ∧ ¬ (iv < 0 ∨ N ≤ iv.toNatClampNeg) ∧ (y = 0 ∨ y = 1) then some (upH (hl b A) (b + p) (.inl (2, N, .inl (upd f iv.toNatClampNeg y)))) else none) = _
  rw [if_pos ⟨rfl, hin, hy⟩, hl_up (List.getElem?_eq_some_iff.mp h).1]
variable {V : VT} {Q : State → Prop} {n : Nat × Nat} {nL : Nat} {lv : List (Nat × Value)} {pc : Nat} {st : List Value} {cc : ByteArray} {own : String} {ret : Option FieldType} {Lv : Nat}
theorem f_zast {p N : Nat} {f : Nat → Int32} {iv y : Int32} (hC : CX V cc own nL ret Lv) (hp2 : cs[p]? = some (xA 2 N (.inl f))) (hin : vp_in iv N) (hy : y = 0 ∨ y = 1) (hd : decode cc pc = .ok (.bastore, 1)) (kk : ZP V Q n nL (hl (vBs V) (nf L j o (cs.set p (xA 2 N (.inl (upd f iv.toNatClampNeg y)))))) lv (pc + 1) st) : ZP V Q n nL (hl (vBs V) (nf L j o cs)) lv pc (.int y :: .int iv :: .ref (vBs V + (L.length + p)) :: st) := by
  refine zq (fun h => h) (fun _ => st) (wrZ_hl (nf_at2.trans hp2) hin hy) (fun kf kk => z_zast hC hd kk) ?_
  rw [nf_set2]
  exact kk
end
def onU (i : Nat) : Nat → Int32 := fun k => if k < i then 1 else 0
theorem onU_up (i : Nat) : upd (onU i) i 1 = onU (i + 1) := by
  funext k
  unfold upd onU
  by_cases c : k = i
  · rw [if_pos c, if_pos (by omega)]
  · rw [if_neg c]
    by_cases d : k < i
    · rw [if_pos d, if_pos (by omega)]
    · rw [if_neg d, if_neg (by omega)]
def CSm (p s t : Nat → Int32) : List AE := [xA 0 10 (.inl p), xA 2 8192 a0I, xA 2 8192 a0I, xA 2 1024 (.inl s), xA 2 1024 (.inl t), xA 1 260 a0I, xA 0 260 a0I, xA 0 260 a0I, xA 0 16 a0I, xA 0 16 a0I, xA 0 16 a0I, xA 0 16 a0I, xA 0 260 a0I, xA 0 16 a0I, xA 0 16 a0I, xA 0 16 a0I, xA 0 16 a0I, xA 0 260 a0I, xA 0 8 a0I, xA 0 100 a0I, xA 0 100 a0I, xA 0 100 a0I, xA 2 100 a0I, xA 0 8 a0I, xA 0 8 a0I, xA 0 8 a0I, xA 0 1024 a0I, xA 2 1024 a0I]
def obF (b : Nat) (L : List AE) : List Value := [.ref (b + (L.length + 0)), .ref (b + (L.length + 1)), .ref (b + (L.length + 2)), .ref (b + (L.length + 3)), .ref (b + (L.length + 4)), .int 0, .int 0, .int 0, .int 0, .int 0, .int 0, .int 0, .int 0, .ref (b + (L.length + 5)), .int 0, .int 0, .int 0, .int 0, .int 0, .int 0, .int 0, .int 0, .int 0, .int 0, .ref (b + (L.length + 6)), .ref (b + (L.length + 7)), .ref (b + (L.length + 8)), .ref (b + (L.length + 9)), .ref (b + (L.length + 10)), .ref (b + (L.length + 11)), .ref (b + (L.length + 12)), .ref (b + (L.length + 13)), .ref (b + (L.length + 14)), .ref (b + (L.length + 15)), .ref (b + (L.length + 16)), .ref (b + (L.length + 17)), .ref (b + (L.length + 18)), .ref (b + (L.length + 19)), .ref (b + (L.length + 20)), .ref (b + (L.length + 21)), .int 0, .int 0, .int 0, .int 0, .ref (b + (L.length + 22)), .int 0, .int 0, .int 0, .int 0, .int 0, .int 0, .int 0, .int 0, .int 0, .ref (b + (L.length + 23)), .ref (b + (L.length + 24)), .ref (b + (L.length + 25)), .ref (b + (L.length + 26)), .ref (b + (L.length + 27)), .int 0, .int 0, .int 0, .int 0, .int 0, .int 0, .int 0]
def OBm (b : Nat) (L : List AE) : AE := xO 12 (obF b L)
def oM0 (b : Nat) (L : List AE) : AE := xO 12 [.null, .null, .null, .null, .null, .int 0, .int 0, .int 0, .int 0, .int 0, .int 0, .int 0, .int 0, .null, .int 0, .int 0, .int 0, .int 0, .int 0, .int 0, .int 0, .int 0, .int 0, .int 0, .null, .null, .null, .null, .null, .null, .null, .null, .null, .null, .null, .null, .null, .null, .null, .null, .int 0, .int 0, .int 0, .int 0, .null, .int 0, .int 0, .int 0, .int 0, .int 0, .int 0, .int 0, .int 0, .int 0, .null, .null, .null, .null, .null, .int 0, .int 0, .int 0, .int 0, .int 0, .int 0, .int 0]
def cM0 : List AE := []
def oM1 (b : Nat) (L : List AE) : AE := xO 12 [.ref (b + (L.length + 0)), .null, .null, .null, .null, .int 0, .int 0, .int 0, .int 0, .int 0, .int 0, .int 0, .int 0, .null, .int 0, .int 0, .int 0, .int 0, .int 0, .int 0, .int 0, .int 0, .int 0, .int 0, .null, .null, .null, .null, .null, .null, .null, .null, .null, .null, .null, .null, .null, .null, .null, .null, .int 0, .int 0, .int 0, .int 0, .null, .int 0, .int 0, .int 0, .int 0, .int 0, .int 0, .int 0, .int 0, .int 0, .null, .null, .null, .null, .null, .int 0, .int 0, .int 0, .int 0, .int 0, .int 0, .int 0]
def cM1 : List AE := [xA 0 10 a0I]
def oM2 (b : Nat) (L : List AE) : AE := xO 12 [.ref (b + (L.length + 0)), .ref (b + (L.length + 1)), .null, .null, .null, .int 0, .int 0, .int 0, .int 0, .int 0, .int 0, .int 0, .int 0, .null, .int 0, .int 0, .int 0, .int 0, .int 0, .int 0, .int 0, .int 0, .int 0, .int 0, .null, .null, .null, .null, .null, .null, .null, .null, .null, .null, .null, .null, .null, .null, .null, .null, .int 0, .int 0, .int 0, .int 0, .null, .int 0, .int 0, .int 0, .int 0, .int 0, .int 0, .int 0, .int 0, .int 0, .null, .null, .null, .null, .null, .int 0, .int 0, .int 0, .int 0, .int 0, .int 0, .int 0]
def cM2 : List AE := [xA 0 10 a0I, xA 2 8192 a0I]
def oM3 (b : Nat) (L : List AE) : AE := xO 12 [.ref (b + (L.length + 0)), .ref (b + (L.length + 1)), .ref (b + (L.length + 2)), .null, .null, .int 0, .int 0, .int 0, .int 0, .int 0, .int 0, .int 0, .int 0, .null, .int 0, .int 0, .int 0, .int 0, .int 0, .int 0, .int 0, .int 0, .int 0, .int 0, .null, .null, .null, .null, .null, .null, .null, .null, .null, .null, .null, .null, .null, .null, .null, .null, .int 0, .int 0, .int 0, .int 0, .null, .int 0, .int 0, .int 0, .int 0, .int 0, .int 0, .int 0, .int 0, .int 0, .null, .null, .null, .null, .null, .int 0, .int 0, .int 0, .int 0, .int 0, .int 0, .int 0]
def cM3 : List AE := [xA 0 10 a0I, xA 2 8192 a0I, xA 2 8192 a0I]
def oM4 (b : Nat) (L : List AE) : AE := xO 12 [.ref (b + (L.length + 0)), .ref (b + (L.length + 1)), .ref (b + (L.length + 2)), .ref (b + (L.length + 3)), .null, .int 0, .int 0, .int 0, .int 0, .int 0, .int 0, .int 0, .int 0, .null, .int 0, .int 0, .int 0, .int 0, .int 0, .int 0, .int 0, .int 0, .int 0, .int 0, .null, .null, .null, .null, .null, .null, .null, .null, .null, .null, .null, .null, .null, .null, .null, .null, .int 0, .int 0, .int 0, .int 0, .null, .int 0, .int 0, .int 0, .int 0, .int 0, .int 0, .int 0, .int 0, .int 0, .null, .null, .null, .null, .null, .int 0, .int 0, .int 0, .int 0, .int 0, .int 0, .int 0]
def cM4 : List AE := [xA 0 10 a0I, xA 2 8192 a0I, xA 2 8192 a0I, xA 2 1024 a0I]
def oM5 (b : Nat) (L : List AE) : AE := xO 12 [.ref (b + (L.length + 0)), .ref (b + (L.length + 1)), .ref (b + (L.length + 2)), .ref (b + (L.length + 3)), .ref (b + (L.length + 4)), .int 0, .int 0, .int 0, .int 0, .int 0, .int 0, .int 0, .int 0, .null, .int 0, .int 0, .int 0, .int 0, .int 0, .int 0, .int 0, .int 0, .int 0, .int 0, .null, .null, .null, .null, .null, .null, .null, .null, .null, .null, .null, .null, .null, .null, .null, .null, .int 0, .int 0, .int 0, .int 0, .null, .int 0, .int 0, .int 0, .int 0, .int 0, .int 0, .int 0, .int 0, .int 0, .null, .null, .null, .null, .null, .int 0, .int 0, .int 0, .int 0, .int 0, .int 0, .int 0]
def cM5 : List AE := [xA 0 10 a0I, xA 2 8192 a0I, xA 2 8192 a0I, xA 2 1024 a0I, xA 2 1024 a0I]
def oM6 (b : Nat) (L : List AE) : AE := xO 12 [.ref (b + (L.length + 0)), .ref (b + (L.length + 1)), .ref (b + (L.length + 2)), .ref (b + (L.length + 3)), .ref (b + (L.length + 4)), .int 0, .int 0, .int 0, .int 0, .int 0, .int 0, .int 0, .int 0, .ref (b + (L.length + 5)), .int 0, .int 0, .int 0, .int 0, .int 0, .int 0, .int 0, .int 0, .int 0, .int 0, .null, .null, .null, .null, .null, .null, .null, .null, .null, .null, .null, .null, .null, .null, .null, .null, .int 0, .int 0, .int 0, .int 0, .null, .int 0, .int 0, .int 0, .int 0, .int 0, .int 0, .int 0, .int 0, .int 0, .null, .null, .null, .null, .null, .int 0, .int 0, .int 0, .int 0, .int 0, .int 0, .int 0]
def cM6 : List AE := [xA 0 10 a0I, xA 2 8192 a0I, xA 2 8192 a0I, xA 2 1024 a0I, xA 2 1024 a0I, xA 1 260 a0I]
def oM7 (b : Nat) (L : List AE) : AE := xO 12 [.ref (b + (L.length + 0)), .ref (b + (L.length + 1)), .ref (b + (L.length + 2)), .ref (b + (L.length + 3)), .ref (b + (L.length + 4)), .int 0, .int 0, .int 0, .int 0, .int 0, .int 0, .int 0, .int 0, .ref (b + (L.length + 5)), .int 0, .int 0, .int 0, .int 0, .int 0, .int 0, .int 0, .int 0, .int 0, .int 0, .ref (b + (L.length + 6)), .null, .null, .null, .null, .null, .null, .null, .null, .null, .null, .null, .null, .null, .null, .null, .int 0, .int 0, .int 0, .int 0, .null, .int 0, .int 0, .int 0, .int 0, .int 0, .int 0, .int 0, .int 0, .int 0, .null, .null, .null, .null, .null, .int 0, .int 0, .int 0, .int 0, .int 0, .int 0, .int 0]
def cM7 : List AE := [xA 0 10 a0I, xA 2 8192 a0I, xA 2 8192 a0I, xA 2 1024 a0I, xA 2 1024 a0I, xA 1 260 a0I, xA 0 260 a0I]
def oM8 (b : Nat) (L : List AE) : AE := xO 12 [.ref (b + (L.length + 0)), .ref (b + (L.length + 1)), .ref (b + (L.length + 2)), .ref (b + (L.length + 3)), .ref (b + (L.length + 4)), .int 0, .int 0, .int 0, .int 0, .int 0, .int 0, .int 0, .int 0, .ref (b + (L.length + 5)), .int 0, .int 0, .int 0, .int 0, .int 0, .int 0, .int 0, .int 0, .int 0, .int 0, .ref (b + (L.length + 6)), .ref (b + (L.length + 7)), .null, .null, .null, .null, .null, .null, .null, .null, .null, .null, .null, .null, .null, .null, .int 0, .int 0, .int 0, .int 0, .null, .int 0, .int 0, .int 0, .int 0, .int 0, .int 0, .int 0, .int 0, .int 0, .null, .null, .null, .null, .null, .int 0, .int 0, .int 0, .int 0, .int 0, .int 0, .int 0]
def cM8 : List AE := [xA 0 10 a0I, xA 2 8192 a0I, xA 2 8192 a0I, xA 2 1024 a0I, xA 2 1024 a0I, xA 1 260 a0I, xA 0 260 a0I, xA 0 260 a0I]
def oM9 (b : Nat) (L : List AE) : AE := xO 12 [.ref (b + (L.length + 0)), .ref (b + (L.length + 1)), .ref (b + (L.length + 2)), .ref (b + (L.length + 3)), .ref (b + (L.length + 4)), .int 0, .int 0, .int 0, .int 0, .int 0, .int 0, .int 0, .int 0, .ref (b + (L.length + 5)), .int 0, .int 0, .int 0, .int 0, .int 0, .int 0, .int 0, .int 0, .int 0, .int 0, .ref (b + (L.length + 6)), .ref (b + (L.length + 7)), .ref (b + (L.length + 8)), .null, .null, .null, .null, .null, .null, .null, .null, .null, .null, .null, .null, .null, .int 0, .int 0, .int 0, .int 0, .null, .int 0, .int 0, .int 0, .int 0, .int 0, .int 0, .int 0, .int 0, .int 0, .null, .null, .null, .null, .null, .int 0, .int 0, .int 0, .int 0, .int 0, .int 0, .int 0]
def cM9 : List AE := [xA 0 10 a0I, xA 2 8192 a0I, xA 2 8192 a0I, xA 2 1024 a0I, xA 2 1024 a0I, xA 1 260 a0I, xA 0 260 a0I, xA 0 260 a0I, xA 0 16 a0I]
def oM10 (b : Nat) (L : List AE) : AE := xO 12 [.ref (b + (L.length + 0)), .ref (b + (L.length + 1)), .ref (b + (L.length + 2)), .ref (b + (L.length + 3)), .ref (b + (L.length + 4)), .int 0, .int 0, .int 0, .int 0, .int 0, .int 0, .int 0, .int 0, .ref (b + (L.length + 5)), .int 0, .int 0, .int 0, .int 0, .int 0, .int 0, .int 0, .int 0, .int 0, .int 0, .ref (b + (L.length + 6)), .ref (b + (L.length + 7)), .ref (b + (L.length + 8)), .ref (b + (L.length + 9)), .null, .null, .null, .null, .null, .null, .null, .null, .null, .null, .null, .null, .int 0, .int 0, .int 0, .int 0, .null, .int 0, .int 0, .int 0, .int 0, .int 0, .int 0, .int 0, .int 0, .int 0, .null, .null, .null, .null, .null, .int 0, .int 0, .int 0, .int 0, .int 0, .int 0, .int 0]
def cM10 : List AE := [xA 0 10 a0I, xA 2 8192 a0I, xA 2 8192 a0I, xA 2 1024 a0I, xA 2 1024 a0I, xA 1 260 a0I, xA 0 260 a0I, xA 0 260 a0I, xA 0 16 a0I, xA 0 16 a0I]
def oM11 (b : Nat) (L : List AE) : AE := xO 12 [.ref (b + (L.length + 0)), .ref (b + (L.length + 1)), .ref (b + (L.length + 2)), .ref (b + (L.length + 3)), .ref (b + (L.length + 4)), .int 0, .int 0, .int 0, .int 0, .int 0, .int 0, .int 0, .int 0, .ref (b + (L.length + 5)), .int 0, .int 0, .int 0, .int 0, .int 0, .int 0, .int 0, .int 0, .int 0, .int 0, .ref (b + (L.length + 6)), .ref (b + (L.length + 7)), .ref (b + (L.length + 8)), .ref (b + (L.length + 9)), .ref (b + (L.length + 10)), .null, .null, .null, .null, .null, .null, .null, .null, .null, .null, .null, .int 0, .int 0, .int 0, .int 0, .null, .int 0, .int 0, .int 0, .int 0, .int 0, .int 0, .int 0, .int 0, .int 0, .null, .null, .null, .null, .null, .int 0, .int 0, .int 0, .int 0, .int 0, .int 0, .int 0]
def cM11 : List AE := [xA 0 10 a0I, xA 2 8192 a0I, xA 2 8192 a0I, xA 2 1024 a0I, xA 2 1024 a0I, xA 1 260 a0I, xA 0 260 a0I, xA 0 260 a0I, xA 0 16 a0I, xA 0 16 a0I, xA 0 16 a0I]
def oM12 (b : Nat) (L : List AE) : AE := xO 12 [.ref (b + (L.length + 0)), .ref (b + (L.length + 1)), .ref (b + (L.length + 2)), .ref (b + (L.length + 3)), .ref (b + (L.length + 4)), .int 0, .int 0, .int 0, .int 0, .int 0, .int 0, .int 0, .int 0, .ref (b + (L.length + 5)), .int 0, .int 0, .int 0, .int 0, .int 0, .int 0, .int 0, .int 0, .int 0, .int 0, .ref (b + (L.length + 6)), .ref (b + (L.length + 7)), .ref (b + (L.length + 8)), .ref (b + (L.length + 9)), .ref (b + (L.length + 10)), .ref (b + (L.length + 11)), .null, .null, .null, .null, .null, .null, .null, .null, .null, .null, .int 0, .int 0, .int 0, .int 0, .null, .int 0, .int 0, .int 0, .int 0, .int 0, .int 0, .int 0, .int 0, .int 0, .null, .null, .null, .null, .null, .int 0, .int 0, .int 0, .int 0, .int 0, .int 0, .int 0]
def cM12 : List AE := [xA 0 10 a0I, xA 2 8192 a0I, xA 2 8192 a0I, xA 2 1024 a0I, xA 2 1024 a0I, xA 1 260 a0I, xA 0 260 a0I, xA 0 260 a0I, xA 0 16 a0I, xA 0 16 a0I, xA 0 16 a0I, xA 0 16 a0I]
def oM13 (b : Nat) (L : List AE) : AE := xO 12 [.ref (b + (L.length + 0)), .ref (b + (L.length + 1)), .ref (b + (L.length + 2)), .ref (b + (L.length + 3)), .ref (b + (L.length + 4)), .int 0, .int 0, .int 0, .int 0, .int 0, .int 0, .int 0, .int 0, .ref (b + (L.length + 5)), .int 0, .int 0, .int 0, .int 0, .int 0, .int 0, .int 0, .int 0, .int 0, .int 0, .ref (b + (L.length + 6)), .ref (b + (L.length + 7)), .ref (b + (L.length + 8)), .ref (b + (L.length + 9)), .ref (b + (L.length + 10)), .ref (b + (L.length + 11)), .ref (b + (L.length + 12)), .null, .null, .null, .null, .null, .null, .null, .null, .null, .int 0, .int 0, .int 0, .int 0, .null, .int 0, .int 0, .int 0, .int 0, .int 0, .int 0, .int 0, .int 0, .int 0, .null, .null, .null, .null, .null, .int 0, .int 0, .int 0, .int 0, .int 0, .int 0, .int 0]
def cM13 : List AE := [xA 0 10 a0I, xA 2 8192 a0I, xA 2 8192 a0I, xA 2 1024 a0I, xA 2 1024 a0I, xA 1 260 a0I, xA 0 260 a0I, xA 0 260 a0I, xA 0 16 a0I, xA 0 16 a0I, xA 0 16 a0I, xA 0 16 a0I, xA 0 260 a0I]
def oM14 (b : Nat) (L : List AE) : AE := xO 12 [.ref (b + (L.length + 0)), .ref (b + (L.length + 1)), .ref (b + (L.length + 2)), .ref (b + (L.length + 3)), .ref (b + (L.length + 4)), .int 0, .int 0, .int 0, .int 0, .int 0, .int 0, .int 0, .int 0, .ref (b + (L.length + 5)), .int 0, .int 0, .int 0, .int 0, .int 0, .int 0, .int 0, .int 0, .int 0, .int 0, .ref (b + (L.length + 6)), .ref (b + (L.length + 7)), .ref (b + (L.length + 8)), .ref (b + (L.length + 9)), .ref (b + (L.length + 10)), .ref (b + (L.length + 11)), .ref (b + (L.length + 12)), .ref (b + (L.length + 13)), .null, .null, .null, .null, .null, .null, .null, .null, .int 0, .int 0, .int 0, .int 0, .null, .int 0, .int 0, .int 0, .int 0, .int 0, .int 0, .int 0, .int 0, .int 0, .null, .null, .null, .null, .null, .int 0, .int 0, .int 0, .int 0, .int 0, .int 0, .int 0]
def cM14 : List AE := [xA 0 10 a0I, xA 2 8192 a0I, xA 2 8192 a0I, xA 2 1024 a0I, xA 2 1024 a0I, xA 1 260 a0I, xA 0 260 a0I, xA 0 260 a0I, xA 0 16 a0I, xA 0 16 a0I, xA 0 16 a0I, xA 0 16 a0I, xA 0 260 a0I, xA 0 16 a0I]
def oM15 (b : Nat) (L : List AE) : AE := xO 12 [.ref (b + (L.length + 0)), .ref (b + (L.length + 1)), .ref (b + (L.length + 2)), .ref (b + (L.length + 3)), .ref (b + (L.length + 4)), .int 0, .int 0, .int 0, .int 0, .int 0, .int 0, .int 0, .int 0, .ref (b + (L.length + 5)), .int 0, .int 0, .int 0, .int 0, .int 0, .int 0, .int 0, .int 0, .int 0, .int 0, .ref (b + (L.length + 6)), .ref (b + (L.length + 7)), .ref (b + (L.length + 8)), .ref (b + (L.length + 9)), .ref (b + (L.length + 10)), .ref (b + (L.length + 11)), .ref (b + (L.length + 12)), .ref (b + (L.length + 13)), .ref (b + (L.length + 14)), .null, .null, .null, .null, .null, .null, .null, .int 0, .int 0, .int 0, .int 0, .null, .int 0, .int 0, .int 0, .int 0, .int 0, .int 0, .int 0, .int 0, .int 0, .null, .null, .null, .null, .null, .int 0, .int 0, .int 0, .int 0, .int 0, .int 0, .int 0]
def cM15 : List AE := [xA 0 10 a0I, xA 2 8192 a0I, xA 2 8192 a0I, xA 2 1024 a0I, xA 2 1024 a0I, xA 1 260 a0I, xA 0 260 a0I, xA 0 260 a0I, xA 0 16 a0I, xA 0 16 a0I, xA 0 16 a0I, xA 0 16 a0I, xA 0 260 a0I, xA 0 16 a0I, xA 0 16 a0I]
def oM16 (b : Nat) (L : List AE) : AE := xO 12 [.ref (b + (L.length + 0)), .ref (b + (L.length + 1)), .ref (b + (L.length + 2)), .ref (b + (L.length + 3)), .ref (b + (L.length + 4)), .int 0, .int 0, .int 0, .int 0, .int 0, .int 0, .int 0, .int 0, .ref (b + (L.length + 5)), .int 0, .int 0, .int 0, .int 0, .int 0, .int 0, .int 0, .int 0, .int 0, .int 0, .ref (b + (L.length + 6)), .ref (b + (L.length + 7)), .ref (b + (L.length + 8)), .ref (b + (L.length + 9)), .ref (b + (L.length + 10)), .ref (b + (L.length + 11)), .ref (b + (L.length + 12)), .ref (b + (L.length + 13)), .ref (b + (L.length + 14)), .ref (b + (L.length + 15)), .null, .null, .null, .null, .null, .null, .int 0, .int 0, .int 0, .int 0, .null, .int 0, .int 0, .int 0, .int 0, .int 0, .int 0, .int 0, .int 0, .int 0, .null, .null, .null, .null, .null, .int 0, .int 0, .int 0, .int 0, .int 0, .int 0, .int 0]
def cM16 : List AE := [xA 0 10 a0I, xA 2 8192 a0I, xA 2 8192 a0I, xA 2 1024 a0I, xA 2 1024 a0I, xA 1 260 a0I, xA 0 260 a0I, xA 0 260 a0I, xA 0 16 a0I, xA 0 16 a0I, xA 0 16 a0I, xA 0 16 a0I, xA 0 260 a0I, xA 0 16 a0I, xA 0 16 a0I, xA 0 16 a0I]
def oM17 (b : Nat) (L : List AE) : AE := xO 12 [.ref (b + (L.length + 0)), .ref (b + (L.length + 1)), .ref (b + (L.length + 2)), .ref (b + (L.length + 3)), .ref (b + (L.length + 4)), .int 0, .int 0, .int 0, .int 0, .int 0, .int 0, .int 0, .int 0, .ref (b + (L.length + 5)), .int 0, .int 0, .int 0, .int 0, .int 0, .int 0, .int 0, .int 0, .int 0, .int 0, .ref (b + (L.length + 6)), .ref (b + (L.length + 7)), .ref (b + (L.length + 8)), .ref (b + (L.length + 9)), .ref (b + (L.length + 10)), .ref (b + (L.length + 11)), .ref (b + (L.length + 12)), .ref (b + (L.length + 13)), .ref (b + (L.length + 14)), .ref (b + (L.length + 15)), .ref (b + (L.length + 16)), .null, .null, .null, .null, .null, .int 0, .int 0, .int 0, .int 0, .null, .int 0, .int 0, .int 0, .int 0, .int 0, .int 0, .int 0, .int 0, .int 0, .null, .null, .null, .null, .null, .int 0, .int 0, .int 0, .int 0, .int 0, .int 0, .int 0]
def cM17 : List AE := [xA 0 10 a0I, xA 2 8192 a0I, xA 2 8192 a0I, xA 2 1024 a0I, xA 2 1024 a0I, xA 1 260 a0I, xA 0 260 a0I, xA 0 260 a0I, xA 0 16 a0I, xA 0 16 a0I, xA 0 16 a0I, xA 0 16 a0I, xA 0 260 a0I, xA 0 16 a0I, xA 0 16 a0I, xA 0 16 a0I, xA 0 16 a0I]
def oM18 (b : Nat) (L : List AE) : AE := xO 12 [.ref (b + (L.length + 0)), .ref (b + (L.length + 1)), .ref (b + (L.length + 2)), .ref (b + (L.length + 3)), .ref (b + (L.length + 4)), .int 0, .int 0, .int 0, .int 0, .int 0, .int 0, .int 0, .int 0, .ref (b + (L.length + 5)), .int 0, .int 0, .int 0, .int 0, .int 0, .int 0, .int 0, .int 0, .int 0, .int 0, .ref (b + (L.length + 6)), .ref (b + (L.length + 7)), .ref (b + (L.length + 8)), .ref (b + (L.length + 9)), .ref (b + (L.length + 10)), .ref (b + (L.length + 11)), .ref (b + (L.length + 12)), .ref (b + (L.length + 13)), .ref (b + (L.length + 14)), .ref (b + (L.length + 15)), .ref (b + (L.length + 16)), .ref (b + (L.length + 17)), .null, .null, .null, .null, .int 0, .int 0, .int 0, .int 0, .null, .int 0, .int 0, .int 0, .int 0, .int 0, .int 0, .int 0, .int 0, .int 0, .null, .null, .null, .null, .null, .int 0, .int 0, .int 0, .int 0, .int 0, .int 0, .int 0]
def cM18 : List AE := [xA 0 10 a0I, xA 2 8192 a0I, xA 2 8192 a0I, xA 2 1024 a0I, xA 2 1024 a0I, xA 1 260 a0I, xA 0 260 a0I, xA 0 260 a0I, xA 0 16 a0I, xA 0 16 a0I, xA 0 16 a0I, xA 0 16 a0I, xA 0 260 a0I, xA 0 16 a0I, xA 0 16 a0I, xA 0 16 a0I, xA 0 16 a0I, xA 0 260 a0I]
def oM19 (b : Nat) (L : List AE) : AE := xO 12 [.ref (b + (L.length + 0)), .ref (b + (L.length + 1)), .ref (b + (L.length + 2)), .ref (b + (L.length + 3)), .ref (b + (L.length + 4)), .int 0, .int 0, .int 0, .int 0, .int 0, .int 0, .int 0, .int 0, .ref (b + (L.length + 5)), .int 0, .int 0, .int 0, .int 0, .int 0, .int 0, .int 0, .int 0, .int 0, .int 0, .ref (b + (L.length + 6)), .ref (b + (L.length + 7)), .ref (b + (L.length + 8)), .ref (b + (L.length + 9)), .ref (b + (L.length + 10)), .ref (b + (L.length + 11)), .ref (b + (L.length + 12)), .ref (b + (L.length + 13)), .ref (b + (L.length + 14)), .ref (b + (L.length + 15)), .ref (b + (L.length + 16)), .ref (b + (L.length + 17)), .ref (b + (L.length + 18)), .null, .null, .null, .int 0, .int 0, .int 0, .int 0, .null, .int 0, .int 0, .int 0, .int 0, .int 0, .int 0, .int 0, .int 0, .int 0, .null, .null, .null, .null, .null, .int 0, .int 0, .int 0, .int 0, .int 0, .int 0, .int 0]
def cM19 : List AE := [xA 0 10 a0I, xA 2 8192 a0I, xA 2 8192 a0I, xA 2 1024 a0I, xA 2 1024 a0I, xA 1 260 a0I, xA 0 260 a0I, xA 0 260 a0I, xA 0 16 a0I, xA 0 16 a0I, xA 0 16 a0I, xA 0 16 a0I, xA 0 260 a0I, xA 0 16 a0I, xA 0 16 a0I, xA 0 16 a0I, xA 0 16 a0I, xA 0 260 a0I, xA 0 8 a0I]
def oM20 (b : Nat) (L : List AE) : AE := xO 12 [.ref (b + (L.length + 0)), .ref (b + (L.length + 1)), .ref (b + (L.length + 2)), .ref (b + (L.length + 3)), .ref (b + (L.length + 4)), .int 0, .int 0, .int 0, .int 0, .int 0, .int 0, .int 0, .int 0, .ref (b + (L.length + 5)), .int 0, .int 0, .int 0, .int 0, .int 0, .int 0, .int 0, .int 0, .int 0, .int 0, .ref (b + (L.length + 6)), .ref (b + (L.length + 7)), .ref (b + (L.length + 8)), .ref (b + (L.length + 9)), .ref (b + (L.length + 10)), .ref (b + (L.length + 11)), .ref (b + (L.length + 12)), .ref (b + (L.length + 13)), .ref (b + (L.length + 14)), .ref (b + (L.length + 15)), .ref (b + (L.length + 16)), .ref (b + (L.length + 17)), .ref (b + (L.length + 18)), .ref (b + (L.length + 19)), .null, .null, .int 0, .int 0, .int 0, .int 0, .null, .int 0, .int 0, .int 0, .int 0, .int 0, .int 0, .int 0, .int 0, .int 0, .null, .null, .null, .null, .null, .int 0, .int 0, .int 0, .int 0, .int 0, .int 0, .int 0]
def cM20 : List AE := [xA 0 10 a0I, xA 2 8192 a0I, xA 2 8192 a0I, xA 2 1024 a0I, xA 2 1024 a0I, xA 1 260 a0I, xA 0 260 a0I, xA 0 260 a0I, xA 0 16 a0I, xA 0 16 a0I, xA 0 16 a0I, xA 0 16 a0I, xA 0 260 a0I, xA 0 16 a0I, xA 0 16 a0I, xA 0 16 a0I, xA 0 16 a0I, xA 0 260 a0I, xA 0 8 a0I, xA 0 100 a0I]
def oM21 (b : Nat) (L : List AE) : AE := xO 12 [.ref (b + (L.length + 0)), .ref (b + (L.length + 1)), .ref (b + (L.length + 2)), .ref (b + (L.length + 3)), .ref (b + (L.length + 4)), .int 0, .int 0, .int 0, .int 0, .int 0, .int 0, .int 0, .int 0, .ref (b + (L.length + 5)), .int 0, .int 0, .int 0, .int 0, .int 0, .int 0, .int 0, .int 0, .int 0, .int 0, .ref (b + (L.length + 6)), .ref (b + (L.length + 7)), .ref (b + (L.length + 8)), .ref (b + (L.length + 9)), .ref (b + (L.length + 10)), .ref (b + (L.length + 11)), .ref (b + (L.length + 12)), .ref (b + (L.length + 13)), .ref (b + (L.length + 14)), .ref (b + (L.length + 15)), .ref (b + (L.length + 16)), .ref (b + (L.length + 17)), .ref (b + (L.length + 18)), .ref (b + (L.length + 19)), .ref (b + (L.length + 20)), .null, .int 0, .int 0, .int 0, .int 0, .null, .int 0, .int 0, .int 0, .int 0, .int 0, .int 0, .int 0, .int 0, .int 0, .null, .null, .null, .null, .null, .int 0, .int 0, .int 0, .int 0, .int 0, .int 0, .int 0]
def cM21 : List AE := [xA 0 10 a0I, xA 2 8192 a0I, xA 2 8192 a0I, xA 2 1024 a0I, xA 2 1024 a0I, xA 1 260 a0I, xA 0 260 a0I, xA 0 260 a0I, xA 0 16 a0I, xA 0 16 a0I, xA 0 16 a0I, xA 0 16 a0I, xA 0 260 a0I, xA 0 16 a0I, xA 0 16 a0I, xA 0 16 a0I, xA 0 16 a0I, xA 0 260 a0I, xA 0 8 a0I, xA 0 100 a0I, xA 0 100 a0I]
def oM22 (b : Nat) (L : List AE) : AE := xO 12 [.ref (b + (L.length + 0)), .ref (b + (L.length + 1)), .ref (b + (L.length + 2)), .ref (b + (L.length + 3)), .ref (b + (L.length + 4)), .int 0, .int 0, .int 0, .int 0, .int 0, .int 0, .int 0, .int 0, .ref (b + (L.length + 5)), .int 0, .int 0, .int 0, .int 0, .int 0, .int 0, .int 0, .int 0, .int 0, .int 0, .ref (b + (L.length + 6)), .ref (b + (L.length + 7)), .ref (b + (L.length + 8)), .ref (b + (L.length + 9)), .ref (b + (L.length + 10)), .ref (b + (L.length + 11)), .ref (b + (L.length + 12)), .ref (b + (L.length + 13)), .ref (b + (L.length + 14)), .ref (b + (L.length + 15)), .ref (b + (L.length + 16)), .ref (b + (L.length + 17)), .ref (b + (L.length + 18)), .ref (b + (L.length + 19)), .ref (b + (L.length + 20)), .ref (b + (L.length + 21)), .int 0, .int 0, .int 0, .int 0, .null, .int 0, .int 0, .int 0, .int 0, .int 0, .int 0, .int 0, .int 0, .int 0, .null, .null, .null, .null, .null, .int 0, .int 0, .int 0, .int 0, .int 0, .int 0, .int 0]
def cM22 : List AE := [xA 0 10 a0I, xA 2 8192 a0I, xA 2 8192 a0I, xA 2 1024 a0I, xA 2 1024 a0I, xA 1 260 a0I, xA 0 260 a0I, xA 0 260 a0I, xA 0 16 a0I, xA 0 16 a0I, xA 0 16 a0I, xA 0 16 a0I, xA 0 260 a0I, xA 0 16 a0I, xA 0 16 a0I, xA 0 16 a0I, xA 0 16 a0I, xA 0 260 a0I, xA 0 8 a0I, xA 0 100 a0I, xA 0 100 a0I, xA 0 100 a0I]
def oM23 (b : Nat) (L : List AE) : AE := xO 12 [.ref (b + (L.length + 0)), .ref (b + (L.length + 1)), .ref (b + (L.length + 2)), .ref (b + (L.length + 3)), .ref (b + (L.length + 4)), .int 0, .int 0, .int 0, .int 0, .int 0, .int 0, .int 0, .int 0, .ref (b + (L.length + 5)), .int 0, .int 0, .int 0, .int 0, .int 0, .int 0, .int 0, .int 0, .int 0, .int 0, .ref (b + (L.length + 6)), .ref (b + (L.length + 7)), .ref (b + (L.length + 8)), .ref (b + (L.length + 9)), .ref (b + (L.length + 10)), .ref (b + (L.length + 11)), .ref (b + (L.length + 12)), .ref (b + (L.length + 13)), .ref (b + (L.length + 14)), .ref (b + (L.length + 15)), .ref (b + (L.length + 16)), .ref (b + (L.length + 17)), .ref (b + (L.length + 18)), .ref (b + (L.length + 19)), .ref (b + (L.length + 20)), .ref (b + (L.length + 21)), .int 0, .int 0, .int 0, .int 0, .ref (b + (L.length + 22)), .int 0, .int 0, .int 0, .int 0, .int 0, .int 0, .int 0, .int 0, .int 0, .null, .null, .null, .null, .null, .int 0, .int 0, .int 0, .int 0, .int 0, .int 0, .int 0]
def cM23 : List AE := [xA 0 10 a0I, xA 2 8192 a0I, xA 2 8192 a0I, xA 2 1024 a0I, xA 2 1024 a0I, xA 1 260 a0I, xA 0 260 a0I, xA 0 260 a0I, xA 0 16 a0I, xA 0 16 a0I, xA 0 16 a0I, xA 0 16 a0I, xA 0 260 a0I, xA 0 16 a0I, xA 0 16 a0I, xA 0 16 a0I, xA 0 16 a0I, xA 0 260 a0I, xA 0 8 a0I, xA 0 100 a0I, xA 0 100 a0I, xA 0 100 a0I, xA 2 100 a0I]
def oM24 (b : Nat) (L : List AE) : AE := xO 12 [.ref (b + (L.length + 0)), .ref (b + (L.length + 1)), .ref (b + (L.length + 2)), .ref (b + (L.length + 3)), .ref (b + (L.length + 4)), .int 0, .int 0, .int 0, .int 0, .int 0, .int 0, .int 0, .int 0, .ref (b + (L.length + 5)), .int 0, .int 0, .int 0, .int 0, .int 0, .int 0, .int 0, .int 0, .int 0, .int 0, .ref (b + (L.length + 6)), .ref (b + (L.length + 7)), .ref (b + (L.length + 8)), .ref (b + (L.length + 9)), .ref (b + (L.length + 10)), .ref (b + (L.length + 11)), .ref (b + (L.length + 12)), .ref (b + (L.length + 13)), .ref (b + (L.length + 14)), .ref (b + (L.length + 15)), .ref (b + (L.length + 16)), .ref (b + (L.length + 17)), .ref (b + (L.length + 18)), .ref (b + (L.length + 19)), .ref (b + (L.length + 20)), .ref (b + (L.length + 21)), .int 0, .int 0, .int 0, .int 0, .ref (b + (L.length + 22)), .int 0, .int 0, .int 0, .int 0, .int 0, .int 0, .int 0, .int 0, .int 0, .ref (b + (L.length + 23)), .null, .null, .null, .null, .int 0, .int 0, .int 0, .int 0, .int 0, .int 0, .int 0]
def cM24 : List AE := [xA 0 10 a0I, xA 2 8192 a0I, xA 2 8192 a0I, xA 2 1024 a0I, xA 2 1024 a0I, xA 1 260 a0I, xA 0 260 a0I, xA 0 260 a0I, xA 0 16 a0I, xA 0 16 a0I, xA 0 16 a0I, xA 0 16 a0I, xA 0 260 a0I, xA 0 16 a0I, xA 0 16 a0I, xA 0 16 a0I, xA 0 16 a0I, xA 0 260 a0I, xA 0 8 a0I, xA 0 100 a0I, xA 0 100 a0I, xA 0 100 a0I, xA 2 100 a0I, xA 0 8 a0I]
def oM25 (b : Nat) (L : List AE) : AE := xO 12 [.ref (b + (L.length + 0)), .ref (b + (L.length + 1)), .ref (b + (L.length + 2)), .ref (b + (L.length + 3)), .ref (b + (L.length + 4)), .int 0, .int 0, .int 0, .int 0, .int 0, .int 0, .int 0, .int 0, .ref (b + (L.length + 5)), .int 0, .int 0, .int 0, .int 0, .int 0, .int 0, .int 0, .int 0, .int 0, .int 0, .ref (b + (L.length + 6)), .ref (b + (L.length + 7)), .ref (b + (L.length + 8)), .ref (b + (L.length + 9)), .ref (b + (L.length + 10)), .ref (b + (L.length + 11)), .ref (b + (L.length + 12)), .ref (b + (L.length + 13)), .ref (b + (L.length + 14)), .ref (b + (L.length + 15)), .ref (b + (L.length + 16)), .ref (b + (L.length + 17)), .ref (b + (L.length + 18)), .ref (b + (L.length + 19)), .ref (b + (L.length + 20)), .ref (b + (L.length + 21)), .int 0, .int 0, .int 0, .int 0, .ref (b + (L.length + 22)), .int 0, .int 0, .int 0, .int 0, .int 0, .int 0, .int 0, .int 0, .int 0, .ref (b + (L.length + 23)), .ref (b + (L.length + 24)), .null, .null, .null, .int 0, .int 0, .int 0, .int 0, .int 0, .int 0, .int 0]
def cM25 : List AE := [xA 0 10 a0I, xA 2 8192 a0I, xA 2 8192 a0I, xA 2 1024 a0I, xA 2 1024 a0I, xA 1 260 a0I, xA 0 260 a0I, xA 0 260 a0I, xA 0 16 a0I, xA 0 16 a0I, xA 0 16 a0I, xA 0 16 a0I, xA 0 260 a0I, xA 0 16 a0I, xA 0 16 a0I, xA 0 16 a0I, xA 0 16 a0I, xA 0 260 a0I, xA 0 8 a0I, xA 0 100 a0I, xA 0 100 a0I, xA 0 100 a0I, xA 2 100 a0I, xA 0 8 a0I, xA 0 8 a0I]
def oM26 (b : Nat) (L : List AE) : AE := xO 12 [.ref (b + (L.length + 0)), .ref (b + (L.length + 1)), .ref (b + (L.length + 2)), .ref (b + (L.length + 3)), .ref (b + (L.length + 4)), .int 0, .int 0, .int 0, .int 0, .int 0, .int 0, .int 0, .int 0, .ref (b + (L.length + 5)), .int 0, .int 0, .int 0, .int 0, .int 0, .int 0, .int 0, .int 0, .int 0, .int 0, .ref (b + (L.length + 6)), .ref (b + (L.length + 7)), .ref (b + (L.length + 8)), .ref (b + (L.length + 9)), .ref (b + (L.length + 10)), .ref (b + (L.length + 11)), .ref (b + (L.length + 12)), .ref (b + (L.length + 13)), .ref (b + (L.length + 14)), .ref (b + (L.length + 15)), .ref (b + (L.length + 16)), .ref (b + (L.length + 17)), .ref (b + (L.length + 18)), .ref (b + (L.length + 19)), .ref (b + (L.length + 20)), .ref (b + (L.length + 21)), .int 0, .int 0, .int 0, .int 0, .ref (b + (L.length + 22)), .int 0, .int 0, .int 0, .int 0, .int 0, .int 0, .int 0, .int 0, .int 0, .ref (b + (L.length + 23)), .ref (b + (L.length + 24)), .ref (b + (L.length + 25)), .null, .null, .int 0, .int 0, .int 0, .int 0, .int 0, .int 0, .int 0]
def cM26 : List AE := [xA 0 10 a0I, xA 2 8192 a0I, xA 2 8192 a0I, xA 2 1024 a0I, xA 2 1024 a0I, xA 1 260 a0I, xA 0 260 a0I, xA 0 260 a0I, xA 0 16 a0I, xA 0 16 a0I, xA 0 16 a0I, xA 0 16 a0I, xA 0 260 a0I, xA 0 16 a0I, xA 0 16 a0I, xA 0 16 a0I, xA 0 16 a0I, xA 0 260 a0I, xA 0 8 a0I, xA 0 100 a0I, xA 0 100 a0I, xA 0 100 a0I, xA 2 100 a0I, xA 0 8 a0I, xA 0 8 a0I, xA 0 8 a0I]
def oM27 (b : Nat) (L : List AE) : AE := xO 12 [.ref (b + (L.length + 0)), .ref (b + (L.length + 1)), .ref (b + (L.length + 2)), .ref (b + (L.length + 3)), .ref (b + (L.length + 4)), .int 0, .int 0, .int 0, .int 0, .int 0, .int 0, .int 0, .int 0, .ref (b + (L.length + 5)), .int 0, .int 0, .int 0, .int 0, .int 0, .int 0, .int 0, .int 0, .int 0, .int 0, .ref (b + (L.length + 6)), .ref (b + (L.length + 7)), .ref (b + (L.length + 8)), .ref (b + (L.length + 9)), .ref (b + (L.length + 10)), .ref (b + (L.length + 11)), .ref (b + (L.length + 12)), .ref (b + (L.length + 13)), .ref (b + (L.length + 14)), .ref (b + (L.length + 15)), .ref (b + (L.length + 16)), .ref (b + (L.length + 17)), .ref (b + (L.length + 18)), .ref (b + (L.length + 19)), .ref (b + (L.length + 20)), .ref (b + (L.length + 21)), .int 0, .int 0, .int 0, .int 0, .ref (b + (L.length + 22)), .int 0, .int 0, .int 0, .int 0, .int 0, .int 0, .int 0, .int 0, .int 0, .ref (b + (L.length + 23)), .ref (b + (L.length + 24)), .ref (b + (L.length + 25)), .ref (b + (L.length + 26)), .null, .int 0, .int 0, .int 0, .int 0, .int 0, .int 0, .int 0]
def cM27 : List AE := [xA 0 10 a0I, xA 2 8192 a0I, xA 2 8192 a0I, xA 2 1024 a0I, xA 2 1024 a0I, xA 1 260 a0I, xA 0 260 a0I, xA 0 260 a0I, xA 0 16 a0I, xA 0 16 a0I, xA 0 16 a0I, xA 0 16 a0I, xA 0 260 a0I, xA 0 16 a0I, xA 0 16 a0I, xA 0 16 a0I, xA 0 16 a0I, xA 0 260 a0I, xA 0 8 a0I, xA 0 100 a0I, xA 0 100 a0I, xA 0 100 a0I, xA 2 100 a0I, xA 0 8 a0I, xA 0 8 a0I, xA 0 8 a0I, xA 0 1024 a0I]
def oM28 (b : Nat) (L : List AE) : AE := xO 12 [.ref (b + (L.length + 0)), .ref (b + (L.length + 1)), .ref (b + (L.length + 2)), .ref (b + (L.length + 3)), .ref (b + (L.length + 4)), .int 0, .int 0, .int 0, .int 0, .int 0, .int 0, .int 0, .int 0, .ref (b + (L.length + 5)), .int 0, .int 0, .int 0, .int 0, .int 0, .int 0, .int 0, .int 0, .int 0, .int 0, .ref (b + (L.length + 6)), .ref (b + (L.length + 7)), .ref (b + (L.length + 8)), .ref (b + (L.length + 9)), .ref (b + (L.length + 10)), .ref (b + (L.length + 11)), .ref (b + (L.length + 12)), .ref (b + (L.length + 13)), .ref (b + (L.length + 14)), .ref (b + (L.length + 15)), .ref (b + (L.length + 16)), .ref (b + (L.length + 17)), .ref (b + (L.length + 18)), .ref (b + (L.length + 19)), .ref (b + (L.length + 20)), .ref (b + (L.length + 21)), .int 0, .int 0, .int 0, .int 0, .ref (b + (L.length + 22)), .int 0, .int 0, .int 0, .int 0, .int 0, .int 0, .int 0, .int 0, .int 0, .ref (b + (L.length + 23)), .ref (b + (L.length + 24)), .ref (b + (L.length + 25)), .ref (b + (L.length + 26)), .ref (b + (L.length + 27)), .int 0, .int 0, .int 0, .int 0, .int 0, .int 0, .int 0]
def cM28 : List AE := [xA 0 10 a0I, xA 2 8192 a0I, xA 2 8192 a0I, xA 2 1024 a0I, xA 2 1024 a0I, xA 1 260 a0I, xA 0 260 a0I, xA 0 260 a0I, xA 0 16 a0I, xA 0 16 a0I, xA 0 16 a0I, xA 0 16 a0I, xA 0 260 a0I, xA 0 16 a0I, xA 0 16 a0I, xA 0 16 a0I, xA 0 16 a0I, xA 0 260 a0I, xA 0 8 a0I, xA 0 100 a0I, xA 0 100 a0I, xA 0 100 a0I, xA 2 100 a0I, xA 0 8 a0I, xA 0 8 a0I, xA 0 8 a0I, xA 0 1024 a0I, xA 2 1024 a0I]
theorem dX12_init_0 : decode cX12_init 0 = .ok (.aload_n 0, 1) := by decide +kernel
theorem dX12_init_1 : decode cX12_init 1 = .ok (.invokespecial 1, 3) := by decide +kernel
theorem lzORX12 : Cond.methodLink RX12 1 Lib.objectInit ∈ gd_tbl := in_I 1107 (by decide +kernel)
theorem dX12_init_4 : decode cX12_init 4 = .ok (.aload_n 0, 1) := by decide +kernel
theorem dX12_init_5 : decode cX12_init 5 = .ok (.bipush 10, 2) := by decide +kernel
theorem dX12_init_7 : decode cX12_init 7 = .ok (.newarray .int, 2) := by decide +kernel
theorem dX12_init_9 : decode cX12_init 9 = .ok (.putfield 7, 3) := by decide +kernel
theorem lqRX12_7_12 : lkQ RX12 7 0 12 (.array .int) := ⟨_, _, _, _, tyX12, ⟨rfl, by decide, iX12, in_I 1119 (by decide +kernel), Or.inl rfl⟩, rfl, rfl, by decide +kernel, tyX12_ok, nmX12⟩
theorem dX12_init_12 : decode cX12_init 12 = .ok (.aload_n 0, 1) := by decide +kernel
theorem dX12_init_13 : decode cX12_init 13 = .ok (.sipush 8192, 3) := by decide +kernel
theorem dX12_init_16 : decode cX12_init 16 = .ok (.newarray .boolean, 2) := by decide +kernel
theorem lzA_boolean : Cond.arrayClass (newarray.typeOf .boolean) ∈ gd_tbl := in_T (by decide +kernel) (by decide +kernel)
theorem dX12_init_18 : decode cX12_init 18 = .ok (.putfield 13, 3) := by decide +kernel
theorem lqRX12_13_12 : lkQ RX12 13 1 12 (.array .boolean) := ⟨_, _, _, _, tyX12, ⟨rfl, by decide, iX12, in_I 1120 (by decide +kernel), Or.inl rfl⟩, rfl, rfl, by decide +kernel, tyX12_ok, nmX12⟩
theorem dX12_init_21 : decode cX12_init 21 = .ok (.aload_n 0, 1) := by decide +kernel
theorem dX12_init_22 : decode cX12_init 22 = .ok (.sipush 8192, 3) := by decide +kernel
theorem dX12_init_25 : decode cX12_init 25 = .ok (.newarray .boolean, 2) := by decide +kernel
theorem dX12_init_27 : decode cX12_init 27 = .ok (.putfield 17, 3) := by decide +kernel
theorem lqRX12_17_12 : lkQ RX12 17 2 12 (.array .boolean) := ⟨_, _, _, _, tyX12, ⟨rfl, by decide, iX12, in_I 1121 (by decide +kernel), Or.inl rfl⟩, rfl, rfl, by decide +kernel, tyX12_ok, nmX12⟩
theorem dX12_init_30 : decode cX12_init 30 = .ok (.aload_n 0, 1) := by decide +kernel
theorem dX12_init_31 : decode cX12_init 31 = .ok (.sipush 1024, 3) := by decide +kernel
theorem dX12_init_34 : decode cX12_init 34 = .ok (.newarray .boolean, 2) := by decide +kernel
theorem dX12_init_36 : decode cX12_init 36 = .ok (.putfield 20, 3) := by decide +kernel
theorem lqRX12_20_12 : lkQ RX12 20 3 12 (.array .boolean) := ⟨_, _, _, _, tyX12, ⟨rfl, by decide, iX12, in_I 1122 (by decide +kernel), Or.inl rfl⟩, rfl, rfl, by decide +kernel, tyX12_ok, nmX12⟩
theorem dX12_init_39 : decode cX12_init 39 = .ok (.aload_n 0, 1) := by decide +kernel
theorem dX12_init_40 : decode cX12_init 40 = .ok (.sipush 1024, 3) := by decide +kernel
theorem dX12_init_43 : decode cX12_init 43 = .ok (.newarray .boolean, 2) := by decide +kernel
theorem dX12_init_45 : decode cX12_init 45 = .ok (.putfield 23, 3) := by decide +kernel
theorem lqRX12_23_12 : lkQ RX12 23 4 12 (.array .boolean) := ⟨_, _, _, _, tyX12, ⟨rfl, by decide, iX12, in_I 1123 (by decide +kernel), Or.inl rfl⟩, rfl, rfl, by decide +kernel, tyX12_ok, nmX12⟩
theorem dX12_init_48 : decode cX12_init 48 = .ok (.aload_n 0, 1) := by decide +kernel
theorem dX12_init_49 : decode cX12_init 49 = .ok (.sipush 260, 3) := by decide +kernel
theorem dX12_init_52 : decode cX12_init 52 = .ok (.newarray .byte, 2) := by decide +kernel
theorem dX12_init_54 : decode cX12_init 54 = .ok (.putfield 26, 3) := by decide +kernel
theorem lqRX12_26_12 : lkQ RX12 26 13 12 (.array .byte) := ⟨_, _, _, _, tyX12, ⟨rfl, by decide, iX12, in_I 1132 (by decide +kernel), Or.inl rfl⟩, rfl, rfl, by decide +kernel, tyX12_ok, nmX12⟩
theorem dX12_init_57 : decode cX12_init 57 = .ok (.aload_n 0, 1) := by decide +kernel
theorem dX12_init_58 : decode cX12_init 58 = .ok (.sipush 260, 3) := by decide +kernel
theorem dX12_init_61 : decode cX12_init 61 = .ok (.newarray .int, 2) := by decide +kernel
theorem dX12_init_63 : decode cX12_init 63 = .ok (.putfield 30, 3) := by decide +kernel
theorem lqRX12_30_12 : lkQ RX12 30 24 12 (.array .int) := ⟨_, _, _, _, tyX12, ⟨rfl, by decide, iX12, in_I 1143 (by decide +kernel), Or.inl rfl⟩, rfl, rfl, by decide +kernel, tyX12_ok, nmX12⟩
theorem dX12_init_66 : decode cX12_init 66 = .ok (.aload_n 0, 1) := by decide +kernel
theorem dX12_init_67 : decode cX12_init 67 = .ok (.sipush 260, 3) := by decide +kernel
theorem dX12_init_70 : decode cX12_init 70 = .ok (.newarray .int, 2) := by decide +kernel
theorem dX12_init_72 : decode cX12_init 72 = .ok (.putfield 33, 3) := by decide +kernel
theorem lqRX12_33_12 : lkQ RX12 33 25 12 (.array .int) := ⟨_, _, _, _, tyX12, ⟨rfl, by decide, iX12, in_I 1144 (by decide +kernel), Or.inl rfl⟩, rfl, rfl, by decide +kernel, tyX12_ok, nmX12⟩
theorem dX12_init_75 : decode cX12_init 75 = .ok (.aload_n 0, 1) := by decide +kernel
theorem dX12_init_76 : decode cX12_init 76 = .ok (.bipush 16, 2) := by decide +kernel
theorem dX12_init_78 : decode cX12_init 78 = .ok (.newarray .int, 2) := by decide +kernel
theorem dX12_init_80 : decode cX12_init 80 = .ok (.putfield 36, 3) := by decide +kernel
theorem lqRX12_36_12 : lkQ RX12 36 26 12 (.array .int) := ⟨_, _, _, _, tyX12, ⟨rfl, by decide, iX12, in_I 1145 (by decide +kernel), Or.inl rfl⟩, rfl, rfl, by decide +kernel, tyX12_ok, nmX12⟩
theorem dX12_init_83 : decode cX12_init 83 = .ok (.aload_n 0, 1) := by decide +kernel
theorem dX12_init_84 : decode cX12_init 84 = .ok (.bipush 16, 2) := by decide +kernel
theorem dX12_init_86 : decode cX12_init 86 = .ok (.newarray .int, 2) := by decide +kernel
theorem dX12_init_88 : decode cX12_init 88 = .ok (.putfield 39, 3) := by decide +kernel
theorem lqRX12_39_12 : lkQ RX12 39 27 12 (.array .int) := ⟨_, _, _, _, tyX12, ⟨rfl, by decide, iX12, in_I 1146 (by decide +kernel), Or.inl rfl⟩, rfl, rfl, by decide +kernel, tyX12_ok, nmX12⟩
theorem dX12_init_91 : decode cX12_init 91 = .ok (.aload_n 0, 1) := by decide +kernel
theorem dX12_init_92 : decode cX12_init 92 = .ok (.bipush 16, 2) := by decide +kernel
theorem dX12_init_94 : decode cX12_init 94 = .ok (.newarray .int, 2) := by decide +kernel
theorem dX12_init_96 : decode cX12_init 96 = .ok (.putfield 42, 3) := by decide +kernel
theorem lqRX12_42_12 : lkQ RX12 42 28 12 (.array .int) := ⟨_, _, _, _, tyX12, ⟨rfl, by decide, iX12, in_I 1147 (by decide +kernel), Or.inl rfl⟩, rfl, rfl, by decide +kernel, tyX12_ok, nmX12⟩
theorem dX12_init_99 : decode cX12_init 99 = .ok (.aload_n 0, 1) := by decide +kernel
theorem dX12_init_100 : decode cX12_init 100 = .ok (.bipush 16, 2) := by decide +kernel
theorem dX12_init_102 : decode cX12_init 102 = .ok (.newarray .int, 2) := by decide +kernel
theorem dX12_init_104 : decode cX12_init 104 = .ok (.putfield 45, 3) := by decide +kernel
theorem lqRX12_45_12 : lkQ RX12 45 29 12 (.array .int) := ⟨_, _, _, _, tyX12, ⟨rfl, by decide, iX12, in_I 1148 (by decide +kernel), Or.inl rfl⟩, rfl, rfl, by decide +kernel, tyX12_ok, nmX12⟩
theorem dX12_init_107 : decode cX12_init 107 = .ok (.aload_n 0, 1) := by decide +kernel
theorem dX12_init_108 : decode cX12_init 108 = .ok (.sipush 260, 3) := by decide +kernel
theorem dX12_init_111 : decode cX12_init 111 = .ok (.newarray .int, 2) := by decide +kernel
theorem dX12_init_113 : decode cX12_init 113 = .ok (.putfield 48, 3) := by decide +kernel
theorem lqRX12_48_12 : lkQ RX12 48 30 12 (.array .int) := ⟨_, _, _, _, tyX12, ⟨rfl, by decide, iX12, in_I 1149 (by decide +kernel), Or.inl rfl⟩, rfl, rfl, by decide +kernel, tyX12_ok, nmX12⟩
theorem dX12_init_116 : decode cX12_init 116 = .ok (.aload_n 0, 1) := by decide +kernel
theorem dX12_init_117 : decode cX12_init 117 = .ok (.bipush 16, 2) := by decide +kernel
theorem dX12_init_119 : decode cX12_init 119 = .ok (.newarray .int, 2) := by decide +kernel
theorem dX12_init_121 : decode cX12_init 121 = .ok (.putfield 51, 3) := by decide +kernel
theorem lqRX12_51_12 : lkQ RX12 51 31 12 (.array .int) := ⟨_, _, _, _, tyX12, ⟨rfl, by decide, iX12, in_I 1150 (by decide +kernel), Or.inl rfl⟩, rfl, rfl, by decide +kernel, tyX12_ok, nmX12⟩
theorem dX12_init_124 : decode cX12_init 124 = .ok (.aload_n 0, 1) := by decide +kernel
theorem dX12_init_125 : decode cX12_init 125 = .ok (.bipush 16, 2) := by decide +kernel
theorem dX12_init_127 : decode cX12_init 127 = .ok (.newarray .int, 2) := by decide +kernel
theorem dX12_init_129 : decode cX12_init 129 = .ok (.putfield 54, 3) := by decide +kernel
theorem lqRX12_54_12 : lkQ RX12 54 32 12 (.array .int) := ⟨_, _, _, _, tyX12, ⟨rfl, by decide, iX12, in_I 1151 (by decide +kernel), Or.inl rfl⟩, rfl, rfl, by decide +kernel, tyX12_ok, nmX12⟩
theorem dX12_init_132 : decode cX12_init 132 = .ok (.aload_n 0, 1) := by decide +kernel
theorem dX12_init_133 : decode cX12_init 133 = .ok (.bipush 16, 2) := by decide +kernel
theorem dX12_init_135 : decode cX12_init 135 = .ok (.newarray .int, 2) := by decide +kernel
theorem dX12_init_137 : decode cX12_init 137 = .ok (.putfield 57, 3) := by decide +kernel
theorem lqRX12_57_12 : lkQ RX12 57 33 12 (.array .int) := ⟨_, _, _, _, tyX12, ⟨rfl, by decide, iX12, in_I 1152 (by decide +kernel), Or.inl rfl⟩, rfl, rfl, by decide +kernel, tyX12_ok, nmX12⟩
theorem dX12_init_140 : decode cX12_init 140 = .ok (.aload_n 0, 1) := by decide +kernel
theorem dX12_init_141 : decode cX12_init 141 = .ok (.bipush 16, 2) := by decide +kernel
theorem dX12_init_143 : decode cX12_init 143 = .ok (.newarray .int, 2) := by decide +kernel
theorem dX12_init_145 : decode cX12_init 145 = .ok (.putfield 60, 3) := by decide +kernel
theorem lqRX12_60_12 : lkQ RX12 60 34 12 (.array .int) := ⟨_, _, _, _, tyX12, ⟨rfl, by decide, iX12, in_I 1153 (by decide +kernel), Or.inl rfl⟩, rfl, rfl, by decide +kernel, tyX12_ok, nmX12⟩
theorem dX12_init_148 : decode cX12_init 148 = .ok (.aload_n 0, 1) := by decide +kernel
theorem dX12_init_149 : decode cX12_init 149 = .ok (.sipush 260, 3) := by decide +kernel
theorem dX12_init_152 : decode cX12_init 152 = .ok (.newarray .int, 2) := by decide +kernel
theorem dX12_init_154 : decode cX12_init 154 = .ok (.putfield 63, 3) := by decide +kernel
theorem lqRX12_63_12 : lkQ RX12 63 35 12 (.array .int) := ⟨_, _, _, _, tyX12, ⟨rfl, by decide, iX12, in_I 1154 (by decide +kernel), Or.inl rfl⟩, rfl, rfl, by decide +kernel, tyX12_ok, nmX12⟩
theorem dX12_init_157 : decode cX12_init 157 = .ok (.aload_n 0, 1) := by decide +kernel
theorem dX12_init_158 : decode cX12_init 158 = .ok (.bipush 8, 2) := by decide +kernel
theorem dX12_init_160 : decode cX12_init 160 = .ok (.newarray .int, 2) := by decide +kernel
theorem dX12_init_162 : decode cX12_init 162 = .ok (.putfield 66, 3) := by decide +kernel
theorem lqRX12_66_12 : lkQ RX12 66 36 12 (.array .int) := ⟨_, _, _, _, tyX12, ⟨rfl, by decide, iX12, in_I 1155 (by decide +kernel), Or.inl rfl⟩, rfl, rfl, by decide +kernel, tyX12_ok, nmX12⟩
theorem dX12_init_165 : decode cX12_init 165 = .ok (.aload_n 0, 1) := by decide +kernel
theorem dX12_init_166 : decode cX12_init 166 = .ok (.bipush 100, 2) := by decide +kernel
theorem dX12_init_168 : decode cX12_init 168 = .ok (.newarray .int, 2) := by decide +kernel
theorem dX12_init_170 : decode cX12_init 170 = .ok (.putfield 69, 3) := by decide +kernel
theorem lqRX12_69_12 : lkQ RX12 69 37 12 (.array .int) := ⟨_, _, _, _, tyX12, ⟨rfl, by decide, iX12, in_I 1156 (by decide +kernel), Or.inl rfl⟩, rfl, rfl, by decide +kernel, tyX12_ok, nmX12⟩
theorem dX12_init_173 : decode cX12_init 173 = .ok (.aload_n 0, 1) := by decide +kernel
theorem dX12_init_174 : decode cX12_init 174 = .ok (.bipush 100, 2) := by decide +kernel
theorem dX12_init_176 : decode cX12_init 176 = .ok (.newarray .int, 2) := by decide +kernel
theorem dX12_init_178 : decode cX12_init 178 = .ok (.putfield 72, 3) := by decide +kernel
theorem lqRX12_72_12 : lkQ RX12 72 38 12 (.array .int) := ⟨_, _, _, _, tyX12, ⟨rfl, by decide, iX12, in_I 1157 (by decide +kernel), Or.inl rfl⟩, rfl, rfl, by decide +kernel, tyX12_ok, nmX12⟩
theorem dX12_init_181 : decode cX12_init 181 = .ok (.aload_n 0, 1) := by decide +kernel
theorem dX12_init_182 : decode cX12_init 182 = .ok (.bipush 100, 2) := by decide +kernel
theorem dX12_init_184 : decode cX12_init 184 = .ok (.newarray .int, 2) := by decide +kernel
theorem dX12_init_186 : decode cX12_init 186 = .ok (.putfield 75, 3) := by decide +kernel
theorem lqRX12_75_12 : lkQ RX12 75 39 12 (.array .int) := ⟨_, _, _, _, tyX12, ⟨rfl, by decide, iX12, in_I 1158 (by decide +kernel), Or.inl rfl⟩, rfl, rfl, by decide +kernel, tyX12_ok, nmX12⟩
theorem dX12_init_189 : decode cX12_init 189 = .ok (.aload_n 0, 1) := by decide +kernel
theorem dX12_init_190 : decode cX12_init 190 = .ok (.bipush 100, 2) := by decide +kernel
theorem dX12_init_192 : decode cX12_init 192 = .ok (.newarray .boolean, 2) := by decide +kernel
theorem dX12_init_194 : decode cX12_init 194 = .ok (.putfield 78, 3) := by decide +kernel
theorem lqRX12_78_12 : lkQ RX12 78 44 12 (.array .boolean) := ⟨_, _, _, _, tyX12, ⟨rfl, by decide, iX12, in_I 1163 (by decide +kernel), Or.inl rfl⟩, rfl, rfl, by decide +kernel, tyX12_ok, nmX12⟩
theorem dX12_init_197 : decode cX12_init 197 = .ok (.aload_n 0, 1) := by decide +kernel
theorem dX12_init_198 : decode cX12_init 198 = .ok (.bipush 8, 2) := by decide +kernel
theorem dX12_init_200 : decode cX12_init 200 = .ok (.newarray .int, 2) := by decide +kernel
theorem dX12_init_202 : decode cX12_init 202 = .ok (.putfield 81, 3) := by decide +kernel
theorem lqRX12_81_12 : lkQ RX12 81 54 12 (.array .int) := ⟨_, _, _, _, tyX12, ⟨rfl, by decide, iX12, in_I 1173 (by decide +kernel), Or.inl rfl⟩, rfl, rfl, by decide +kernel, tyX12_ok, nmX12⟩
theorem dX12_init_205 : decode cX12_init 205 = .ok (.aload_n 0, 1) := by decide +kernel
theorem dX12_init_206 : decode cX12_init 206 = .ok (.bipush 8, 2) := by decide +kernel
theorem dX12_init_208 : decode cX12_init 208 = .ok (.newarray .int, 2) := by decide +kernel
theorem dX12_init_210 : decode cX12_init 210 = .ok (.putfield 84, 3) := by decide +kernel
theorem lqRX12_84_12 : lkQ RX12 84 55 12 (.array .int) := ⟨_, _, _, _, tyX12, ⟨rfl, by decide, iX12, in_I 1174 (by decide +kernel), Or.inl rfl⟩, rfl, rfl, by decide +kernel, tyX12_ok, nmX12⟩
theorem dX12_init_213 : decode cX12_init 213 = .ok (.aload_n 0, 1) := by decide +kernel
theorem dX12_init_214 : decode cX12_init 214 = .ok (.bipush 8, 2) := by decide +kernel
theorem dX12_init_216 : decode cX12_init 216 = .ok (.newarray .int, 2) := by decide +kernel
theorem dX12_init_218 : decode cX12_init 218 = .ok (.putfield 87, 3) := by decide +kernel
theorem lqRX12_87_12 : lkQ RX12 87 56 12 (.array .int) := ⟨_, _, _, _, tyX12, ⟨rfl, by decide, iX12, in_I 1175 (by decide +kernel), Or.inl rfl⟩, rfl, rfl, by decide +kernel, tyX12_ok, nmX12⟩
theorem dX12_init_221 : decode cX12_init 221 = .ok (.aload_n 0, 1) := by decide +kernel
theorem dX12_init_222 : decode cX12_init 222 = .ok (.sipush 1024, 3) := by decide +kernel
theorem dX12_init_225 : decode cX12_init 225 = .ok (.newarray .int, 2) := by decide +kernel
theorem dX12_init_227 : decode cX12_init 227 = .ok (.putfield 90, 3) := by decide +kernel
theorem lqRX12_90_12 : lkQ RX12 90 57 12 (.array .int) := ⟨_, _, _, _, tyX12, ⟨rfl, by decide, iX12, in_I 1176 (by decide +kernel), Or.inl rfl⟩, rfl, rfl, by decide +kernel, tyX12_ok, nmX12⟩
theorem dX12_init_230 : decode cX12_init 230 = .ok (.aload_n 0, 1) := by decide +kernel
theorem dX12_init_231 : decode cX12_init 231 = .ok (.sipush 1024, 3) := by decide +kernel
theorem dX12_init_234 : decode cX12_init 234 = .ok (.newarray .boolean, 2) := by decide +kernel
theorem dX12_init_236 : decode cX12_init 236 = .ok (.putfield 93, 3) := by decide +kernel
theorem lqRX12_93_12 : lkQ RX12 93 58 12 (.array .boolean) := ⟨_, _, _, _, tyX12, ⟨rfl, by decide, iX12, in_I 1177 (by decide +kernel), Or.inl rfl⟩, rfl, rfl, by decide +kernel, tyX12_ok, nmX12⟩
theorem lgnRX12_7 : lkA RX12 7 0 [12] := fun ci h => by
  simp only [List.mem_cons, List.not_mem_nil, or_false] at h
  subst h; exact ⟨_, _, _, _, ⟨rfl, by decide, iX12, in_I 1119 (by decide +kernel), Or.inl rfl⟩⟩
theorem lgnRX12_23 : lkA RX12 23 4 [12] := fun ci h => by
  simp only [List.mem_cons, List.not_mem_nil, or_false] at h
  subst h; exact ⟨_, _, _, _, ⟨rfl, by decide, iX12, in_I 1123 (by decide +kernel), Or.inl rfl⟩⟩
theorem dX12_init_266 : decode cX12_init 266 = .ok (.iload_n 1, 1) := by decide +kernel
theorem dX12_init_267 : decode cX12_init 267 = .ok (.sipush 1024, 3) := by decide +kernel
theorem dX12_init_270 : decode cX12_init 270 = .ok (.if_icmp .ge 16, 3) := by decide +kernel
theorem dX12_init_286 : decode cX12_init 286 = .ok (.return_, 1) := by decide +kernel
theorem dX12_init_273 : decode cX12_init 273 = .ok (.aload_n 0, 1) := by decide +kernel
theorem dX12_init_274 : decode cX12_init 274 = .ok (.getfield 23, 3) := by decide +kernel
theorem dX12_init_277 : decode cX12_init 277 = .ok (.iload_n 1, 1) := by decide +kernel
theorem dX12_init_278 : decode cX12_init 278 = .ok (.iconst 1, 1) := by decide +kernel
theorem dX12_init_279 : decode cX12_init 279 = .ok (.bastore, 1) := by decide +kernel
theorem dX12_init_280 : decode cX12_init 280 = .ok (.iinc 1 1, 3) := by decide +kernel
theorem dX12_init_283 : decode cX12_init 283 = .ok (.goto (-17), 3) := by decide +kernel
theorem dX12_init_241 : decode cX12_init 241 = .ok (.iload_n 1, 1) := by decide +kernel
theorem dX12_init_242 : decode cX12_init 242 = .ok (.bipush 10, 2) := by decide +kernel
theorem dX12_init_244 : decode cX12_init 244 = .ok (.if_icmp .ge 16, 3) := by decide +kernel
theorem dX12_init_260 : decode cX12_init 260 = .ok (.aload_n 0, 1) := by decide +kernel
theorem dX12_init_261 : decode cX12_init 261 = .ok (.invokevirtual 96, 3) := by decide +kernel
theorem dX12_init_264 : decode cX12_init 264 = .ok (.iconst 0, 1) := by decide +kernel
theorem dX12_init_265 : decode cX12_init 265 = .ok (.istore_n 1, 1) := by decide +kernel
theorem dX12_init_247 : decode cX12_init 247 = .ok (.aload_n 0, 1) := by decide +kernel
theorem dX12_init_248 : decode cX12_init 248 = .ok (.getfield 7, 3) := by decide +kernel
theorem dX12_init_251 : decode cX12_init 251 = .ok (.iload_n 1, 1) := by decide +kernel
theorem dX12_init_252 : decode cX12_init 252 = .ok (.iconst 1, 1) := by decide +kernel
theorem dX12_init_253 : decode cX12_init 253 = .ok (.iastore, 1) := by decide +kernel
theorem dX12_init_254 : decode cX12_init 254 = .ok (.iinc 1 1, 3) := by decide +kernel
theorem dX12_init_257 : decode cX12_init 257 = .ok (.goto (-16), 3) := by decide +kernel
theorem dX12_init_239 : decode cX12_init 239 = .ok (.iconst 0, 1) := by decide +kernel
theorem dX12_init_240 : decode cX12_init 240 = .ok (.istore_n 1, 1) := by decide +kernel
section
variable {V : VT} {Q : State → Prop} {L : List AE}
set_option maxHeartbeats 1000000 in
set_option maxRecDepth 100000 in
theorem m12_0 (hC : CX V cX12_init RX12 2 none 3) (hin : (vMe V).name = "<init>") (hjl : 77 < L.length) (hsz : (vSt V).heap.size = vBs V + L.length) (hcl : (vRo V).cells = 28) (hsl : (vRo V).slots = 22350) (kk : ZP V Q (1, 10) 2 (hl (vBs V) (nf L 77 (oM1 (vBs V) L) cM1)) [(0, .ref (vBs V + 77))] 12 []) : ZP V Q (0, 0) 2 (hl (vBs V) (nf L 77 (oM0 (vBs V) L) cM0)) [(0, .ref (vBs V + 77))] 4 [] := by
  refine z_aload_n hC 0 dX12_init_4 rfl rfl ?_
  refine z_bipush hC (10 : Int32) dX12_init_5 (by decide) ?_
  refine f_newa (t := 0) (N := 10) (ty := .int) (a0 := .inl (fun _ => 0)) 0 rfl hC hjl hsz rfl (fun _ => rfl) (fun _ _ h => h) lzA_int rfl (fun _ => rfl) (by decide) (by decide) (by decide) ⟨by rw [hcl]; decide, by rw [hsl]; decide⟩ dX12_init_7 ?_
  refine n_cast (n' := (1, 10)) rfl ?_
  refine f_putF (k := 0) (v := .ref (vBs V + (L.length + 0))) hC hin hjl lqRX12_7_12 (Nat.le_of_ble_eq_true rfl) rfl rfl dX12_init_9 ?_
  exact kk
set_option maxHeartbeats 1000000 in
set_option maxRecDepth 100000 in
theorem m12_1 (hC : CX V cX12_init RX12 2 none 3) (hin : (vMe V).name = "<init>") (hjl : 77 < L.length) (hsz : (vSt V).heap.size = vBs V + L.length) (hcl : (vRo V).cells = 28) (hsl : (vRo V).slots = 22350) (kk : ZP V Q (2, 8202) 2 (hl (vBs V) (nf L 77 (oM2 (vBs V) L) cM2)) [(0, .ref (vBs V + 77))] 21 []) : ZP V Q (1, 10) 2 (hl (vBs V) (nf L 77 (oM1 (vBs V) L) cM1)) [(0, .ref (vBs V + 77))] 12 [] := by
  refine z_aload_n hC 0 dX12_init_12 rfl rfl ?_
  refine z_sipush hC (8192 : Int32) dX12_init_13 (by decide) ?_
  refine f_newa (t := 2) (N := 8192) (ty := .boolean) (a0 := .inl (fun _ => 0)) 1 rfl hC hjl hsz rfl (fun _ => rfl) (fun _ _ h => h) lzA_boolean rfl (fun _ => rfl) (by decide) (by decide) (by decide) ⟨by rw [hcl]; decide, by rw [hsl]; decide⟩ dX12_init_16 ?_
  refine n_cast (n' := (2, 8202)) rfl ?_
  refine f_putF (k := 1) (v := .ref (vBs V + (L.length + 1))) hC hin hjl lqRX12_13_12 (Nat.le_of_ble_eq_true rfl) rfl rfl dX12_init_18 ?_
  exact kk
set_option maxHeartbeats 1000000 in
set_option maxRecDepth 100000 in
theorem m12_2 (hC : CX V cX12_init RX12 2 none 3) (hin : (vMe V).name = "<init>") (hjl : 77 < L.length) (hsz : (vSt V).heap.size = vBs V + L.length) (hcl : (vRo V).cells = 28) (hsl : (vRo V).slots = 22350) (kk : ZP V Q (3, 16394) 2 (hl (vBs V) (nf L 77 (oM3 (vBs V) L) cM3)) [(0, .ref (vBs V + 77))] 30 []) : ZP V Q (2, 8202) 2 (hl (vBs V) (nf L 77 (oM2 (vBs V) L) cM2)) [(0, .ref (vBs V + 77))] 21 [] := by
  refine z_aload_n hC 0 dX12_init_21 rfl rfl ?_
  refine z_sipush hC (8192 : Int32) dX12_init_22 (by decide) ?_
  refine f_newa (t := 2) (N := 8192) (ty := .boolean) (a0 := .inl (fun _ => 0)) 2 rfl hC hjl hsz rfl (fun _ => rfl) (fun _ _ h => h) lzA_boolean rfl (fun _ => rfl) (by decide) (by decide) (by decide) ⟨by rw [hcl]; decide, by rw [hsl]; decide⟩ dX12_init_25 ?_
  refine n_cast (n' := (3, 16394)) rfl ?_
  refine f_putF (k := 2) (v := .ref (vBs V + (L.length + 2))) hC hin hjl lqRX12_17_12 (Nat.le_of_ble_eq_true rfl) rfl rfl dX12_init_27 ?_
  exact kk
set_option maxHeartbeats 1000000 in
set_option maxRecDepth 100000 in
theorem m12_3 (hC : CX V cX12_init RX12 2 none 3) (hin : (vMe V).name = "<init>") (hjl : 77 < L.length) (hsz : (vSt V).heap.size = vBs V + L.length) (hcl : (vRo V).cells = 28) (hsl : (vRo V).slots = 22350) (kk : ZP V Q (4, 17418) 2 (hl (vBs V) (nf L 77 (oM4 (vBs V) L) cM4)) [(0, .ref (vBs V + 77))] 39 []) : ZP V Q (3, 16394) 2 (hl (vBs V) (nf L 77 (oM3 (vBs V) L) cM3)) [(0, .ref (vBs V + 77))] 30 [] := by
  refine z_aload_n hC 0 dX12_init_30 rfl rfl ?_
  refine z_sipush hC (1024 : Int32) dX12_init_31 (by decide) ?_
  refine f_newa (t := 2) (N := 1024) (ty := .boolean) (a0 := .inl (fun _ => 0)) 3 rfl hC hjl hsz rfl (fun _ => rfl) (fun _ _ h => h) lzA_boolean rfl (fun _ => rfl) (by decide) (by decide) (by decide) ⟨by rw [hcl]; decide, by rw [hsl]; decide⟩ dX12_init_34 ?_
  refine n_cast (n' := (4, 17418)) rfl ?_
  refine f_putF (k := 3) (v := .ref (vBs V + (L.length + 3))) hC hin hjl lqRX12_20_12 (Nat.le_of_ble_eq_true rfl) rfl rfl dX12_init_36 ?_
  exact kk
set_option maxHeartbeats 1000000 in
set_option maxRecDepth 100000 in
theorem m12_4 (hC : CX V cX12_init RX12 2 none 3) (hin : (vMe V).name = "<init>") (hjl : 77 < L.length) (hsz : (vSt V).heap.size = vBs V + L.length) (hcl : (vRo V).cells = 28) (hsl : (vRo V).slots = 22350) (kk : ZP V Q (5, 18442) 2 (hl (vBs V) (nf L 77 (oM5 (vBs V) L) cM5)) [(0, .ref (vBs V + 77))] 48 []) : ZP V Q (4, 17418) 2 (hl (vBs V) (nf L 77 (oM4 (vBs V) L) cM4)) [(0, .ref (vBs V + 77))] 39 [] := by
  refine z_aload_n hC 0 dX12_init_39 rfl rfl ?_
  refine z_sipush hC (1024 : Int32) dX12_init_40 (by decide) ?_
  refine f_newa (t := 2) (N := 1024) (ty := .boolean) (a0 := .inl (fun _ => 0)) 4 rfl hC hjl hsz rfl (fun _ => rfl) (fun _ _ h => h) lzA_boolean rfl (fun _ => rfl) (by decide) (by decide) (by decide) ⟨by rw [hcl]; decide, by rw [hsl]; decide⟩ dX12_init_43 ?_
  refine n_cast (n' := (5, 18442)) rfl ?_
  refine f_putF (k := 4) (v := .ref (vBs V + (L.length + 4))) hC hin hjl lqRX12_23_12 (Nat.le_of_ble_eq_true rfl) rfl rfl dX12_init_45 ?_
  exact kk
set_option maxHeartbeats 1000000 in
set_option maxRecDepth 100000 in
theorem m12_5 (hC : CX V cX12_init RX12 2 none 3) (hin : (vMe V).name = "<init>") (hjl : 77 < L.length) (hsz : (vSt V).heap.size = vBs V + L.length) (hcl : (vRo V).cells = 28) (hsl : (vRo V).slots = 22350) (kk : ZP V Q (6, 18702) 2 (hl (vBs V) (nf L 77 (oM6 (vBs V) L) cM6)) [(0, .ref (vBs V + 77))] 57 []) : ZP V Q (5, 18442) 2 (hl (vBs V) (nf L 77 (oM5 (vBs V) L) cM5)) [(0, .ref (vBs V + 77))] 48 [] := by
  refine z_aload_n hC 0 dX12_init_48 rfl rfl ?_
  refine z_sipush hC (260 : Int32) dX12_init_49 (by decide) ?_
  refine f_newa (t := 1) (N := 260) (ty := .byte) (a0 := .inl (fun _ => 0)) 5 rfl hC hjl hsz rfl (fun _ => rfl) (fun _ _ h => h) lzA_byte rfl (fun _ => rfl) (by decide) (by decide) (by decide) ⟨by rw [hcl]; decide, by rw [hsl]; decide⟩ dX12_init_52 ?_
  refine n_cast (n' := (6, 18702)) rfl ?_
  refine f_putF (k := 13) (v := .ref (vBs V + (L.length + 5))) hC hin hjl lqRX12_26_12 (Nat.le_of_ble_eq_true rfl) rfl rfl dX12_init_54 ?_
  exact kk
set_option maxHeartbeats 1000000 in
set_option maxRecDepth 100000 in
theorem m12_6 (hC : CX V cX12_init RX12 2 none 3) (hin : (vMe V).name = "<init>") (hjl : 77 < L.length) (hsz : (vSt V).heap.size = vBs V + L.length) (hcl : (vRo V).cells = 28) (hsl : (vRo V).slots = 22350) (kk : ZP V Q (7, 18962) 2 (hl (vBs V) (nf L 77 (oM7 (vBs V) L) cM7)) [(0, .ref (vBs V + 77))] 66 []) : ZP V Q (6, 18702) 2 (hl (vBs V) (nf L 77 (oM6 (vBs V) L) cM6)) [(0, .ref (vBs V + 77))] 57 [] := by
  refine z_aload_n hC 0 dX12_init_57 rfl rfl ?_
  refine z_sipush hC (260 : Int32) dX12_init_58 (by decide) ?_
  refine f_newa (t := 0) (N := 260) (ty := .int) (a0 := .inl (fun _ => 0)) 6 rfl hC hjl hsz rfl (fun _ => rfl) (fun _ _ h => h) lzA_int rfl (fun _ => rfl) (by decide) (by decide) (by decide) ⟨by rw [hcl]; decide, by rw [hsl]; decide⟩ dX12_init_61 ?_
  refine n_cast (n' := (7, 18962)) rfl ?_
  refine f_putF (k := 24) (v := .ref (vBs V + (L.length + 6))) hC hin hjl lqRX12_30_12 (Nat.le_of_ble_eq_true rfl) rfl rfl dX12_init_63 ?_
  exact kk
set_option maxHeartbeats 1000000 in
set_option maxRecDepth 100000 in
theorem m12_7 (hC : CX V cX12_init RX12 2 none 3) (hin : (vMe V).name = "<init>") (hjl : 77 < L.length) (hsz : (vSt V).heap.size = vBs V + L.length) (hcl : (vRo V).cells = 28) (hsl : (vRo V).slots = 22350) (kk : ZP V Q (8, 19222) 2 (hl (vBs V) (nf L 77 (oM8 (vBs V) L) cM8)) [(0, .ref (vBs V + 77))] 75 []) : ZP V Q (7, 18962) 2 (hl (vBs V) (nf L 77 (oM7 (vBs V) L) cM7)) [(0, .ref (vBs V + 77))] 66 [] := by
  refine z_aload_n hC 0 dX12_init_66 rfl rfl ?_
  refine z_sipush hC (260 : Int32) dX12_init_67 (by decide) ?_
  refine f_newa (t := 0) (N := 260) (ty := .int) (a0 := .inl (fun _ => 0)) 7 rfl hC hjl hsz rfl (fun _ => rfl) (fun _ _ h => h) lzA_int rfl (fun _ => rfl) (by decide) (by decide) (by decide) ⟨by rw [hcl]; decide, by rw [hsl]; decide⟩ dX12_init_70 ?_
  refine n_cast (n' := (8, 19222)) rfl ?_
  refine f_putF (k := 25) (v := .ref (vBs V + (L.length + 7))) hC hin hjl lqRX12_33_12 (Nat.le_of_ble_eq_true rfl) rfl rfl dX12_init_72 ?_
  exact kk
set_option maxHeartbeats 1000000 in
set_option maxRecDepth 100000 in
theorem m12_8 (hC : CX V cX12_init RX12 2 none 3) (hin : (vMe V).name = "<init>") (hjl : 77 < L.length) (hsz : (vSt V).heap.size = vBs V + L.length) (hcl : (vRo V).cells = 28) (hsl : (vRo V).slots = 22350) (kk : ZP V Q (9, 19238) 2 (hl (vBs V) (nf L 77 (oM9 (vBs V) L) cM9)) [(0, .ref (vBs V + 77))] 83 []) : ZP V Q (8, 19222) 2 (hl (vBs V) (nf L 77 (oM8 (vBs V) L) cM8)) [(0, .ref (vBs V + 77))] 75 [] := by
  refine z_aload_n hC 0 dX12_init_75 rfl rfl ?_
  refine z_bipush hC (16 : Int32) dX12_init_76 (by decide) ?_
  refine f_newa (t := 0) (N := 16) (ty := .int) (a0 := .inl (fun _ => 0)) 8 rfl hC hjl hsz rfl (fun _ => rfl) (fun _ _ h => h) lzA_int rfl (fun _ => rfl) (by decide) (by decide) (by decide) ⟨by rw [hcl]; decide, by rw [hsl]; decide⟩ dX12_init_78 ?_
  refine n_cast (n' := (9, 19238)) rfl ?_
  refine f_putF (k := 26) (v := .ref (vBs V + (L.length + 8))) hC hin hjl lqRX12_36_12 (Nat.le_of_ble_eq_true rfl) rfl rfl dX12_init_80 ?_
  exact kk
set_option maxHeartbeats 1000000 in
set_option maxRecDepth 100000 in
theorem m12_9 (hC : CX V cX12_init RX12 2 none 3) (hin : (vMe V).name = "<init>") (hjl : 77 < L.length) (hsz : (vSt V).heap.size = vBs V + L.length) (hcl : (vRo V).cells = 28) (hsl : (vRo V).slots = 22350) (kk : ZP V Q (10, 19254) 2 (hl (vBs V) (nf L 77 (oM10 (vBs V) L) cM10)) [(0, .ref (vBs V + 77))] 91 []) : ZP V Q (9, 19238) 2 (hl (vBs V) (nf L 77 (oM9 (vBs V) L) cM9)) [(0, .ref (vBs V + 77))] 83 [] := by
  refine z_aload_n hC 0 dX12_init_83 rfl rfl ?_
  refine z_bipush hC (16 : Int32) dX12_init_84 (by decide) ?_
  refine f_newa (t := 0) (N := 16) (ty := .int) (a0 := .inl (fun _ => 0)) 9 rfl hC hjl hsz rfl (fun _ => rfl) (fun _ _ h => h) lzA_int rfl (fun _ => rfl) (by decide) (by decide) (by decide) ⟨by rw [hcl]; decide, by rw [hsl]; decide⟩ dX12_init_86 ?_
  refine n_cast (n' := (10, 19254)) rfl ?_
  refine f_putF (k := 27) (v := .ref (vBs V + (L.length + 9))) hC hin hjl lqRX12_39_12 (Nat.le_of_ble_eq_true rfl) rfl rfl dX12_init_88 ?_
  exact kk
set_option maxHeartbeats 1000000 in
set_option maxRecDepth 100000 in
theorem m12_10 (hC : CX V cX12_init RX12 2 none 3) (hin : (vMe V).name = "<init>") (hjl : 77 < L.length) (hsz : (vSt V).heap.size = vBs V + L.length) (hcl : (vRo V).cells = 28) (hsl : (vRo V).slots = 22350) (kk : ZP V Q (11, 19270) 2 (hl (vBs V) (nf L 77 (oM11 (vBs V) L) cM11)) [(0, .ref (vBs V + 77))] 99 []) : ZP V Q (10, 19254) 2 (hl (vBs V) (nf L 77 (oM10 (vBs V) L) cM10)) [(0, .ref (vBs V + 77))] 91 [] := by
  refine z_aload_n hC 0 dX12_init_91 rfl rfl ?_
  refine z_bipush hC (16 : Int32) dX12_init_92 (by decide) ?_
  refine f_newa (t := 0) (N := 16) (ty := .int) (a0 := .inl (fun _ => 0)) 10 rfl hC hjl hsz rfl (fun _ => rfl) (fun _ _ h => h) lzA_int rfl (fun _ => rfl) (by decide) (by decide) (by decide) ⟨by rw [hcl]; decide, by rw [hsl]; decide⟩ dX12_init_94 ?_
  refine n_cast (n' := (11, 19270)) rfl ?_
  refine f_putF (k := 28) (v := .ref (vBs V + (L.length + 10))) hC hin hjl lqRX12_42_12 (Nat.le_of_ble_eq_true rfl) rfl rfl dX12_init_96 ?_
  exact kk
set_option maxHeartbeats 1000000 in
set_option maxRecDepth 100000 in
theorem m12_11 (hC : CX V cX12_init RX12 2 none 3) (hin : (vMe V).name = "<init>") (hjl : 77 < L.length) (hsz : (vSt V).heap.size = vBs V + L.length) (hcl : (vRo V).cells = 28) (hsl : (vRo V).slots = 22350) (kk : ZP V Q (12, 19286) 2 (hl (vBs V) (nf L 77 (oM12 (vBs V) L) cM12)) [(0, .ref (vBs V + 77))] 107 []) : ZP V Q (11, 19270) 2 (hl (vBs V) (nf L 77 (oM11 (vBs V) L) cM11)) [(0, .ref (vBs V + 77))] 99 [] := by
  refine z_aload_n hC 0 dX12_init_99 rfl rfl ?_
  refine z_bipush hC (16 : Int32) dX12_init_100 (by decide) ?_
  refine f_newa (t := 0) (N := 16) (ty := .int) (a0 := .inl (fun _ => 0)) 11 rfl hC hjl hsz rfl (fun _ => rfl) (fun _ _ h => h) lzA_int rfl (fun _ => rfl) (by decide) (by decide) (by decide) ⟨by rw [hcl]; decide, by rw [hsl]; decide⟩ dX12_init_102 ?_
  refine n_cast (n' := (12, 19286)) rfl ?_
  refine f_putF (k := 29) (v := .ref (vBs V + (L.length + 11))) hC hin hjl lqRX12_45_12 (Nat.le_of_ble_eq_true rfl) rfl rfl dX12_init_104 ?_
  exact kk
set_option maxHeartbeats 1000000 in
set_option maxRecDepth 100000 in
theorem m12_12 (hC : CX V cX12_init RX12 2 none 3) (hin : (vMe V).name = "<init>") (hjl : 77 < L.length) (hsz : (vSt V).heap.size = vBs V + L.length) (hcl : (vRo V).cells = 28) (hsl : (vRo V).slots = 22350) (kk : ZP V Q (13, 19546) 2 (hl (vBs V) (nf L 77 (oM13 (vBs V) L) cM13)) [(0, .ref (vBs V + 77))] 116 []) : ZP V Q (12, 19286) 2 (hl (vBs V) (nf L 77 (oM12 (vBs V) L) cM12)) [(0, .ref (vBs V + 77))] 107 [] := by
  refine z_aload_n hC 0 dX12_init_107 rfl rfl ?_
  refine z_sipush hC (260 : Int32) dX12_init_108 (by decide) ?_
  refine f_newa (t := 0) (N := 260) (ty := .int) (a0 := .inl (fun _ => 0)) 12 rfl hC hjl hsz rfl (fun _ => rfl) (fun _ _ h => h) lzA_int rfl (fun _ => rfl) (by decide) (by decide) (by decide) ⟨by rw [hcl]; decide, by rw [hsl]; decide⟩ dX12_init_111 ?_
  refine n_cast (n' := (13, 19546)) rfl ?_
  refine f_putF (k := 30) (v := .ref (vBs V + (L.length + 12))) hC hin hjl lqRX12_48_12 (Nat.le_of_ble_eq_true rfl) rfl rfl dX12_init_113 ?_
  exact kk
set_option maxHeartbeats 1000000 in
set_option maxRecDepth 100000 in
theorem m12_13 (hC : CX V cX12_init RX12 2 none 3) (hin : (vMe V).name = "<init>") (hjl : 77 < L.length) (hsz : (vSt V).heap.size = vBs V + L.length) (hcl : (vRo V).cells = 28) (hsl : (vRo V).slots = 22350) (kk : ZP V Q (14, 19562) 2 (hl (vBs V) (nf L 77 (oM14 (vBs V) L) cM14)) [(0, .ref (vBs V + 77))] 124 []) : ZP V Q (13, 19546) 2 (hl (vBs V) (nf L 77 (oM13 (vBs V) L) cM13)) [(0, .ref (vBs V + 77))] 116 [] := by
  refine z_aload_n hC 0 dX12_init_116 rfl rfl ?_
  refine z_bipush hC (16 : Int32) dX12_init_117 (by decide) ?_
  refine f_newa (t := 0) (N := 16) (ty := .int) (a0 := .inl (fun _ => 0)) 13 rfl hC hjl hsz rfl (fun _ => rfl) (fun _ _ h => h) lzA_int rfl (fun _ => rfl) (by decide) (by decide) (by decide) ⟨by rw [hcl]; decide, by rw [hsl]; decide⟩ dX12_init_119 ?_
  refine n_cast (n' := (14, 19562)) rfl ?_
  refine f_putF (k := 31) (v := .ref (vBs V + (L.length + 13))) hC hin hjl lqRX12_51_12 (Nat.le_of_ble_eq_true rfl) rfl rfl dX12_init_121 ?_
  exact kk
set_option maxHeartbeats 1000000 in
set_option maxRecDepth 100000 in
theorem m12_14 (hC : CX V cX12_init RX12 2 none 3) (hin : (vMe V).name = "<init>") (hjl : 77 < L.length) (hsz : (vSt V).heap.size = vBs V + L.length) (hcl : (vRo V).cells = 28) (hsl : (vRo V).slots = 22350) (kk : ZP V Q (15, 19578) 2 (hl (vBs V) (nf L 77 (oM15 (vBs V) L) cM15)) [(0, .ref (vBs V + 77))] 132 []) : ZP V Q (14, 19562) 2 (hl (vBs V) (nf L 77 (oM14 (vBs V) L) cM14)) [(0, .ref (vBs V + 77))] 124 [] := by
  refine z_aload_n hC 0 dX12_init_124 rfl rfl ?_
  refine z_bipush hC (16 : Int32) dX12_init_125 (by decide) ?_
  refine f_newa (t := 0) (N := 16) (ty := .int) (a0 := .inl (fun _ => 0)) 14 rfl hC hjl hsz rfl (fun _ => rfl) (fun _ _ h => h) lzA_int rfl (fun _ => rfl) (by decide) (by decide) (by decide) ⟨by rw [hcl]; decide, by rw [hsl]; decide⟩ dX12_init_127 ?_
  refine n_cast (n' := (15, 19578)) rfl ?_
  refine f_putF (k := 32) (v := .ref (vBs V + (L.length + 14))) hC hin hjl lqRX12_54_12 (Nat.le_of_ble_eq_true rfl) rfl rfl dX12_init_129 ?_
  exact kk
set_option maxHeartbeats 1000000 in
set_option maxRecDepth 100000 in
theorem m12_15 (hC : CX V cX12_init RX12 2 none 3) (hin : (vMe V).name = "<init>") (hjl : 77 < L.length) (hsz : (vSt V).heap.size = vBs V + L.length) (hcl : (vRo V).cells = 28) (hsl : (vRo V).slots = 22350) (kk : ZP V Q (16, 19594) 2 (hl (vBs V) (nf L 77 (oM16 (vBs V) L) cM16)) [(0, .ref (vBs V + 77))] 140 []) : ZP V Q (15, 19578) 2 (hl (vBs V) (nf L 77 (oM15 (vBs V) L) cM15)) [(0, .ref (vBs V + 77))] 132 [] := by
  refine z_aload_n hC 0 dX12_init_132 rfl rfl ?_
  refine z_bipush hC (16 : Int32) dX12_init_133 (by decide) ?_
  refine f_newa (t := 0) (N := 16) (ty := .int) (a0 := .inl (fun _ => 0)) 15 rfl hC hjl hsz rfl (fun _ => rfl) (fun _ _ h => h) lzA_int rfl (fun _ => rfl) (by decide) (by decide) (by decide) ⟨by rw [hcl]; decide, by rw [hsl]; decide⟩ dX12_init_135 ?_
  refine n_cast (n' := (16, 19594)) rfl ?_
  refine f_putF (k := 33) (v := .ref (vBs V + (L.length + 15))) hC hin hjl lqRX12_57_12 (Nat.le_of_ble_eq_true rfl) rfl rfl dX12_init_137 ?_
  exact kk
set_option maxHeartbeats 1000000 in
set_option maxRecDepth 100000 in
theorem m12_16 (hC : CX V cX12_init RX12 2 none 3) (hin : (vMe V).name = "<init>") (hjl : 77 < L.length) (hsz : (vSt V).heap.size = vBs V + L.length) (hcl : (vRo V).cells = 28) (hsl : (vRo V).slots = 22350) (kk : ZP V Q (17, 19610) 2 (hl (vBs V) (nf L 77 (oM17 (vBs V) L) cM17)) [(0, .ref (vBs V + 77))] 148 []) : ZP V Q (16, 19594) 2 (hl (vBs V) (nf L 77 (oM16 (vBs V) L) cM16)) [(0, .ref (vBs V + 77))] 140 [] := by
  refine z_aload_n hC 0 dX12_init_140 rfl rfl ?_
  refine z_bipush hC (16 : Int32) dX12_init_141 (by decide) ?_
  refine f_newa (t := 0) (N := 16) (ty := .int) (a0 := .inl (fun _ => 0)) 16 rfl hC hjl hsz rfl (fun _ => rfl) (fun _ _ h => h) lzA_int rfl (fun _ => rfl) (by decide) (by decide) (by decide) ⟨by rw [hcl]; decide, by rw [hsl]; decide⟩ dX12_init_143 ?_
  refine n_cast (n' := (17, 19610)) rfl ?_
  refine f_putF (k := 34) (v := .ref (vBs V + (L.length + 16))) hC hin hjl lqRX12_60_12 (Nat.le_of_ble_eq_true rfl) rfl rfl dX12_init_145 ?_
  exact kk
set_option maxHeartbeats 1000000 in
set_option maxRecDepth 100000 in
theorem m12_17 (hC : CX V cX12_init RX12 2 none 3) (hin : (vMe V).name = "<init>") (hjl : 77 < L.length) (hsz : (vSt V).heap.size = vBs V + L.length) (hcl : (vRo V).cells = 28) (hsl : (vRo V).slots = 22350) (kk : ZP V Q (18, 19870) 2 (hl (vBs V) (nf L 77 (oM18 (vBs V) L) cM18)) [(0, .ref (vBs V + 77))] 157 []) : ZP V Q (17, 19610) 2 (hl (vBs V) (nf L 77 (oM17 (vBs V) L) cM17)) [(0, .ref (vBs V + 77))] 148 [] := by
  refine z_aload_n hC 0 dX12_init_148 rfl rfl ?_
  refine z_sipush hC (260 : Int32) dX12_init_149 (by decide) ?_
  refine f_newa (t := 0) (N := 260) (ty := .int) (a0 := .inl (fun _ => 0)) 17 rfl hC hjl hsz rfl (fun _ => rfl) (fun _ _ h => h) lzA_int rfl (fun _ => rfl) (by decide) (by decide) (by decide) ⟨by rw [hcl]; decide, by rw [hsl]; decide⟩ dX12_init_152 ?_
  refine n_cast (n' := (18, 19870)) rfl ?_
  refine f_putF (k := 35) (v := .ref (vBs V + (L.length + 17))) hC hin hjl lqRX12_63_12 (Nat.le_of_ble_eq_true rfl) rfl rfl dX12_init_154 ?_
  exact kk
set_option maxHeartbeats 1000000 in
set_option maxRecDepth 100000 in
theorem m12_18 (hC : CX V cX12_init RX12 2 none 3) (hin : (vMe V).name = "<init>") (hjl : 77 < L.length) (hsz : (vSt V).heap.size = vBs V + L.length) (hcl : (vRo V).cells = 28) (hsl : (vRo V).slots = 22350) (kk : ZP V Q (19, 19878) 2 (hl (vBs V) (nf L 77 (oM19 (vBs V) L) cM19)) [(0, .ref (vBs V + 77))] 165 []) : ZP V Q (18, 19870) 2 (hl (vBs V) (nf L 77 (oM18 (vBs V) L) cM18)) [(0, .ref (vBs V + 77))] 157 [] := by
  refine z_aload_n hC 0 dX12_init_157 rfl rfl ?_
  refine z_bipush hC (8 : Int32) dX12_init_158 (by decide) ?_
  refine f_newa (t := 0) (N := 8) (ty := .int) (a0 := .inl (fun _ => 0)) 18 rfl hC hjl hsz rfl (fun _ => rfl) (fun _ _ h => h) lzA_int rfl (fun _ => rfl) (by decide) (by decide) (by decide) ⟨by rw [hcl]; decide, by rw [hsl]; decide⟩ dX12_init_160 ?_
  refine n_cast (n' := (19, 19878)) rfl ?_
  refine f_putF (k := 36) (v := .ref (vBs V + (L.length + 18))) hC hin hjl lqRX12_66_12 (Nat.le_of_ble_eq_true rfl) rfl rfl dX12_init_162 ?_
  exact kk
set_option maxHeartbeats 1000000 in
set_option maxRecDepth 100000 in
theorem m12_19 (hC : CX V cX12_init RX12 2 none 3) (hin : (vMe V).name = "<init>") (hjl : 77 < L.length) (hsz : (vSt V).heap.size = vBs V + L.length) (hcl : (vRo V).cells = 28) (hsl : (vRo V).slots = 22350) (kk : ZP V Q (20, 19978) 2 (hl (vBs V) (nf L 77 (oM20 (vBs V) L) cM20)) [(0, .ref (vBs V + 77))] 173 []) : ZP V Q (19, 19878) 2 (hl (vBs V) (nf L 77 (oM19 (vBs V) L) cM19)) [(0, .ref (vBs V + 77))] 165 [] := by
  refine z_aload_n hC 0 dX12_init_165 rfl rfl ?_
  refine z_bipush hC (100 : Int32) dX12_init_166 (by decide) ?_
  refine f_newa (t := 0) (N := 100) (ty := .int) (a0 := .inl (fun _ => 0)) 19 rfl hC hjl hsz rfl (fun _ => rfl) (fun _ _ h => h) lzA_int rfl (fun _ => rfl) (by decide) (by decide) (by decide) ⟨by rw [hcl]; decide, by rw [hsl]; decide⟩ dX12_init_168 ?_
  refine n_cast (n' := (20, 19978)) rfl ?_
  refine f_putF (k := 37) (v := .ref (vBs V + (L.length + 19))) hC hin hjl lqRX12_69_12 (Nat.le_of_ble_eq_true rfl) rfl rfl dX12_init_170 ?_
  exact kk
set_option maxHeartbeats 1000000 in
set_option maxRecDepth 100000 in
theorem m12_20 (hC : CX V cX12_init RX12 2 none 3) (hin : (vMe V).name = "<init>") (hjl : 77 < L.length) (hsz : (vSt V).heap.size = vBs V + L.length) (hcl : (vRo V).cells = 28) (hsl : (vRo V).slots = 22350) (kk : ZP V Q (21, 20078) 2 (hl (vBs V) (nf L 77 (oM21 (vBs V) L) cM21)) [(0, .ref (vBs V + 77))] 181 []) : ZP V Q (20, 19978) 2 (hl (vBs V) (nf L 77 (oM20 (vBs V) L) cM20)) [(0, .ref (vBs V + 77))] 173 [] := by
  refine z_aload_n hC 0 dX12_init_173 rfl rfl ?_
  refine z_bipush hC (100 : Int32) dX12_init_174 (by decide) ?_
  refine f_newa (t := 0) (N := 100) (ty := .int) (a0 := .inl (fun _ => 0)) 20 rfl hC hjl hsz rfl (fun _ => rfl) (fun _ _ h => h) lzA_int rfl (fun _ => rfl) (by decide) (by decide) (by decide) ⟨by rw [hcl]; decide, by rw [hsl]; decide⟩ dX12_init_176 ?_
  refine n_cast (n' := (21, 20078)) rfl ?_
  refine f_putF (k := 38) (v := .ref (vBs V + (L.length + 20))) hC hin hjl lqRX12_72_12 (Nat.le_of_ble_eq_true rfl) rfl rfl dX12_init_178 ?_
  exact kk
set_option maxHeartbeats 1000000 in
set_option maxRecDepth 100000 in
theorem m12_21 (hC : CX V cX12_init RX12 2 none 3) (hin : (vMe V).name = "<init>") (hjl : 77 < L.length) (hsz : (vSt V).heap.size = vBs V + L.length) (hcl : (vRo V).cells = 28) (hsl : (vRo V).slots = 22350) (kk : ZP V Q (22, 20178) 2 (hl (vBs V) (nf L 77 (oM22 (vBs V) L) cM22)) [(0, .ref (vBs V + 77))] 189 []) : ZP V Q (21, 20078) 2 (hl (vBs V) (nf L 77 (oM21 (vBs V) L) cM21)) [(0, .ref (vBs V + 77))] 181 [] := by
  refine z_aload_n hC 0 dX12_init_181 rfl rfl ?_
  refine z_bipush hC (100 : Int32) dX12_init_182 (by decide) ?_
  refine f_newa (t := 0) (N := 100) (ty := .int) (a0 := .inl (fun _ => 0)) 21 rfl hC hjl hsz rfl (fun _ => rfl) (fun _ _ h => h) lzA_int rfl (fun _ => rfl) (by decide) (by decide) (by decide) ⟨by rw [hcl]; decide, by rw [hsl]; decide⟩ dX12_init_184 ?_
  refine n_cast (n' := (22, 20178)) rfl ?_
  refine f_putF (k := 39) (v := .ref (vBs V + (L.length + 21))) hC hin hjl lqRX12_75_12 (Nat.le_of_ble_eq_true rfl) rfl rfl dX12_init_186 ?_
  exact kk
set_option maxHeartbeats 1000000 in
set_option maxRecDepth 100000 in
theorem m12_22 (hC : CX V cX12_init RX12 2 none 3) (hin : (vMe V).name = "<init>") (hjl : 77 < L.length) (hsz : (vSt V).heap.size = vBs V + L.length) (hcl : (vRo V).cells = 28) (hsl : (vRo V).slots = 22350) (kk : ZP V Q (23, 20278) 2 (hl (vBs V) (nf L 77 (oM23 (vBs V) L) cM23)) [(0, .ref (vBs V + 77))] 197 []) : ZP V Q (22, 20178) 2 (hl (vBs V) (nf L 77 (oM22 (vBs V) L) cM22)) [(0, .ref (vBs V + 77))] 189 [] := by
  refine z_aload_n hC 0 dX12_init_189 rfl rfl ?_
  refine z_bipush hC (100 : Int32) dX12_init_190 (by decide) ?_
  refine f_newa (t := 2) (N := 100) (ty := .boolean) (a0 := .inl (fun _ => 0)) 22 rfl hC hjl hsz rfl (fun _ => rfl) (fun _ _ h => h) lzA_boolean rfl (fun _ => rfl) (by decide) (by decide) (by decide) ⟨by rw [hcl]; decide, by rw [hsl]; decide⟩ dX12_init_192 ?_
  refine n_cast (n' := (23, 20278)) rfl ?_
  refine f_putF (k := 44) (v := .ref (vBs V + (L.length + 22))) hC hin hjl lqRX12_78_12 (Nat.le_of_ble_eq_true rfl) rfl rfl dX12_init_194 ?_
  exact kk
set_option maxHeartbeats 1000000 in
set_option maxRecDepth 100000 in
theorem m12_23 (hC : CX V cX12_init RX12 2 none 3) (hin : (vMe V).name = "<init>") (hjl : 77 < L.length) (hsz : (vSt V).heap.size = vBs V + L.length) (hcl : (vRo V).cells = 28) (hsl : (vRo V).slots = 22350) (kk : ZP V Q (24, 20286) 2 (hl (vBs V) (nf L 77 (oM24 (vBs V) L) cM24)) [(0, .ref (vBs V + 77))] 205 []) : ZP V Q (23, 20278) 2 (hl (vBs V) (nf L 77 (oM23 (vBs V) L) cM23)) [(0, .ref (vBs V + 77))] 197 [] := by
  refine z_aload_n hC 0 dX12_init_197 rfl rfl ?_
  refine z_bipush hC (8 : Int32) dX12_init_198 (by decide) ?_
  refine f_newa (t := 0) (N := 8) (ty := .int) (a0 := .inl (fun _ => 0)) 23 rfl hC hjl hsz rfl (fun _ => rfl) (fun _ _ h => h) lzA_int rfl (fun _ => rfl) (by decide) (by decide) (by decide) ⟨by rw [hcl]; decide, by rw [hsl]; decide⟩ dX12_init_200 ?_
  refine n_cast (n' := (24, 20286)) rfl ?_
  refine f_putF (k := 54) (v := .ref (vBs V + (L.length + 23))) hC hin hjl lqRX12_81_12 (Nat.le_of_ble_eq_true rfl) rfl rfl dX12_init_202 ?_
  exact kk
set_option maxHeartbeats 1000000 in
set_option maxRecDepth 100000 in
theorem m12_24 (hC : CX V cX12_init RX12 2 none 3) (hin : (vMe V).name = "<init>") (hjl : 77 < L.length) (hsz : (vSt V).heap.size = vBs V + L.length) (hcl : (vRo V).cells = 28) (hsl : (vRo V).slots = 22350) (kk : ZP V Q (25, 20294) 2 (hl (vBs V) (nf L 77 (oM25 (vBs V) L) cM25)) [(0, .ref (vBs V + 77))] 213 []) : ZP V Q (24, 20286) 2 (hl (vBs V) (nf L 77 (oM24 (vBs V) L) cM24)) [(0, .ref (vBs V + 77))] 205 [] := by
  refine z_aload_n hC 0 dX12_init_205 rfl rfl ?_
  refine z_bipush hC (8 : Int32) dX12_init_206 (by decide) ?_
  refine f_newa (t := 0) (N := 8) (ty := .int) (a0 := .inl (fun _ => 0)) 24 rfl hC hjl hsz rfl (fun _ => rfl) (fun _ _ h => h) lzA_int rfl (fun _ => rfl) (by decide) (by decide) (by decide) ⟨by rw [hcl]; decide, by rw [hsl]; decide⟩ dX12_init_208 ?_
  refine n_cast (n' := (25, 20294)) rfl ?_
  refine f_putF (k := 55) (v := .ref (vBs V + (L.length + 24))) hC hin hjl lqRX12_84_12 (Nat.le_of_ble_eq_true rfl) rfl rfl dX12_init_210 ?_
  exact kk
set_option maxHeartbeats 1000000 in
set_option maxRecDepth 100000 in
theorem m12_25 (hC : CX V cX12_init RX12 2 none 3) (hin : (vMe V).name = "<init>") (hjl : 77 < L.length) (hsz : (vSt V).heap.size = vBs V + L.length) (hcl : (vRo V).cells = 28) (hsl : (vRo V).slots = 22350) (kk : ZP V Q (26, 20302) 2 (hl (vBs V) (nf L 77 (oM26 (vBs V) L) cM26)) [(0, .ref (vBs V + 77))] 221 []) : ZP V Q (25, 20294) 2 (hl (vBs V) (nf L 77 (oM25 (vBs V) L) cM25)) [(0, .ref (vBs V + 77))] 213 [] := by
  refine z_aload_n hC 0 dX12_init_213 rfl rfl ?_
  refine z_bipush hC (8 : Int32) dX12_init_214 (by decide) ?_
  refine f_newa (t := 0) (N := 8) (ty := .int) (a0 := .inl (fun _ => 0)) 25 rfl hC hjl hsz rfl (fun _ => rfl) (fun _ _ h => h) lzA_int rfl (fun _ => rfl) (by decide) (by decide) (by decide) ⟨by rw [hcl]; decide, by rw [hsl]; decide⟩ dX12_init_216 ?_
  refine n_cast (n' := (26, 20302)) rfl ?_
  refine f_putF (k := 56) (v := .ref (vBs V + (L.length + 25))) hC hin hjl lqRX12_87_12 (Nat.le_of_ble_eq_true rfl) rfl rfl dX12_init_218 ?_
  exact kk
set_option maxHeartbeats 1000000 in
set_option maxRecDepth 100000 in
theorem m12_26 (hC : CX V cX12_init RX12 2 none 3) (hin : (vMe V).name = "<init>") (hjl : 77 < L.length) (hsz : (vSt V).heap.size = vBs V + L.length) (hcl : (vRo V).cells = 28) (hsl : (vRo V).slots = 22350) (kk : ZP V Q (27, 21326) 2 (hl (vBs V) (nf L 77 (oM27 (vBs V) L) cM27)) [(0, .ref (vBs V + 77))] 230 []) : ZP V Q (26, 20302) 2 (hl (vBs V) (nf L 77 (oM26 (vBs V) L) cM26)) [(0, .ref (vBs V + 77))] 221 [] := by
  refine z_aload_n hC 0 dX12_init_221 rfl rfl ?_
  refine z_sipush hC (1024 : Int32) dX12_init_222 (by decide) ?_
  refine f_newa (t := 0) (N := 1024) (ty := .int) (a0 := .inl (fun _ => 0)) 26 rfl hC hjl hsz rfl (fun _ => rfl) (fun _ _ h => h) lzA_int rfl (fun _ => rfl) (by decide) (by decide) (by decide) ⟨by rw [hcl]; decide, by rw [hsl]; decide⟩ dX12_init_225 ?_
  refine n_cast (n' := (27, 21326)) rfl ?_
  refine f_putF (k := 57) (v := .ref (vBs V + (L.length + 26))) hC hin hjl lqRX12_90_12 (Nat.le_of_ble_eq_true rfl) rfl rfl dX12_init_227 ?_
  exact kk
set_option maxHeartbeats 1000000 in
set_option maxRecDepth 100000 in
theorem m12_27 (hC : CX V cX12_init RX12 2 none 3) (hin : (vMe V).name = "<init>") (hjl : 77 < L.length) (hsz : (vSt V).heap.size = vBs V + L.length) (hcl : (vRo V).cells = 28) (hsl : (vRo V).slots = 22350) (kk : ZP V Q (28, 22350) 2 (hl (vBs V) (nf L 77 (oM28 (vBs V) L) cM28)) [(0, .ref (vBs V + 77))] 239 []) : ZP V Q (27, 21326) 2 (hl (vBs V) (nf L 77 (oM27 (vBs V) L) cM27)) [(0, .ref (vBs V + 77))] 230 [] := by
  refine z_aload_n hC 0 dX12_init_230 rfl rfl ?_
  refine z_sipush hC (1024 : Int32) dX12_init_231 (by decide) ?_
  refine f_newa (t := 2) (N := 1024) (ty := .boolean) (a0 := .inl (fun _ => 0)) 27 rfl hC hjl hsz rfl (fun _ => rfl) (fun _ _ h => h) lzA_boolean rfl (fun _ => rfl) (by decide) (by decide) (by decide) ⟨by rw [hcl]; decide, by rw [hsl]; decide⟩ dX12_init_234 ?_
  refine n_cast (n' := (28, 22350)) rfl ?_
  refine f_putF (k := 58) (v := .ref (vBs V + (L.length + 27))) hC hin hjl lqRX12_93_12 (Nat.le_of_ble_eq_true rfl) rfl rfl dX12_init_236 ?_
  exact kk
set_option maxHeartbeats 1000000 in
set_option maxRecDepth 100000 in
theorem m12_l2 (hC : CX V cX12_init RX12 2 none 3) (hin : (vMe V).name = "<init>") (hjl : 77 < L.length) (hsz : (vSt V).heap.size = vBs V + L.length) (hcl : (vRo V).cells = 28) (hsl : (vRo V).slots = 22350) (hN : NX (vSt V)) {s1 : Nat → Int32} (hr : RetN V Q (28, 22350) (nf L 77 (OBm (vBs V) L) (CSm (onU 10) s1 (onU 1024)))) : ∀ d i, i + d = 1024 → ZP V Q (28, 22350) 2 (hl (vBs V) (nf L 77 (OBm (vBs V) L) (CSm (onU 10) s1 (onU i)))) [(0, .ref (vBs V + 77)), (1, .int (nI i))] 266 [] := by
    intro d
    induction d with
    | zero =>
      intro i hi
      have : i = 1024 := by omega
      subst this
      refine z_iload_n hC 1 dX12_init_266 rfl rfl ?_
      refine z_sipush hC (1024 : Int32) dX12_init_267 (by decide) ?_
      refine k_ge_yes 286 hC (by decide) dX12_init_270 (by decide) ?_
      exact k_vret hC hN (f_hz hjl hsz rfl) hr dX12_init_286
    | succ d ih =>
      intro i hi
      refine z_iload_n hC 1 dX12_init_266 rfl rfl ?_
      refine z_sipush hC (1024 : Int32) dX12_init_267 (by decide) ?_
      refine k_ge_no 286 hC (Lnle (show i < 1024 by omega)) dX12_init_270 (by decide) ?_
      refine z_aload_n hC 0 dX12_init_273 rfl rfl ?_
      refine f_getR (ci := 12) (fs := obF (vBs V) L) hC hjl lgnRX12_23 rfl dX12_init_274 ?_
      refine z_iload_n hC 1 dX12_init_277 rfl rfl ?_
      refine z_iconst hC (1 : Int32) dX12_init_278 (by decide) ?_
      refine f_zast (p := 4) (N := 1024) (f := onU i) hC rfl (nI_in (show i < 1024 by omega) (by omega)) (Or.inr rfl) dX12_init_279 ?_
      rw [nI_clamp (show i < 2 ^ 31 by omega), onU_up]
      refine z_iinc hC (nI (i + 1)) 1 [(0, .ref (vBs V + 77)), (1, .int (nI (i + 1)))] [1, 0] dX12_init_280 rfl (nI_1 i) (by decide) rfl ?_
      refine z_goto hC 266 dX12_init_283 (by decide) ?_
      exact ih (i + 1) (by omega)
set_option maxHeartbeats 1000000 in
set_option maxRecDepth 100000 in
theorem m12_l1 (hC : CX V cX12_init RX12 2 none 3) (hin : (vMe V).name = "<init>") (hjl : 77 < L.length) (hsz : (vSt V).heap.size = vBs V + L.length) (hcl : (vRo V).cells = 28) (hsl : (vRo V).slots = 22350) {s1 : Nat → Int32} (hfit : FX12_laysFits (hl (vBs V) (nf L 77 (OBm (vBs V) L) (CSm (onU 10) (fun _ => 0) (fun _ => 0)))) (vBs V + 77) = some (hl (vBs V) (nf L 77 (OBm (vBs V) L) (CSm (onU 10) s1 (fun _ => 0))))) (k2 : ZP V Q (28, 22350) 2 (hl (vBs V) (nf L 77 (OBm (vBs V) L) (CSm (onU 10) s1 (fun _ => 0)))) [(0, .ref (vBs V + 77)), (1, .int (0 : Int32))] 266 []) : ∀ d i, i + d = 10 → ZP V Q (28, 22350) 2 (hl (vBs V) (nf L 77 (OBm (vBs V) L) (CSm (onU i) (fun _ => 0) (fun _ => 0)))) [(0, .ref (vBs V + 77)), (1, .int (nI i))] 241 [] := by
    intro d
    induction d with
    | zero =>
      intro i hi
      have : i = 10 := by omega
      subst this
      refine z_iload_n hC 1 dX12_init_241 rfl rfl ?_
      refine z_bipush hC (10 : Int32) dX12_init_242 (by decide) ?_
      refine k_ge_yes 260 hC (by decide) dX12_init_244 (by decide) ?_
      refine z_aload_n hC 0 dX12_init_260 rfl rfl ?_
      refine zq (fun h => h) (fun _ => []) (v := hl (vBs V) (nf L 77 (OBm (vBs V) L) (CSm (onU 10) s1 (fun _ => 0)))) (o := rc [12] (hl (vBs V) (nf L 77 (OBm (vBs V) L) (CSm (onU 10) (fun _ => 0) (fun _ => 0)))) (vBs V + 77) (FX12_laysFits (hl (vBs V) (nf L 77 (OBm (vBs V) L) (CSm (onU 10) (fun _ => 0) (fun _ => 0)))) (vBs V + 77))) ?_ (fun kf kk => z_callVv hC (ci := 12) rfl lmRX12_96 (ctX12_laysFits (vLa V) (vDa V) (vTg V) (vBs V) (vSa V) _ _) (by decide) ⟨by rw [hcl]; decide, by rw [hsl]; decide⟩ dX12_init_261 rfl rfl (Nat.le_of_ble_eq_true rfl) kk) ?_
      · unfold rc isO
        rw [hl_at, nf_at hjl]
        exact hfit
      · refine z_iconst hC (0 : Int32) dX12_init_264 (by decide) ?_
        refine z_istore_n hC [(0, .ref (vBs V + 77)), (1, .int (0 : Int32))] [1, 0] dX12_init_265 rfl (by decide) rfl ?_
        exact k2
    | succ d ih =>
      intro i hi
      refine z_iload_n hC 1 dX12_init_241 rfl rfl ?_
      refine z_bipush hC (10 : Int32) dX12_init_242 (by decide) ?_
      refine k_ge_no 260 hC (Lnle (show i < 10 by omega)) dX12_init_244 (by decide) ?_
      refine z_aload_n hC 0 dX12_init_247 rfl rfl ?_
      refine f_getR (ci := 12) (fs := obF (vBs V) L) hC hjl lgnRX12_7 rfl dX12_init_248 ?_
      refine z_iload_n hC 1 dX12_init_251 rfl rfl ?_
      refine z_iconst hC (1 : Int32) dX12_init_252 (by decide) ?_
      refine f_iast (p := 0) (N := 10) (f := onU i) hC rfl (nI_in (show i < 10 by omega) (by omega)) dX12_init_253 ?_
      rw [nI_clamp (show i < 2 ^ 31 by omega), onU_up]
      refine z_iinc hC (nI (i + 1)) 1 [(0, .ref (vBs V + 77)), (1, .int (nI (i + 1)))] [1, 0] dX12_init_254 rfl (nI_1 i) (by decide) rfl ?_
      refine z_goto hC 241 dX12_init_257 (by decide) ?_
      exact ih (i + 1) (by omega)
end
set_option maxHeartbeats 1000000 in
set_option maxRecDepth 100000 in
theorem ctX12_init (l : Launch) (D : va_G) (tg : Nat → ClassId) (bs : Nat) (sa : Nat → Nat) (L : List AE) (hj : L[77]? = some (xO 12 [.null, .null, .null, .null, .null, .int 0, .int 0, .int 0, .int 0, .int 0, .int 0, .int 0, .int 0, .null, .int 0, .int 0, .int 0, .int 0, .int 0, .int 0, .int 0, .int 0, .int 0, .int 0, .null, .null, .null, .null, .null, .null, .null, .null, .null, .null, .null, .null, .null, .null, .null, .null, .int 0, .int 0, .int 0, .int 0, .null, .int 0, .int 0, .int 0, .int 0, .int 0, .int 0, .int 0, .int 0, .int 0, .null, .null, .null, .null, .null, .int 0, .int 0, .int 0, .int 0, .int 0, .int 0, .int 0])) (hjl : 77 < L.length) (s1 : Nat → Int32) (hfit : FX12_laysFits (hl bs (nf L 77 (OBm bs L) (CSm (onU 10) (fun _ => 0) (fun _ => 0)))) (bs + 77) = some (hl bs (nf L 77 (OBm bs L) (CSm (onU 10) s1 (fun _ => 0))))) : CtN l D tg bs sa yX12_init cX12_init 2 3 [.ref (bs + 77)] L (nf L 77 (OBm bs L) (CSm (onU 10) s1 (onU 1024))) 28 22350 := by
  refine CtN.of (by decide) rfl (Nat.le_of_ble_eq_true rfl) ?_
  intro V Q hVl hVd hVt hVb hVs hC hN hin hsz hcl hsl hr
  subst hVl; subst hVd; subst hVt; subst hVb; subst hVs
  have hC : CX V cX12_init RX12 2 none 3 := hC
  have k2 := m12_l2 hC hin hjl hsz hcl hsl hN (s1 := s1) hr 1024 0 rfl
  have e0 : onU 0 = fun _ => 0 := funext fun k => if_neg (Nat.not_lt_zero k)
  rw [e0] at k2
  have k1 := m12_l1 hC hin hjl hsz hcl hsl hfit k2 10 0 rfl
  rw [e0] at k1
  have hz : ZP V Q (28, 22350) 2 (hl (vBs V) (nf L 77 (oM28 (vBs V) L) cM28)) [(0, .ref (vBs V + 77))] 239 [] := by
    refine z_iconst hC (0 : Int32) dX12_init_239 (by decide) ?_
    refine z_istore_n hC [(0, .ref (vBs V + 77)), (1, .int (0 : Int32))] [1, 0] dX12_init_240 rfl (by decide) rfl ?_
    exact k1
  show ZP V Q (0, 0) 2 (hl (vBs V) L) [(0, .ref (vBs V + 77))] 0 []
  refine f_cast (nf_nil hj) ?_
  refine z_aload_n hC 0 dX12_init_0 rfl rfl ?_
  refine k_objI hC lzORX12 lzOi lzOc (by decide) dX12_init_1 (Nat.le_of_ble_eq_true rfl) ?_
  show ZP V Q (0, 0) 2 (hl (vBs V) (nf L 77 (oM0 (vBs V) L) cM0)) [(0, .ref (vBs V + 77))] 4 []
  refine m12_0 hC hin hjl hsz hcl hsl ?_
  refine m12_1 hC hin hjl hsz hcl hsl ?_
  refine m12_2 hC hin hjl hsz hcl hsl ?_
  refine m12_3 hC hin hjl hsz hcl hsl ?_
  refine m12_4 hC hin hjl hsz hcl hsl ?_
  refine m12_5 hC hin hjl hsz hcl hsl ?_
  refine m12_6 hC hin hjl hsz hcl hsl ?_
  refine m12_7 hC hin hjl hsz hcl hsl ?_
  refine m12_8 hC hin hjl hsz hcl hsl ?_
  refine m12_9 hC hin hjl hsz hcl hsl ?_
  refine m12_10 hC hin hjl hsz hcl hsl ?_
  refine m12_11 hC hin hjl hsz hcl hsl ?_
  refine m12_12 hC hin hjl hsz hcl hsl ?_
  refine m12_13 hC hin hjl hsz hcl hsl ?_
  refine m12_14 hC hin hjl hsz hcl hsl ?_
  refine m12_15 hC hin hjl hsz hcl hsl ?_
  refine m12_16 hC hin hjl hsz hcl hsl ?_
  refine m12_17 hC hin hjl hsz hcl hsl ?_
  refine m12_18 hC hin hjl hsz hcl hsl ?_
  refine m12_19 hC hin hjl hsz hcl hsl ?_
  refine m12_20 hC hin hjl hsz hcl hsl ?_
  refine m12_21 hC hin hjl hsz hcl hsl ?_
  refine m12_22 hC hin hjl hsz hcl hsl ?_
  refine m12_23 hC hin hjl hsz hcl hsl ?_
  refine m12_24 hC hin hjl hsz hcl hsl ?_
  refine m12_25 hC hin hjl hsz hcl hsl ?_
  refine m12_26 hC hin hjl hsz hcl hsl ?_
  refine m12_27 hC hin hjl hsz hcl hsl ?_
  exact hz
