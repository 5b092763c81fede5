/-! ===== the law: its script, its calls ===== -/
def SZ (X : XT) (b L : Nat) (xs : Nat → Int32) : Prop := match X with
  | (_, _, _, _, s, _, _, _, _, _, _, _, A, _, _, _) => va_X b L xs s s.heap ∧ b < s.heap.size ∧ ¬ A b
def LV (b : Nat) (ad : Nat → Nat) (i : Nat) : List (Nat × Value) := [(0, .ref b), (1, .ref (ad 0)), (2, .ref (ad 95)), (3, .int (nI i))]
def csA : List Nat := List.range 103
theorem in_A {k : Nat} (h : k < 103) : k ∈ csA := List.mem_range.mpr h
section VL
variable {X : XT} {nL : Nat} {ad : Nat → Nat} {cs : List Nat} {cc : ByteArray} {own : String} {fr lo : Nat} {M : Mm} {pc : Nat} {lv : List (Nat × Value)} {st : List Value} {b L : Nat} {xs : Nat → Int32}
theorem v_slen (hX : XOK X nL ad cs cc own fr lo) (hZ : SZ X b L xs) (d : decode cc pc = .ok (.arraylength, 1)) (k : VV X nL ad cs M (pc + 1) lv (.int (nI L) :: st)) : VV X nL ad cs M pc lv (.ref b :: st) := by
  obtain ⟨p, l, e, R, s, m, args, below, meth, c, D, cy, A, kc, ks, Q⟩ := X
  intro H locs ls hP hS hl
  exact va_slen hX.1 hX.2.1 hZ.1 hZ.2.1 hZ.2.2 hS d (k H locs ls hP hS hl)
theorem v_sld {j : Nat} (hX : XOK X nL ad cs cc own fr lo) (hZ : SZ X b L xs) (hj : j < L) (hL : L ≤ 2560) (d : decode cc pc = .ok (.iaload, 1)) (k : VV X nL ad cs M (pc + 1) lv (.int (xs j) :: st)) : VV X nL ad cs M pc lv (.int (nI j) :: .ref b :: st) := by
  obtain ⟨p, l, e, R, s, m, args, below, meth, c, D, cy, A, kc, ks, Q⟩ := X
  intro H locs ls hP hS hl
  refine va_sld (i := nI j) hX.1 hX.2.1 hZ.1 hZ.2.1 hZ.2.2 hS (vp_in_nI hj (by omega)) d ?_
  rw [show (nI j).toNatClampNeg = j from ixn (by omega)]
  exact k H locs ls hP hS hl
/-- an argument out of the script -/
theorem v_arg {i : Nat} (j : Nat) {n : Int} (hX : XOK X nL ad cs cc own fr lo) (hZ : SZ X b L xs) (hij : i + j < L) (hL : L ≤ 2560) (d0 : decode cc pc = .ok (.aload_n 0, 1)) (d1 : decode cc (pc + 1) = .ok (.iload_n 3, 1)) (d2 : decode cc (pc + 2) = .ok (.iconst n, 1)) (hn : Int32.ofInt n = nI j) (d3 : decode cc (pc + 3) = .ok (.iadd, 1)) (d4 : decode cc (pc + 4) = .ok (.iaload, 1)) (k : VV X nL ad cs M (pc + 5) (LV b ad i) (.int (xs (i + j)) :: st)) : VV X nL ad cs M pc (LV b ad i) st := by
  refine v_aload_n 0 hX d0 rfl ?_
  refine v_iload_n 3 hX d1 rfl ?_
  refine v_iconst hX d2 hn ?_
  refine v_iadd hX d3 ?_
  refine v_top (nI_add i j).symm ?_
  exact v_sld hX hZ hij hL d4 k
end VL
theorem lawlt {L i : Nat} (hL : L ≤ 2560) (hi : i ≤ 2560) : nI L - 5 < nI i ↔ L < i + 5 := by
  rcases Nat.lt_or_ge L 5 with h | h
  · have e : (nI L - 5).toInt < 0 := by
      have key : ∀ L, L < 5 → (nI L - 5).toInt < 0 := by decide +kernel
      exact key L h
    rw [Int32.lt_iff_toInt_lt, tin (by omega)]
    constructor
    · intro _; omega
    · intro _; omega
  · rw [show nI L - 5 = nI (L - 5) from pk_sub (b := 5) h, nlt (by omega) (by omega)]
    omega
theorem law_sw (x : Int32) : (x.toInt < 0 ∨ 26 < x.toInt) ∨ ∃ k, k < 27 ∧ x = nI k := by
  by_cases h : x.toInt < 0 ∨ 26 < x.toInt
  · exact Or.inl h
  · right
    obtain ⟨u, h2, h3⟩ := nI_of (x := x) (by rw [Int32.lt_iff_toInt_lt, show (0 : Int32).toInt = 0 from rfl]; omega)
    subst h3
    rw [tin h2] at h
    exact ⟨u, by omega, rfl⟩
theorem cmp_same (r : Int64) : lg_cmp r r = 0 := by
  unfold lg_cmp
  simp
