/-! ===== answers that change nothing ===== -/
theorem b1_s {α β : Type} (a : α) (k : α → Option β) : b1 (some a) k = k a := rfl
theorem b2_s {α β γ : Type} (a : α) (b : β) (k : α → β → Option γ) : b2 (some (a, b)) k = k a b := rfl
theorem b3_s {α β γ δ : Type} (a : α) (b : β) (c : γ) (k : α → β → γ → Option δ) : b3 (some (a, b, c)) k = k a b c := rfl
theorem gd_t {α : Type} {c : Prop} [Decidable c] (h : c) (x : Option α) : gd c x = x := if_pos h
theorem within_in : fX10_within = fX11_in := rfl
theorem in_any (w a b : Int32) : fX11_in w a b = some (if a.toInt ≤ w.toInt ∧ w.toInt ≤ b.toInt then 1 else 0) := by
  unfold fX11_in
  by_cases h1 : w < a
  · rw [if_pos h1, if_neg]; rw [Int32.lt_iff_toInt_lt] at h1; omega
  · rw [if_neg h1]
    by_cases h2 : b < w
    · rw [if_pos h2, if_neg]; rw [Int32.lt_iff_toInt_lt] at h2; omega
    · rw [if_neg h2, if_pos]; rw [Int32.lt_iff_toInt_lt] at h1 h2; omega
/-- inside 0 and N: a number, or not at all -/
theorem in_n (w : Int32) (N : Nat) (hN : N < 2147483648) : fX11_in w 0 (nI N) = some 0 ∨ ∃ v, v ≤ N ∧ w = nI v ∧ fX11_in w 0 (nI N) = some 1 := by
  rw [in_any, tin hN]
  by_cases h : (0 : Int32).toInt ≤ w.toInt ∧ w.toInt ≤ (N : Int)
  · right
    obtain ⟨v, h1, h2⟩ := nI_of (x := w) (by rw [Int32.lt_iff_toInt_lt]; omega)
    refine ⟨v, ?_, h2, by rw [if_pos h]⟩
    have h3 := h.2
    rw [h2, tin h1] at h3
    omega
  · left; rw [if_neg h]
theorem neg_or (w : Int32) : w < 0 ∨ ∃ i, i < 2147483648 ∧ w = nI i ∧ ¬ w < 0 := by
  by_cases h : w < 0
  · exact Or.inl h
  · obtain ⟨i, h1, h2⟩ := nI_of h; exact Or.inr ⟨i, h1, h2, h⟩
theorem le0_iff (w : Int32) : 0 ≤ w ↔ ¬ w < 0 := by
  rw [Int32.lt_iff_toInt_lt, Int32.le_iff_toInt_le]; constructor <;> intro h <;> omega
theorem p_termOf {M : Mm} (h : R M) (w1 w2 : Int32) : ∃ r, fX10_termOf M w1 w2 = some r ∧ fX11_termOf M w1 w2 = some r := by
  obtain ⟨⟨n, t, d, e, k, hn, hsc, hb, ht, hd, hl⟩, -⟩ := h
  have c1 : M.1 2 0 = nI t := hn.2.2.1.1
  have c2 : M.1 96 1 = nI t := hn.2.2.1.2
  have lt := hn.1.2.2.1
  rcases neg_or w1 with h1 | ⟨i, hi, rfl, h1⟩
  · exact ⟨-1000001, by simp [fX10_termOf, h1], by simp [fX11_termOf, h1]⟩
  rcases in_n w2 3 (by omega) with h2 | ⟨v, hv, rfl, h2⟩
  · exact ⟨-1000001, by simp [fX10_termOf, h1, within_in, li 3, h2, b1_s], by simp [fX11_termOf, h1, li 3, h2, b1_s]⟩
  by_cases h3 : i < t
  · obtain ⟨q1, ⟨q2, q3, q4⟩, -⟩ := ht i h3
    have q1 : M.1 3 i = M.1 96 (21 + 4 * i) := q1
    have q2 : M.1 4 (3 * i) = M.1 96 (21 + 4 * i + 1) := q2
    have q3 : M.1 4 (3 * i + 1) = M.1 96 (21 + 4 * i + 2) := q3
    have q4 : M.1 4 (3 * i + 2) = M.1 96 (21 + 4 * i + 3) := q4
    refine ⟨M.1 96 (21 + 4 * i + v), ?_, ?_⟩
    · unfold fX10_termOf
      rw [if_neg h1, within_in, show (3 : Int32) = nI 3 from rfl, h2, b1_s, if_neg (by decide), c1, if_pos ((nlt hi (by omega)).mpr h3)]
      by_cases hv0 : v = 0
      · subst hv0
        rw [if_pos (show nI 0 = 0 from rfl), gd_t (inbn (by omega) (by omega)), ixn hi, q1]; rfl
      · rw [if_neg (show ¬ nI v = 0 from fun q => hv0 ((neq (b := 0) (by omega) (by omega)).mp q)), show nI 3 * nI i + nI v - 1 = nI (3 * i + v - 1) by rw [pk_mul, nI_add, ← n1, pk_sub (by omega)], gd_t (inbn (by omega) (by omega)), ixn (by omega)]
        rcases (show v = 1 ∨ v = 2 ∨ v = 3 by omega) with rfl | rfl | rfl
        · rw [show 3 * i + 1 - 1 = 3 * i by omega, q2]
        · rw [show 3 * i + 2 - 1 = 3 * i + 1 by omega, q3]
        · rw [show 3 * i + 3 - 1 = 3 * i + 2 by omega, q4]
    · unfold fX11_termOf
      rw [if_neg h1, show (3 : Int32) = nI 3 from rfl, h2, b1_s, if_neg (by decide), c2, if_neg (by rw [nle (by omega) hi]; omega), show 21 + 4 * nI i + nI v = nI (21 + 4 * i + v) by rw [n4i, nda, nI_add], gd_t (inbn (by omega) (by omega)), ixn (by omega)]
  · refine ⟨-1000004, ?_, ?_⟩
    · unfold fX10_termOf
      rw [if_neg h1, within_in, show (3 : Int32) = nI 3 from rfl, h2, b1_s, if_neg (by decide), c1, if_neg (by rw [nlt hi (by omega)]; omega)]
    · unfold fX11_termOf
      rw [if_neg h1, show (3 : Int32) = nI 3 from rfl, h2, b1_s, if_neg (by decide), c2, if_pos (by rw [nle (by omega) hi]; omega)]
theorem p_directionOf {M : Mm} (h : R M) (w1 w2 : Int32) : ∃ r, fX10_directionOf M w1 w2 = some r ∧ fX11_directionOf M w1 w2 = some r := by
  obtain ⟨⟨n, t, d, e, k, hn, hsc, hb, ht, hd, hl⟩, -⟩ := h
  have c1 : M.1 8 0 = nI d := hn.2.2.2.1.1
  have c2 : M.1 96 2 = nI d := hn.2.2.2.1.2
  have lt := hn.1.2.2.2.1
  rcases neg_or w1 with h1 | ⟨i, hi, rfl, h1⟩
  · exact ⟨-1000001, by simp [fX10_directionOf, h1], by simp [fX11_directionOf, h1]⟩
  rcases in_n w2 3 (by omega) with h2 | ⟨v, hv, rfl, h2⟩
  · exact ⟨-1000001, by simp [fX10_directionOf, h1, within_in, li 3, h2, b1_s], by simp [fX11_directionOf, h1, li 3, h2, b1_s]⟩
  by_cases h3 : i < d
  · obtain ⟨q1, ⟨q2, q3, q4⟩, -⟩ := hd i h3
    have q1 : M.1 10 i = M.1 96 (61 + 4 * i + 3) := q1
    have q2 : M.1 9 (3 * i) = M.1 96 (61 + 4 * i) := q2
    have q3 : M.1 9 (3 * i + 1) = M.1 96 (61 + 4 * i + 1) := q3
    have q4 : M.1 9 (3 * i + 2) = M.1 96 (61 + 4 * i + 2) := q4
    refine ⟨M.1 96 (61 + 4 * i + v), ?_, ?_⟩
    · unfold fX10_directionOf
      rw [if_neg h1, within_in, show (3 : Int32) = nI 3 from rfl, h2, b1_s, if_neg (by decide), c1, if_pos ((nlt hi (by omega)).mpr h3)]
      by_cases hv0 : v = 3
      · subst hv0
        rw [if_pos (show nI 3 = nI 3 from rfl), gd_t (inbn (by omega) (by omega)), ixn hi, q1]
      · rw [if_neg (show ¬ nI v = nI 3 from fun q => hv0 ((neq (by omega) (by omega)).mp q)), show nI 3 * nI i + nI v = nI (3 * i + v) by rw [pk_mul, nI_add], gd_t (inbn (by omega) (by omega)), ixn (by omega)]
        rcases (show v = 0 ∨ v = 1 ∨ v = 2 by omega) with rfl | rfl | rfl
        · exact congrArg some q2
        · rw [q3]
        · rw [q4]
    · unfold fX11_directionOf
      rw [if_neg h1, show (3 : Int32) = nI 3 from rfl, h2, b1_s, if_neg (by decide), c2, if_neg (by rw [nle (by omega) hi]; omega), show 61 + 4 * nI i + nI v = nI (61 + 4 * i + v) by rw [n4i, nda, nI_add], gd_t (inbn (by omega) (by omega)), ixn (by omega)]
  · refine ⟨-1000004, ?_, ?_⟩
    · unfold fX10_directionOf
      rw [if_neg h1, within_in, show (3 : Int32) = nI 3 from rfl, h2, b1_s, if_neg (by decide), c1, if_neg (by rw [nlt hi (by omega)]; omega)]
    · unfold fX11_directionOf
      rw [if_neg h1, show (3 : Int32) = nI 3 from rfl, h2, b1_s, if_neg (by decide), c2, if_pos (by rw [nle (by omega) hi]; omega)]
theorem shl1 {e : Nat} (h : e ≤ 4) : (1 : Int32) <<< (nI e &&& 31) = nI (2 ^ e) := by
  rcases (show e = 0 ∨ e = 1 ∨ e = 2 ∨ e = 3 ∨ e = 4 by omega) with rfl | rfl | rfl | rfl | rfl <;> decide
theorem oneIf_z {x : Int32} (h : x = 0 ∨ x = 1) : fX10_oneIf x = some x := by rcases h with rfl | rfl <;> rfl
theorem p_searchOf {M : Mm} (h : R M) (w1 : Int32) : ∃ r, fX10_searchOf M w1 = some r ∧ fX11_searchOf M w1 = some r := by
  obtain ⟨⟨n, t, d, e, k, hn, hsc, hb, ht, hd, hl⟩, -⟩ := h
  have e1 : M.1 11 1 = nI (2 ^ e) := hn.2.2.2.2.1.1
  have e2 : M.1 96 3 = nI e := hn.2.2.2.2.1.2
  have le := hn.1.2.2.2.2.1
  have k1 : M.1 11 6 = nI k := hn.2.2.2.2.2.1
  have k2 : M.1 96 10 = nI k := hn.2.2.2.2.2.2
  obtain ⟨⟨-, -, s3, s4, s5, s6, s7⟩, -, -, s8, s9⟩ := hsc
  have s3 : M.1 11 2 = M.1 96 6 := s3
  have s4 : M.1 11 3 = M.1 96 7 := s4
  have s5 : M.1 11 4 = M.1 96 8 := s5
  have s6 : M.1 11 5 = M.1 96 9 := s6
  have s7 : M.1 11 8 = M.1 96 11 := s7
  rcases in_n w1 9 (by omega) with h1 | ⟨v, hv, rfl, h1⟩
  · refine ⟨-1000001, ?_, by unfold fX11_searchOf; rw [show (9 : Int32) = nI 9 from rfl, h1]; rfl⟩
    have hne : ∀ (v : Nat) (c : Int32), v ≤ 9 → c = nI v → ¬ w1 = c := fun v c hv hc q => by
      have z0 : (0 : Int32).toInt = 0 := rfl
      rw [q, hc, in_any, tin (by omega), tin (by omega), if_pos (by constructor <;> omega)] at h1
      cases h1
    unfold fX10_searchOf
    rw [if_neg (hne 0 0 (by omega) rfl), if_neg (hne 1 1 (by omega) rfl), if_neg (hne 2 2 (by omega) rfl), if_neg (hne 3 3 (by omega) rfl), if_neg (hne 4 4 (by omega) rfl), if_neg (hne 5 5 (by omega) rfl), if_neg (hne 6 6 (by omega) rfl), if_neg (hne 7 7 (by omega) rfl), if_neg (hne 8 8 (by omega) rfl), if_neg (hne 9 9 (by omega) rfl)]
  · have p0 : M.1 12 0 = M.1 96 18 := (hb 0 (by omega)).2.2.1
    have p1 : M.1 12 1 = M.1 96 19 := (hb 1 (by omega)).2.2.1
    have p2 : M.1 12 2 = M.1 96 20 := (hb 2 (by omega)).2.2.1
    have hz := oneIf_z s8
    rcases (show v = 0 ∨ v = 1 ∨ v = 2 ∨ v = 3 ∨ v = 4 ∨ v = 5 ∨ v = 6 ∨ v = 7 ∨ v = 8 ∨ v = 9 by omega) with rfl | rfl | rfl | rfl | rfl | rfl | rfl | rfl | rfl | rfl
    · exact ⟨M.1 96 18, by unfold fX10_searchOf; rw [if_pos (show nI 0 = 0 from rfl), gd_t (inbn (by omega) (by omega)), ixn (by omega), p0], by unfold fX11_searchOf; rw [show (9 : Int32) = nI 9 from rfl, h1, b1_s]; rfl⟩
    · exact ⟨M.1 96 19, by unfold fX10_searchOf; rw [if_neg (by decide), if_pos (show nI 1 = 1 from rfl), gd_t (inbn (by omega) (by omega)), ixn (by omega), p1], by unfold fX11_searchOf; rw [show (9 : Int32) = nI 9 from rfl, h1, b1_s]; rfl⟩
    · exact ⟨M.1 96 20, by unfold fX10_searchOf; rw [if_neg (by decide), if_neg (by decide), if_pos (show nI 2 = 2 from rfl), gd_t (inbn (by omega) (by omega)), ixn (by omega), p2], by unfold fX11_searchOf; rw [show (9 : Int32) = nI 9 from rfl, h1, b1_s]; rfl⟩
    · exact ⟨nI (2 ^ e), by show some (M.1 11 1) = _; rw [e1], by unfold fX11_searchOf; rw [show (9 : Int32) = nI 9 from rfl, h1, b1_s]; show some (1 <<< ((M.1 96 3) &&& 31)) = _; rw [e2, shl1 le]⟩
    · exact ⟨M.1 96 6, by show some (M.1 11 2) = _; rw [s3], by unfold fX11_searchOf; rw [show (9 : Int32) = nI 9 from rfl, h1, b1_s]; rfl⟩
    · exact ⟨M.1 96 7, by show some (M.1 11 3) = _; rw [s4], by unfold fX11_searchOf; rw [show (9 : Int32) = nI 9 from rfl, h1, b1_s]; rfl⟩
    · exact ⟨M.1 96 8, by show some (M.1 11 4) = _; rw [s5], by unfold fX11_searchOf; rw [show (9 : Int32) = nI 9 from rfl, h1, b1_s]; rfl⟩
    · have e7 : fX10_searchOf M (nI 7) = if M.1 11 5 = -1 then some (-1000004) else some (M.1 11 5) := rfl
      have f7 : fX11_searchOf M (nI 7) = if 0 ≤ M.1 96 9 then some (M.1 96 9) else some (-1000004) := by unfold fX11_searchOf; rw [show (9 : Int32) = nI 9 from rfl, h1, b1_s]; rfl
      rw [e7, f7, s6]
      rcases s9 with q | ⟨l, hl2, q⟩
      · have q : M.1 96 9 = -1 := q
        rw [q]; exact ⟨-1000004, rfl, by decide⟩
      · have q : M.1 96 9 = nI l := q
        have hd8 := hn.1.2.2.2.1
        refine ⟨nI l, ?_, ?_⟩
        · rw [q, if_neg]; intro r; have := congrArg Int32.toInt r; rw [tin (by omega)] at this; simp at this
        · rw [q, if_pos ((le0_iff _).mpr (nI_pos (by omega)))]
    · exact ⟨nI k, by show some (M.1 11 6) = _; rw [k1], by unfold fX11_searchOf; rw [show (9 : Int32) = nI 9 from rfl, h1, b1_s]; show some (M.1 96 10) = _; rw [k2]⟩
    · refine ⟨M.1 96 11, ?_, by unfold fX11_searchOf; rw [show (9 : Int32) = nI 9 from rfl, h1, b1_s]; rfl⟩
      show b1 (fX10_oneIf (M.1 11 8)) (fun x16 => some x16) = _
      rw [s7, hz]; rfl
theorem ltn {i t : Nat} (hi : i < 2147483648) (ht : t < 2147483648) (h : i < t) : nI i < nI t := (nlt hi ht).mpr h
theorem gen {i t : Nat} (hi : i < 2147483648) (ht : t < 2147483648) (h : t ≤ i) : nI t ≤ nI i := (nle ht hi).mpr h
theorem nltn {i t : Nat} (hi : i < 2147483648) (ht : t < 2147483648) (h : t ≤ i) : ¬ nI i < nI t := fun q => by have := (nlt hi ht).mp q; omega
theorem ngen {i t : Nat} (hi : i < 2147483648) (ht : t < 2147483648) (h : i < t) : ¬ nI t ≤ nI i := fun q => by have := (nle ht hi).mp q; omega
theorem in_z (w a b : Int32) : fX11_in w a b = some 0 ∨ fX11_in w a b = some 1 := by
  rw [in_any]; by_cases h : a.toInt ≤ w.toInt ∧ w.toInt ≤ b.toInt
  · right; rw [if_pos h]
  · left; rw [if_neg h]
theorem hasVar_eq {M : Mm} {n : Nat} (h1 : M.1 1 0 = nI n) (h2 : M.1 96 0 = nI n) (hn : 1 ≤ n ∧ n ≤ 3) (w : Int32) : (fX6_hasVariable M w = some 0 ∧ fX11_isVariable M w = some 0) ∨ ∃ v, v < n ∧ w = nI v ∧ fX6_hasVariable M w = some 1 ∧ fX11_isVariable M w = some 1 := by
  unfold fX6_hasVariable fX11_isVariable
  rw [within_in, h1, h2, show nI n - 1 = nI (n - 1) by rw [← n1, pk_sub hn.1]]
  rcases in_n w (n - 1) (by omega) with q | ⟨v, hv, e, q⟩
  · left; rw [q]; exact ⟨rfl, rfl⟩
  · right; refine ⟨v, by omega, e, ?_, ?_⟩ <;> rw [q] <;> rfl
theorem i10 {α : Type} (a b : α) : (if (1 : Int32) = 0 then a else b) = b := if_neg (by decide)
theorem i00 {α : Type} (a b : α) : (if (0 : Int32) = 0 then a else b) = a := if_pos rfl
theorem p_leftAt {M : Mm} (h : R M) (w1 w2 : Int32) : ∃ r, fX10_leftAt M w1 w2 = some r ∧ fX11_leftAt M w1 w2 = some r := by
  obtain ⟨⟨n, t, d, e, k, hn, hsc, hb, ht, hd, hl⟩, -⟩ := h
  have c1 : M.1 11 6 = nI k := hn.2.2.2.2.2.1
  have c2 : M.1 96 10 = nI k := hn.2.2.2.2.2.2
  have lk := hn.1.2.2.2.2.2
  have ln : 1 ≤ n ∧ n ≤ 3 := ⟨hn.1.1, hn.1.2.1⟩
  rcases neg_or w1 with h1 | ⟨i, hi, rfl, h1⟩
  · exact ⟨-1000001, by simp [fX10_leftAt, h1], by simp [fX11_leftAt, h1]⟩
  rcases hasVar_eq (M := M) hn.2.1.1 hn.2.1.2 ln w2 with ⟨q1, q2⟩ | ⟨v, hv, rfl, q1, q2⟩
  · exact ⟨-1000001, by unfold fX10_leftAt; rw [if_neg h1, q1]; rfl, by unfold fX11_leftAt; rw [if_neg h1, q2]; rfl⟩
  by_cases h3 : i < k
  · refine ⟨M.1 13 (3 * i + v), ?_, ?_⟩
    · unfold fX10_leftAt
      rw [if_neg h1, q1, b1_s, i10, c1, if_pos (ltn hi (by omega) h3), n3i, nI_add, gd_t (inbn (by omega) (by omega)), ixn (by omega)]
    · unfold fX11_leftAt
      rw [if_neg h1, q2, b1_s, i10, c2, if_neg (ngen (t := k) hi (by omega) h3), n3i, show 93 + nI (3 * i) + nI v = nI (93 + (3 * i + v)) by rw [nda, nI_add, Nat.add_assoc], gd_t (inbn (by omega) (by omega)), ixn (by omega)]
      exact congrArg some (hl (3 * i + v) (by omega)).symm
  · refine ⟨-1000004, ?_, ?_⟩
    · unfold fX10_leftAt
      rw [if_neg h1, q1, b1_s, i10, c1, if_neg (nltn (t := k) hi (by omega) (by omega))]
    · unfold fX11_leftAt
      rw [if_neg h1, q2, b1_s, i10, c2, if_pos (gen (t := k) hi (by omega) (by omega))]
theorem p_count {M : Mm} (h : R M) (w1 : Int32) : ∃ r, fX10_count M w1 = some r ∧ fX11_count M w1 = some r := by
  obtain ⟨⟨n, t, d, e, k, hn, hsc, hb, ht, hd, hl⟩, ⟨hh, lh, g1, g2, -⟩, ⟨⟨g3, g4⟩, -⟩, ⟨l, ll, g5, g6, -⟩, -⟩ := h
  have ln : 1 ≤ n ∧ n ≤ 3 := ⟨hn.1.1, hn.1.2.1⟩
  have a1 : M.1 1 0 = nI n := hn.2.1.1
  have a2 : M.1 96 0 = nI n := hn.2.1.2
  have a3 : M.1 2 0 = nI t := hn.2.2.1.1
  have a4 : M.1 96 1 = nI t := hn.2.2.1.2
  have a5 : M.1 8 0 = nI d := hn.2.2.2.1.1
  have a6 : M.1 96 2 = nI d := hn.2.2.2.1.2
  have a7 : M.1 1 1 = M.1 96 4 := hsc.1.1
  have a8 : M.1 1 2 = M.1 96 5 := hsc.1.2.1
  have z0 : (0 : Int32).toInt = 0 := rfl
  by_cases hv : w1.toInt < 0
  · have ne : ∀ (v : Nat) (c : Int32), v ≤ 9 → c = nI v → ¬ w1 = c := fun v c hv2 hc q => by rw [q, hc, tin (by omega)] at hv; omega
    have hb1 : fX10_boundOf M w1 = some (-1000001) := by
      unfold fX10_boundOf
      rw [within_in, in_any, if_neg (by rw [show (10 : Int32).toInt = 10 from rfl]; omega), b1_s, if_pos rfl, in_any, if_neg (by rw [show (20 : Int32).toInt = 20 from rfl]; omega), b1_s, if_pos rfl]
    refine ⟨-1000001, ?_, ?_⟩
    · unfold fX10_count
      rw [if_neg (ne 0 0 (by omega) rfl), if_neg (ne 1 1 (by omega) rfl), if_neg (ne 2 2 (by omega) rfl), if_neg (ne 3 3 (by omega) rfl), if_neg (ne 4 4 (by omega) rfl), if_neg (ne 5 5 (by omega) rfl), if_neg (ne 6 6 (by omega) rfl), if_neg (ne 7 7 (by omega) rfl), hb1]; rfl
    · unfold fX11_count
      rw [if_pos (by rw [Int32.lt_iff_toInt_lt, show (10 : Int32).toInt = 10 from rfl]; omega), if_neg (ne 0 0 (by omega) rfl), if_neg (ne 1 1 (by omega) rfl), if_neg (ne 2 2 (by omega) rfl), if_neg (ne 3 3 (by omega) rfl), if_neg (ne 4 4 (by omega) rfl), if_neg (ne 5 5 (by omega) rfl), if_neg (ne 6 6 (by omega) rfl), if_neg (ne 7 7 (by omega) rfl)]
  obtain ⟨v, lv, rfl⟩ := nI_of (x := w1) (by rw [Int32.lt_iff_toInt_lt]; omega)
  by_cases h8 : v < 8
  · have lt10 : nI v < 10 := ltn (t := 10) lv (by omega) (by omega)
    rcases (show v = 0 ∨ v = 1 ∨ v = 2 ∨ v = 3 ∨ v = 4 ∨ v = 5 ∨ v = 6 ∨ v = 7 by omega) with rfl | rfl | rfl | rfl | rfl | rfl | rfl | rfl
    · exact ⟨nI n, by show some (M.1 1 0) = _; rw [a1], by show some (M.1 96 0) = _; rw [a2]⟩
    · exact ⟨nI t, by show some (M.1 2 0) = _; rw [a3], by show some (M.1 96 1) = _; rw [a4]⟩
    · exact ⟨nI d, by show some (M.1 8 0) = _; rw [a5], by show some (M.1 96 2) = _; rw [a6]⟩
    · exact ⟨M.1 96 4, by show some (M.1 1 1) = _; rw [a7], rfl⟩
    · exact ⟨M.1 96 5, by show some (M.1 1 2) = _; rw [a8], rfl⟩
    · exact ⟨nI hh, by show some (M.1 14 0) = _; rw [g1], by show some (M.1 95 3) = _; rw [g2]⟩
    · exact ⟨nI l, by show some (M.1 80 0) = _; rw [g5], by show some (M.1 95 6) = _; rw [g6]⟩
    · refine ⟨M.1 95 4, ?_, ?_⟩
      · show b1 (fX10_oneIf (M.1 0 3)) (fun x10 => some x10) = _
        rw [g3, oneIf_z g4]; rfl
      · show (if M.1 95 4 = 0 then some 0 else some 1) = _
        rcases g4 with q | q <;> rw [q] <;> rfl
  have ne : ∀ (u : Nat) (c : Int32), u < 8 → c = nI u → ¬ nI v = c := fun u c hu hc q => by rw [hc] at q; have := (neq lv (by omega)).mp q; omega
  have e10 : fX10_count M (nI v) = b1 (fX10_boundOf M (nI v)) (fun x12 => some x12) := by
    unfold fX10_count
    rw [if_neg (ne 0 0 (by omega) rfl), if_neg (ne 1 1 (by omega) rfl), if_neg (ne 2 2 (by omega) rfl), if_neg (ne 3 3 (by omega) rfl), if_neg (ne 4 4 (by omega) rfl), if_neg (ne 5 5 (by omega) rfl), if_neg (ne 6 6 (by omega) rfl), if_neg (ne 7 7 (by omega) rfl)]
  have e9 : (9 : Int32) + nI n = nI (9 + n) := nda n 9
  have e19 : (19 : Int32) + nI n = nI (19 + n) := nda n 19
  have t10 : (10 : Int32).toInt = 10 := rfl
  have t20 : (20 : Int32).toInt = 20 := rfl
  have var_in : ∀ u, u < 2147483648 → fX11_isVariable M (nI u) = some (if u < n then 1 else 0) := fun u hu => by
    unfold fX11_isVariable
    rw [a2, show nI n - 1 = nI (n - 1) by rw [← n1, pk_sub ln.1], in_any, tin hu, tin (by omega), z0, b1_s]
    by_cases q : u < n
    · rw [if_pos (by constructor <;> omega), if_pos q]; rfl
    · rw [if_neg (by omega), if_neg q]; rfl
  have bd_in : fX10_boundOf M (nI v) = if 10 ≤ v ∧ v < 10 + n then some (M.1 6 (v - 10)) else if 20 ≤ v ∧ v < 20 + n then some (M.1 7 (v - 20)) else some (-1000001) := by
    unfold fX10_boundOf
    rw [within_in, a1, e9, e19, in_any, in_any, tin lv, tin (by omega), tin (by omega), t10, t20, b1_s, b1_s]
    by_cases q : 10 ≤ v ∧ v < 10 + n
    · rw [if_pos (show (10 : Int) ≤ (v : Int) ∧ (v : Int) ≤ ((9 + n : Nat) : Int) by omega), i10, if_pos q, show nI v - 10 = nI (v - 10) from pk_sub (b := 10) (by omega), gd_t (inbn (by omega) (by omega)), ixn (by omega)]
    · rw [if_neg (show ¬ ((10 : Int) ≤ (v : Int) ∧ (v : Int) ≤ ((9 + n : Nat) : Int)) by omega), i00, if_neg q]
      by_cases q2 : 20 ≤ v ∧ v < 20 + n
      · rw [if_pos (show (20 : Int) ≤ (v : Int) ∧ (v : Int) ≤ ((19 + n : Nat) : Int) by omega), i10, if_pos q2, show nI v - 20 = nI (v - 20) from pk_sub (b := 20) (by omega), gd_t (inbn (by omega) (by omega)), ixn (by omega)]
      · rw [if_neg (show ¬ ((20 : Int) ≤ (v : Int) ∧ (v : Int) ≤ ((19 + n : Nat) : Int)) by omega), i00, if_neg q2]
  rw [e10, bd_in]
  by_cases h10 : v < 10
  · refine ⟨-1000001, by rw [if_neg (by omega), if_neg (by omega)]; rfl, ?_⟩
    unfold fX11_count
    rw [if_pos (show nI v < 10 from ltn (t := 10) lv (by omega) h10), if_neg (ne 0 0 (by omega) rfl), if_neg (ne 1 1 (by omega) rfl), if_neg (ne 2 2 (by omega) rfl), if_neg (ne 3 3 (by omega) rfl), if_neg (ne 4 4 (by omega) rfl), if_neg (ne 5 5 (by omega) rfl), if_neg (ne 6 6 (by omega) rfl), if_neg (ne 7 7 (by omega) rfl)]
  have f10 : fX11_count M (nI v) = if nI v < 20 then (b1 (fX11_isVariable M (nI v - 10)) fun x19 => if x19 = 0 then some (-1000001) else gd (inb (12 + (nI v - 10)) 111) (some (M.1 96 (ix (12 + (nI v - 10)))))) else (b1 (fX11_isVariable M (nI v - 20)) fun x19 => if x19 = 0 then some (-1000001) else gd (inb (15 + (nI v - 20)) 111) (some (M.1 96 (ix (15 + (nI v - 20)))))) := by
    unfold fX11_count
    rw [if_neg (show ¬ nI v < 10 from nltn (t := 10) lv (by omega) (by omega))]
    rfl
  rw [f10]
  by_cases h20 : v < 20
  · rw [if_pos (show nI v < 20 from ltn (t := 20) lv (by omega) h20), show nI v - 10 = nI (v - 10) from pk_sub (b := 10) (by omega), var_in _ (by omega)]
    by_cases hin : v - 10 < n
    · refine ⟨M.1 6 (v - 10), by rw [if_pos (by omega)]; rfl, ?_⟩
      rw [if_pos hin, b1_s, i10, show (12 : Int32) + nI (v - 10) = nI (12 + (v - 10)) from nI_add 12 _, gd_t (inbn (by omega) (by omega)), ixn (by omega)]
      exact congrArg some ((hb (v - 10) (by omega)).1).symm
    · exact ⟨-1000001, by rw [if_neg (by omega), if_neg (by omega)]; rfl, by rw [if_neg hin, b1_s, i00]⟩
  · rw [if_neg (show ¬ nI v < 20 from nltn (t := 20) lv (by omega) (by omega)), show nI v - 20 = nI (v - 20) from pk_sub (b := 20) (by omega), var_in _ (by omega)]
    by_cases hin : v - 20 < n
    · refine ⟨M.1 7 (v - 20), by rw [if_neg (by omega), if_pos (by omega)]; rfl, ?_⟩
      rw [if_pos hin, b1_s, i10, show (15 : Int32) + nI (v - 20) = nI (15 + (v - 20)) from nI_add 15 _, gd_t (inbn (by omega) (by omega)), ixn (by omega)]
      exact congrArg some ((hb (v - 20) (by omega)).2.1).symm
    · exact ⟨-1000001, by rw [if_neg (by omega), if_neg (by omega)]; rfl, by rw [if_neg hin, b1_s, i00]⟩
