/-! ===== trials and polls ===== -/
/-! ===== the row of trials, the class' side ===== -/
def trz (z : Nat → Int32) (e i v : Nat) : Int32 := z (18 + v) + nI (2 ^ e) * z (61 + 4 * i + v)
abbrev okz (z : Nat → Int32) (e i : Nat) : Prop := alw z (trz z e i 0) (trz z e i 1) (trz z e i 2)
def rkz (z : Nat → Int32) (e t i : Nat) : Int64 := if z 4 = 1 then (if nI i = z 9 then 0 else 1) else if z 4 = 2 then vs z true (trz z e i 0) (trz z e i 1) (trz z e i 2) t else 0
def vlz (z : Nat → Int32) (e t i : Nat) : Int64 := vs z false (trz z e i 0) (trz z e i 1) (trz z e i 2) t
theorem sub1 {q : Nat} (h : 1 ≤ q) : nI q - 1 = nI (q - 1) := pk_sub (b := 1) h
theorem dec1 {q : Nat} (h : 1 ≤ q) : nI q + (-1) = nI (q - 1) := by rw [← Int32.sub_eq_add_neg]; exact sub1 h
/-- the class' state, as far as a poll reads it -/
def CX (n t d : Nat) (M : Mm) (z : Nat → Int32) : Prop := (t ≤ 10 ∧ d ≤ 8) ∧ M.1 2 0 = nI t ∧ M.1 8 0 = nI d ∧ M.1 1 1 = z 4 ∧ M.1 11 5 = z 9 ∧ SRb (blk M 1) z ∧ SRt t (blk M 1) z ∧ SRd n d (blk M 1) z
theorem CX.cong {n t d : Nat} {M M' : Mm} {z : Nat → Int32} (h : CX n t d M z) (hs : ∀ c j, c < 14 → M'.1 c j = M.1 c j) : CX n t d M' z := by
  obtain ⟨h0, h1, h2, h3, h4, h5, h6, h7⟩ := h
  exact ⟨h0, (hs _ _ (by omega)).trans h1, (hs _ _ (by omega)).trans h2, (hs _ _ (by omega)).trans h3, (hs _ _ (by omega)).trans h4, h5.cong (fun v _ => ⟨hs 6 v (by omega), hs 7 v (by omega), hs 12 v (by omega)⟩) (fun _ _ _ => rfl), h6.cong h0.1 (fun i _ => hs 3 i (by omega)) (fun i _ => hs 4 i (by omega)) (fun _ _ _ => rfl), h7.cong h0.2 (fun i _ => hs 10 i (by omega)) (fun i _ => hs 9 i (by omega)) (fun _ _ _ => rfl)⟩
theorem trialX {n t d : Nat} {M : Mm} {z : Nat → Int32} (h : CX n t d M z) {i v : Nat} (e : Nat) (hi : i < d) (hv : v < 3) : fX6_trialNumber M (nI i) (nI v) (nI (2 ^ e)) = some (trz z e i v) := by
  obtain ⟨h0, h1, h2, h3, h4, h5, h6, h7⟩ := h
  have b := (h5 v hv).2.2.1
  have b : M.1 12 v = z (18 + v) := b
  have w : M.1 9 (3 * i + v) = z (61 + 4 * i + v) := by
    have q := (h7 i hi).2.1
    rcases (show v = 0 ∨ v = 1 ∨ v = 2 by omega) with rfl | rfl | rfl
    · exact q.1
    · exact q.2.1
    · exact q.2.2
  unfold fX6_trialNumber
  rw [n3i, nI_add, gd_t (inbn hv (by omega)), gd_t (inbn (by omega) (by omega)), ixn (by omega), ixn (by omega), b, w]
  rfl
theorem rankX {n t d : Nat} {M : Mm} {z : Nat → Int32} (h : CX n t d M z) (e i : Nat) : fX6_rankOf M (nI i) (trz z e i 0) (trz z e i 1) (trz z e i 2) = some (rkz z e t i) := by
  obtain ⟨h0, h1, h2, h3, h4, h5, h6, h7⟩ := h
  unfold fX6_rankOf rkz
  rw [h3, h4]
  by_cases e1 : z 4 = 1
  · rw [if_pos e1, if_pos e1]
    by_cases e2 : nI i = z 9
    · rw [if_pos e2, if_pos e2]
    · rw [if_neg e2, if_neg e2]
  · rw [if_neg e1, if_neg e1]
    by_cases e2 : z 4 = 2
    · rw [if_pos e2, if_pos e2]
      have := sumX h6 h1 h0.1 true (trz z e i 0) (trz z e i 1) (trz z e i 2)
      rw [show (2 : Int32) = lim true from rfl, this, b1_s]
    · rw [if_neg e2, if_neg e2]
def RowX (M : Mm) (m : Nat) (g : Nat → Nat) (rk vl : Nat → Int64) : Prop := M.1 86 0 = nI m ∧ ∀ j, j < m → M.1 87 j = nI (g j) ∧ M.2 88 j = rk (g j) ∧ M.2 89 j = vl (g j)
def ins (g : Nat → Nat) (p i : Nat) : Nat → Nat := fun j => if j < p then g j else if j = p then i else g (j - 1)
theorem insX {M : Mm} {m : Nat} {g : Nat → Nat} {rk vl : Nat → Int64} (hm : m < 8) (hr : RowX M m g rk vl) (hs : ∀ a b, a < b → b < m → (rk (g a)).toInt ≤ (rk (g b)).toInt) (i : Nat) : ∃ M', fX9_insert M (nI i) (rk i) (vl i) = some M' ∧ (∃ p, p ≤ m ∧ (∀ j, j < p → (rk (g j)).toInt ≤ (rk i).toInt) ∧ (∀ j, p ≤ j → j < m → (rk i).toInt < (rk (g j)).toInt) ∧ RowX M' (m + 1) (ins g p i) rk vl) ∧ (∀ c j, c ≠ 87 → ¬ (c = 86 ∧ j = 0) → M'.1 c j = M.1 c j) ∧ ∀ c j, c ≠ 88 → c ≠ 89 → M'.2 c j = M.2 c j := by
  obtain ⟨h0, h1⟩ := hr
  unfold fX9_insert
  rw [h0, if_pos (show nI m < 8 from ltn (t := 8) (by omega) (by omega) hm), bd_s]
  obtain ⟨⟨x, M1⟩, f1, p, hx, hp, lo, hi, a1, a2, a3⟩ := itr_0 (body := fX9_insert_L16 (rk i)) (s := (nI m, M)) (fun u q => u ≤ m ∧ q.1 = nI (m - u) ∧ (∀ j, m - u ≤ j → j < m → (rk i).toInt < (rk (g j)).toInt) ∧ (∀ j, m - u < j → j ≤ m → q.2.1 87 j = M.1 87 (j - 1) ∧ q.2.2 88 j = M.2 88 (j - 1) ∧ q.2.2 89 j = M.2 89 (j - 1)) ∧ (∀ c j, c ≠ 87 ∨ j ≤ m - u → q.2.1 c j = M.1 c j) ∧ ∀ c j, (c ≠ 88 ∧ c ≠ 89) ∨ j ≤ m - u → q.2.2 c j = M.2 c j) (fun q => ∃ p, q.1 = nI p ∧ p ≤ m ∧ (∀ j, j < p → (rk (g j)).toInt ≤ (rk i).toInt) ∧ (∀ j, p ≤ j → j < m → (rk i).toInt < (rk (g j)).toInt) ∧ (∀ j, p < j → j ≤ m → q.2.1 87 j = M.1 87 (j - 1) ∧ q.2.2 88 j = M.2 88 (j - 1) ∧ q.2.2 89 j = M.2 89 (j - 1)) ∧ (∀ c j, c ≠ 87 ∨ j ≤ p → q.2.1 c j = M.1 c j) ∧ ∀ c j, (c ≠ 88 ∧ c ≠ 89) ∨ j ≤ p → q.2.2 c j = M.2 c j) m (by omega) ⟨by omega, rfl, fun j h1 h2 => by omega, fun j h1 h2 => by omega, fun _ _ _ => rfl, fun _ _ _ => rfl⟩ (by
    rintro u ⟨x, M'⟩ - ⟨hu, rfl, q1, q2, q3, q4⟩
    rcases Nat.eq_zero_or_pos (m - u) with hz | hz
    · right
      refine ⟨(nI (m - u), M'), ?_, m - u, rfl, by omega, fun j hj => by omega, q1, q2, q3, q4⟩
      unfold fX9_insert_L16 u2
      dsimp only
      rw [if_pos (show nI (m - u) ≤ 0 from gen (t := m - u) (i := 0) (by omega) (by omega) (by omega))]
    · have e88 : M'.2 88 (m - u - 1) = rk (g (m - u - 1)) := (q4 88 _ (Or.inr (by omega))).trans (h1 _ (by omega)).2.1
      by_cases hc : (rk (g (m - u - 1))).toInt ≤ (rk i).toInt
      · right
        refine ⟨(nI (m - u), M'), ?_, m - u, rfl, by omega, fun j hj => ?_, q1, q2, q3, q4⟩
        · unfold fX9_insert_L16 u2
          dsimp only
          rw [if_neg (show ¬ nI (m - u) ≤ 0 from ngen (t := m - u) (i := 0) (by omega) (by omega) (by omega)), sub1 hz, gd_t (inbn (by omega) (by omega)), ixn (by omega), e88, if_pos ((lg_cmp_le _ _).mpr (Int64.le_iff_toInt_le.mpr hc))]
        · rcases Nat.lt_or_ge j (m - u - 1) with w | w
          · have := hs j (m - u - 1) w (by omega); omega
          · rw [show j = m - u - 1 by omega]; exact hc
      · left
        obtain ⟨M2, e2⟩ : ∃ M2, M2 = stL (stL (stI M' 87 (m - u) (M'.1 87 (m - u - 1))) 88 (m - u) (M'.2 88 (m - u - 1))) 89 (m - u) (M'.2 89 (m - u - 1)) := ⟨_, rfl⟩
        have r1 : ∀ c j, M2.1 c j = if c = 87 ∧ j = m - u then M'.1 87 (m - u - 1) else M'.1 c j := fun c j => by rw [e2, stL_1, stL_1, stI_rd]
        have r2 : ∀ c j, M2.2 c j = if c = 89 ∧ j = m - u then M'.2 89 (m - u - 1) else if c = 88 ∧ j = m - u then M'.2 88 (m - u - 1) else M'.2 c j := fun c j => by rw [e2, stL_rd, stL_rd, stI_2]
        refine ⟨(nI (m - (u + 1)), M2), ?_, by omega, by omega, rfl, fun j w1 w2 => ?_, fun j w1 w2 => ⟨?_, ?_, ?_⟩, fun c j w => ?_, fun c j w => ?_⟩
        · unfold fX9_insert_L16 u2
          dsimp only
          rw [if_neg (show ¬ nI (m - u) ≤ 0 from ngen (t := m - u) (i := 0) (by omega) (by omega) (by omega)), sub1 hz, gd_t (inbn (by omega) (by omega)), ixn (by omega), e88, if_neg (fun q => hc (Int64.le_iff_toInt_le.mp ((lg_cmp_le _ _).mp q))), gd_t (inbn (by omega) (by omega)), bd_s, bd_s, bd_s, bd_s, dec1 hz, ixn (by omega), stI_2, show (stL (stI M' 87 (m - u) (M'.1 87 (m - u - 1))) 88 (m - u) (M'.2 88 (m - u - 1))).2 89 (m - u - 1) = M'.2 89 (m - u - 1) by rw [stL_rd, if_neg (by omega), stI_2], ← e2]
          rfl
        · rcases Nat.lt_or_ge j (m - u) with w | w
          · rw [show j = m - u - 1 by omega]; omega
          · exact q1 j w w2
        · show M2.1 87 j = _
          rw [r1]
          by_cases w : j = m - u
          · rw [if_pos ⟨rfl, w⟩, w, q3 87 _ (Or.inr (by omega))]
          · rw [if_neg (by omega)]; exact (q2 j (by omega) w2).1
        · show M2.2 88 j = _
          rw [r2, if_neg (by omega)]
          by_cases w : j = m - u
          · rw [if_pos ⟨rfl, w⟩, w, q4 88 _ (Or.inr (by omega))]
          · rw [if_neg (by omega)]; exact (q2 j (by omega) w2).2.1
        · show M2.2 89 j = _
          rw [r2]
          by_cases w : j = m - u
          · rw [if_pos ⟨rfl, w⟩, w, q4 89 _ (Or.inr (by omega))]
          · rw [if_neg (by omega), if_neg (by omega)]; exact (q2 j (by omega) w2).2.2
        · show M2.1 c j = _
          rw [r1, if_neg (by omega)]; exact q3 c j (by omega)
        · show M2.2 c j = _
          rw [r2, if_neg (by omega), if_neg (by omega)]; exact q4 c j (by omega))
  obtain rfl : x = nI p := hx
  rw [f1, b2_s, gd_t (inbn (by omega) (by omega)), ixn (by omega)]
  refine bd_st fun M2 r2 s2 => bd_sl fun M3 r3 s3 => bd_sl fun M4 r4 s4 => ?_
  have e86 : M4.1 86 0 = nI m := by rw [s4, s3, r2, if_neg (by omega)]; exact (a2 86 0 (Or.inl (by omega))).trans h0
  rw [e86, nI_1]
  refine bd_st fun M5 r5 s5 => ⟨M5, rfl, ⟨p, hp, lo, hi, ⟨by rw [r5, if_pos ⟨rfl, rfl⟩], fun j hj => ⟨?_, ?_, ?_⟩⟩⟩, fun c j w1 w2 => ?_, fun c j w1 w2 => ?_⟩
  · rw [r5, if_neg (by omega), s4, s3, r2]
    unfold ins
    by_cases w : j = p
    · rw [if_pos ⟨rfl, w⟩, if_neg (by omega), if_pos w]
    · rw [if_neg (by omega)]
      by_cases w' : j < p
      · rw [if_pos w', show M1.1 87 j = M.1 87 j from a2 87 j (Or.inr (by omega))]; exact (h1 j (by omega)).1
      · rw [if_neg w', if_neg w, show M1.1 87 j = M.1 87 (j - 1) from (a1 j (by omega) (by omega)).1]; exact (h1 (j - 1) (by omega)).1
  · rw [s5, r4, if_neg (by omega), r3]
    unfold ins
    by_cases w : j = p
    · rw [if_pos ⟨rfl, w⟩, if_neg (by omega), if_pos w]
    · rw [if_neg (by omega), s2]
      by_cases w' : j < p
      · rw [if_pos w', show M1.2 88 j = M.2 88 j from a3 88 j (Or.inr (by omega))]; exact (h1 j (by omega)).2.1
      · rw [if_neg w', if_neg w, show M1.2 88 j = M.2 88 (j - 1) from (a1 j (by omega) (by omega)).2.1]; exact (h1 (j - 1) (by omega)).2.1
  · rw [s5, r4]
    unfold ins
    by_cases w : j = p
    · rw [if_pos ⟨rfl, w⟩, if_neg (by omega), if_pos w]
    · rw [if_neg (by omega), r3, if_neg (by omega), s2]
      by_cases w' : j < p
      · rw [if_pos w', show M1.2 89 j = M.2 89 j from a3 89 j (Or.inr (by omega))]; exact (h1 j (by omega)).2.2
      · rw [if_neg w', if_neg w, show M1.2 89 j = M.2 89 (j - 1) from (a1 j (by omega) (by omega)).2.2]; exact (h1 (j - 1) (by omega)).2.2
  · rw [r5, if_neg w2, s4, s3, r2, if_neg (by omega)]; exact a2 c j (Or.inl w1)
  · rw [s5, r4, if_neg (by omega), r3, if_neg (by omega), s2]; exact a3 c j (Or.inl ⟨w1, w2⟩)
/-- the order of a poll: by rank, then by number -/
def klt (rk : Nat → Int64) (a b : Nat) : Prop := (rk a).toInt < (rk b).toInt ∨ ((rk a).toInt = (rk b).toInt ∧ a < b)
/-- g lists the allowed trials below i, in the order of a poll -/
def Lst (ok : Nat → Prop) (rk : Nat → Int64) (i m : Nat) (g : Nat → Nat) : Prop := m ≤ i ∧ (∀ a b, a < b → b < m → klt rk (g a) (g b)) ∧ (∀ a, a < m → g a < i ∧ ok (g a)) ∧ ∀ x, x < i → ok x → ∃ a, a < m ∧ g a = x
theorem Lst.skip {ok : Nat → Prop} {rk : Nat → Int64} {i m : Nat} {g : Nat → Nat} (h : Lst ok rk i m g) (hn : ¬ ok i) : Lst ok rk (i + 1) m g := by
  obtain ⟨h1, h2, h3, h4⟩ := h
  refine ⟨by omega, h2, fun a ha => ⟨by have := (h3 a ha).1; omega, (h3 a ha).2⟩, fun x hx hk => ?_⟩
  rcases Nat.lt_or_ge x i with w | w
  · exact h4 x w hk
  · exact absurd (by rw [show i = x by omega]; exact hk) hn
theorem Lst.ins {ok : Nat → Prop} {rk : Nat → Int64} {i m p : Nat} {g : Nat → Nat} (h : Lst ok rk i m g) (hk : ok i) (hp : p ≤ m) (lo : ∀ j, j < p → (rk (g j)).toInt ≤ (rk i).toInt) (hi : ∀ j, p ≤ j → j < m → (rk i).toInt < (rk (g j)).toInt) : Lst ok rk (i + 1) (m + 1) (ins g p i) := by
  obtain ⟨h1, h2, h3, h4⟩ := h
  refine ⟨by omega, fun a b hab hb => ?_, fun a ha => ?_, fun x hx hk' => ?_⟩
  · show klt rk (if a < p then g a else if a = p then i else g (a - 1)) (if b < p then g b else if b = p then i else g (b - 1))
    by_cases e1 : b < p
    · rw [if_pos e1, if_pos (by omega)]; exact h2 a b hab (by omega)
    · rw [if_neg e1]
      by_cases e2 : b = p
      · rw [if_pos e2, if_pos (by omega)]
        have q := lo a (by omega)
        have q2 := (h3 a (by omega)).1
        unfold klt; omega
      · rw [if_neg e2]
        by_cases e3 : a < p
        · rw [if_pos e3]; exact h2 a (b - 1) (by omega) (by omega)
        · rw [if_neg e3]
          by_cases e4 : a = p
          · rw [if_pos e4]; exact Or.inl (hi (b - 1) (by omega) (by omega))
          · rw [if_neg e4]; exact h2 (a - 1) (b - 1) (by omega) (by omega)
  · show (if a < p then g a else if a = p then i else g (a - 1)) < i + 1 ∧ ok (if a < p then g a else if a = p then i else g (a - 1))
    by_cases e1 : a < p
    · rw [if_pos e1]; have := h3 a (by omega); exact ⟨by omega, this.2⟩
    · rw [if_neg e1]
      by_cases e2 : a = p
      · rw [if_pos e2]; exact ⟨by omega, hk⟩
      · rw [if_neg e2]; have := h3 (a - 1) (by omega); exact ⟨by omega, this.2⟩
  · rcases Nat.lt_or_ge x i with w | w
    · obtain ⟨a, ha, e⟩ := h4 x w hk'
      rcases Nat.lt_or_ge a p with w2 | w2
      · exact ⟨a, by omega, by show (if a < p then g a else if a = p then i else g (a - 1)) = x; rw [if_pos w2]; exact e⟩
      · exact ⟨a + 1, by omega, by show (if a + 1 < p then g (a + 1) else if a + 1 = p then i else g (a + 1 - 1)) = x; rw [if_neg (by omega), if_neg (by omega), Nat.add_sub_cancel]; exact e⟩
    · exact ⟨p, by omega, by show (if p < p then g p else if p = p then i else g (p - 1)) = x; rw [if_neg (by omega), if_pos rfl]; omega⟩
theorem gatherX {n t d : Nat} {M : Mm} {z : Nat → Int32} (h : CX n t d M z) (e : Nat) : ∃ M', fX9_gather M (nI (2 ^ e)) = some M' ∧ (∃ m g, RowX M' m g (rkz z e t) (vlz z e t) ∧ Lst (okz z e) (rkz z e t) d m g) ∧ M'.2 86 4 = vs z false (z 18) (z 19) (z 20) t ∧ ∀ c j, c ≠ 86 → c ≠ 87 → M'.1 c j = M.1 c j := by
  obtain ⟨⟨lt, ld⟩, c1, c2, c3, c4, c5, c6, c7⟩ := h
  have h : CX n t d M z := ⟨⟨lt, ld⟩, c1, c2, c3, c4, c5, c6, c7⟩
  refine bd_st fun M1 r1 s1 => ?_
  have h1 : CX n t d M1 z := h.cong fun c j hc => by rw [r1, if_neg (by omega)]
  have v0 : fX6_valueHere M1 = some (vs z false (z 18) (z 19) (z 20) t) := by
    have q0 : M1.1 12 0 = z 18 := (h1.2.2.2.2.2.1 0 (by omega)).2.2.1
    have q1 : M1.1 12 1 = z 19 := (h1.2.2.2.2.2.1 1 (by omega)).2.2.1
    have q2 : M1.1 12 2 = z 20 := (h1.2.2.2.2.2.1 2 (by omega)).2.2.1
    unfold fX6_valueHere
    rw [q0, q1, q2, show (4 : Int32) = lim false from rfl, sumX h1.2.2.2.2.2.2.1 h1.2.1 lt false, b1_s]
  rw [v0, b1_s]
  refine bd_sl fun M2 r2 s2 => ?_
  obtain ⟨M3, f3, ⟨m, g, a1, a2⟩, a3, a4⟩ := itr_0 (body := fX9_gather_L15 (nI (2 ^ e))) (s := ((0 : Int32), M2)) (fun i q => q.1 = nI i ∧ (∃ m g, RowX q.2 m g (rkz z e t) (vlz z e t) ∧ Lst (okz z e) (rkz z e t) i m g) ∧ q.2.2 86 4 = vs z false (z 18) (z 19) (z 20) t ∧ ∀ c j, c ≠ 86 → c ≠ 87 → q.2.1 c j = M.1 c j) (fun M' => (∃ m g, RowX M' m g (rkz z e t) (vlz z e t) ∧ Lst (okz z e) (rkz z e t) d m g) ∧ M'.2 86 4 = vs z false (z 18) (z 19) (z 20) t ∧ ∀ c j, c ≠ 86 → c ≠ 87 → M'.1 c j = M.1 c j) d (by omega) ⟨rfl, ⟨0, fun i => i, ⟨by show M2.1 86 0 = _; rw [s2, r1, if_pos ⟨rfl, rfl⟩]; rfl, fun j hj => absurd hj (by omega)⟩, by omega, fun a b _ hb => absurd hb (by omega), fun a ha => absurd ha (by omega), fun x hx => absurd hx (by omega)⟩, by show M2.2 86 4 = _; rw [r2, if_pos ⟨rfl, rfl⟩], fun c j w1 w2 => by show M2.1 c j = _; rw [s2, r1, if_neg (by omega)]⟩ (by
    rintro i ⟨x, M'⟩ hi ⟨rfl, ⟨m, g, q1, q2⟩, q3, q4⟩
    have hM : CX n t d M' z := h.cong fun c j hc => q4 c j (by omega) (by omega)
    rcases Nat.lt_or_ge i d with hl | hl
    · left
      have t0 : fX6_trialNumber M' (nI i) 0 (nI (2 ^ e)) = _ := trialX hM e hl (v := 0) (by omega)
      have t1 : fX6_trialNumber M' (nI i) 1 (nI (2 ^ e)) = _ := trialX hM e hl (v := 1) (by omega)
      have t2 : fX6_trialNumber M' (nI i) 2 (nI (2 ^ e)) = _ := trialX hM e hl (v := 2) (by omega)
      have al : fX0_allow M' (trz z e i 0) (trz z e i 1) (trz z e i 2) = some (if okz z e i then 1 else 0) := by
        have q := allowX (M := M') (M' := ((fun _ j => z j), M'.2)) hM.2.2.2.2.2.1 (trz z e i 0) (trz z e i 1) (trz z e i 2)
        rw [q, allowM]
      by_cases hk : okz z e i
      · obtain ⟨M4, f4, ⟨p, p1, p2, p3, p4⟩, p5, p6⟩ := insX (m := m) (by have := q2.1; omega) q1 (fun a b w1 w2 => by have := q2.2.1 a b w1 w2; unfold klt at this; omega) i
        refine ⟨(nI (i + 1), M4), ?_, hl, rfl, ⟨m + 1, ins g p i, p4, q2.ins hk p1 p2 p3⟩, ?_, fun c j w1 w2 => ?_⟩
        · unfold fX9_gather_L15 u2
          dsimp only
          rw [hM.2.2.1, if_neg (ngen (by omega) (by omega) hl), t0, b1_s, t1, b1_s, t2, b1_s, al, if_pos hk, b1_s, bd_s, i10, rankX hM, b1_s, show (4 : Int32) = lim false from rfl, sumX hM.2.2.2.2.2.2.1 hM.2.1 lt false, b1_s]
          show (b1 (fX9_insert M' (nI i) (rkz z e t i) (vlz z e t i)) _) = _
          rw [f4, b1_s]; dsimp only; rw [bd_s, nI_1]
        · show M4.2 86 4 = _
          rw [p6 86 4 (by omega) (by omega)]; exact q3
        · show M4.1 c j = _
          rw [p5 c j w2 (by omega)]; exact q4 c j w1 w2
      · refine ⟨(nI (i + 1), M'), ?_, hl, rfl, ⟨m, g, q1, q2.skip hk⟩, q3, q4⟩
        unfold fX9_gather_L15 u2
        dsimp only
        rw [hM.2.2.1, if_neg (ngen (by omega) (by omega) hl), t0, b1_s, t1, b1_s, t2, b1_s, al, if_neg hk, b1_s, bd_s, i00]; dsimp only; rw [bd_s, nI_1]
    · right
      obtain rfl : i = d := by omega
      refine ⟨M', ?_, ⟨m, g, q1, q2⟩, q3, q4⟩
      unfold fX9_gather_L15 u2
      dsimp only
      rw [hM.2.2.1, if_pos (gen (by omega) (by omega) (by omega))])
  exact ⟨M3, by rw [f3, b1_s], ⟨m, g, a1, a2⟩, a3, a4⟩
/-! ===== the row of trials, the reference's side ===== -/
theorem bits : ∀ m, m < 256 → ∀ i, i < 8 → ((((nI m >>> (nI i &&& 31)) &&& 1 = 0) ↔ m.testBit i = false) ∧ (nI m ||| (1 <<< (nI i &&& 31))) = nI (m ||| 2 ^ i)) := by decide +kernel
/-- the numbers that a mask holds -/
def PB (g : Nat → Nat) (mk k : Nat) : Prop := mk < 256 ∧ ∀ i, i < 8 → (mk.testBit i = true ↔ ∃ a, a < k ∧ g a = i)
theorem PB.put {g : Nat → Nat} {mk k : Nat} (h : PB g mk k) (hk : g k < 8) : PB g (mk ||| 2 ^ g k) (k + 1) := by
  refine ⟨Nat.or_lt_two_pow (n := 8) h.1 (Nat.pow_lt_pow_right (by omega) hk), fun i hi => ?_⟩
  rw [Nat.testBit_or, Nat.testBit_two_pow, Bool.or_eq_true, h.2 i hi, decide_eq_true_iff]
  constructor
  · rintro (⟨a, ha, w⟩ | w)
    · exact ⟨a, by omega, w⟩
    · exact ⟨k, by omega, w⟩
  · rintro ⟨a, ha, w⟩
    rcases Nat.lt_or_ge a k with q | q
    · exact Or.inl ⟨a, q, w⟩
    · exact Or.inr (by rw [← w, show a = k by omega])
/-! ===== the choice of a poll ===== -/
theorem itr_l {σ ρ : Type} {body : σ → Option (σ ⊕ ρ)} {f : Nat} {s s' : σ} (h : body s = some (.inl s')) : itr body (f + 1) s = itr body f s' := by simp [itr, h]
theorem itr_r {σ ρ : Type} {body : σ → Option (σ ⊕ ρ)} {f : Nat} {s : σ} {r : ρ} (h : body s = some (.inr r)) : itr body (f + 1) s = some r := by simp [itr, h]
def ch (vl : Nat → Int64) (g : Nat → Nat) (all : Bool) : Nat → Nat → Int32 → Int64 → Int32 × Nat
  | 0, j, x, _ => (x, j)
  | k + 1, j, x, y => if 0 ≤ lg_cmp (vl (g j)) y then ch vl g all k (j + 1) x y else if all = true then ch vl g all k (j + 1) (nI (g j)) (vl (g j)) else (nI (g j), j + 1)
theorem ch_b (vl : Nat → Int64) (g : Nat → Nat) (all : Bool) : ∀ k j x y, j ≤ (ch vl g all k j x y).2 ∧ (ch vl g all k j x y).2 ≤ j + k ∧ ((ch vl g all k j x y).1 = x ∨ ∃ a, j ≤ a ∧ a < j + k ∧ (ch vl g all k j x y).1 = nI (g a)) := by
  intro k
  induction k with
  | zero => intro j x y; exact ⟨Nat.le_refl _, Nat.le_refl _, Or.inl rfl⟩
  | succ k ih =>
    intro j x y
    unfold ch
    by_cases c1 : 0 ≤ lg_cmp (vl (g j)) y
    · rw [if_pos c1]
      obtain ⟨a1, a2, a3⟩ := ih (j + 1) x y
      refine ⟨by omega, by omega, a3.elim Or.inl (fun ⟨a, b1, b2, b3⟩ => Or.inr ⟨a, by omega, by omega, b3⟩)⟩
    · rw [if_neg c1]
      by_cases c2 : all = true
      · rw [if_pos c2]
        obtain ⟨a1, a2, a3⟩ := ih (j + 1) (nI (g j)) (vl (g j))
        refine ⟨by omega, by omega, a3.elim (fun q => Or.inr ⟨j, by omega, by omega, q⟩) (fun ⟨a, b1, b2, b3⟩ => Or.inr ⟨a, by omega, by omega, b3⟩)⟩
      · rw [if_neg c2]
        exact ⟨by show j ≤ j + 1; omega, by show j + 1 ≤ j + (k + 1); omega, Or.inr ⟨j, by omega, by omega, rfl⟩⟩
theorem chooseX {w1 : Int32} {all : Bool} (hw : (w1 = 0 ∧ all = false) ∨ (w1 = 1 ∧ all = true)) {m : Nat} {g : Nat → Nat} {rk vl : Nat → Int64} (hm : m ≤ 8) : ∀ k j x y M, j + k = m → RowX M m g rk vl → M.1 86 5 = nI j → ∀ fuel, k < fuel →
    ∃ q M', itr (fX9_chooseBetter_L15 w1) fuel (x, y, nI j, M) = some q ∧ (q = .inl ((ch vl g all k j x y).1, M') ∨ q = .inr ((ch vl g all k j x y).1, M')) ∧ M'.1 86 5 = nI (ch vl g all k j x y).2 ∧ ∀ c j', ¬ (c = 86 ∧ j' = 5) → M'.1 c j' = M.1 c j' := by
  intro k
  induction k with
  | zero =>
    intro j x y M hj hr h5 fuel hf
    obtain ⟨f, rfl⟩ : ∃ f, fuel = f + 1 := ⟨fuel - 1, by omega⟩
    refine ⟨_, M, itr_r (r := .inr (x, M)) ?_, Or.inr rfl, h5, fun _ _ _ => rfl⟩
    unfold fX9_chooseBetter_L15 u4
    dsimp only
    rw [hr.1, if_pos (gen (by omega) (by omega) (by omega))]
  | succ k ih =>
    intro j x y M hj hr h5 fuel hf
    obtain ⟨f, rfl⟩ : ∃ f, fuel = f + 1 := ⟨fuel - 1, by omega⟩
    obtain ⟨M2, e2⟩ : ∃ M2, M2 = stI M 86 5 (nI (j + 1)) := ⟨_, rfl⟩
    have r2 : ∀ c j', M2.1 c j' = if c = 86 ∧ j' = 5 then nI (j + 1) else M.1 c j' := fun c j' => by rw [e2, stI_rd]
    have s2 : M2.2 = M.2 := by rw [e2]; rfl
    have hr2 : RowX M2 m g rk vl := ⟨by rw [r2, if_neg (by omega)]; exact hr.1, fun i hi => by rw [r2, if_neg (by omega), s2]; exact hr.2 i hi⟩
    have h52 : M2.1 86 5 = nI (j + 1) := by rw [r2, if_pos ⟨rfl, rfl⟩]
    have fr : ∀ c j', ¬ (c = 86 ∧ j' = 5) → M2.1 c j' = M.1 c j' := fun c j' w => by rw [r2, if_neg w]
    have e87 : M2.1 87 j = nI (g j) := (hr2.2 j (by omega)).1
    have e89 : M2.2 89 j = vl (g j) := (hr2.2 j (by omega)).2.2
    by_cases c1 : 0 ≤ lg_cmp (vl (g j)) y
    · obtain ⟨q, M', f1, f2, f3, f4⟩ := ih (j + 1) x y M2 (by omega) hr2 h52 f (by omega)
      unfold ch
      rw [if_pos c1]
      refine ⟨q, M', ?_, f2, f3, fun c j' w => (f4 c j' w).trans (fr c j' w)⟩
      rw [itr_l (s' := (x, y, nI (j + 1), M2))]
      · exact f1
      · unfold fX9_chooseBetter_L15 u4
        dsimp only
        rw [hr.1, if_neg (ngen (by omega) (by omega) (by omega)), h5, nI_1, bd_s, ← e2, gd_t (inbn (by omega) (by omega)), bd_s, ixn (by omega), e89, if_pos c1]
        dsimp only
        rw [bd_s]
    · unfold ch
      rw [if_neg c1]
      by_cases c2 : all = true
      · rw [if_pos c2]
        obtain ⟨q, M', f1, f2, f3, f4⟩ := ih (j + 1) (nI (g j)) (vl (g j)) M2 (by omega) hr2 h52 f (by omega)
        refine ⟨q, M', ?_, f2, f3, fun c j' w => (f4 c j' w).trans (fr c j' w)⟩
        rw [itr_l (s' := (nI (g j), vl (g j), nI (j + 1), M2))]
        · exact f1
        · have w1n : ¬ w1 = 0 := by
            rcases hw with ⟨_, q⟩ | ⟨q, _⟩
            · rw [c2] at q; exact absurd q (by decide)
            · rw [q]; decide
          unfold fX9_chooseBetter_L15 u4
          dsimp only
          rw [hr.1, if_neg (ngen (by omega) (by omega) (by omega)), h5, nI_1, bd_s, ← e2, gd_t (inbn (by omega) (by omega)), bd_s, ixn (by omega), e89, if_neg c1, e87, bd_s, bd_s, if_neg w1n]
          dsimp only
          rw [bd_s]
      · rw [if_neg c2]
        have w10 : w1 = 0 := by
          rcases hw with ⟨q, _⟩ | ⟨_, q⟩
          · exact q
          · exact absurd q c2
        refine ⟨.inl (nI (g j), M2), M2, itr_r ?_, Or.inl rfl, h52, fr⟩
        unfold fX9_chooseBetter_L15 u4
        dsimp only
        rw [hr.1, if_neg (ngen (by omega) (by omega) (by omega)), h5, nI_1, bd_s, ← e2, gd_t (inbn (by omega) (by omega)), bd_s, ixn (by omega), e89, if_neg c1, e87, bd_s, bd_s, if_pos w10]
theorem vs_cong {z z' : Nat → Int32} (h : ∀ j, 18 ≤ j → z' j = z j) (s : Bool) (x y w : Int32) (t : Nat) : vs z' s x y w t = vs z s x y w t := by
  induction t with
  | zero => rfl
  | succ i ih =>
    unfold vs tv
    rw [ih, h (21 + 4 * i) (by omega), h (21 + 4 * i + 1) (by omega), h (21 + 4 * i + 2) (by omega), h (21 + 4 * i + 3) (by omega)]
theorem trz_cong {z z' : Nat → Int32} (h : ∀ j, 18 ≤ j → z' j = z j) (e i v : Nat) : trz z' e i v = trz z e i v := by
  unfold trz
  rw [h _ (by omega), h _ (by omega)]
theorem notneg {b : Nat} (hb : b < 1000) : ¬ nI b < 0 := fun q => by
  have := Int32.lt_iff_toInt_lt.mp q
  rw [tin (by omega), show (0 : Int32).toInt = 0 by decide] at this
  omega
/-! ===== one poll, on both sides ===== -/
theorem hf : ∀ e, e < 5 → (if nI (2 ^ e) / 2 < 1 then (1 : Int32) else nI (2 ^ e) / 2) = nI (2 ^ (e - 1)) := by decide +kernel
theorem db : ∀ e, e < 5 → (if 16 < 2 * nI (2 ^ e) then (16 : Int32) else 2 * nI (2 ^ e)) = nI (2 ^ (min (e + 1) 4)) := by decide +kernel
theorem lf : ∀ k, k < 7 → (if 6 < nI k + 1 then (6 : Int32) else nI k + 1) = nI (min (k + 1) 6) := by decide +kernel
theorem sz1 : ∀ e, e < 5 → (nI (2 ^ e) = 1 ↔ e = 0) := by decide +kernel
theorem trial_cong {M M' : Mm} (h1 : ∀ j, M'.1 12 j = M.1 12 j) (h2 : ∀ j, M'.1 9 j = M.1 9 j) (a b c : Int32) : fX6_trialNumber M' a b c = fX6_trialNumber M a b c := by
  unfold fX6_trialNumber
  rw [h1, h2]
theorem succeedX {M : Mm} {k e : Nat} (h6 : M.1 11 6 = nI k) (h1 : M.1 11 1 = nI (2 ^ e)) (hk : k ≤ 6) (he : e ≤ 4) (w a b c : Int32) : ∃ M', fX4_succeed M w a b c = some M' ∧ (M'.1 11 1 = nI (2 ^ (min (e + 1) 4)) ∧ M'.1 11 2 = M.1 11 2 ∧ M'.1 11 3 = M.1 11 3 + 1 ∧ M'.1 11 4 = M.1 11 4 ∧ M'.1 11 5 = w ∧ M'.1 11 6 = nI (min (k + 1) 6) ∧ M'.1 11 8 = 0) ∧ (M'.1 12 0 = a ∧ M'.1 12 1 = b ∧ M'.1 12 2 = c) ∧ (∀ j, j < 3 → M'.1 13 j = M.1 12 j) ∧ (∀ j, 3 ≤ j → j < 18 → M'.1 13 j = M.1 13 (j - 3)) ∧ ∀ c' j, c' ≠ 11 → c' ≠ 12 → c' ≠ 13 → M'.1 c' j = M.1 c' j := by
  refine bd_cp fun M1 r1 _ => bd_cp fun M2 r2 _ => ?_
  have e26 : M2.1 11 6 = nI k := by rw [r2, if_neg (by omega), r1, if_neg (by omega), h6]
  rw [e26, lf k (by omega)]
  refine bd_st fun M3 r3 _ => ?_
  refine b1_x (P := fun v => ∀ c' j, v.1 c' j = if c' = 12 ∧ j = 2 then c else if c' = 12 ∧ j = 1 then b else if c' = 12 ∧ j = 0 then a else M3.1 c' j) (bd_st fun M4 r4 _ => bd_st fun M5 r5 _ => bd_st fun M6 r6 _ => ⟨M6, rfl, fun c j => by rw [r6, r5, r4]⟩) (fun M6 r6 => ?_)
  have e61 : M6.1 11 1 = nI (2 ^ e) := by rw [r6, if_neg (by omega), if_neg (by omega), if_neg (by omega), r3, if_neg (by omega), r2, if_neg (by omega), r1, if_neg (by omega), h1]
  rw [e61, db e (by omega)]
  refine bd_st fun M7 r7 _ => bd_st fun M8 r8 _ => bd_st fun M9 r9 _ => bd_st fun M10 r10 _ => ⟨M10, rfl, ?_⟩
  have r : ∀ c' j, M10.1 c' j = if c' = 11 ∧ j = 8 then 0 else if c' = 11 ∧ j = 5 then w else if c' = 11 ∧ j = 3 then M7.1 11 3 + 1 else if c' = 11 ∧ j = 1 then nI (2 ^ (min (e + 1) 4)) else M6.1 c' j := fun c' j => by rw [r10, r9, r8, r7 c' j]
  have e11 : ∀ j, j ≠ 6 → M6.1 11 j = M.1 11 j := fun j w => by rw [r6, if_neg (by omega), if_neg (by omega), if_neg (by omega), r3, if_neg (by omega), r2, if_neg (by omega), r1, if_neg (by omega)]
  have e73 : M7.1 11 3 = M.1 11 3 := by rw [r7, if_neg (by omega), e11 3 (by omega)]
  refine ⟨⟨?_, ?_, ?_, ?_, ?_, ?_, ?_⟩, ⟨?_, ?_, ?_⟩, fun j hj => ?_, fun j w1 w2 => ?_, fun c' j w1 w2 w3 => ?_⟩
  · rw [r, if_neg (by omega), if_neg (by omega), if_neg (by omega), if_pos ⟨rfl, rfl⟩]
  · rw [r, if_neg (by omega), if_neg (by omega), if_neg (by omega), if_neg (by omega), e11 2 (by omega)]
  · rw [r, if_neg (by omega), if_neg (by omega), if_pos ⟨rfl, rfl⟩, e73]
  · rw [r, if_neg (by omega), if_neg (by omega), if_neg (by omega), if_neg (by omega), e11 4 (by omega)]
  · rw [r, if_neg (by omega), if_pos ⟨rfl, rfl⟩]
  · rw [r, if_neg (by omega), if_neg (by omega), if_neg (by omega), if_neg (by omega), r6, if_neg (by omega), if_neg (by omega), if_neg (by omega), r3, if_pos ⟨rfl, rfl⟩]
  · rw [r, if_pos ⟨rfl, rfl⟩]
  · rw [r, if_neg (by omega), if_neg (by omega), if_neg (by omega), if_neg (by omega), r6, if_neg (by omega), if_neg (by omega), if_pos ⟨rfl, rfl⟩]
  · rw [r, if_neg (by omega), if_neg (by omega), if_neg (by omega), if_neg (by omega), r6, if_neg (by omega), if_pos ⟨rfl, rfl⟩]
  · rw [r, if_neg (by omega), if_neg (by omega), if_neg (by omega), if_neg (by omega), r6, if_pos ⟨rfl, rfl⟩]
  · rw [r, if_neg (by omega), if_neg (by omega), if_neg (by omega), if_neg (by omega), r6, if_neg (by omega), if_neg (by omega), if_neg (by omega), r3, if_neg (by omega), r2, if_pos (by omega), r1, if_neg (by omega)]; exact congrArg _ (by omega)
  · rw [r, if_neg (by omega), if_neg (by omega), if_neg (by omega), if_neg (by omega), r6, if_neg (by omega), if_neg (by omega), if_neg (by omega), r3, if_neg (by omega), r2, if_neg (by omega), r1, if_pos (by omega)]; exact congrArg _ (by omega)
  · rw [r, if_neg (by omega), if_neg (by omega), if_neg (by omega), if_neg (by omega), r6, if_neg (by omega), if_neg (by omega), if_neg (by omega), r3, if_neg (by omega), r2, if_neg (by omega), r1, if_neg (by omega)]
/-! ===== poll, run ===== -/
theorem failX {M : Mm} {e : Nat} (h1 : M.1 11 1 = nI (2 ^ e)) (he : e ≤ 4) : ∃ M', fX4_fail M = some M' ∧ ∀ c j, M'.1 c j = if c = 11 ∧ j = 1 then nI (2 ^ (e - 1)) else if c = 11 ∧ j = 8 then (if e = 0 then 1 else 0) else M.1 c j := by
  have go : ∀ x : Int32, (x = 0 ∨ x = 1) → x = (if e = 0 then 1 else 0) → ∃ M', (gd (x = 0 ∨ x = 1) <| bd (stI M 11 8 x) fun M5 => bd (stI M5 11 1 (if ((M5.1 11 1) / 2) < 1 then 1 else ((M5.1 11 1) / 2))) fun M6 => some M6) = some M' ∧ ∀ c j, M'.1 c j = if c = 11 ∧ j = 1 then nI (2 ^ (e - 1)) else if c = 11 ∧ j = 8 then (if e = 0 then 1 else 0) else M.1 c j := by
    intro x hx hx2
    refine gd_x hx (bd_st fun M5 r5 _ => ?_)
    rw [show M5.1 11 1 = nI (2 ^ e) by rw [r5, if_neg (by omega), h1], hf e (by omega)]
    exact bd_st fun M6 r6 _ => ⟨M6, rfl, fun c j => by rw [r6, r5, hx2]⟩
  unfold fX4_fail
  rw [bd_s, h1]
  by_cases w : e = 0
  · rw [if_pos ((sz1 e (by omega)).mpr w)]
    exact go 1 (Or.inr rfl) (by rw [if_pos w])
  · rw [if_neg (fun q => w ((sz1 e (by omega)).mp q))]
    exact go 0 (Or.inl rfl) (by rw [if_neg w])
