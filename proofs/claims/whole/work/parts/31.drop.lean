/-! ===== dropTerm, dropDirection ===== -/
theorem shift_loop {body : Int32 × Mm → Option ((Int32 × Mm) ⊕ Mm)} {M : Mm} {a s m w : Nat} (hm : m < 1000) (hw : 0 < w)
    (h : ∀ u M', u < m → (∀ c j, c ≠ a → M'.1 c j = M.1 c j) → (∀ j, ¬ (s ≤ j ∧ j < s + u) → M'.1 a j = M.1 a j) → body (nI (s + u), M') = some (.inl (nI (s + (u + 1)), stI M' a (s + u) (M'.1 a (s + u + w)))))
    (he : ∀ M', (∀ c j, c ≠ a → M'.1 c j = M.1 c j) → (∀ j, ¬ (s ≤ j ∧ j < s + m) → M'.1 a j = M.1 a j) → body (nI (s + m), M') = some (.inr M')) :
    ∃ M', itr body 1000 (nI s, M) = some M' ∧ (∀ j, s ≤ j → j < s + m → M'.1 a j = M.1 a (j + w)) ∧ (∀ j, ¬ (s ≤ j ∧ j < s + m) → M'.1 a j = M.1 a j) ∧ ∀ c j, c ≠ a → M'.1 c j = M.1 c j := by
  refine itr_0 (fun u q => q.1 = nI (s + u) ∧ (∀ j, s ≤ j → j < s + u → q.2.1 a j = M.1 a (j + w)) ∧ (∀ j, ¬ (s ≤ j ∧ j < s + u) → q.2.1 a j = M.1 a j) ∧ ∀ c j, c ≠ a → q.2.1 c j = M.1 c j) _ m hm ⟨rfl, fun j h1 h2 => by omega, fun _ _ => rfl, fun _ _ _ => rfl⟩ ?_
  rintro u ⟨x, M'⟩ hu ⟨rfl, q1, q2, q3⟩
  rcases Nat.lt_or_ge u m with hl | hl
  · left
    refine ⟨_, h u M' hl q3 q2, hl, rfl, fun j h1 h2 => ?_, fun j hj => ?_, fun c j hc => ?_⟩
    · show (stI M' a (s + u) (M'.1 a (s + u + w))).1 a j = _
      rw [stI_rd]
      by_cases e : j = s + u
      · rw [if_pos ⟨rfl, e⟩, q2 _ (by omega), e]
      · rw [if_neg (by omega)]; exact q1 j h1 (by omega)
    · show (stI M' a (s + u) (M'.1 a (s + u + w))).1 a j = _
      rw [stI_rd, if_neg (by omega)]; exact q2 j (by omega)
    · show (stI M' a (s + u) (M'.1 a (s + u + w))).1 c j = _
      rw [stI_rd, if_neg (fun q => hc q.1)]; exact q3 c j hc
  · right
    obtain rfl : u = m := by omega
    exact ⟨M', he M' q3 q2, q1, q2, q3⟩
theorem gapX (M : Mm) {a n w i t : Nat} (hw : 0 < w) (hi : i < t) (hn : w * t ≤ n) (hn2 : n < 900) : ∃ M', fX10_closeGap a n M (nI w) (nI i) (nI t) = some M' ∧ (∀ j, w * i ≤ j → j + w < w * t → M'.1 a j = M.1 a (j + w)) ∧ (∀ j, ¬ (w * i ≤ j ∧ j + w < w * t) → M'.1 a j = M.1 a j) ∧ ∀ c j, c ≠ a → M'.1 c j = M.1 c j := by
  have hwi : w * (i + 1) ≤ w * t := Nat.mul_le_mul_left w hi
  rw [Nat.mul_add, Nat.mul_one] at hwi
  obtain ⟨M', f, b1', b2', b3'⟩ := shift_loop (body := fX10_closeGap_L5 (nI w) (nI t) n a) (M := M) (a := a) (s := w * i) (m := w * t - w - w * i) (w := w) (by omega) hw (fun u M' hu q1 q2 => by
    unfold fX10_closeGap_L5 u2
    dsimp only
    rw [pk_mul, nI_add, if_neg (ngen (by omega) (by omega) (by omega)), gd_t (inbn (by omega) (by omega)), gd_t (inbn (by omega) (by omega)), bd_s, bd_s, ixn (by omega), ixn (by omega), nI_1, Nat.add_assoc (w * i) u 1]) (fun M' q1 q2 => by
    unfold fX10_closeGap_L5 u2
    dsimp only
    rw [pk_mul, nI_add, if_pos (gen (by omega) (by omega) (by omega))])
  refine ⟨M', ?_, fun j h1 h2 => b1' j h1 (by omega), fun j hj => b2' j (by omega), b3'⟩
  unfold fX10_closeGap
  rw [pk_mul, bd_s, f, b1_s]
theorem p_dropTerm {M : Mm} (h : R M) (w1 : Int32) : Ok2 (fun M => fX10_dropTerm M w1) (fun M => fX11_dropTerm M w1) M := by
  obtain ⟨n, t, d, e, k, hn, hsc, hb', ht, hd, hl⟩ := h.1
  have a3 : M.1 2 0 = nI t := hn.2.2.1.1
  have a4 : M.1 96 1 = nI t := hn.2.2.1.2
  have lt := hn.1.2.2.1
  rcases neg_or w1 with h1 | ⟨i, hi, rfl, h1⟩
  · have h0 : ¬ 0 ≤ w1 := fun q => (le0_iff w1).mp q h1
    exact .no h _ (by show fX10_dropTerm M _ = _; unfold fX10_dropTerm; rw [if_neg h0]) (by show fX11_dropTerm M _ = _; unfold fX11_dropTerm; rw [if_neg h0])
  have h0 : 0 ≤ nI i := (le0_iff _).mpr h1
  rcases Nat.lt_or_ge i t with hit | hit
  case inr =>
    exact .no h _ (by show fX10_dropTerm M _ = _; unfold fX10_dropTerm; rw [if_pos h0, a3, if_neg (nltn (t := t) hi (by omega) hit)]) (by show fX11_dropTerm M _ = _; unfold fX11_dropTerm; rw [if_pos h0, a4, if_neg (nltn (t := t) hi (by omega) hit)])
  have f3 : M.1 3 i = M.1 96 (21 + 4 * i) := (ht i hit).1
  have e4 : (21 : Int32) + 4 * nI i = nI (21 + 4 * i) := by rw [n4i]; exact nI_add 21 _
  refine Ok2.ch h (kx := fun M6 => b1 (fX7_remove M6 (nI i)) fun M8 => some (M.1 3 i, M8)) (km := fun M4 => gd (inb (21 + (4 * nI i)) 111) <| bd (M4.1 96 (ix (21 + (4 * nI i)))) fun x6 => bd (stI M4 96 1 ((M4.1 96 1) - 1)) fun M7 => bd (21 + (4 * nI i)) fun x8 => b1 (itr (fX11_dropTerm_L53) 1000 (x8, M7)) fun M17 => some (x6, M17)) (by
    show fX10_dropTerm M _ = _
    unfold fX10_dropTerm
    rw [if_pos h0, a3, if_pos (ltn hi (by omega) hit), gd_t (inbn (by omega) (by omega)), bd_s, ixn hi]) (fun M1 e96 => by
    show fX11_dropTerm M1 _ = _
    unfold fX11_dropTerm
    rw [if_pos h0, e96, a4, if_pos (ltn hi (by omega) hit)]) (fun M1 lo => ?_)
  obtain ⟨M2, g2, b1', c1', o1⟩ := gapX M1 (a := 3) (n := 10) (w := 1) (i := i) (t := t) (by omega) hit (by omega) (by omega)
  obtain ⟨M3, g3, b2', c2', o2⟩ := gapX M2 (a := 4) (n := 30) (w := 3) (i := i) (t := t) (by omega) hit (by omega) (by omega)
  have s1 : nI t - 1 = nI (t - 1) := pk_sub (b := 1) (by omega)
  have l2 : M1.1 2 0 = nI t := (lo 2 0 (by omega)).trans a3
  have l3 : M2.1 2 0 = nI t := (o1 2 0 (by omega)).trans l2
  have l4 : M3.1 2 0 = nI t := (o2 2 0 (by omega)).trans l3
  obtain ⟨M4, e5⟩ : ∃ M4, M4 = stI M3 2 0 (nI (t - 1)) := ⟨_, rfl⟩
  have r4 : ∀ c j, M4.1 c j = if c = 2 ∧ j = 0 then nI (t - 1) else M3.1 c j := fun c j => by rw [e5, stI_rd]
  refine ⟨(M.1 3 i, M4), ?_, fun c j hc' _ => ?_, fun M5 e6 l5 => ?_⟩
  · unfold fX7_remove
    rw [if_neg h1, l2, if_pos (ltn hi (by omega) hit), show (1 : Int32) = nI 1 from rfl, g2, b1_s, l3, show (3 : Int32) = nI 3 from rfl, g3, b1_s, l4, show nI t - nI 1 = nI (t - 1) from s1, bd_s, ← e5, b1_s]
  · show M4.1 c j = _
    rw [r4, if_neg (by omega), o2 c j (by omega), o1 c j (by omega)]
  have e51 : M5.1 96 1 = nI t := (e6 1).trans a4
  obtain ⟨M7, g7, b7, c7, o7⟩ := shift_loop (body := fX11_dropTerm_L53) (M := stI M5 96 1 (nI (t - 1))) (a := 96) (s := 21 + 4 * i) (m := 4 * (t - 1 - i)) (w := 4) (by omega) (by omega) (fun u M' hu q1 q2 => by
    unfold fX11_dropTerm_L53 u2
    dsimp only
    have e1 : M'.1 96 1 = nI (t - 1) := by rw [q2 1 (by omega), stI_rd, if_pos ⟨rfl, rfl⟩]
    rw [e1, n4i, show (21 : Int32) + nI (4 * (t - 1)) = nI (21 + 4 * (t - 1)) from nI_add 21 _, if_neg (ngen (by omega) (by omega) (by omega)), show nI (21 + 4 * i + u) + 4 = nI (21 + 4 * i + u + 4) from nI_add _ 4, gd_t (inbn (by omega) (by omega)), gd_t (inbn (by omega) (by omega)), bd_s, bd_s, ixn (by omega), ixn (by omega), nI_1, Nat.add_assoc _ u 1]) (fun M' q1 q2 => by
    unfold fX11_dropTerm_L53 u2
    dsimp only
    have e1 : M'.1 96 1 = nI (t - 1) := by rw [q2 1 (by omega), stI_rd, if_pos ⟨rfl, rfl⟩]
    rw [e1, n4i, show (21 : Int32) + nI (4 * (t - 1)) = nI (21 + 4 * (t - 1)) from nI_add 21 _, if_pos (gen (by omega) (by omega) (by omega))])
  refine ⟨(M.1 3 i, M7), ?_, fun c j hc' _ => ?_, ?_, rfl⟩
  · rw [e4, gd_t (inbn (by omega) (by omega)), bd_s, bd_s, bd_s, e51, s1, ixn (by omega), e6, g7, b1_s, f3]
  · show M7.1 c j = _
    rw [o7 c j hc', stI_rd, if_neg (by omega)]
  · show SR (blk M7 1) (M7.1 96)
    have lowM : ∀ c j, c < 14 → M7.1 c j = M4.1 c j := fun c j q => by rw [o7 c j (by omega), stI_rd, if_neg (by omega)]; exact l5 c j q
    have S : ∀ c j, c < 14 → ¬ (c = 2 ∧ j = 0) → c ≠ 3 → c ≠ 4 → M7.1 c j = M.1 c j := fun c j q1 q2 q3 q4 => by rw [lowM c j q1, r4, if_neg q2, o2 c j q4, o1 c j q3, lo c j q1]
    have Z : ∀ j, j ≠ 1 → ¬ (21 + 4 * i ≤ j ∧ j < 21 + 4 * (t - 1)) → M7.1 96 j = M.1 96 j := fun j q1 q2 => by rw [c7 j (by omega), stI_rd, if_neg (by omega), e6]
    have Zs : ∀ j, 21 + 4 * i ≤ j → j < 21 + 4 * (t - 1) → M7.1 96 j = M.1 96 (j + 4) := fun j q1 q2 => by rw [b7 j (by omega) (by omega), stI_rd, if_neg (by omega), e6]
    have x3 : ∀ j, M7.1 3 j = M2.1 3 j := fun j => by rw [lowM 3 j (by omega), r4, if_neg (by omega), o2 3 j (by omega)]
    have x4 : ∀ j, M7.1 4 j = M3.1 4 j := fun j => by rw [lowM 4 j (by omega), r4, if_neg (by omega)]
    obtain ⟨q1', n1, n2, n3, n4, n5⟩ := hn
    refine ⟨n, t - 1, d, e, k, ⟨⟨q1'.1, q1'.2.1, by omega, q1'.2.2.2⟩, ⟨(S 1 0 (by omega) (by omega) (by omega) (by omega)).trans n1.1, (Z 0 (by omega) (by omega)).trans n1.2⟩, ⟨?_, ?_⟩, ⟨(S 8 0 (by omega) (by omega) (by omega) (by omega)).trans n3.1, (Z 2 (by omega) (by omega)).trans n3.2⟩, ⟨(S 11 1 (by omega) (by omega) (by omega) (by omega)).trans n4.1, (Z 3 (by omega) (by omega)).trans n4.2⟩, ⟨(S 11 6 (by omega) (by omega) (by omega) (by omega)).trans n5.1, (Z 10 (by omega) (by omega)).trans n5.2⟩⟩, hsc.cong (S 1 1 (by omega) (by omega) (by omega) (by omega)) (S 1 2 (by omega) (by omega) (by omega) (by omega)) (fun j _ => S 11 j (by omega) (by omega) (by omega) (by omega)) (fun j _ _ _ => Z j (by omega) (by omega)), hb'.cong (fun v _ => ⟨S 6 v (by omega) (by omega) (by omega) (by omega), S 7 v (by omega) (by omega) (by omega) (by omega), S 12 v (by omega) (by omega) (by omega) (by omega)⟩) (fun j _ _ => Z j (by omega) (by omega)), fun u hu => ?_, hd.cong q1'.2.2.2.1 (fun i _ => S 10 i (by omega) (by omega) (by omega) (by omega)) (fun i _ => S 9 i (by omega) (by omega) (by omega) (by omega)) (fun j _ _ => Z j (by omega) (by omega)), hl.cong q1'.2.2.2.2.2 (fun i _ => S 13 i (by omega) (by omega) (by omega) (by omega)) (fun j _ _ => Z j (by omega) (by omega))⟩
    · show M7.1 2 0 = _
      rw [lowM 2 0 (by omega), r4, if_pos ⟨rfl, rfl⟩]
    · rw [c7 1 (by omega), stI_rd, if_pos ⟨rfl, rfl⟩]
    · rcases Nat.lt_or_ge u i with hu' | hu'
      · have q := ht u (by omega)
        unfold tOK at q ⊢
        rw [Z (21 + 4 * u) (by omega) (by omega), Z (21 + 4 * u + 1) (by omega) (by omega), Z (21 + 4 * u + 2) (by omega) (by omega), Z (21 + 4 * u + 3) (by omega) (by omega)]
        refine ⟨?_, ⟨?_, ?_, ?_⟩, q.2.2⟩
        · show M7.1 3 u = _
          rw [x3, c1' u (by omega), lo 3 u (by omega)]; exact q.1
        · show M7.1 4 (3 * u) = _
          rw [x4, c2' _ (by omega), o1 4 _ (by omega), lo 4 _ (by omega)]; exact q.2.1.1
        · show M7.1 4 (3 * u + 1) = _
          rw [x4, c2' _ (by omega), o1 4 _ (by omega), lo 4 _ (by omega)]; exact q.2.1.2.1
        · show M7.1 4 (3 * u + 2) = _
          rw [x4, c2' _ (by omega), o1 4 _ (by omega), lo 4 _ (by omega)]; exact q.2.1.2.2
      · have q := ht (u + 1) (by omega)
        unfold tOK at q ⊢
        rw [Zs (21 + 4 * u) (by omega) (by omega), Zs (21 + 4 * u + 1) (by omega) (by omega), Zs (21 + 4 * u + 2) (by omega) (by omega), Zs (21 + 4 * u + 3) (by omega) (by omega), show 21 + 4 * u + 4 = 21 + 4 * (u + 1) by omega, show 21 + 4 * u + 1 + 4 = 21 + 4 * (u + 1) + 1 by omega, show 21 + 4 * u + 2 + 4 = 21 + 4 * (u + 1) + 2 by omega, show 21 + 4 * u + 3 + 4 = 21 + 4 * (u + 1) + 3 by omega]
        refine ⟨?_, ⟨?_, ?_, ?_⟩, q.2.2⟩
        · show M7.1 3 u = _
          rw [x3, b1' u (by omega) (by omega), lo 3 _ (by omega)]; exact q.1
        · show M7.1 4 (3 * u) = _
          rw [x4, b2' _ (by omega) (by omega), o1 4 _ (by omega), lo 4 _ (by omega)]; exact q.2.1.1
        · show M7.1 4 (3 * u + 1) = _
          rw [x4, b2' _ (by omega) (by omega), o1 4 _ (by omega), lo 4 _ (by omega), show 3 * u + 1 + 3 = 3 * (u + 1) + 1 by omega]; exact q.2.1.2.1
        · show M7.1 4 (3 * u + 2) = _
          rw [x4, b2' _ (by omega) (by omega), o1 4 _ (by omega), lo 4 _ (by omega), show 3 * u + 2 + 3 = 3 * (u + 1) + 2 by omega]; exact q.2.1.2.2
theorem m1_ne {l : Nat} (h : l < 100) : ¬ nI l = -1 := fun q => by
  have := congrArg Int32.toInt q
  rw [tin (by omega), show (-1 : Int32).toInt = -1 by decide] at this
  omega
theorem p_dropDirection {M : Mm} (h : R M) (w1 : Int32) : Ok2 (fun M => fX10_dropDirection M w1) (fun M => fX11_dropDirection M w1) M := by
  obtain ⟨n, t, d, e, k, hn, hsc, hb', ht, hd, hl⟩ := h.1
  have a3 : M.1 8 0 = nI d := hn.2.2.2.1.1
  have a4 : M.1 96 2 = nI d := hn.2.2.2.1.2
  have ld := hn.1.2.2.2.1
  rcases neg_or w1 with h1 | ⟨i, hi, rfl, h1⟩
  · have h0 : ¬ 0 ≤ w1 := fun q => (le0_iff w1).mp q h1
    exact .no h _ (by show fX10_dropDirection M _ = _; unfold fX10_dropDirection; rw [if_neg h0]) (by show fX11_dropDirection M _ = _; unfold fX11_dropDirection; rw [if_neg h0])
  have h0 : 0 ≤ nI i := (le0_iff _).mpr h1
  rcases Nat.lt_or_ge i d with hid | hid
  case inr =>
    exact .no h _ (by show fX10_dropDirection M _ = _; unfold fX10_dropDirection; rw [if_pos h0, a3, if_neg (nltn (t := d) hi (by omega) hid)]) (by show fX11_dropDirection M _ = _; unfold fX11_dropDirection; rw [if_pos h0, a4, if_neg (nltn (t := d) hi (by omega) hid)])
  have e4 : (61 : Int32) + 4 * nI i = nI (61 + 4 * i) := by rw [n4i]; exact nI_add 61 _
  refine Ok2.ch h (kx := fun M4 => b1 (fX1_remove M4 (nI i)) fun M6 => b1 (fX4_forgetDirection M6 (nI i)) fun M8 => some (M8.1 8 0, M8)) (km := fun M4 => bd (stI M4 96 2 ((M4.1 96 2) - 1)) fun M5 => bd (61 + (4 * nI i)) fun x6 => b1 (itr (fX11_dropDirection_L41) 1000 (x6, M5)) fun M15 => (if (M15.1 96 9) = nI i then bd (stI M15 96 9 (-1)) fun M20 => some (M20.1 96 2, M20) else (if (M15.1 96 9) ≤ nI i then bd (stI M15 96 9 (M15.1 96 9)) fun M18 => some (M18.1 96 2, M18) else bd (stI M15 96 9 ((M15.1 96 9) - 1)) fun M19 => some (M19.1 96 2, M19)))) (by
    show fX10_dropDirection M _ = _
    unfold fX10_dropDirection
    rw [if_pos h0, a3, if_pos (ltn hi (by omega) hid)]) (fun M1 e96 => by
    show fX11_dropDirection M1 _ = _
    unfold fX11_dropDirection
    rw [if_pos h0, e96, a4, if_pos (ltn hi (by omega) hid)]) (fun M1 lo => ?_)
  obtain ⟨M2, g2, b1', c1', o1⟩ := gapX M1 (a := 10) (n := 8) (w := 1) (i := i) (t := d) (by omega) hid (by omega) (by omega)
  obtain ⟨M3, g3, b2', c2', o2⟩ := gapX M2 (a := 9) (n := 24) (w := 3) (i := i) (t := d) (by omega) hid (by omega) (by omega)
  have s1 : nI d - 1 = nI (d - 1) := pk_sub (b := 1) (by omega)
  have l2 : M1.1 8 0 = nI d := (lo 8 0 (by omega)).trans a3
  have l3 : M2.1 8 0 = nI d := (o1 8 0 (by omega)).trans l2
  have l4 : M3.1 8 0 = nI d := (o2 8 0 (by omega)).trans l3
  -- the direction of the latest success, behind the drop
  obtain ⟨la, hla, hla2⟩ : ∃ la : Int32, (la = -1 ∨ ∃ l, l < d - 1 ∧ la = nI l) ∧ la = if M.1 96 9 = nI i then -1 else if M.1 96 9 ≤ nI i then M.1 96 9 else M.1 96 9 - 1 := by
    refine ⟨_, ?_, rfl⟩
    rcases hsc.2.2.2.2 with q | ⟨l, hl', q⟩
    · have q : M.1 96 9 = -1 := q
      have q1 : ¬ (-1 : Int32) = nI i := fun w => m1_ne (l := i) (by omega) w.symm
      have q2 : (-1 : Int32) ≤ nI i := by rw [Int32.le_iff_toInt_le, tin (by omega), show (-1 : Int32).toInt = -1 by decide]; omega
      rw [q, if_neg q1, if_pos q2]; exact Or.inl rfl
    · have q : M.1 96 9 = nI l := q
      rw [q]
      by_cases e1 : l = i
      · rw [if_pos (by rw [e1])]; exact Or.inl rfl
      · rw [if_neg (fun w => e1 ((neq (by omega) (by omega)).mp w))]
        rcases Nat.lt_or_ge l i with w | w
        · rw [if_pos ((nle (by omega) (by omega)).mpr (by omega))]; exact Or.inr ⟨l, by omega, rfl⟩
        · rw [if_neg (fun x => by have := (nle (by omega) (by omega)).mp x; omega), show nI l - 1 = nI (l - 1) from pk_sub (b := 1) (by omega)]; exact Or.inr ⟨l - 1, by omega, rfl⟩
  have s6 : M.1 11 5 = M.1 96 9 := hsc.1.2.2.2.2.2.1
  obtain ⟨M4, e5⟩ : ∃ M4, M4 = stI M3 8 0 (nI (d - 1)) := ⟨_, rfl⟩
  have r4 : ∀ c j, M4.1 c j = if c = 8 ∧ j = 0 then nI (d - 1) else M3.1 c j := fun c j => by rw [e5, stI_rd]
  have l115 : M4.1 11 5 = M.1 96 9 := by rw [r4, if_neg (by omega), o2 11 5 (by omega), o1 11 5 (by omega), lo 11 5 (by omega), s6]
  obtain ⟨M8, g8, r8⟩ : ∃ M8, fX4_forgetDirection M4 (nI i) = some M8 ∧ ∀ c j, M8.1 c j = if c = 11 ∧ j = 5 then la else M4.1 c j := by
    unfold fX4_forgetDirection
    rw [l115]
    by_cases e1 : M.1 96 9 = nI i
    · rw [if_pos e1] at hla2 ⊢
      refine bd_st fun M5 r5 _ => ⟨M5, rfl, fun c j => by rw [r5, hla2]⟩
    · rw [if_neg e1] at hla2 ⊢
      by_cases e2 : M.1 96 9 ≤ nI i
      · rw [if_pos e2] at hla2 ⊢
        refine ⟨M4, rfl, fun c j => ?_⟩
        by_cases q : c = 11 ∧ j = 5
        · rw [if_pos q, q.1, q.2, l115, hla2]
        · rw [if_neg q]
      · rw [if_neg e2] at hla2 ⊢
        refine bd_st fun M5 r5 _ => ⟨M5, rfl, fun c j => by rw [r5, hla2]⟩
  refine ⟨(nI (d - 1), M8), ?_, fun c j hc' _ => ?_, fun M5 e6 l5 => ?_⟩
  · unfold fX1_remove
    rw [if_neg h1, l2, if_pos (ltn hi (by omega) hid), show (1 : Int32) = nI 1 from rfl, g2, b1_s, l3, show (3 : Int32) = nI 3 from rfl, g3, b1_s, l4, show nI d - nI 1 = nI (d - 1) from s1, bd_s, ← e5, b1_s, g8, b1_s, r8, if_neg (by omega), r4, if_pos ⟨rfl, rfl⟩]
  · show M8.1 c j = _
    rw [r8, if_neg (by omega), r4, if_neg (by omega), o2 c j (by omega), o1 c j (by omega)]
  have e51 : M5.1 96 2 = nI d := (e6 2).trans a4
  obtain ⟨M7, g7, b7, c7, o7⟩ := shift_loop (body := fX11_dropDirection_L41) (M := stI M5 96 2 (nI (d - 1))) (a := 96) (s := 61 + 4 * i) (m := 4 * (d - 1 - i)) (w := 4) (by omega) (by omega) (fun u M' hu q1 q2 => by
    unfold fX11_dropDirection_L41 u2
    dsimp only
    have e1 : M'.1 96 2 = nI (d - 1) := by rw [q2 2 (by omega), stI_rd, if_pos ⟨rfl, rfl⟩]
    rw [e1, n4i, show (61 : Int32) + nI (4 * (d - 1)) = nI (61 + 4 * (d - 1)) from nI_add 61 _, if_neg (ngen (by omega) (by omega) (by omega)), show nI (61 + 4 * i + u) + 4 = nI (61 + 4 * i + u + 4) from nI_add _ 4, gd_t (inbn (by omega) (by omega)), gd_t (inbn (by omega) (by omega)), bd_s, bd_s, ixn (by omega), ixn (by omega), nI_1, Nat.add_assoc _ u 1]) (fun M' q1 q2 => by
    unfold fX11_dropDirection_L41 u2
    dsimp only
    have e1 : M'.1 96 2 = nI (d - 1) := by rw [q2 2 (by omega), stI_rd, if_pos ⟨rfl, rfl⟩]
    rw [e1, n4i, show (61 : Int32) + nI (4 * (d - 1)) = nI (61 + 4 * (d - 1)) from nI_add 61 _, if_pos (gen (by omega) (by omega) (by omega))])
  have m9 : M7.1 96 9 = M.1 96 9 := by rw [c7 9 (by omega), stI_rd, if_neg (by omega), e6]
  obtain ⟨M9, g9, r9⟩ : ∃ M9, (if (M7.1 96 9) = nI i then bd (stI M7 96 9 (-1)) fun M20 => some (M20.1 96 2, M20) else (if (M7.1 96 9) ≤ nI i then bd (stI M7 96 9 (M7.1 96 9)) fun M18 => some (M18.1 96 2, M18) else bd (stI M7 96 9 ((M7.1 96 9) - 1)) fun M19 => some (M19.1 96 2, M19))) = some (nI (d - 1), M9) ∧ ∀ c j, M9.1 c j = if c = 96 ∧ j = 9 then la else M7.1 c j := by
    have m2 : ∀ x : Int32, (stI M7 96 9 x).1 96 2 = nI (d - 1) := fun x => by rw [stI_rd, if_neg (by omega), c7 2 (by omega), stI_rd, if_pos ⟨rfl, rfl⟩]
    rw [m9]
    by_cases e1 : M.1 96 9 = nI i
    · rw [if_pos e1] at hla2 ⊢
      exact ⟨_, by rw [bd_s, m2], fun c j => by rw [stI_rd, hla2]⟩
    · rw [if_neg e1] at hla2 ⊢
      by_cases e2 : M.1 96 9 ≤ nI i
      · rw [if_pos e2] at hla2 ⊢
        exact ⟨_, by rw [bd_s, m2], fun c j => by rw [stI_rd, hla2]⟩
      · rw [if_neg e2] at hla2 ⊢
        exact ⟨_, by rw [bd_s, m2], fun c j => by rw [stI_rd, hla2]⟩
  refine ⟨(nI (d - 1), M9), ?_, fun c j hc' _ => ?_, ?_, rfl⟩
  · rw [e4, bd_s, bd_s, e51, s1, g7, b1_s]; exact g9
  · show M9.1 c j = _
    rw [r9, if_neg (by omega), o7 c j hc', stI_rd, if_neg (by omega)]
  · show SR (blk M9 1) (M9.1 96)
    have lowM : ∀ c j, c < 14 → M9.1 c j = M8.1 c j := fun c j q => by rw [r9, if_neg (by omega), o7 c j (by omega), stI_rd, if_neg (by omega)]; exact l5 c j q
    have S : ∀ c j, c < 14 → ¬ (c = 8 ∧ j = 0) → ¬ (c = 11 ∧ j = 5) → c ≠ 9 → c ≠ 10 → M9.1 c j = M.1 c j := fun c j q1 q2 q3 q4 q5 => by rw [lowM c j q1, r8, if_neg q3, r4, if_neg q2, o2 c j q4, o1 c j q5, lo c j q1]
    have Z : ∀ j, j ≠ 2 → j ≠ 9 → ¬ (61 + 4 * i ≤ j ∧ j < 61 + 4 * (d - 1)) → M9.1 96 j = M.1 96 j := fun j q1 q2 q3 => by rw [r9, if_neg (by omega), c7 j (by omega), stI_rd, if_neg (by omega), e6]
    have Zs : ∀ j, 61 + 4 * i ≤ j → j < 61 + 4 * (d - 1) → M9.1 96 j = M.1 96 (j + 4) := fun j q1 q2 => by rw [r9, if_neg (by omega), b7 j (by omega) (by omega), stI_rd, if_neg (by omega), e6]
    have x3 : ∀ j, M9.1 10 j = M2.1 10 j := fun j => by rw [lowM 10 j (by omega), r8, if_neg (by omega), r4, if_neg (by omega), o2 10 j (by omega)]
    have x4 : ∀ j, M9.1 9 j = M3.1 9 j := fun j => by rw [lowM 9 j (by omega), r8, if_neg (by omega), r4, if_neg (by omega)]
    have z9 : M9.1 96 9 = la := by rw [r9, if_pos ⟨rfl, rfl⟩]
    have x9 : M9.1 11 5 = la := by rw [lowM 11 5 (by omega), r8, if_pos ⟨rfl, rfl⟩]
    obtain ⟨q1', n1, n2, n3, n4, n5⟩ := hn
    obtain ⟨⟨t1, t2, t3, t4, t5, t6, t7⟩, t8, t9, t10, t11⟩ := hsc
    refine ⟨n, t, d - 1, e, k, ⟨⟨q1'.1, q1'.2.1, q1'.2.2.1, by omega, q1'.2.2.2.2⟩, ⟨(S 1 0 (by omega) (by omega) (by omega) (by omega) (by omega)).trans n1.1, (Z 0 (by omega) (by omega) (by omega)).trans n1.2⟩, ⟨(S 2 0 (by omega) (by omega) (by omega) (by omega) (by omega)).trans n2.1, (Z 1 (by omega) (by omega) (by omega)).trans n2.2⟩, ⟨?_, ?_⟩, ⟨(S 11 1 (by omega) (by omega) (by omega) (by omega) (by omega)).trans n4.1, (Z 3 (by omega) (by omega) (by omega)).trans n4.2⟩, ⟨(S 11 6 (by omega) (by omega) (by omega) (by omega) (by omega)).trans n5.1, (Z 10 (by omega) (by omega) (by omega)).trans n5.2⟩⟩, ⟨⟨?_, ?_, ?_, ?_, ?_, x9.trans z9.symm, ?_⟩, ?_, ?_, ?_, by rw [z9]; exact hla⟩, hb'.cong (fun v _ => ⟨S 6 v (by omega) (by omega) (by omega) (by omega) (by omega), S 7 v (by omega) (by omega) (by omega) (by omega) (by omega), S 12 v (by omega) (by omega) (by omega) (by omega) (by omega)⟩) (fun j _ _ => Z j (by omega) (by omega) (by omega)), ht.cong q1'.2.2.1 (fun i _ => S 3 i (by omega) (by omega) (by omega) (by omega) (by omega)) (fun i _ => S 4 i (by omega) (by omega) (by omega) (by omega) (by omega)) (fun j _ _ => Z j (by omega) (by omega) (by omega)), fun u hu => ?_, hl.cong q1'.2.2.2.2.2 (fun i _ => S 13 i (by omega) (by omega) (by omega) (by omega) (by omega)) (fun j _ _ => Z j (by omega) (by omega) (by omega))⟩
    · show M9.1 8 0 = _
      rw [lowM 8 0 (by omega), r8, if_neg (by omega), r4, if_pos ⟨rfl, rfl⟩]
    · rw [r9, if_neg (by omega), c7 2 (by omega), stI_rd, if_pos ⟨rfl, rfl⟩]
    · exact (S 1 1 (by omega) (by omega) (by omega) (by omega) (by omega)).trans (t1.trans (Z 4 (by omega) (by omega) (by omega)).symm)
    · exact (S 1 2 (by omega) (by omega) (by omega) (by omega) (by omega)).trans (t2.trans (Z 5 (by omega) (by omega) (by omega)).symm)
    · exact (S 11 2 (by omega) (by omega) (by omega) (by omega) (by omega)).trans (t3.trans (Z 6 (by omega) (by omega) (by omega)).symm)
    · exact (S 11 3 (by omega) (by omega) (by omega) (by omega) (by omega)).trans (t4.trans (Z 7 (by omega) (by omega) (by omega)).symm)
    · exact (S 11 4 (by omega) (by omega) (by omega) (by omega) (by omega)).trans (t5.trans (Z 8 (by omega) (by omega) (by omega)).symm)
    · exact (S 11 8 (by omega) (by omega) (by omega) (by omega) (by omega)).trans (t7.trans (Z 11 (by omega) (by omega) (by omega)).symm)
    · rw [Z 4 (by omega) (by omega) (by omega)]; exact t8
    · rw [Z 5 (by omega) (by omega) (by omega)]; exact t9
    · rw [Z 11 (by omega) (by omega) (by omega)]; exact t10
    · rcases Nat.lt_or_ge u i with hu' | hu'
      · have q := hd u (by omega)
        refine ⟨?_, ⟨?_, ?_, ?_⟩, q.2.2.cong (fun j h1 h2 => Z j (by omega) (by omega) (by omega))⟩
        · show M9.1 10 u = _
          rw [x3, c1' u (by omega), lo 10 u (by omega), Z _ (by omega) (by omega) (by omega)]; exact q.1
        · show M9.1 9 (3 * u) = _
          rw [x4, c2' _ (by omega), o1 9 _ (by omega), lo 9 _ (by omega), Z _ (by omega) (by omega) (by omega)]; exact q.2.1.1
        · show M9.1 9 (3 * u + 1) = _
          rw [x4, c2' _ (by omega), o1 9 _ (by omega), lo 9 _ (by omega), Z _ (by omega) (by omega) (by omega)]; exact q.2.1.2.1
        · show M9.1 9 (3 * u + 2) = _
          rw [x4, c2' _ (by omega), o1 9 _ (by omega), lo 9 _ (by omega), Z _ (by omega) (by omega) (by omega)]; exact q.2.1.2.2
      · have q := hd (u + 1) (by omega)
        refine ⟨?_, ⟨?_, ?_, ?_⟩, ?_⟩
        · show M9.1 10 u = _
          rw [x3, b1' u (by omega) (by omega), lo 10 _ (by omega), Zs _ (by omega) (by omega), show 61 + 4 * u + 3 + 4 = 61 + 4 * (u + 1) + 3 by omega]; exact q.1
        · show M9.1 9 (3 * u) = _
          rw [x4, b2' _ (by omega) (by omega), o1 9 _ (by omega), lo 9 _ (by omega), Zs _ (by omega) (by omega), show 61 + 4 * u + 4 = 61 + 4 * (u + 1) by omega]; exact q.2.1.1
        · show M9.1 9 (3 * u + 1) = _
          rw [x4, b2' _ (by omega) (by omega), o1 9 _ (by omega), lo 9 _ (by omega), Zs _ (by omega) (by omega), show 61 + 4 * u + 1 + 4 = 61 + 4 * (u + 1) + 1 by omega, show 3 * u + 1 + 3 = 3 * (u + 1) + 1 by omega]; exact q.2.1.2.1
        · show M9.1 9 (3 * u + 2) = _
          rw [x4, b2' _ (by omega) (by omega), o1 9 _ (by omega), lo 9 _ (by omega), Zs _ (by omega) (by omega), show 61 + 4 * u + 2 + 4 = 61 + 4 * (u + 1) + 2 by omega, show 3 * u + 2 + 3 = 3 * (u + 1) + 2 by omega]; exact q.2.1.2.2
        · have w := q.2.2
          unfold dOK at w ⊢
          rw [Zs (61 + 4 * u) (by omega) (by omega), Zs (61 + 4 * u + 1) (by omega) (by omega), Zs (61 + 4 * u + 2) (by omega) (by omega), show 61 + 4 * u + 4 = 61 + 4 * (u + 1) by omega, show 61 + 4 * u + 1 + 4 = 61 + 4 * (u + 1) + 1 by omega, show 61 + 4 * u + 2 + 4 = 61 + 4 * (u + 1) + 2 by omega]
          refine ⟨fun v hv => ?_, w.2⟩
          rw [Zs (61 + 4 * u + v) (by omega) (by omega), show 61 + 4 * u + v + 4 = 61 + 4 * (u + 1) + v by omega]
          exact w.1 v hv
