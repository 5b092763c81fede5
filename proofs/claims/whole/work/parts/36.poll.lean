/-! ===== one poll, on both sides ===== -/
theorem hf : ∀ e, e < 5 → (if nI (2 ^ e) / 2 < 1 then (1 : Int32) else nI (2 ^ e) / 2) = nI (2 ^ (e - 1)) := by decide +kernel
theorem db : ∀ e, e < 5 → (if 16 < 2 * nI (2 ^ e) then (16 : Int32) else 2 * nI (2 ^ e)) = nI (2 ^ (min (e + 1) 4)) := by decide +kernel
theorem lf : ∀ k, k < 7 → (if 6 < nI k + 1 then (6 : Int32) else nI k + 1) = nI (min (k + 1) 6) := by decide +kernel
theorem sz1 : ∀ e, e < 5 → (nI (2 ^ e) = 1 ↔ e = 0) := by decide +kernel
theorem trial_cong {M M' : Mm} (h1 : ∀ j, M'.1 12 j = M.1 12 j) (h2 : ∀ j, M'.1 9 j = M.1 9 j) (a b c : Int32) : fX6_trialNumber M' a b c = fX6_trialNumber M a b c := by
  unfold fX6_trialNumber
  rw [h1, h2]
theorem succeedX {M : Mm} {k e : Nat} (h6 : M.1 11 6 = nI k) (h1 : M.1 11 1 = nI (2 ^ e)) (hk : k ≤ 6) (he : e ≤ 4) (w a b c : Int32) : ∃ M', fX4_succeed M w a b c = some M' ∧ (M'.1 11 1 = nI (2 ^ (min (e + 1) 4)) ∧ M'.1 11 2 = M.1 11 2 ∧ M'.1 11 3 = M.1 11 3 + 1 ∧ M'.1 11 4 = M.1 11 4 ∧ M'.1 11 5 = w ∧ M'.1 11 6 = nI (min (k + 1) 6) ∧ M'.1 11 8 = 0) ∧ (M'.1 12 0 = a ∧ M'.1 12 1 = b ∧ M'.1 12 2 = c) ∧ (∀ j, j < 3 → M'.1 13 j = M.1 12 j) ∧ (∀ j, 3 ≤ j → j < 18 → M'.1 13 j = M.1 13 (j - 3)) ∧ ∀ c' j, c' ≠ 11 → c' ≠ 12 → c' ≠ 13 → M'.1 c' j = M.1 c' j := by
  refine bd_cp fun M1 r1 _ => bd_cp fun M2 r2 _ => ?_
  have e26 : M2.1 11 6 = nI k := by rw [r2, if_neg (by omega), r1, if_neg (by omega), h6]
  rw [e26, lf k (by omega)]
  refine bd_st fun M3 r3 _ => ?_
  refine b1_x (P := fun v => ∀ c' j, v.1 c' j = if c' = 12 ∧ j = 2 then c else if c' = 12 ∧ j = 1 then b else if c' = 12 ∧ j = 0 then a else M3.1 c' j) (bd_st fun M4 r4 _ => bd_st fun M5 r5 _ => bd_st fun M6 r6 _ => ⟨M6, rfl, fun c j => by rw [r6, r5, r4]⟩) (fun M6 r6 => ?_)
  have e61 : M6.1 11 1 = nI (2 ^ e) := by rw [r6, if_neg (by omega), if_neg (by omega), if_neg (by omega), r3, if_neg (by omega), r2, if_neg (by omega), r1, if_neg (by omega), h1]
  rw [e61, db e (by omega)]
  refine bd_st fun M7 r7 _ => bd_st fun M8 r8 _ => bd_st fun M9 r9 _ => bd_st fun M10 r10 _ => ⟨M10, rfl, ?_⟩
  have r : ∀ c' j, M10.1 c' j = if c' = 11 ∧ j = 8 then 0 else if c' = 11 ∧ j = 5 then w else if c' = 11 ∧ j = 3 then M7.1 11 3 + 1 else if c' = 11 ∧ j = 1 then nI (2 ^ (min (e + 1) 4)) else M6.1 c' j := fun c' j => by rw [r10, r9, r8, r7 c' j]
  have e11 : ∀ j, j ≠ 6 → M6.1 11 j = M.1 11 j := fun j w => by rw [r6, if_neg (by omega), if_neg (by omega), if_neg (by omega), r3, if_neg (by omega), r2, if_neg (by omega), r1, if_neg (by omega)]
  have e73 : M7.1 11 3 = M.1 11 3 := by rw [r7, if_neg (by omega), e11 3 (by omega)]
  refine ⟨⟨?_, ?_, ?_, ?_, ?_, ?_, ?_⟩, ⟨?_, ?_, ?_⟩, fun j hj => ?_, fun j w1 w2 => ?_, fun c' j w1 w2 w3 => ?_⟩
  · rw [r, if_neg (by omega), if_neg (by omega), if_neg (by omega), if_pos ⟨rfl, rfl⟩]
  · rw [r, if_neg (by omega), if_neg (by omega), if_neg (by omega), if_neg (by omega), e11 2 (by omega)]
  · rw [r, if_neg (by omega), if_neg (by omega), if_pos ⟨rfl, rfl⟩, e73]
  · rw [r, if_neg (by omega), if_neg (by omega), if_neg (by omega), if_neg (by omega), e11 4 (by omega)]
  · rw [r, if_neg (by omega), if_pos ⟨rfl, rfl⟩]
  · rw [r, if_neg (by omega), if_neg (by omega), if_neg (by omega), if_neg (by omega), r6, if_neg (by omega), if_neg (by omega), if_neg (by omega), r3, if_pos ⟨rfl, rfl⟩]
  · rw [r, if_pos ⟨rfl, rfl⟩]
  · rw [r, if_neg (by omega), if_neg (by omega), if_neg (by omega), if_neg (by omega), r6, if_neg (by omega), if_neg (by omega), if_pos ⟨rfl, rfl⟩]
  · rw [r, if_neg (by omega), if_neg (by omega), if_neg (by omega), if_neg (by omega), r6, if_neg (by omega), if_pos ⟨rfl, rfl⟩]
  · rw [r, if_neg (by omega), if_neg (by omega), if_neg (by omega), if_neg (by omega), r6, if_pos ⟨rfl, rfl⟩]
  · rw [r, if_neg (by omega), if_neg (by omega), if_neg (by omega), if_neg (by omega), r6, if_neg (by omega), if_neg (by omega), if_neg (by omega), r3, if_neg (by omega), r2, if_pos (by omega), r1, if_neg (by omega)]; exact congrArg _ (by omega)
  · rw [r, if_neg (by omega), if_neg (by omega), if_neg (by omega), if_neg (by omega), r6, if_neg (by omega), if_neg (by omega), if_neg (by omega), r3, if_neg (by omega), r2, if_neg (by omega), r1, if_pos (by omega)]; exact congrArg _ (by omega)
  · rw [r, if_neg (by omega), if_neg (by omega), if_neg (by omega), if_neg (by omega), r6, if_neg (by omega), if_neg (by omega), if_neg (by omega), r3, if_neg (by omega), r2, if_neg (by omega), r1, if_neg (by omega)]
theorem leaveM {M : Mm} {k : Nat} (h : M.1 96 10 = nI k) (hk : k ≤ 6) : ∃ M', fX11_leave M = some M' ∧ M'.1 96 10 = nI (min (k + 1) 6) ∧ (∀ j, j < 3 → M'.1 96 (93 + j) = M.1 96 (18 + j)) ∧ (∀ j, 3 ≤ j → j < 18 → M'.1 96 (93 + j) = M.1 96 (93 + (j - 3))) ∧ ∀ c j, ¬ (c = 96 ∧ (j = 10 ∨ (93 ≤ j ∧ j < 111))) → M'.1 c j = M.1 c j := by
  obtain ⟨M1, f1, a1, a2⟩ := itr_0 (body := fX11_leave_L3) (s := ((17 : Int32), M)) (fun u q => q.1 = nI (17 - u) ∧ u ≤ 15 ∧ (∀ j, 17 - u < j → j ≤ 17 → q.2.1 96 (93 + j) = M.1 96 (93 + (j - 3))) ∧ ∀ c j, ¬ (c = 96 ∧ 93 + (17 - u) < j ∧ j ≤ 110) → q.2.1 c j = M.1 c j) (fun M' => (∀ j, 3 ≤ j → j ≤ 17 → M'.1 96 (93 + j) = M.1 96 (93 + (j - 3))) ∧ ∀ c j, ¬ (c = 96 ∧ 96 ≤ j ∧ j ≤ 110) → M'.1 c j = M.1 c j) 15 (by omega) ⟨rfl, by omega, fun j h1 h2 => by omega, fun _ _ _ => rfl⟩ (by
    rintro u ⟨x, M'⟩ hu ⟨rfl, q1, q2, q3⟩
    rcases Nat.lt_or_ge u 15 with hl | hl
    · left
      refine ⟨(nI (17 - (u + 1)), stI M' 96 (93 + (17 - u)) (M'.1 96 (93 + (17 - u) - 3))), ?_, hl, rfl, by omega, fun j w1 w2 => ?_, fun c j w => ?_⟩
      · unfold fX11_leave_L3 u2
        dsimp only
        rw [if_neg (show ¬ nI (17 - u) < 3 from nltn (t := 3) (by omega) (by omega) (by omega)), show (93 : Int32) + nI (17 - u) = nI (93 + (17 - u)) from nI_add 93 _, show nI (93 + (17 - u)) - 3 = nI (93 + (17 - u) - 3) from pk_sub (b := 3) (by omega), gd_t (inbn (by omega) (by omega)), gd_t (inbn (by omega) (by omega)), ixn (by omega), ixn (by omega), bd_s, dec1 (by omega), bd_s]
        rfl
      · show (stI M' 96 (93 + (17 - u)) (M'.1 96 (93 + (17 - u) - 3))).1 96 (93 + j) = _
        rw [stI_rd]
        by_cases e : j = 17 - u
        · rw [if_pos (by omega), show M'.1 96 (93 + (17 - u) - 3) = M.1 96 (93 + (17 - u) - 3) from q3 _ _ (by omega)]; exact congrArg _ (by omega)
        · rw [if_neg (by omega)]; exact q2 j (by omega) w2
      · show (stI M' 96 (93 + (17 - u)) (M'.1 96 (93 + (17 - u) - 3))).1 c j = _
        rw [stI_rd, if_neg (by omega)]; exact q3 c j (by omega)
    · right
      obtain rfl : u = 15 := by omega
      refine ⟨M', ?_, fun j w1 w2 => q2 j (by omega) w2, fun c j w => q3 c j (by omega)⟩
      unfold fX11_leave_L3 u2
      dsimp only
      rw [if_pos (show nI (17 - 15) < 3 by decide)])
  obtain ⟨M2, f2, b1', b2'⟩ := itr_0 (body := fX11_leave_L36) (s := ((0 : Int32), M1)) (fun u q => q.1 = nI u ∧ (∀ j, j < u → q.2.1 96 (93 + j) = M.1 96 (18 + j)) ∧ ∀ c j, ¬ (c = 96 ∧ 93 ≤ j ∧ j < 96) → q.2.1 c j = M1.1 c j) (fun M' => (∀ j, j < 3 → M'.1 96 (93 + j) = M.1 96 (18 + j)) ∧ ∀ c j, ¬ (c = 96 ∧ 93 ≤ j ∧ j < 96) → M'.1 c j = M1.1 c j) 3 (by omega) ⟨rfl, fun j w => absurd w (by omega), fun _ _ _ => rfl⟩ (by
    rintro u ⟨x, M'⟩ hu ⟨rfl, q1, q2⟩
    rcases Nat.lt_or_ge u 3 with hl | hl
    · left
      refine ⟨(nI (u + 1), stI M' 96 (93 + u) (M'.1 96 (18 + u))), ?_, hl, rfl, fun j w => ?_, fun c j w => ?_⟩
      · unfold fX11_leave_L36 u2
        dsimp only
        rw [if_neg (show ¬ 3 ≤ nI u from ngen (t := 3) (by omega) (by omega) hl), show (18 : Int32) + nI u = nI (18 + u) from nI_add 18 _, show (93 : Int32) + nI u = nI (93 + u) from nI_add 93 _, gd_t (inbn (by omega) (by omega)), gd_t (inbn (by omega) (by omega)), ixn (by omega), ixn (by omega), bd_s, nI_1, bd_s]
      · show (stI M' 96 (93 + u) (M'.1 96 (18 + u))).1 96 (93 + j) = _
        rw [stI_rd]
        by_cases e : j = u
        · rw [if_pos (by omega), e, show M'.1 96 (18 + u) = M1.1 96 (18 + u) from q2 _ _ (by omega), a2 _ _ (by omega)]
        · rw [if_neg (by omega)]; exact q1 j (by omega)
      · show (stI M' 96 (93 + u) (M'.1 96 (18 + u))).1 c j = _
        rw [stI_rd, if_neg (by omega)]; exact q2 c j w
    · right
      obtain rfl : u = 3 := by omega
      refine ⟨M', ?_, q1, q2⟩
      unfold fX11_leave_L36 u2
      dsimp only
      rw [if_pos (show (3 : Int32) ≤ nI 3 by decide)])
  have e10 : M2.1 96 10 = nI k := by rw [b2' _ _ (by omega), a2 _ _ (by omega), h]
  obtain ⟨M3, f3, r3⟩ : ∃ M3, (if 6 ≤ (M2.1 96 10) then bd (stI M2 96 10 ((M2.1 96 10) + 0)) fun M20 => some M20 else bd (stI M2 96 10 ((M2.1 96 10) + 1)) fun M21 => some M21) = some M3 ∧ ∀ c j, M3.1 c j = if c = 96 ∧ j = 10 then nI (min (k + 1) 6) else M2.1 c j := by
    rw [e10]
    rcases Nat.lt_or_ge k 6 with w | w
    · rw [if_neg (show ¬ 6 ≤ nI k from ngen (t := 6) (by omega) (by omega) w), nI_1, show min (k + 1) 6 = k + 1 by omega]
      exact bd_st fun M' r _ => ⟨M', rfl, r⟩
    · rw [if_pos (show 6 ≤ nI k from gen (t := 6) (by omega) (by omega) w), Int32.add_zero, show min (k + 1) 6 = k by omega]
      exact bd_st fun M' r _ => ⟨M', rfl, r⟩
  refine ⟨M3, by unfold fX11_leave; rw [f1, b1_s, f2, b1_s]; exact f3, by rw [r3, if_pos ⟨rfl, rfl⟩], fun j w => by rw [r3, if_neg (by omega), b1' j w], fun j w1 w2 => by rw [r3, if_neg (by omega), b2' _ _ (by omega), a1 j w1 (by omega)], fun c j w => by rw [r3, if_neg (by omega), b2' _ _ (by omega), a2 _ _ (by omega)]⟩
theorem putM {M : Mm} (a b c : Int32) : ∃ M', fX11_putPlace M a b c = some M' ∧ ∀ c' j, M'.1 c' j = if c' = 96 ∧ j = 20 then c else if c' = 96 ∧ j = 19 then b else if c' = 96 ∧ j = 18 then a else M.1 c' j := ⟨stI (stI (stI M 96 18 a) 96 19 b) 96 20 c, rfl, fun c' j => by rw [stI_rd, stI_rd, stI_rd]⟩
theorem takeM {M : Mm} {k e i : Nat} (hk : M.1 96 10 = nI k) (lk : k ≤ 6) (he : M.1 96 3 = nI e) (le : e ≤ 4) (hi : i < 8) {s : Nat} : ∃ M', fX11_take M (nI i) (nI (2 ^ s)) = some M' ∧ (M'.1 96 3 = nI (min (e + 1) 4) ∧ M'.1 96 7 = M.1 96 7 + 1 ∧ M'.1 96 9 = nI i ∧ M'.1 96 10 = nI (min (k + 1) 6)) ∧ (M'.1 96 18 = trz (M.1 96) s i 0 ∧ M'.1 96 19 = trz (M.1 96) s i 1 ∧ M'.1 96 20 = trz (M.1 96) s i 2) ∧ M'.1 96 (61 + 4 * i + 3) = M.1 96 (61 + 4 * i + 3) + 1 ∧ (∀ j, j < 3 → M'.1 96 (93 + j) = M.1 96 (18 + j)) ∧ (∀ j, 3 ≤ j → j < 18 → M'.1 96 (93 + j) = M.1 96 (93 + (j - 3))) ∧ (∀ j, j ≠ 3 → j ≠ 7 → j ≠ 9 → j ≠ 10 → ¬ (18 ≤ j ∧ j < 21) → j ≠ 61 + 4 * i + 3 → j < 93 → M'.1 96 j = M.1 96 j) ∧ ∀ c j, c ≠ 96 → M'.1 c j = M.1 c j := by
  obtain ⟨M1, f1, a1, a2, a3, a4⟩ := leaveM hk lk
  have tc : ∀ v, v < 3 → trz (M1.1 96) s i v = trz (M.1 96) s i v := fun v hv => by
    unfold trz
    rw [a4 96 _ (by omega), a4 96 _ (by omega)]
  have t0 : fX11_trialAt M1 (nI i) 0 (nI (2 ^ s)) = _ := trialM s hi (v := 0) (by omega)
  have t1 : fX11_trialAt M1 (nI i) 1 (nI (2 ^ s)) = _ := trialM s hi (v := 1) (by omega)
  have t2 : fX11_trialAt M1 (nI i) 2 (nI (2 ^ s)) = _ := trialM s hi (v := 2) (by omega)
  obtain ⟨M2, f2, r2⟩ := putM (M := M1) (trz (M.1 96) s i 0) (trz (M.1 96) s i 1) (trz (M.1 96) s i 2)
  unfold fX11_take
  rw [f1, b1_s, t0, tc 0 (by omega), b1_s, t1, tc 1 (by omega), b1_s, t2, tc 2 (by omega), b1_s, f2, b1_s]
  have e3 : M2.1 96 3 = nI e := by rw [r2, if_neg (by omega), if_neg (by omega), if_neg (by omega), a4 _ _ (by omega), he]
  have fin : ∀ x : Int32, nI e + x = nI (min (e + 1) 4) → ∃ M', (bd (stI M2 96 3 ((M2.1 96 3) + x)) fun M14 => bd (stI M14 96 7 ((M14.1 96 7) + 1)) fun M15 => bd (stI M15 96 9 (nI i)) fun M16 => gd (inb ((61 + (4 * nI i)) + 3) 111) <| bd (stI M16 96 (ix ((61 + (4 * nI i)) + 3)) ((M16.1 96 (ix ((61 + (4 * nI i)) + 3))) + 1)) fun M18 => some M18) = some M' ∧ (∀ c j, M'.1 c j = if c = 96 ∧ j = 61 + 4 * i + 3 then M2.1 96 (61 + 4 * i + 3) + 1 else if c = 96 ∧ j = 9 then nI i else if c = 96 ∧ j = 7 then M2.1 96 7 + 1 else if c = 96 ∧ j = 3 then nI (min (e + 1) 4) else M2.1 c j) := by
    intro x hx
    rw [e3, hx, n4i, show (61 : Int32) + nI (4 * i) = nI (61 + 4 * i) from nI_add 61 _, show nI (61 + 4 * i) + 3 = nI (61 + 4 * i + 3) from nI_add _ 3]
    refine bd_st fun M3 r3 _ => bd_st fun M4 r4 _ => bd_st fun M5 r5 _ => gd_x (inbn (by omega) (by omega)) ?_
    rw [ixn (by omega)]
    refine bd_st fun M6 r6 _ => ⟨M6, rfl, fun c j => ?_⟩
    rw [r6, show M5.1 96 (61 + 4 * i + 3) = M2.1 96 (61 + 4 * i + 3) by rw [r5, if_neg (by omega), r4, if_neg (by omega), r3, if_neg (by omega)], r5, r4, show M3.1 96 7 = M2.1 96 7 by rw [r3, if_neg (by omega)], r3]
  obtain ⟨M6, f6, r6⟩ : ∃ M', (bd (fun (x13 : Int32) => bd (stI M2 96 3 ((M2.1 96 3) + x13)) fun M14 => bd (stI M14 96 7 ((M14.1 96 7) + 1)) fun M15 => bd (stI M15 96 9 (nI i)) fun M16 => gd (inb ((61 + (4 * nI i)) + 3) 111) <| bd (stI M16 96 (ix ((61 + (4 * nI i)) + 3)) ((M16.1 96 (ix ((61 + (4 * nI i)) + 3))) + 1)) fun M18 => some M18) fun k11 => (if 4 ≤ (M2.1 96 3) then k11 0 else k11 1)) = some M' ∧ (∀ c j, M'.1 c j = if c = 96 ∧ j = 61 + 4 * i + 3 then M2.1 96 (61 + 4 * i + 3) + 1 else if c = 96 ∧ j = 9 then nI i else if c = 96 ∧ j = 7 then M2.1 96 7 + 1 else if c = 96 ∧ j = 3 then nI (min (e + 1) 4) else M2.1 c j) := by
    rw [bd_s]
    by_cases w : (4 : Int32) ≤ M2.1 96 3
    · rw [if_pos w]
      have : 4 ≤ e := (nle (a := 4) (by omega) (by omega)).mp (by rw [e3] at w; exact w)
      exact fin 0 (by rw [Int32.add_zero]; exact congrArg nI (by omega))
    · rw [if_neg w]
      have : ¬ 4 ≤ e := fun q => w (by rw [e3]; exact (nle (a := 4) (by omega) (by omega)).mpr q)
      exact fin 1 (by rw [nI_1]; exact congrArg nI (by omega))
  have e2 : ∀ j, ¬ (18 ≤ j ∧ j < 21) → M2.1 96 j = M1.1 96 j := fun j w => by rw [r2, if_neg (by omega), if_neg (by omega), if_neg (by omega)]
  refine ⟨M6, f6, ⟨?_, ?_, ?_, ?_⟩, ⟨?_, ?_, ?_⟩, ?_, fun j w => ?_, fun j w1 w2 => ?_, fun j w1 w2 w3 w4 w5 w6 w7 => ?_, fun c j w => ?_⟩
  · rw [r6, if_neg (by omega), if_neg (by omega), if_neg (by omega), if_pos ⟨rfl, rfl⟩]
  · rw [r6, if_neg (by omega), if_neg (by omega), if_pos ⟨rfl, rfl⟩, e2 7 (by omega), a4 _ _ (by omega)]
  · rw [r6, if_neg (by omega), if_pos ⟨rfl, rfl⟩]
  · rw [r6, if_neg (by omega), if_neg (by omega), if_neg (by omega), if_neg (by omega), e2 10 (by omega), a1]
  · rw [r6, if_neg (by omega), if_neg (by omega), if_neg (by omega), if_neg (by omega), r2, if_neg (by omega), if_neg (by omega), if_pos ⟨rfl, rfl⟩]
  · rw [r6, if_neg (by omega), if_neg (by omega), if_neg (by omega), if_neg (by omega), r2, if_neg (by omega), if_pos ⟨rfl, rfl⟩]
  · rw [r6, if_neg (by omega), if_neg (by omega), if_neg (by omega), if_neg (by omega), r2, if_pos ⟨rfl, rfl⟩]
  · rw [r6, if_pos ⟨rfl, rfl⟩, e2 _ (by omega), a4 _ _ (by omega)]
  · rw [r6, if_neg (by omega), if_neg (by omega), if_neg (by omega), if_neg (by omega), e2 _ (by omega), a2 j w]
  · rw [r6, if_neg (by omega), if_neg (by omega), if_neg (by omega), if_neg (by omega), e2 _ (by omega), a3 j w1 w2]
  · rw [r6, if_neg (by omega), if_neg (by omega), if_neg (by omega), if_neg (by omega), e2 _ (by omega), a4 _ _ (by omega)]
  · rw [r6, if_neg (by omega), if_neg (by omega), if_neg (by omega), if_neg (by omega), r2, if_neg (by omega), if_neg (by omega), if_neg (by omega), a4 _ _ (by omega)]
