/-! ===== term ===== -/
theorem addT {M : Mm} {t : Nat} (h : M.1 2 0 = nI t) (lt : t < 10) (a b c d : Int32) : ∃ M', fX7_add_2 M a b c d = some M' ∧ ∀ c' j, M'.1 c' j = if c' = 2 ∧ j = 0 then nI (t + 1) else if c' = 4 ∧ j = 3 * t + 2 then d else if c' = 4 ∧ j = 3 * t + 1 then c else if c' = 4 ∧ j = 3 * t then b else if c' = 3 ∧ j = t then a else M.1 c' j := by
  unfold fX7_add_2
  rw [h, if_pos (show nI t < 10 from ltn (t := 10) (by omega) (by omega) lt), gd_t (inbn lt (by omega)), ixn (by omega)]
  refine bd_st fun M1 r1 _ => ?_
  have h1 : M1.1 2 0 = nI t := by rw [r1, if_neg (by omega), h]
  rw [h1, n3i, gd_t (inbn (by omega) (by omega)), ixn (by omega)]
  refine bd_st fun M2 r2 _ => ?_
  have h2 : M2.1 2 0 = nI t := by rw [r2, if_neg (by omega), h1]
  rw [h2, n3i, show nI (3 * t) + 1 = nI (3 * t + 1) from nI_add _ 1, gd_t (inbn (by omega) (by omega)), ixn (by omega)]
  refine bd_st fun M3 r3 _ => ?_
  have h3 : M3.1 2 0 = nI t := by rw [r3, if_neg (by omega), h2]
  rw [h3, n3i, show nI (3 * t) + 2 = nI (3 * t + 2) from nI_add _ 2, gd_t (inbn (by omega) (by omega)), ixn (by omega)]
  refine bd_st fun M4 r4 _ => ?_
  have h4 : M4.1 2 0 = nI t := by rw [r4, if_neg (by omega), h3]
  rw [h4, nI_1]
  refine bd_st fun M5 r5 _ => ⟨M5, rfl, fun c' j => ?_⟩
  rw [r5, r4, r3, r2, r1]
theorem putT {M : Mm} {t : Nat} (lt : t < 10) (a b c d : Int32) : ∃ M', fX11_putTerm M (nI t) a b c d = some M' ∧ ∀ c' j, M'.1 c' j = if c' = 96 ∧ j = 21 + 4 * t + 3 then d else if c' = 96 ∧ j = 21 + 4 * t + 2 then c else if c' = 96 ∧ j = 21 + 4 * t + 1 then b else if c' = 96 ∧ j = 21 + 4 * t then a else M.1 c' j := by
  unfold fX11_putTerm
  rw [n4i, show (21 : Int32) + nI (4 * t) = nI (21 + 4 * t) from nI_add 21 _, show nI (21 + 4 * t) + 1 = nI (21 + 4 * t + 1) from nI_add _ 1, show nI (21 + 4 * t) + 2 = nI (21 + 4 * t + 2) from nI_add _ 2, show nI (21 + 4 * t) + 3 = nI (21 + 4 * t + 3) from nI_add _ 3, ixn (by omega), ixn (by omega), ixn (by omega), ixn (by omega)]
  refine gd_x (inbn (by omega) (by omega)) (bd_st fun M1 r1 _ => gd_x (inbn (by omega) (by omega)) (bd_st fun M2 r2 _ => gd_x (inbn (by omega) (by omega)) (bd_st fun M3 r3 _ => gd_x (inbn (by omega) (by omega)) (bd_st fun M4 r4 _ => ⟨M4, rfl, fun c' j => by rw [r4, r3, r2, r1]⟩))))
theorem moreM (M : Mm) {w t : Nat} (hw : w < 111) (h : M.1 96 w = nI t) : fX11_oneMore M (nI w) = some (nI (t + 1), stI M 96 w (nI (t + 1))) := by
  unfold fX11_oneMore
  rw [gd_t (inbn hw (by omega)), ixn (by omega), h, nI_1, bd_s, stI_rd, if_pos ⟨rfl, rfl⟩]
abbrev goodT (w1 w2 w3 w4 : Int32) : Prop := rg (-99) 99 w1 ∧ ¬ w1 = 0 ∧ rg 0 4 w2 ∧ rg 0 4 w3 ∧ rg 0 4 w4
theorem termX (M : Mm) (w1 w2 w3 w4 : Int32) : fX10_term M w1 w2 w3 w4 = if goodT w1 w2 w3 w4 ∧ ofv (M.1 1 0) w3 w4 ∧ (w2 + w3) + w4 ≤ 4 then (if (M.1 2 0) < 10 then b1 (fX2_push M) fun M11 => b1 (fX7_add_2 M11 w1 w2 w3 w4) fun M13 => some (M13.1 2 0, M13) else some ((-1000003), M)) else some ((-1000001), M) := by
  unfold fX10_term
  rw [within_in, in_any, b1_s]
  by_cases h1 : rg (-99) 99 w1
  · rw [if_pos h1, i10]
    by_cases h2 : w1 = 0
    · rw [if_pos h2, if_neg (fun q => q.1.2.1 h2)]
    · rw [if_neg h2, fitX, b1_s]
      by_cases h3 : rg 0 4 w2 ∧ rg 0 4 w3 ∧ rg 0 4 w4 ∧ ofv (M.1 1 0) w3 w4
      · rw [if_pos h3, i10]
        by_cases h4 : (w2 + w3) + w4 ≤ 4
        · rw [if_pos h4, if_pos (show goodT w1 w2 w3 w4 ∧ ofv (M.1 1 0) w3 w4 ∧ (w2 + w3) + w4 ≤ 4 from ⟨⟨h1, h2, h3.1, h3.2.1, h3.2.2.1⟩, h3.2.2.2, h4⟩)]
        · rw [if_neg h4, if_neg (fun q => h4 q.2.2)]
      · rw [if_neg h3, i00, if_neg (fun q => h3 ⟨q.1.2.2.1, q.1.2.2.2.1, q.1.2.2.2.2, q.2.1⟩)]
  · rw [if_neg h1, i00, if_neg (fun q => h1 q.1.1)]
theorem termM (M : Mm) (w1 w2 w3 w4 : Int32) : fX11_term M w1 w2 w3 w4 = if goodT w1 w2 w3 w4 ∧ ofv (M.1 96 0) w3 w4 ∧ (w2 + w3) + w4 ≤ 4 then (b1 (fX11_termMany M) fun x12 => (if x12 = 10 then some ((-1000003), M) else b1 (fX11_record M) fun M15 => b1 (fX11_termMany M15) fun x17 => b1 (fX11_putTerm M15 x17 w1 w2 w3 w4) fun M19 => b2 (fX11_oneMore M19 1) fun x21 M22 => some (x21, M22))) else some ((-1000001), M) := by
  unfold fX11_term
  rw [in_any, b1_s]
  simp only [bd_s]
  have le_lt : ¬ 4 < (w2 + w3) + w4 ↔ (w2 + w3) + w4 ≤ 4 := by rw [Int32.lt_iff_toInt_lt, Int32.le_iff_toInt_le]; omega
  by_cases h1 : rg (-99) 99 w1
  · rw [if_pos h1, i10]
    by_cases h2 : w1 = 0
    · rw [if_pos h2, if_pos True.intro, if_neg (fun q => q.1.2.1 h2)]
    · rw [if_neg h2, in_any, b1_s]
      by_cases h3 : rg 0 4 w2
      · rw [if_pos h3, i10, in_any, b1_s]
        by_cases h4 : rg 0 4 w3
        · rw [if_pos h4, i10, in_any, b1_s]
          by_cases h5 : rg 0 4 w4
          · rw [if_pos h5, i10, i10]
            by_cases h6 : (w2 + w3) + w4 ≤ 4
            · rw [if_neg (le_lt.mpr h6), ofvM, b1_s]
              by_cases h7 : ofv (M.1 96 0) w3 w4
              · rw [if_pos h7, i10, if_pos (show goodT w1 w2 w3 w4 ∧ ofv (M.1 96 0) w3 w4 ∧ (w2 + w3) + w4 ≤ 4 from ⟨⟨h1, h2, h3, h4, h5⟩, h7, h6⟩)]
              · rw [if_neg h7, i00, if_neg (fun q => h7 q.2.1)]
            · rw [if_pos (Decidable.not_not.mp (fun q => h6 (le_lt.mp q))), if_neg (fun q => h6 q.2.2)]
          · rw [if_neg h5, i00, if_pos True.intro, if_neg (fun q => h5 q.1.2.2.2.2)]
        · rw [if_neg h4, i00, if_pos True.intro, if_neg (fun q => h4 q.1.2.2.2.1)]
      · rw [if_neg h3, i00, if_pos True.intro, if_neg (fun q => h3 q.1.2.2.1)]
  · rw [if_neg h1, i00, if_pos True.intro, if_neg (fun q => h1 q.1.1)]
theorem rg_n {N : Nat} {x c : Int32} (h : rg 0 c x) (hc : c.toInt = N) (hN : N < 2147483648) : ∃ p, p ≤ N ∧ x = nI p := by
  have z0 : (0 : Int32).toInt = 0 := rfl
  obtain ⟨p, h1, h2⟩ := nI_of (x := x) (by rw [Int32.lt_iff_toInt_lt]; omega)
  refine ⟨p, ?_, h2⟩
  have := h.2
  rw [h2, tin h1, hc] at this
  omega
theorem p_term {M : Mm} (h : R M) (w1 w2 w3 w4 : Int32) : Ok2 (fun M => fX10_term M w1 w2 w3 w4) (fun M => fX11_term M w1 w2 w3 w4) M := by
  obtain ⟨n, t, d, e, k, hn, hsc, hb', ht, hd, hl⟩ := h.1
  have a1 : M.1 1 0 = nI n := hn.2.1.1
  have a2 : M.1 96 0 = nI n := hn.2.1.2
  have a3 : M.1 2 0 = nI t := hn.2.2.1.1
  have a4 : M.1 96 1 = nI t := hn.2.2.1.2
  by_cases hc : goodT w1 w2 w3 w4 ∧ ofv (nI n) w3 w4 ∧ (w2 + w3) + w4 ≤ 4
  case neg =>
    exact .no h _ (by show fX10_term M _ _ _ _ = _; rw [termX, a1, if_neg hc]) (by show fX11_term M _ _ _ _ = _; rw [termM, a2, if_neg hc])
  rcases Nat.lt_or_ge 9 t with lt | lt
  · obtain rfl : t = 10 := by have := hn.1.2.2.1; omega
    exact .no h (-1000003) (by show fX10_term M _ _ _ _ = _; rw [termX, a1, if_pos hc, a3, if_neg (by decide)]) (by show fX11_term M _ _ _ _ = _; rw [termM, a2, if_pos hc]; unfold fX11_termMany; rw [a4, b1_s, if_pos (show nI 10 = 10 from rfl)])
  have lt : t < 10 := by omega
  refine Ok2.ch h (kx := fun M11 => b1 (fX7_add_2 M11 w1 w2 w3 w4) fun M13 => some (M13.1 2 0, M13)) (km := fun M15 => b1 (fX11_termMany M15) fun x17 => b1 (fX11_putTerm M15 x17 w1 w2 w3 w4) fun M19 => b2 (fX11_oneMore M19 1) fun x21 M22 => some (x21, M22)) (by show fX10_term M _ _ _ _ = _; rw [termX, a1, if_pos hc, a3, if_pos (show nI t < 10 from ltn (t := 10) (by omega) (by omega) lt)]) (fun M1 e96 => by
    show fX11_term M1 _ _ _ _ = _
    rw [termM, e96, a2, if_pos hc]
    unfold fX11_termMany
    rw [e96, a4, b1_s, if_neg (fun q => by have := (neq (a := t) (b := 10) (by omega) (by omega)).mp q; omega)]) (fun M1 lo => ?_)
  obtain ⟨M2, f2, r2⟩ := addT (M := M1) ((lo 2 0 (by omega)).trans a3) lt w1 w2 w3 w4
  refine ⟨(nI (t + 1), M2), by rw [f2, b1_s, r2, if_pos ⟨rfl, rfl⟩], fun c j hc' _ => ?_, fun M3 e3 l3 => ?_⟩
  · show M2.1 c j = _
    rw [r2, if_neg (by omega), if_neg (by omega), if_neg (by omega), if_neg (by omega), if_neg (by omega)]
  obtain ⟨M4, f4, r4⟩ := putT (M := M3) lt w1 w2 w3 w4
  have e41 : M4.1 96 1 = nI t := by rw [r4, if_neg (by omega), if_neg (by omega), if_neg (by omega), if_neg (by omega), e3, a4]
  obtain ⟨M5, e5⟩ : ∃ M5, M5 = stI M4 96 1 (nI (t + 1)) := ⟨_, rfl⟩
  have hm := moreM M4 (w := 1) (by omega) e41
  have r5 : ∀ c j, M5.1 c j = if c = 96 ∧ j = 1 then nI (t + 1) else if c = 96 ∧ j = 21 + 4 * t + 3 then w4 else if c = 96 ∧ j = 21 + 4 * t + 2 then w3 else if c = 96 ∧ j = 21 + 4 * t + 1 then w2 else if c = 96 ∧ j = 21 + 4 * t then w1 else M3.1 c j := fun c j => by rw [e5, stI_rd, r4]
  refine ⟨(nI (t + 1), M5), ?_, fun c j hc' _ => ?_, ?_, rfl⟩
  · show b1 (fX11_termMany M3) _ = _
    unfold fX11_termMany
    rw [e3, a4, b1_s, f4, b1_s, show (1 : Int32) = nI 1 from rfl, hm, b2_s, e5]
  · show M5.1 c j = _
    rw [r5, if_neg (by omega), if_neg (by omega), if_neg (by omega), if_neg (by omega), if_neg (by omega)]
  · show SR (blk M5 1) (M5.1 96)
    have lowM : ∀ c j, c < 14 → M5.1 c j = M2.1 c j := fun c j hc' => by rw [r5, if_neg (by omega), if_neg (by omega), if_neg (by omega), if_neg (by omega), if_neg (by omega)]; exact l3 c j hc'
    have S : ∀ c j, c < 14 → ¬ (c = 2 ∧ j = 0) → ¬ (c = 3 ∧ j = t) → ¬ (c = 4 ∧ 3 * t ≤ j ∧ j < 3 * t + 3) → M5.1 c j = M.1 c j := fun c j q1 q2 q3 q4 => by
      rw [lowM c j q1, r2, if_neg (by omega), if_neg (by omega), if_neg (by omega), if_neg (by omega), if_neg (by omega), lo c j q1]
    have Z : ∀ j, j ≠ 1 → ¬ (21 + 4 * t ≤ j ∧ j < 25 + 4 * t) → M5.1 96 j = M.1 96 j := fun j q1 q2 => by rw [r5, if_neg (by omega), if_neg (by omega), if_neg (by omega), if_neg (by omega), if_neg (by omega), e3]
    obtain ⟨q1', n1, n2, n3, n4, n5⟩ := hn
    obtain ⟨⟨⟨g1, g1'⟩, g2, g3, g4, g5⟩, -, g7⟩ := hc
    have t4 : (4 : Int32).toInt = (4 : Nat) := by decide
    obtain ⟨p, lp, rfl⟩ := rg_n g3 t4 (by omega)
    obtain ⟨q, lq, rfl⟩ := rg_n g4 t4 (by omega)
    obtain ⟨r, lr, rfl⟩ := rg_n g5 t4 (by omega)
    have sum : p + q + r ≤ 4 := by
      rw [nI_add, nI_add] at g7
      exact (nle (b := 4) (by omega) (by omega)).mp g7
    refine ⟨n, t + 1, d, e, k, ⟨⟨q1'.1, q1'.2.1, by omega, q1'.2.2.2⟩, ⟨(S 1 0 (by omega) (by omega) (by omega) (by omega)).trans n1.1, (Z 0 (by omega) (by omega)).trans n1.2⟩, ⟨?_, ?_⟩, ⟨(S 8 0 (by omega) (by omega) (by omega) (by omega)).trans n3.1, (Z 2 (by omega) (by omega)).trans n3.2⟩, ⟨(S 11 1 (by omega) (by omega) (by omega) (by omega)).trans n4.1, (Z 3 (by omega) (by omega)).trans n4.2⟩, ⟨(S 11 6 (by omega) (by omega) (by omega) (by omega)).trans n5.1, (Z 10 (by omega) (by omega)).trans n5.2⟩⟩, hsc.cong (S 1 1 (by omega) (by omega) (by omega) (by omega)) (S 1 2 (by omega) (by omega) (by omega) (by omega)) (fun j _ => S 11 j (by omega) (by omega) (by omega) (by omega)) (fun j _ _ _ => Z j (by omega) (by omega)), hb'.cong (fun v _ => ⟨S 6 v (by omega) (by omega) (by omega) (by omega), S 7 v (by omega) (by omega) (by omega) (by omega), S 12 v (by omega) (by omega) (by omega) (by omega)⟩) (fun j _ _ => Z j (by omega) (by omega)), fun i hi => ?_, hd.cong q1'.2.2.2.1 (fun i _ => S 10 i (by omega) (by omega) (by omega) (by omega)) (fun i _ => S 9 i (by omega) (by omega) (by omega) (by omega)) (fun j _ _ => Z j (by omega) (by omega)), hl.cong q1'.2.2.2.2.2 (fun i _ => S 13 i (by omega) (by omega) (by omega) (by omega)) (fun j _ _ => Z j (by omega) (by omega))⟩
    · show M5.1 2 0 = _
      rw [lowM 2 0 (by omega), r2, if_pos ⟨rfl, rfl⟩]
    · rw [r5, if_pos ⟨rfl, rfl⟩]
    · rcases Nat.lt_or_ge i t with hi' | hi'
      · have q := ht i hi'
        unfold tOK at q ⊢
        rw [Z (21 + 4 * i) (by omega) (by omega), Z (21 + 4 * i + 1) (by omega) (by omega), Z (21 + 4 * i + 2) (by omega) (by omega), Z (21 + 4 * i + 3) (by omega) (by omega)]
        refine ⟨?_, ⟨?_, ?_, ?_⟩, q.2.2⟩
        · show M5.1 3 i = _
          rw [S 3 i (by omega) (by omega) (by omega) (by omega)]; exact q.1
        · show M5.1 4 (3 * i) = _
          rw [S 4 _ (by omega) (by omega) (by omega) (by omega)]; exact q.2.1.1
        · show M5.1 4 (3 * i + 1) = _
          rw [S 4 _ (by omega) (by omega) (by omega) (by omega)]; exact q.2.1.2.1
        · show M5.1 4 (3 * i + 2) = _
          rw [S 4 _ (by omega) (by omega) (by omega) (by omega)]; exact q.2.1.2.2
      · obtain rfl : i = t := by omega
        have z0 : M5.1 96 (21 + 4 * i) = w1 := by rw [r5, if_neg (by omega), if_neg (by omega), if_neg (by omega), if_neg (by omega), if_pos ⟨rfl, rfl⟩]
        have z1 : M5.1 96 (21 + 4 * i + 1) = nI p := by rw [r5, if_neg (by omega), if_neg (by omega), if_neg (by omega), if_pos ⟨rfl, rfl⟩]
        have z2 : M5.1 96 (21 + 4 * i + 2) = nI q := by rw [r5, if_neg (by omega), if_neg (by omega), if_pos ⟨rfl, rfl⟩]
        have z3 : M5.1 96 (21 + 4 * i + 3) = nI r := by rw [r5, if_neg (by omega), if_pos ⟨rfl, rfl⟩]
        unfold tOK
        rw [z0, z1, z2, z3]
        have m99 : (-99 : Int32).toInt = -99 := by decide
        have p99 : (99 : Int32).toInt = 99 := by decide
        refine ⟨?_, ⟨?_, ?_, ?_⟩, ⟨by omega, by omega⟩, p, q, r, sum, rfl, rfl, rfl⟩
        · show M5.1 3 i = _
          rw [lowM 3 i (by omega), r2, if_neg (by omega), if_neg (by omega), if_neg (by omega), if_neg (by omega), if_pos ⟨rfl, rfl⟩]
        · show M5.1 4 (3 * i) = _
          rw [lowM 4 _ (by omega), r2, if_neg (by omega), if_neg (by omega), if_neg (by omega), if_pos ⟨rfl, rfl⟩]
        · show M5.1 4 (3 * i + 1) = _
          rw [lowM 4 _ (by omega), r2, if_neg (by omega), if_neg (by omega), if_pos ⟨rfl, rfl⟩]
        · show M5.1 4 (3 * i + 2) = _
          rw [lowM 4 _ (by omega), r2, if_neg (by omega), if_pos ⟨rfl, rfl⟩]
