/-! ===== start, term, direction ===== -/
theorem fill_loop {body : Int32 × Mm → Option ((Int32 × Mm) ⊕ Mm)} {M : Mm} {d n : Nat} {v : Int32} {f : Nat → Nat} (hn : n < 1000)
    (h : ∀ i M', i < n → (∀ c j, c ≠ d → M'.1 c j = M.1 c j) → body (nI i, M') = some (.inl (nI (i + 1), stI M' d (f i) v))) (he : ∀ M', (∀ c j, c ≠ d → M'.1 c j = M.1 c j) → body (nI n, M') = some (.inr M')) :
    ∃ M', itr body 1000 (0, M) = some M' ∧ (∀ i, i < n → M'.1 d (f i) = v) ∧ ∀ c j, (c ≠ d ∨ ∀ i, i < n → j ≠ f i) → M'.1 c j = M.1 c j := by
  refine itr_0 (fun i q => q.1 = nI i ∧ (∀ u, u < i → q.2.1 d (f u) = v) ∧ ∀ c j, (c ≠ d ∨ ∀ u, u < i → j ≠ f u) → q.2.1 c j = M.1 c j) _ n hn ⟨rfl, fun u hu => absurd hu (by omega), fun _ _ _ => rfl⟩ ?_
  rintro i ⟨x, M'⟩ hi ⟨rfl, q1, q2⟩
  rcases Nat.lt_or_ge i n with hl | hl
  · left
    refine ⟨_, h i M' hl (fun c j hc => q2 c j (Or.inl hc)), hl, rfl, fun u hu => ?_, fun c j hc => ?_⟩
    · show (stI M' d (f i) v).1 d (f u) = v
      rw [stI_rd]
      by_cases e : f u = f i
      · rw [if_pos ⟨rfl, e⟩]
      · rw [if_neg (fun q => e q.2)]
        exact q1 u (by rcases Nat.lt_or_ge u i with w | w; exact w; exact absurd (by rw [show u = i by omega]) e)
    · show (stI M' d (f i) v).1 c j = _
      rw [stI_rd, if_neg (fun q => hc.elim (fun w => w q.1) (fun w => w i (by omega) q.2))]
      exact q2 c j (hc.elim Or.inl (fun w => Or.inr (fun u hu => w u (by omega))))
  · right
    obtain rfl : i = n := by omega
    exact ⟨M', he M' (fun c j hc => q2 c j (Or.inl hc)), q1, q2⟩
theorem beginX (M : Mm) (x y w z : Int32) : ∃ M', fX4_begin M x y w z = some M' ∧ (M'.1 12 0 = x ∧ M'.1 12 1 = y ∧ M'.1 12 2 = w) ∧ (M'.1 11 1 = z ∧ M'.1 11 2 = 0 ∧ M'.1 11 3 = 0 ∧ M'.1 11 4 = 0 ∧ M'.1 11 5 = -1 ∧ M'.1 11 6 = 0 ∧ M'.1 11 8 = 0) ∧ ∀ c j, ¬ (c = 11 ∨ c = 12) → M'.1 c j = M.1 c j := by
  refine b1_x (P := fun v => (∀ c j, v.1 c j = if c = 12 ∧ j = 2 then w else if c = 12 ∧ j = 1 then y else if c = 12 ∧ j = 0 then x else M.1 c j)) (bd_st fun M1 r1 _ => bd_st fun M2 r2 _ => bd_st fun M3 r3 _ => ⟨M3, rfl, fun c j => by rw [r3, r2, r1]⟩) (fun v hv => bd_st fun M1 r1 _ => bd_st fun M2 r2 _ => bd_st fun M3 r3 _ => bd_st fun M4 r4 _ => bd_st fun M5 r5 _ => bd_st fun M6 r6 _ => bd_st fun M7 r7 _ => ⟨M7, rfl, ?_⟩)
  have r : ∀ c j, M7.1 c j = if c = 11 ∧ j = 8 then 0 else if c = 11 ∧ j = 6 then 0 else if c = 11 ∧ j = 5 then -1 else if c = 11 ∧ j = 4 then 0 else if c = 11 ∧ j = 3 then 0 else if c = 11 ∧ j = 2 then 0 else if c = 11 ∧ j = 1 then z else if c = 12 ∧ j = 2 then w else if c = 12 ∧ j = 1 then y else if c = 12 ∧ j = 0 then x else M.1 c j := fun c j => by rw [r7, r6, r5, r4, r3, r2, r1, hv]
  refine ⟨⟨?_, ?_, ?_⟩, ⟨?_, ?_, ?_, ?_, ?_, ?_, ?_⟩, fun c j hc => ?_⟩
  all_goals rw [r]
  all_goals first | rfl | skip
  rw [if_neg (by omega), if_neg (by omega), if_neg (by omega), if_neg (by omega), if_neg (by omega), if_neg (by omega), if_neg (by omega), if_neg (by omega), if_neg (by omega), if_neg (by omega)]
theorem forgetX (M : Mm) : ∃ M', fX1_forgetTaken M = some M' ∧ (∀ i, i < 8 → M'.1 10 i = 0) ∧ ∀ c j, c ≠ 10 → M'.1 c j = M.1 c j := by
  obtain ⟨M', f, a, b⟩ := fill_loop (body := fX1_forgetTaken_L2) (M := M) (d := 10) (n := 8) (v := 0) (f := fun i => i) (by omega) (fun i M' hi _ => by
    unfold fX1_forgetTaken_L2 u2
    dsimp only
    rw [if_neg (show ¬ 8 ≤ nI i from ngen (t := 8) (by omega) (by omega) hi), gd_t (inbn hi (by omega)), bd_s, bd_s, ixn (by omega), nI_1]) (fun M' _ => by
    unfold fX1_forgetTaken_L2 u2
    exact if_pos (show (8 : Int32) ≤ nI 8 by decide))
  exact ⟨M', by unfold fX1_forgetTaken; rw [f, b1_s], a, fun c j hc => b c j (Or.inl hc)⟩
theorem clearM (M : Mm) (w : Int32) : ∃ M', fX11_clearSearch M w = some M' ∧ (M'.1 96 3 = w ∧ M'.1 96 6 = 0 ∧ M'.1 96 7 = 0 ∧ M'.1 96 8 = 0 ∧ M'.1 96 9 = -1 ∧ M'.1 96 10 = 0 ∧ M'.1 96 11 = 0) ∧ (∀ i, i < 8 → M'.1 96 (61 + 4 * i + 3) = 0) ∧ ∀ c j, (c ≠ 96 ∨ (j < 3 ∨ j = 4 ∨ j = 5 ∨ (12 ≤ j ∧ j < 61) ∨ 93 ≤ j ∨ (61 ≤ j ∧ j % 4 ≠ 0))) → M'.1 c j = M.1 c j := by
  refine bd_st fun M1 r1 _ => ?_
  refine bd_st fun M2 r2 _ => ?_
  refine bd_st fun M3 r3 _ => ?_
  refine bd_st fun M4 r4 _ => ?_
  refine bd_st fun M5 r5 _ => ?_
  refine bd_st fun M6 r6 _ => ?_
  refine bd_st fun M7 r7 _ => ?_
  have r : ∀ c j, M7.1 c j = if c = 96 ∧ j = 11 then 0 else if c = 96 ∧ j = 10 then 0 else if c = 96 ∧ j = 9 then -1 else if c = 96 ∧ j = 8 then 0 else if c = 96 ∧ j = 7 then 0 else if c = 96 ∧ j = 6 then 0 else if c = 96 ∧ j = 3 then w else M.1 c j := fun c j => by rw [r7, r6, r5, r4, r3, r2, r1]
  obtain ⟨M', f, a, b⟩ := fill_loop (body := fX11_clearSearch_L57) (M := M7) (d := 96) (n := 8) (v := 0) (f := fun i => 61 + 4 * i + 3) (by omega) (fun i M' hi _ => by
    unfold fX11_clearSearch_L57 u2
    dsimp only
    rw [if_neg (show ¬ 8 ≤ nI i from ngen (t := 8) (by omega) (by omega) hi), show 61 + 4 * nI i + 3 = nI (61 + 4 * i + 3) by rw [n4i, show (61 : Int32) + nI (4 * i) = nI (61 + 4 * i) from nI_add 61 _]; exact nI_add _ 3, gd_t (inbn (by omega) (by omega)), bd_s, bd_s, ixn (by omega), nI_1]) (fun M' _ => by
    unfold fX11_clearSearch_L57 u2
    exact if_pos (show (8 : Int32) ≤ nI 8 by decide))
  refine ⟨M', by rw [f, b1_s], ⟨?_, ?_, ?_, ?_, ?_, ?_, ?_⟩, a, fun c j hc => ?_⟩
  · rw [b _ _ (Or.inr (fun i hi => by omega)), r]; rfl
  · rw [b _ _ (Or.inr (fun i hi => by omega)), r]; rfl
  · rw [b _ _ (Or.inr (fun i hi => by omega)), r]; rfl
  · rw [b _ _ (Or.inr (fun i hi => by omega)), r]; rfl
  · rw [b _ _ (Or.inr (fun i hi => by omega)), r]; rfl
  · rw [b _ _ (Or.inr (fun i hi => by omega)), r]; rfl
  · rw [b _ _ (Or.inr (fun i hi => by omega)), r]; rfl
  · rw [b _ _ (hc.elim Or.inl (fun q => Or.inr (fun i hi => by omega))), r, if_neg (by omega), if_neg (by omega), if_neg (by omega), if_neg (by omega), if_neg (by omega), if_neg (by omega), if_neg (by omega)]
theorem p_start {M : Mm} (h : R M) (w1 w2 w3 w4 : Int32) : Ok2 (fun M => fX10_start M w1 w2 w3 w4) (fun M => fX11_start M w1 w2 w3 w4) M := by
  obtain ⟨n, t, d, e, k, hn, hsc, hb', ht, hd, hl⟩ := h.1
  have a1 : M.1 1 0 = nI n := hn.2.1.1
  have a2 : M.1 96 0 = nI n := hn.2.1.2
  by_cases hc : rg (-50) 50 w1 ∧ rg (-50) 50 w2 ∧ rg (-50) 50 w3 ∧ ofv (nI n) w2 w3
  · rcases in_n w4 4 (by omega) with q | ⟨v, hv, rfl, q⟩
    · have q : fX11_in w4 0 4 = some 0 := q
      exact .no h _ (by show fX10_start M _ _ _ _ = _; unfold fX10_start; rw [fitX, a1, if_pos hc, b1_s, i10, within_in, q, b1_s, i00]) (by show fX11_start M _ _ _ _ = _; unfold fX11_start; rw [arePlaceM, a2, if_pos hc, b1_s, i10, q, b1_s, i00])
    have q : fX11_in (nI v) 0 4 = some 1 := q
    refine Ok2.ch h (kx := fun M8 => b1 (fX4_begin M8 w1 w2 w3 (1 <<< (nI v &&& 31))) fun M10 => b1 (fX1_forgetTaken M10) fun M12 => b1 (fX6_placeIsAllowed M12) fun x14 => b1 (fX10_oneIf x14) fun x16 => some (x16, M12)) (km := fun M8 => b1 (fX11_clearSearch M8 (nI v)) fun M10 => b1 (fX11_putPlace M10 w1 w2 w3) fun M12 => b1 (fX11_isHereAllowed M12) fun x14 => (if x14 = 0 then some (0, M12) else some (1, M12))) (by show fX10_start M _ _ _ _ = _; unfold fX10_start; rw [fitX, a1, if_pos hc, b1_s, i10, within_in, q, b1_s, i10]) (fun M1 e96 => by show fX11_start M1 _ _ _ _ = _; unfold fX11_start; rw [arePlaceM, e96, a2, if_pos hc, b1_s, i10, q, b1_s, i10]) (fun M1 lo => ?_)
    obtain ⟨M2, f2, p2, s2, o2⟩ := beginX M1 w1 w2 w3 (nI (2 ^ v))
    obtain ⟨M3, f3, p3, o3⟩ := forgetX M2
    have key : ∀ M5 : Mm, (∀ j, M5.1 96 j = M.1 96 j) → (∀ c j, c < 14 → M5.1 c j = M3.1 c j) → ∃ M7, (b1 (fX11_clearSearch M5 (nI v)) fun M10 => fX11_putPlace M10 w1 w2 w3) = some M7 ∧ SR (blk M7 1) (M7.1 96) ∧ SRb (blk M3 1) (M7.1 96) ∧ ∀ c j, c ≠ 96 → M7.1 c j = M5.1 c j := by
      intro M5 e5 l5
      obtain ⟨M6, f6, ⟨c3, c6, c7, c8, c9, c10, c11⟩, ct, o6⟩ := clearM M5 (nI v)
      obtain ⟨M7, e7⟩ : ∃ M7, M7 = stI (stI (stI M6 96 18 w1) 96 19 w2) 96 20 w3 := ⟨_, rfl⟩
      have r7 : ∀ c j, M7.1 c j = if c = 96 ∧ j = 20 then w3 else if c = 96 ∧ j = 19 then w2 else if c = 96 ∧ j = 18 then w1 else M6.1 c j := fun c j => by rw [e7, stI_rd, stI_rd, stI_rd]
      have lowM : ∀ c j, c < 14 → M7.1 c j = M3.1 c j := fun c j hc => by rw [r7, if_neg (by omega), if_neg (by omega), if_neg (by omega), o6 c j (by omega), l5 c j hc]
      have S : ∀ c j, c < 14 → c ≠ 10 → c ≠ 11 → c ≠ 12 → M7.1 c j = M.1 c j := fun c j h1 h2 h3 h4 => by rw [lowM c j h1, o3 c j h2, o2 c j (by omega), lo c j h1]
      have Z : ∀ j, (j < 3 ∨ j = 4 ∨ j = 5 ∨ (12 ≤ j ∧ j < 61 ∧ ¬ (18 ≤ j ∧ j ≤ 20)) ∨ 93 ≤ j ∨ (61 ≤ j ∧ j % 4 ≠ 0)) → M7.1 96 j = M.1 96 j := fun j hj => by rw [r7, if_neg (by omega), if_neg (by omega), if_neg (by omega), o6 96 j (by omega), e5]
      have z6 : ∀ j, ¬ (18 ≤ j ∧ j ≤ 20) → M7.1 96 j = M6.1 96 j := fun j hj => by rw [r7, if_neg (by omega), if_neg (by omega), if_neg (by omega)]
      have hB : SRb (blk M7 1) (M7.1 96) := fun u hu => by
        have q := hb' u hu
        refine ⟨?_, ?_, ?_, ?_, ?_⟩
        · show M7.1 6 u = _
          rw [S 6 u (by omega) (by omega) (by omega) (by omega), Z (12 + u) (by omega)]; exact q.1
        · show M7.1 7 u = _
          rw [S 7 u (by omega) (by omega) (by omega) (by omega), Z (15 + u) (by omega)]; exact q.2.1
        · show M7.1 12 u = _
          rw [lowM 12 u (by omega), o3 12 u (by omega)]
          rcases (show u = 0 ∨ u = 1 ∨ u = 2 by omega) with rfl | rfl | rfl
          · rw [p2.1, r7]; rfl
          · rw [p2.2.1, r7]; rfl
          · rw [p2.2.2, r7]; rfl
        · rw [Z (12 + u) (by omega)]; exact q.2.2.2.1
        · rw [Z (15 + u) (by omega)]; exact q.2.2.2.2
      have L : ∀ j, M7.1 11 j = M2.1 11 j := fun j => by rw [lowM 11 j (by omega), o3 11 j (by omega)]
      obtain ⟨q1', n1, n2, n3, n4, n5⟩ := hn
      refine ⟨M7, by rw [f6, b1_s, e7]; rfl, ⟨n, t, d, v, 0, ⟨⟨q1'.1, q1'.2.1, q1'.2.2.1, q1'.2.2.2.1, hv, by omega⟩, ⟨?_, ?_⟩, ⟨?_, ?_⟩, ⟨?_, ?_⟩, ⟨?_, ?_⟩, ⟨?_, ?_⟩⟩, ⟨⟨?_, ?_, ?_, ?_, ?_, ?_, ?_⟩, ?_, ?_, ?_, ?_⟩, hB, ht.cong q1'.2.2.1 (fun i _ => S 3 i (by omega) (by omega) (by omega) (by omega)) (fun i _ => S 4 i (by omega) (by omega) (by omega) (by omega)) (fun j _ _ => by
          by_cases w : 18 ≤ j ∧ j ≤ 20
          · omega
          · exact Z j (by omega)), ?_, fun i hi => absurd hi (by omega)⟩, hB.cong (fun u hu => ⟨(lowM 6 u (by omega)).symm, (lowM 7 u (by omega)).symm, (lowM 12 u (by omega)).symm⟩) (fun _ _ _ => rfl), fun c j hc => by rw [r7, if_neg (by omega), if_neg (by omega), if_neg (by omega), o6 c j (Or.inl hc)]⟩
      · exact (S 1 0 (by omega) (by omega) (by omega) (by omega)).trans n1.1
      · exact (Z 0 (by omega)).trans n1.2
      · exact (S 2 0 (by omega) (by omega) (by omega) (by omega)).trans n2.1
      · exact (Z 1 (by omega)).trans n2.2
      · exact (S 8 0 (by omega) (by omega) (by omega) (by omega)).trans n3.1
      · exact (Z 2 (by omega)).trans n3.2
      · exact (L 1).trans s2.1
      · rw [z6 3 (by omega)]; exact c3
      · exact (L 6).trans s2.2.2.2.2.2.1
      · rw [z6 10 (by omega)]; exact c10
      · show M7.1 1 1 = M7.1 96 4
        rw [S 1 1 (by omega) (by omega) (by omega) (by omega), Z 4 (by omega)]; exact hsc.1.1
      · show M7.1 1 2 = M7.1 96 5
        rw [S 1 2 (by omega) (by omega) (by omega) (by omega), Z 5 (by omega)]; exact hsc.1.2.1
      · show M7.1 11 2 = _
        rw [L 2, s2.2.1, z6 6 (by omega), c6]
      · show M7.1 11 3 = _
        rw [L 3, s2.2.2.1, z6 7 (by omega), c7]
      · show M7.1 11 4 = _
        rw [L 4, s2.2.2.2.1, z6 8 (by omega), c8]
      · show M7.1 11 5 = _
        rw [L 5, s2.2.2.2.2.1, z6 9 (by omega), c9]
      · show M7.1 11 8 = _
        rw [L 8, s2.2.2.2.2.2.2, z6 11 (by omega), c11]
      · rw [Z 4 (by omega)]; exact hsc.2.1
      · rw [Z 5 (by omega)]; exact hsc.2.2.1
      · rw [z6 11 (by omega), c11]; exact Or.inl rfl
      · rw [z6 9 (by omega), c9]; exact Or.inl rfl
      · intro i hi
        have q := hd i hi
        have l8 := q1'.2.2.2.1
        refine ⟨?_, ⟨?_, ?_, ?_⟩, q.2.2.cong (fun j h1 h2 => Z j (by omega))⟩
        · show M7.1 10 i = _
          rw [lowM 10 i (by omega), p3 i (by omega), z6 _ (by omega), ct i (by omega)]
        · show M7.1 9 (3 * i) = _
          rw [S 9 _ (by omega) (by omega) (by omega) (by omega), Z _ (by omega)]; exact q.2.1.1
        · show M7.1 9 (3 * i + 1) = _
          rw [S 9 _ (by omega) (by omega) (by omega) (by omega), Z _ (by omega)]; exact q.2.1.2.1
        · show M7.1 9 (3 * i + 2) = _
          rw [S 9 _ (by omega) (by omega) (by omega) (by omega), Z _ (by omega)]; exact q.2.1.2.2
    obtain ⟨M70, f70, -, hB0, -⟩ := key ((fun c j => if c = 96 then M.1 96 j else M3.1 c j), M3.2) (fun j => by simp) (fun c j hc => by show (if c = 96 then _ else _) = _; rw [if_neg (by omega)])
    have hb0 : fX6_placeIsAllowed M3 = some (if alw (M70.1 96) (M70.1 96 18) (M70.1 96 19) (M70.1 96 20) then 1 else 0) := by rw [hereX hB0, hereM]
    refine ⟨(if alw (M70.1 96) (M70.1 96 18) (M70.1 96 19) (M70.1 96 20) then 1 else 0, M3), ?_, fun c j hc _ => ?_, fun M5 e5 l5 => ?_⟩
    · rw [shl1 hv, f2, b1_s, f3, b1_s, hb0, b1_s, oneIf_z (bit_g _), b1_s]
    · show M3.1 c j = _
      rw [o3 c j (by omega), o2 c j (by omega)]
    · obtain ⟨M7, f7, hS, hB7, o7⟩ := key M5 e5 l5
      have hb7 : fX6_placeIsAllowed M3 = some (if alw (M7.1 96) (M7.1 96 18) (M7.1 96 19) (M7.1 96 20) then 1 else 0) := by rw [hereX hB7, hereM]
      have eqb : (if alw (M70.1 96) (M70.1 96 18) (M70.1 96 19) (M70.1 96 20) then (1 : Int32) else 0) = if alw (M7.1 96) (M7.1 96 18) (M7.1 96 19) (M7.1 96 20) then 1 else 0 := Option.some.inj (hb0.symm.trans hb7)
      refine ⟨(if alw (M7.1 96) (M7.1 96 18) (M7.1 96 19) (M7.1 96 20) then 1 else 0, M7), ?_, fun c j hc _ => o7 c j hc, hS, eqb⟩
      obtain ⟨M6, f6⟩ : ∃ M6, fX11_clearSearch M5 (nI v) = some M6 := by
        obtain ⟨M6, f6, -⟩ := clearM M5 (nI v); exact ⟨M6, f6⟩
      rw [f6, b1_s] at f7
      rw [f6, b1_s, f7, b1_s, hereM, b1_s]
      by_cases q : alw (M7.1 96) (M7.1 96 18) (M7.1 96 19) (M7.1 96 20)
      · rw [if_pos q, i10]
      · rw [if_neg q, i00]
  · exact .no h _ (by show fX10_start M _ _ _ _ = _; unfold fX10_start; rw [fitX, a1, if_neg hc, b1_s, i00]) (by show fX11_start M _ _ _ _ = _; unfold fX11_start; rw [arePlaceM, a2, if_neg hc, b1_s, i00])
