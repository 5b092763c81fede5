/-! ===== direction ===== -/
theorem addD {M : Mm} {t : Nat} (h : M.1 8 0 = nI t) (lt : t < 8) (a b c : Int32) : ∃ M', fX1_add M a b c = some M' ∧ ∀ c' j, M'.1 c' j = if c' = 8 ∧ j = 0 then nI (t + 1) else if c' = 10 ∧ j = t then 0 else if c' = 9 ∧ j = 3 * t + 2 then c else if c' = 9 ∧ j = 3 * t + 1 then b else if c' = 9 ∧ j = 3 * t then a else M.1 c' j := by
  unfold fX1_add
  rw [h, if_pos (show nI t < 8 from ltn (t := 8) (by omega) (by omega) lt), n3i, gd_t (inbn (by omega) (by omega)), ixn (by omega)]
  refine bd_st fun M1 r1 _ => ?_
  have h1 : M1.1 8 0 = nI t := by rw [r1, if_neg (by omega), h]
  rw [h1, n3i, show nI (3 * t) + 1 = nI (3 * t + 1) from nI_add _ 1, gd_t (inbn (by omega) (by omega)), ixn (by omega)]
  refine bd_st fun M2 r2 _ => ?_
  have h2 : M2.1 8 0 = nI t := by rw [r2, if_neg (by omega), h1]
  rw [h2, n3i, show nI (3 * t) + 2 = nI (3 * t + 2) from nI_add _ 2, gd_t (inbn (by omega) (by omega)), ixn (by omega)]
  refine bd_st fun M3 r3 _ => ?_
  have h3 : M3.1 8 0 = nI t := by rw [r3, if_neg (by omega), h2]
  rw [h3, gd_t (inbn (by omega) (by omega)), ixn (by omega)]
  refine bd_st fun M4 r4 _ => ?_
  have h4 : M4.1 8 0 = nI t := by rw [r4, if_neg (by omega), h3]
  rw [h4, nI_1]
  refine bd_st fun M5 r5 _ => ⟨M5, rfl, fun c' j => ?_⟩
  rw [r5, r4, r3, r2, r1]
theorem putD {M : Mm} {t : Nat} (lt : t < 8) (a b c : Int32) : ∃ M', fX11_putDirection M (nI t) a b c = some M' ∧ ∀ c' j, M'.1 c' j = if c' = 96 ∧ j = 61 + 4 * t + 3 then 0 else if c' = 96 ∧ j = 61 + 4 * t + 2 then c else if c' = 96 ∧ j = 61 + 4 * t + 1 then b else if c' = 96 ∧ j = 61 + 4 * t then a else M.1 c' j := by
  unfold fX11_putDirection
  rw [n4i, show (61 : Int32) + nI (4 * t) = nI (61 + 4 * t) from nI_add 61 _, show nI (61 + 4 * t) + 1 = nI (61 + 4 * t + 1) from nI_add _ 1, show nI (61 + 4 * t) + 2 = nI (61 + 4 * t + 2) from nI_add _ 2, show nI (61 + 4 * t) + 3 = nI (61 + 4 * t + 3) from nI_add _ 3, ixn (by omega), ixn (by omega), ixn (by omega), ixn (by omega)]
  refine gd_x (inbn (by omega) (by omega)) (bd_st fun M1 r1 _ => gd_x (inbn (by omega) (by omega)) (bd_st fun M2 r2 _ => gd_x (inbn (by omega) (by omega)) (bd_st fun M3 r3 _ => gd_x (inbn (by omega) (by omega)) (bd_st fun M4 r4 _ => ⟨M4, rfl, fun c' j => by rw [r4, r3, r2, r1]⟩))))
/-- a number of a direction -/
theorem stepM {M : Mm} {i v : Nat} (hi : i < 8) (hv : v < 4) : fX11_step M (nI i) (nI v) = some (M.1 96 (61 + 4 * i + v)) := by
  unfold fX11_step
  rw [n4i, show (61 : Int32) + nI (4 * i) = nI (61 + 4 * i) from nI_add 61 _, nI_add, gd_t (inbn (by omega) (by omega)), ixn (by omega)]
abbrev isD (z : Nat → Int32) (a b c : Int32) (i : Nat) : Prop := z (61 + 4 * i) = a ∧ z (61 + 4 * i + 1) = b ∧ z (61 + 4 * i + 2) = c
def fndD (z : Nat → Int32) (d : Nat) (a b c : Int32) (r : Unit ⊕ Unit) : Prop := (r = .inl () ∧ ∃ i, i < d ∧ isD z a b c i) ∨ (r = .inr () ∧ ∀ i, i < d → ¬ isD z a b c i)
theorem hasX {M : Mm} {z : Nat → Int32} {n d : Nat} (hd : SRd n d (blk M 1) z) (h : M.1 8 0 = nI d) (ld : d ≤ 8) (a b c : Int32) : ∃ r, itr (fX1_has_L3 M a b c) 1000 0 = some r ∧ fndD z d a b c r := by
  refine itr_0 (body := fX1_has_L3 M a b c) (s := (0 : Int32)) (fun i q => q = nI i ∧ ∀ u, u < i → ¬ isD z a b c u) _ d (by omega) ⟨rfl, fun u hu => absurd hu (by omega)⟩ ?_
  rintro i _ hi ⟨rfl, q⟩
  unfold fX1_has_L3
  rw [h]
  rcases Nat.lt_or_ge i d with hl | hl
  · obtain ⟨-, ⟨q1, q2, q3⟩, -⟩ := hd i hl
    have q1 : M.1 9 (3 * i) = z (61 + 4 * i) := q1
    have q2 : M.1 9 (3 * i + 1) = z (61 + 4 * i + 1) := q2
    have q3 : M.1 9 (3 * i + 2) = z (61 + 4 * i + 2) := q3
    rw [if_neg (ngen (t := d) (by omega) (by omega) hl), bd_s, n3i, show nI (3 * i) + 1 = nI (3 * i + 1) from nI_add _ 1, show nI (3 * i) + 2 = nI (3 * i + 2) from nI_add _ 2, gd_t (inbn (by omega) (by omega)), bd_s, bd_s, ixn (by omega), ixn (by omega), ixn (by omega), q1, q2, q3, nI_1]
    have nx : ¬ isD z a b c i → ∀ u, u < i + 1 → ¬ isD z a b c u := fun w u hu => by
      rcases Nat.lt_or_ge u i with e | e
      · exact q u e
      · rw [show u = i by omega]; exact w
    by_cases h1 : z (61 + 4 * i) = a
    · rw [if_pos h1, gd_t (inbn (by omega) (by omega))]
      by_cases h2 : z (61 + 4 * i + 1) = b
      · rw [if_pos h2, gd_t (inbn (by omega) (by omega))]
        by_cases h3 : z (61 + 4 * i + 2) = c
        · rw [if_pos h3]; exact Or.inr ⟨_, rfl, Or.inl ⟨rfl, i, hl, h1, h2, h3⟩⟩
        · rw [if_neg h3]; exact Or.inl ⟨_, rfl, hl, rfl, nx (fun w => h3 w.2.2)⟩
      · rw [if_neg h2]; exact Or.inl ⟨_, rfl, hl, rfl, nx (fun w => h2 w.2.1)⟩
    · rw [if_neg h1]; exact Or.inl ⟨_, rfl, hl, rfl, nx (fun w => h1 w.1)⟩
  · rw [if_pos (gen (by omega) (by omega) hl)]
    exact Or.inr ⟨_, rfl, Or.inr ⟨rfl, fun u hu => q u (by omega)⟩⟩
theorem hasM {M : Mm} {d : Nat} (h : M.1 96 2 = nI d) (ld : d ≤ 8) (a b c : Int32) : ∃ r, itr (fX11_direction_L70 M a b c) 1000 0 = some r ∧ fndD (M.1 96) d a b c r := by
  refine itr_0 (body := fX11_direction_L70 M a b c) (s := (0 : Int32)) (fun i q => q = nI i ∧ ∀ u, u < i → ¬ isD (M.1 96) a b c u) _ d (by omega) ⟨rfl, fun u hu => absurd hu (by omega)⟩ ?_
  rintro i _ hi ⟨rfl, q⟩
  unfold fX11_direction_L70 fX11_directionMany
  rw [h, b1_s]
  rcases Nat.lt_or_ge i d with hl | hl
  · have e0 : fX11_step M (nI i) 0 = some (M.1 96 (61 + 4 * i)) := stepM (v := 0) (by omega) (by omega)
    have e1 : fX11_step M (nI i) 1 = some (M.1 96 (61 + 4 * i + 1)) := stepM (v := 1) (by omega) (by omega)
    have e2 : fX11_step M (nI i) 2 = some (M.1 96 (61 + 4 * i + 2)) := stepM (v := 2) (by omega) (by omega)
    rw [if_neg (ngen (t := d) (by omega) (by omega) hl), e0, b1_s, bd_s, bd_s, nI_1]
    have nx : ¬ isD (M.1 96) a b c i → ∀ u, u < i + 1 → ¬ isD (M.1 96) a b c u := fun w u hu => by
      rcases Nat.lt_or_ge u i with e | e
      · exact q u e
      · rw [show u = i by omega]; exact w
    by_cases h1 : M.1 96 (61 + 4 * i) = a
    · rw [if_pos h1, e1, b1_s]
      by_cases h2 : M.1 96 (61 + 4 * i + 1) = b
      · rw [if_pos h2, e2, b1_s]
        by_cases h3 : M.1 96 (61 + 4 * i + 2) = c
        · rw [if_pos h3]; exact Or.inr ⟨_, rfl, Or.inl ⟨rfl, i, hl, h1, h2, h3⟩⟩
        · rw [if_neg h3]; exact Or.inl ⟨_, rfl, hl, rfl, nx (fun w => h3 w.2.2)⟩
      · rw [if_neg h2]; exact Or.inl ⟨_, rfl, hl, rfl, nx (fun w => h2 w.2.1)⟩
    · rw [if_neg h1]; exact Or.inl ⟨_, rfl, hl, rfl, nx (fun w => h1 w.1)⟩
  · rw [if_pos (gen (by omega) (by omega) hl)]
    exact Or.inr ⟨_, rfl, Or.inr ⟨rfl, fun u hu => q u (by omega)⟩⟩
abbrev goodD (n w1 w2 w3 : Int32) : Prop := (rg (-3) 3 w1 ∧ rg (-3) 3 w2 ∧ rg (-3) 3 w3 ∧ ofv n w2 w3) ∧ ¬ (w1 = 0 ∧ w2 = 0 ∧ w3 = 0)
theorem directionX (M : Mm) (w1 w2 w3 : Int32) : fX10_direction M w1 w2 w3 = if goodD (M.1 1 0) w1 w2 w3 then (b1 (fX1_has M w1 w2 w3) fun x7 => (if x7 = 0 then (if (M.1 8 0) < 8 then b1 (fX2_push M) fun M11 => b1 (fX1_add M11 w1 w2 w3) fun M13 => some ((M13.1 8 0) - 1, M13) else some ((-1000003), M)) else some ((-1000002), M))) else some ((-1000001), M) := by
  unfold fX10_direction
  rw [fitX, b1_s]
  simp only [bd_s]
  by_cases h1 : rg (-3) 3 w1 ∧ rg (-3) 3 w2 ∧ rg (-3) 3 w3 ∧ ofv (M.1 1 0) w2 w3
  · rw [if_pos h1, i10]
    by_cases a : w1 = 0
    · rw [if_pos a]
      by_cases b : w2 = 0
      · rw [if_pos b]
        by_cases c : w3 = 0
        · rw [if_pos c, if_neg (fun q => q.2 ⟨a, b, c⟩)]
        · rw [if_neg c, if_pos (show goodD (M.1 1 0) w1 w2 w3 from ⟨h1, fun q => c q.2.2⟩)]
      · rw [if_neg b, if_pos (show goodD (M.1 1 0) w1 w2 w3 from ⟨h1, fun q => b q.2.1⟩)]
    · rw [if_neg a, if_pos (show goodD (M.1 1 0) w1 w2 w3 from ⟨h1, fun q => a q.1⟩)]
  · rw [if_neg h1, i00, if_neg (fun q => h1 q.1)]
theorem directionM (M : Mm) (w1 w2 w3 : Int32) : fX11_direction M w1 w2 w3 = if goodD (M.1 96 0) w1 w2 w3 then (bs (itr (fX11_direction_L70 M w1 w2 w3) 1000 0) (fun (_ : Unit) => some ((-1000002), M)) (fun (_ : Unit) => b1 (fX11_directionMany M) fun x27 => (if x27 = 8 then some ((-1000003), M) else b1 (fX11_record M) fun M30 => b1 (fX11_directionMany M30) fun x32 => b1 (fX11_putDirection M30 x32 w1 w2 w3) fun M34 => b2 (fX11_oneMore M34 2) fun x36 M37 => some (x36 - 1, M37)))) else some ((-1000001), M) := by
  unfold fX11_direction
  rw [in_any, b1_s]
  simp only [bd_s]
  by_cases h1 : rg (-3) 3 w1
  · rw [if_pos h1, i10, in_any, b1_s]
    by_cases h2 : rg (-3) 3 w2
    · rw [if_pos h2, i10, in_any, b1_s]
      by_cases h3 : rg (-3) 3 w3
      · rw [if_pos h3, i10, ofvM, b1_s]
        by_cases h4 : ofv (M.1 96 0) w2 w3
        · rw [if_pos h4, i10, i10]
          by_cases a : w1 = 0
          · rw [if_pos a]
            by_cases b : w2 = 0
            · rw [if_pos b]
              by_cases c : w3 = 0
              · rw [if_pos c, if_neg (fun q => q.2 ⟨a, b, c⟩)]
              · rw [if_neg c, if_pos (show goodD (M.1 96 0) w1 w2 w3 from ⟨⟨h1, h2, h3, h4⟩, fun q => c q.2.2⟩)]
            · rw [if_neg b, if_pos (show goodD (M.1 96 0) w1 w2 w3 from ⟨⟨h1, h2, h3, h4⟩, fun q => b q.2.1⟩)]
          · rw [if_neg a, if_pos (show goodD (M.1 96 0) w1 w2 w3 from ⟨⟨h1, h2, h3, h4⟩, fun q => a q.1⟩)]
        · rw [if_neg h4, i00, if_pos True.intro, if_neg (fun q => h4 q.1.2.2.2)]
      · rw [if_neg h3, i00, if_pos True.intro, if_neg (fun q => h3 q.1.2.2.1)]
    · rw [if_neg h2, i00, if_pos True.intro, if_neg (fun q => h2 q.1.2.1)]
  · rw [if_neg h1, i00, if_pos True.intro, if_neg (fun q => h1 q.1.1)]
theorem bs_l {α β γ : Type} (a : α) (k : α → Option γ) (j : β → Option γ) : bs (some (.inl a)) k j = k a := rfl
theorem bs_r {α β γ : Type} (b : β) (k : α → Option γ) (j : β → Option γ) : bs (some (.inr b)) k j = j b := rfl
theorem p_direction {M : Mm} (h : R M) (w1 w2 w3 : Int32) : Ok2 (fun M => fX10_direction M w1 w2 w3) (fun M => fX11_direction M w1 w2 w3) M := by
  obtain ⟨n, t, d, e, k, hn, hsc, hb', ht, hd, hl⟩ := h.1
  have a1 : M.1 1 0 = nI n := hn.2.1.1
  have a2 : M.1 96 0 = nI n := hn.2.1.2
  have a5 : M.1 8 0 = nI d := hn.2.2.2.1.1
  have a6 : M.1 96 2 = nI d := hn.2.2.2.1.2
  have ld := hn.1.2.2.2.1
  by_cases hc : goodD (nI n) w1 w2 w3
  case neg =>
    exact .no h _ (by show fX10_direction M _ _ _ = _; rw [directionX, a1, if_neg hc]) (by show fX11_direction M _ _ _ = _; rw [directionM, a2, if_neg hc])
  obtain ⟨rx, fx, hx⟩ := hasX (z := M.1 96) hd a5 ld w1 w2 w3
  rcases hx with ⟨rfl, i, hi, hD⟩ | ⟨rfl, hno⟩
  · refine .no h (-1000002) (by show fX10_direction M _ _ _ = _; rw [directionX, a1, if_pos hc]; unfold fX1_has; rw [fx, bs_l, b1_s, i10]) (by
      show fX11_direction M _ _ _ = _
      rw [directionM, a2, if_pos hc]
      obtain ⟨rm, fm, hm⟩ := hasM (M := M) a6 ld w1 w2 w3
      rcases hm with ⟨rfl, -⟩ | ⟨rfl, hn2⟩
      · rw [fm, bs_l]
      · exact absurd hD (hn2 i hi))
  have fmAll : ∀ M1 : Mm, (∀ j, M1.1 96 j = M.1 96 j) → itr (fX11_direction_L70 M1 w1 w2 w3) 1000 0 = some (.inr ()) := fun M1 e96 => by
    obtain ⟨rm, fm, hm⟩ := hasM (M := M1) ((e96 2).trans a6) ld w1 w2 w3
    rcases hm with ⟨rfl, i, hi, hD⟩ | ⟨rfl, -⟩
    · unfold isD at hD
      rw [e96, e96, e96] at hD
      exact absurd hD (hno i hi)
    · exact fm
  rcases Nat.lt_or_ge 7 d with lt | lt
  · obtain rfl : d = 8 := by omega
    exact .no h (-1000003) (by show fX10_direction M _ _ _ = _; rw [directionX, a1, if_pos hc]; unfold fX1_has; rw [fx, bs_r, b1_s, i00, a5, if_neg (by decide)]) (by show fX11_direction M _ _ _ = _; rw [directionM, a2, if_pos hc, fmAll M (fun _ => rfl), bs_r]; unfold fX11_directionMany; rw [a6, b1_s, if_pos (show nI 8 = 8 from rfl)])
  have lt : d < 8 := by omega
  refine Ok2.ch h (kx := fun M11 => b1 (fX1_add M11 w1 w2 w3) fun M13 => some ((M13.1 8 0) - 1, M13)) (km := fun M30 => b1 (fX11_directionMany M30) fun x32 => b1 (fX11_putDirection M30 x32 w1 w2 w3) fun M34 => b2 (fX11_oneMore M34 2) fun x36 M37 => some (x36 - 1, M37)) (by show fX10_direction M _ _ _ = _; rw [directionX, a1, if_pos hc]; unfold fX1_has; rw [fx, bs_r, b1_s, i00, a5, if_pos (show nI d < 8 from ltn (t := 8) (by omega) (by omega) lt)]) (fun M1 e96 => by
    show fX11_direction M1 _ _ _ = _
    rw [directionM, e96, a2, if_pos hc, fmAll M1 e96, bs_r]
    unfold fX11_directionMany
    rw [e96, a6, b1_s, if_neg (fun q => by have := (neq (a := d) (b := 8) (by omega) (by omega)).mp q; omega)]) (fun M1 lo => ?_)
  obtain ⟨M2, f2, r2⟩ := addD (M := M1) ((lo 8 0 (by omega)).trans a5) lt w1 w2 w3
  have hs1 : nI (d + 1) - 1 = nI d := nI_pred d
  refine ⟨(nI d, M2), by rw [f2, b1_s, r2, if_pos ⟨rfl, rfl⟩, hs1], fun c j hc' _ => ?_, fun M3 e3 l3 => ?_⟩
  · show M2.1 c j = _
    rw [r2, if_neg (by omega), if_neg (by omega), if_neg (by omega), if_neg (by omega), if_neg (by omega)]
  obtain ⟨M4, f4, r4⟩ := putD (M := M3) lt w1 w2 w3
  have e41 : M4.1 96 2 = nI d := by rw [r4, if_neg (by omega), if_neg (by omega), if_neg (by omega), if_neg (by omega), e3, a6]
  obtain ⟨M5, e5⟩ : ∃ M5, M5 = stI M4 96 2 (nI (d + 1)) := ⟨_, rfl⟩
  have hm := moreM M4 (w := 2) (by omega) e41
  have r5 : ∀ c j, M5.1 c j = if c = 96 ∧ j = 2 then nI (d + 1) else if c = 96 ∧ j = 61 + 4 * d + 3 then 0 else if c = 96 ∧ j = 61 + 4 * d + 2 then w3 else if c = 96 ∧ j = 61 + 4 * d + 1 then w2 else if c = 96 ∧ j = 61 + 4 * d then w1 else M3.1 c j := fun c j => by rw [e5, stI_rd, r4]
  refine ⟨(nI d, M5), ?_, fun c j hc' _ => ?_, ?_, rfl⟩
  · show b1 (fX11_directionMany M3) _ = _
    unfold fX11_directionMany
    rw [e3, a6, b1_s, f4, b1_s, show (2 : Int32) = nI 2 from rfl, hm, b2_s, e5, hs1]
  · show M5.1 c j = _
    rw [r5, if_neg (by omega), if_neg (by omega), if_neg (by omega), if_neg (by omega), if_neg (by omega)]
  · show SR (blk M5 1) (M5.1 96)
    have lowM : ∀ c j, c < 14 → M5.1 c j = M2.1 c j := fun c j hc' => by rw [r5, if_neg (by omega), if_neg (by omega), if_neg (by omega), if_neg (by omega), if_neg (by omega)]; exact l3 c j hc'
    have S : ∀ c j, c < 14 → ¬ (c = 8 ∧ j = 0) → ¬ (c = 10 ∧ j = d) → ¬ (c = 9 ∧ 3 * d ≤ j ∧ j < 3 * d + 3) → M5.1 c j = M.1 c j := fun c j q1 q2 q3 q4 => by
      rw [lowM c j q1, r2, if_neg (by omega), if_neg (by omega), if_neg (by omega), if_neg (by omega), if_neg (by omega), lo c j q1]
    have Z : ∀ j, j ≠ 2 → ¬ (61 + 4 * d ≤ j ∧ j < 65 + 4 * d) → M5.1 96 j = M.1 96 j := fun j q1 q2 => by rw [r5, if_neg (by omega), if_neg (by omega), if_neg (by omega), if_neg (by omega), if_neg (by omega), e3]
    obtain ⟨q1', n1, n2, n3, n4, n5⟩ := hn
    obtain ⟨⟨g1, g2, g3, g4⟩, g5⟩ := hc
    have m3 : (-3 : Int32).toInt = -3 := by decide
    have p3 : (3 : Int32).toInt = 3 := by decide
    have v1 : n ≤ 1 → w2 = 0 := fun q => g4.1.resolve_left (fun w => by have := (nlt (a := 1) (b := n) (by omega) (by omega)).mp w; omega)
    have v2 : n ≤ 2 → w3 = 0 := fun q => g4.2.resolve_left (fun w => by have := (nlt (a := 2) (b := n) (by omega) (by omega)).mp w; omega)
    have hsc' : SRs d (blk M5 1) (M5.1 96) := hsc.cong (S 1 1 (by omega) (by omega) (by omega) (by omega)) (S 1 2 (by omega) (by omega) (by omega) (by omega)) (fun j _ => S 11 j (by omega) (by omega) (by omega) (by omega)) (fun j _ _ _ => Z j (by omega) (by omega))
    refine ⟨n, t, d + 1, e, k, ⟨⟨q1'.1, q1'.2.1, q1'.2.2.1, by omega, q1'.2.2.2.2⟩, ⟨(S 1 0 (by omega) (by omega) (by omega) (by omega)).trans n1.1, (Z 0 (by omega) (by omega)).trans n1.2⟩, ⟨(S 2 0 (by omega) (by omega) (by omega) (by omega)).trans n2.1, (Z 1 (by omega) (by omega)).trans n2.2⟩, ⟨?_, ?_⟩, ⟨(S 11 1 (by omega) (by omega) (by omega) (by omega)).trans n4.1, (Z 3 (by omega) (by omega)).trans n4.2⟩, ⟨(S 11 6 (by omega) (by omega) (by omega) (by omega)).trans n5.1, (Z 10 (by omega) (by omega)).trans n5.2⟩⟩, ⟨hsc'.1, hsc'.2.1, hsc'.2.2.1, hsc'.2.2.2.1, hsc'.2.2.2.2.imp id (fun ⟨l, q1, q2⟩ => ⟨l, by omega, q2⟩)⟩, hb'.cong (fun v _ => ⟨S 6 v (by omega) (by omega) (by omega) (by omega), S 7 v (by omega) (by omega) (by omega) (by omega), S 12 v (by omega) (by omega) (by omega) (by omega)⟩) (fun j _ _ => Z j (by omega) (by omega)), ht.cong q1'.2.2.1 (fun i _ => S 3 i (by omega) (by omega) (by omega) (by omega)) (fun i _ => S 4 i (by omega) (by omega) (by omega) (by omega)) (fun j _ _ => Z j (by omega) (by omega)), fun i hi => ?_, hl.cong q1'.2.2.2.2.2 (fun i _ => S 13 i (by omega) (by omega) (by omega) (by omega)) (fun j _ _ => Z j (by omega) (by omega))⟩
    · show M5.1 8 0 = _
      rw [lowM 8 0 (by omega), r2, if_pos ⟨rfl, rfl⟩]
    · rw [r5, if_pos ⟨rfl, rfl⟩]
    · rcases Nat.lt_or_ge i d with hi' | hi'
      · have q := hd i hi'
        refine ⟨?_, ⟨?_, ?_, ?_⟩, q.2.2.cong (fun j h1 h2 => Z j (by omega) (by omega))⟩
        · show M5.1 10 i = _
          rw [S 10 i (by omega) (by omega) (by omega) (by omega), Z _ (by omega) (by omega)]; exact q.1
        · show M5.1 9 (3 * i) = _
          rw [S 9 _ (by omega) (by omega) (by omega) (by omega), Z _ (by omega) (by omega)]; exact q.2.1.1
        · show M5.1 9 (3 * i + 1) = _
          rw [S 9 _ (by omega) (by omega) (by omega) (by omega), Z _ (by omega) (by omega)]; exact q.2.1.2.1
        · show M5.1 9 (3 * i + 2) = _
          rw [S 9 _ (by omega) (by omega) (by omega) (by omega), Z _ (by omega) (by omega)]; exact q.2.1.2.2
      · obtain rfl : i = d := by omega
        have z0 : M5.1 96 (61 + 4 * i) = w1 := by rw [r5, if_neg (by omega), if_neg (by omega), if_neg (by omega), if_neg (by omega), if_pos ⟨rfl, rfl⟩]
        have z1 : M5.1 96 (61 + 4 * i + 1) = w2 := by rw [r5, if_neg (by omega), if_neg (by omega), if_neg (by omega), if_pos ⟨rfl, rfl⟩]
        have z2 : M5.1 96 (61 + 4 * i + 2) = w3 := by rw [r5, if_neg (by omega), if_neg (by omega), if_pos ⟨rfl, rfl⟩]
        have z3 : M5.1 96 (61 + 4 * i + 3) = 0 := by rw [r5, if_neg (by omega), if_pos ⟨rfl, rfl⟩]
        refine ⟨?_, ⟨?_, ?_, ?_⟩, ?_, by rw [z0, z1, z2]; exact g5⟩
        · show M5.1 10 i = _
          rw [z3, lowM 10 i (by omega), r2, if_neg (by omega), if_pos ⟨rfl, rfl⟩]
        · show M5.1 9 (3 * i) = _
          rw [z0, lowM 9 _ (by omega), r2, if_neg (by omega), if_neg (by omega), if_neg (by omega), if_neg (by omega), if_pos ⟨rfl, rfl⟩]
        · show M5.1 9 (3 * i + 1) = _
          rw [z1, lowM 9 _ (by omega), r2, if_neg (by omega), if_neg (by omega), if_neg (by omega), if_pos ⟨rfl, rfl⟩]
        · show M5.1 9 (3 * i + 2) = _
          rw [z2, lowM 9 _ (by omega), r2, if_neg (by omega), if_neg (by omega), if_pos ⟨rfl, rfl⟩]
        · intro v hv
          rcases (show v = 0 ∨ v = 1 ∨ v = 2 by omega) with rfl | rfl | rfl
          · rw [Nat.add_zero, z0]; exact ⟨by omega, by omega, fun q => by omega⟩
          · rw [z1]; exact ⟨by omega, by omega, fun q => v1 q⟩
          · rw [z2]; exact ⟨by omega, by omega, fun q => v2 q⟩
