/-! ===== values, changes of terms, directions, the search ===== -/
/-! ===== which places, values ===== -/
abbrev rg (a b x : Int32) : Prop := a.toInt ≤ x.toInt ∧ x.toInt ≤ b.toInt
abbrev ofv (n y w : Int32) : Prop := (1 < n ∨ y = 0) ∧ (2 < n ∨ w = 0)
theorem fitX (M : Mm) (x y w a b : Int32) : fX6_fit M x y w a b = some (if rg a b x ∧ rg a b y ∧ rg a b w ∧ ofv (M.1 1 0) y w then 1 else 0) := by
  unfold fX6_fit
  rw [within_in, in_any, b1_s]
  by_cases hx : rg a b x
  · rw [if_pos hx, i10, in_any, b1_s]
    by_cases hy : rg a b y
    · rw [if_pos hy, i10, in_any, b1_s]
      by_cases hw : rg a b w
      · rw [if_pos hw, i10, bd_s]
        by_cases h1 : 1 < M.1 1 0
        · rw [if_pos h1]
          by_cases h2 : 2 < M.1 1 0
          · rw [if_pos h2, if_pos ⟨hx, hy, hw, Or.inl h1, Or.inl h2⟩]
          · rw [if_neg h2]
            by_cases h3 : w = 0
            · rw [if_pos h3, if_pos ⟨hx, hy, hw, Or.inl h1, Or.inr h3⟩]
            · rw [if_neg h3, if_neg (fun q => q.2.2.2.2.elim h2 h3)]
        · rw [if_neg h1]
          by_cases h0 : y = 0
          · rw [if_pos h0]
            by_cases h2 : 2 < M.1 1 0
            · rw [if_pos h2, if_pos ⟨hx, hy, hw, Or.inr h0, Or.inl h2⟩]
            · rw [if_neg h2]
              by_cases h3 : w = 0
              · rw [if_pos h3, if_pos ⟨hx, hy, hw, Or.inr h0, Or.inr h3⟩]
              · rw [if_neg h3, if_neg (fun q => q.2.2.2.2.elim h2 h3)]
          · rw [if_neg h0, if_neg (fun q => q.2.2.2.1.elim h1 h0)]
      · rw [if_neg hw, i00, if_neg (fun q => hw q.2.2.1)]
    · rw [if_neg hy, i00, if_neg (fun q => hy q.2.1)]
  · rw [if_neg hx, i00, if_neg (fun q => hx q.1)]
def pw (x : Int32) : Nat → Int64
  | 0 => 1
  | p + 1 => pw x p * x.toInt64
theorem raised (x : Int32) {p : Nat} (hp : p < 999) : fX7_raised x (nI p) = some (pw x p) := by
  unfold fX7_raised
  obtain ⟨r, e, hr⟩ := itr_0 (body := fX7_raised_L5 (nI p) x) (s := ((1 : Int64), (0 : Int32))) (fun i q => q = (pw x i, nI i)) (fun r => r = pw x p) p (by omega) rfl (fun i s hi hs => by
    subst hs
    unfold fX7_raised_L5 u2
    rcases Nat.lt_or_ge i p with hl | hl
    · left
      refine ⟨(pw x (i + 1), nI (i + 1)), ?_, hl, rfl⟩
      show (if nI p ≤ nI i then _ else _) = _
      rw [if_neg (ngen (t := p) (by omega) (by omega) hl), bd_s, bd_s, nI_1]; rfl
    · right
      refine ⟨pw x i, if_pos (show nI p ≤ nI i from gen (by omega) (by omega) hl), ?_⟩
      rw [show i = p by omega])
  rw [e, b1_s, hr]
def tv (z : Nat → Int32) (x y w : Int32) (i : Nat) : Int64 := (z (21 + 4 * i)).toInt64 * pw x (ix (z (21 + 4 * i + 1))) * pw y (ix (z (21 + 4 * i + 2))) * pw w (ix (z (21 + 4 * i + 3)))
def vs (z : Nat → Int32) (s : Bool) (x y w : Int32) : Nat → Int64
  | 0 => 0
  | i + 1 => vs z s x y w i + (if s = true ∧ 2 < ix (z (21 + 4 * i + 1)) + ix (z (21 + 4 * i + 2)) + ix (z (21 + 4 * i + 3)) then 0 else tv z x y w i)
def lim (s : Bool) : Int32 := if s then 2 else 4
theorem sumX {M : Mm} {z : Nat → Int32} {t : Nat} (ht : SRt t (blk M 1) z) (h : M.1 2 0 = nI t) (lt : t ≤ 10) (s : Bool) (x y w : Int32) : fX7_sumAt M x y w (lim s) = some (vs z s x y w t) := by
  unfold fX7_sumAt
  obtain ⟨r, e, hr⟩ := itr_0 (body := fX7_sumAt_L6 M (lim s) x y w) (s := ((0 : Int64), (0 : Int32))) (fun i q => q = (vs z s x y w i, nI i)) (fun r => r = vs z s x y w t) t (by omega) rfl (fun i q hi hq => by
    subst hq
    unfold fX7_sumAt_L6 u2
    dsimp only
    rcases Nat.lt_or_ge i t with hl | hl
    · left
      obtain ⟨q1, ⟨q2, q3, q4⟩, -, p, q, r, hp, e1, e2, e3⟩ := ht i hl
      have q1 : M.1 3 i = z (21 + 4 * i) := q1
      have q2 : M.1 4 (3 * i) = nI p := Eq.trans q2 e1
      have q3 : M.1 4 (3 * i + 1) = nI q := Eq.trans q3 e2
      have q4 : M.1 4 (3 * i + 2) = nI r := Eq.trans q4 e3
      refine ⟨(vs z s x y w (i + 1), nI (i + 1)), ?_, hl, rfl⟩
      rw [h, if_neg (ngen (t := t) (by omega) (by omega) hl), bd_s, n3i, gd_t (inbn (by omega) (by omega)), show nI (3 * i) + 1 = nI (3 * i + 1) from nI_add _ 1, gd_t (inbn (by omega) (by omega)), show nI (3 * i) + 2 = nI (3 * i + 2) from nI_add _ 2, gd_t (inbn (by omega) (by omega)), bd_s, ixn (by omega), ixn (by omega), ixn (by omega), q2, q3, q4]
      simp only [bd_s]
      rw [nI_add, nI_add, nI_1]
      have hv : vs z s x y w (i + 1) = vs z s x y w i + (if s = true ∧ 2 < p + q + r then 0 else tv z x y w i) := by
        show vs z s x y w i + _ = _
        rw [e1, e2, e3, ixn (by omega), ixn (by omega), ixn (by omega)]
      rw [hv]
      by_cases hc : lim s < nI (p + q + r)
      · rw [if_pos hc]
        have : s = true ∧ 2 < p + q + r := by
          cases s with
          | true => exact ⟨rfl, (nlt (a := 2) (by omega) (by omega)).mp hc⟩
          | false => have := (nlt (a := 4) (by omega) (by omega)).mp hc; omega
        rw [if_pos this, Int64.add_zero]
      · rw [if_neg hc, if_neg (fun a => by
          obtain ⟨rfl, a⟩ := a
          exact hc ((nlt (a := 2) (by omega) (by omega)).mpr a)), gd_t (inbn (by omega) (by omega)), raised x (by omega), b1_s, raised y (by omega), b1_s, raised w (by omega), b1_s, ixn (by omega), q1]
        unfold tv
        rw [e1, e2, e3, ixn (by omega), ixn (by omega), ixn (by omega)]
    · right
      refine ⟨vs z s x y w i, ?_, by rw [show i = t by omega]⟩
      rw [h, if_pos (gen (by omega) (by omega) hl)])
  rw [e, b1_s, hr]
/-! ===== start, term, direction ===== -/
theorem fill_loop {body : Int32 × Mm → Option ((Int32 × Mm) ⊕ Mm)} {M : Mm} {d n : Nat} {v : Int32} {f : Nat → Nat} (hn : n < 1000)
    (h : ∀ i M', i < n → (∀ c j, c ≠ d → M'.1 c j = M.1 c j) → body (nI i, M') = some (.inl (nI (i + 1), stI M' d (f i) v))) (he : ∀ M', (∀ c j, c ≠ d → M'.1 c j = M.1 c j) → body (nI n, M') = some (.inr M')) :
    ∃ M', itr body 1000 (0, M) = some M' ∧ (∀ i, i < n → M'.1 d (f i) = v) ∧ ∀ c j, (c ≠ d ∨ ∀ i, i < n → j ≠ f i) → M'.1 c j = M.1 c j := by
  refine itr_0 (fun i q => q.1 = nI i ∧ (∀ u, u < i → q.2.1 d (f u) = v) ∧ ∀ c j, (c ≠ d ∨ ∀ u, u < i → j ≠ f u) → q.2.1 c j = M.1 c j) _ n hn ⟨rfl, fun u hu => absurd hu (by omega), fun _ _ _ => rfl⟩ ?_
  rintro i ⟨x, M'⟩ hi ⟨rfl, q1, q2⟩
  rcases Nat.lt_or_ge i n with hl | hl
  · left
    refine ⟨_, h i M' hl (fun c j hc => q2 c j (Or.inl hc)), hl, rfl, fun u hu => ?_, fun c j hc => ?_⟩
    · show (stI M' d (f i) v).1 d (f u) = v
      rw [stI_rd]
      by_cases e : f u = f i
      · rw [if_pos ⟨rfl, e⟩]
      · rw [if_neg (fun q => e q.2)]
        exact q1 u (by rcases Nat.lt_or_ge u i with w | w; exact w; exact absurd (by rw [show u = i by omega]) e)
    · show (stI M' d (f i) v).1 c j = _
      rw [stI_rd, if_neg (fun q => hc.elim (fun w => w q.1) (fun w => w i (by omega) q.2))]
      exact q2 c j (hc.elim Or.inl (fun w => Or.inr (fun u hu => w u (by omega))))
  · right
    obtain rfl : i = n := by omega
    exact ⟨M', he M' (fun c j hc => q2 c j (Or.inl hc)), q1, q2⟩
theorem beginX (M : Mm) (x y w z : Int32) : ∃ M', fX4_begin M x y w z = some M' ∧ (M'.1 12 0 = x ∧ M'.1 12 1 = y ∧ M'.1 12 2 = w) ∧ (M'.1 11 1 = z ∧ M'.1 11 2 = 0 ∧ M'.1 11 3 = 0 ∧ M'.1 11 4 = 0 ∧ M'.1 11 5 = -1 ∧ M'.1 11 6 = 0 ∧ M'.1 11 8 = 0) ∧ ∀ c j, ¬ (c = 11 ∨ c = 12) → M'.1 c j = M.1 c j := by
  refine b1_x (P := fun v => (∀ c j, v.1 c j = if c = 12 ∧ j = 2 then w else if c = 12 ∧ j = 1 then y else if c = 12 ∧ j = 0 then x else M.1 c j)) (bd_st fun M1 r1 _ => bd_st fun M2 r2 _ => bd_st fun M3 r3 _ => ⟨M3, rfl, fun c j => by rw [r3, r2, r1]⟩) (fun v hv => bd_st fun M1 r1 _ => bd_st fun M2 r2 _ => bd_st fun M3 r3 _ => bd_st fun M4 r4 _ => bd_st fun M5 r5 _ => bd_st fun M6 r6 _ => bd_st fun M7 r7 _ => ⟨M7, rfl, ?_⟩)
  have r : ∀ c j, M7.1 c j = if c = 11 ∧ j = 8 then 0 else if c = 11 ∧ j = 6 then 0 else if c = 11 ∧ j = 5 then -1 else if c = 11 ∧ j = 4 then 0 else if c = 11 ∧ j = 3 then 0 else if c = 11 ∧ j = 2 then 0 else if c = 11 ∧ j = 1 then z else if c = 12 ∧ j = 2 then w else if c = 12 ∧ j = 1 then y else if c = 12 ∧ j = 0 then x else M.1 c j := fun c j => by rw [r7, r6, r5, r4, r3, r2, r1, hv]
  refine ⟨⟨?_, ?_, ?_⟩, ⟨?_, ?_, ?_, ?_, ?_, ?_, ?_⟩, fun c j hc => ?_⟩
  all_goals rw [r]
  all_goals first | rfl | skip
  rw [if_neg (by omega), if_neg (by omega), if_neg (by omega), if_neg (by omega), if_neg (by omega), if_neg (by omega), if_neg (by omega), if_neg (by omega), if_neg (by omega), if_neg (by omega)]
theorem forgetX (M : Mm) : ∃ M', fX1_forgetTaken M = some M' ∧ (∀ i, i < 8 → M'.1 10 i = 0) ∧ ∀ c j, c ≠ 10 → M'.1 c j = M.1 c j := by
  obtain ⟨M', f, a, b⟩ := fill_loop (body := fX1_forgetTaken_L2) (M := M) (d := 10) (n := 8) (v := 0) (f := fun i => i) (by omega) (fun i M' hi _ => by
    unfold fX1_forgetTaken_L2 u2
    dsimp only
    rw [if_neg (show ¬ 8 ≤ nI i from ngen (t := 8) (by omega) (by omega) hi), gd_t (inbn hi (by omega)), bd_s, bd_s, ixn (by omega), nI_1]) (fun M' _ => by
    unfold fX1_forgetTaken_L2 u2
    exact if_pos (show (8 : Int32) ≤ nI 8 by decide))
  exact ⟨M', by unfold fX1_forgetTaken; rw [f, b1_s], a, fun c j hc => b c j (Or.inl hc)⟩
/-! ===== term ===== -/
theorem addT {M : Mm} {t : Nat} (h : M.1 2 0 = nI t) (lt : t < 10) (a b c d : Int32) : ∃ M', fX7_add M a b c d = some M' ∧ ∀ c' j, M'.1 c' j = if c' = 2 ∧ j = 0 then nI (t + 1) else if c' = 4 ∧ j = 3 * t + 2 then d else if c' = 4 ∧ j = 3 * t + 1 then c else if c' = 4 ∧ j = 3 * t then b else if c' = 3 ∧ j = t then a else M.1 c' j := by
  unfold fX7_add
  rw [h, if_pos (show nI t < 10 from ltn (t := 10) (by omega) (by omega) lt), gd_t (inbn lt (by omega)), ixn (by omega)]
  refine bd_st fun M1 r1 _ => ?_
  have h1 : M1.1 2 0 = nI t := by rw [r1, if_neg (by omega), h]
  rw [h1, n3i, gd_t (inbn (by omega) (by omega)), ixn (by omega)]
  refine bd_st fun M2 r2 _ => ?_
  have h2 : M2.1 2 0 = nI t := by rw [r2, if_neg (by omega), h1]
  rw [h2, n3i, show nI (3 * t) + 1 = nI (3 * t + 1) from nI_add _ 1, gd_t (inbn (by omega) (by omega)), ixn (by omega)]
  refine bd_st fun M3 r3 _ => ?_
  have h3 : M3.1 2 0 = nI t := by rw [r3, if_neg (by omega), h2]
  rw [h3, n3i, show nI (3 * t) + 2 = nI (3 * t + 2) from nI_add _ 2, gd_t (inbn (by omega) (by omega)), ixn (by omega)]
  refine bd_st fun M4 r4 _ => ?_
  have h4 : M4.1 2 0 = nI t := by rw [r4, if_neg (by omega), h3]
  rw [h4, nI_1]
  refine bd_st fun M5 r5 _ => ⟨M5, rfl, fun c' j => ?_⟩
  rw [r5, r4, r3, r2, r1]
theorem rg_n {N : Nat} {x c : Int32} (h : rg 0 c x) (hc : c.toInt = N) (hN : N < 2147483648) : ∃ p, p ≤ N ∧ x = nI p := by
  have z0 : (0 : Int32).toInt = 0 := rfl
  obtain ⟨p, h1, h2⟩ := nI_of (x := x) (by rw [Int32.lt_iff_toInt_lt]; omega)
  refine ⟨p, ?_, h2⟩
  have := h.2
  rw [h2, tin h1, hc] at this
  omega
abbrev goodT (w1 w2 w3 w4 : Int32) : Prop := rg (-99) 99 w1 ∧ ¬ w1 = 0 ∧ rg 0 4 w2 ∧ rg 0 4 w3 ∧ rg 0 4 w4
theorem termX (M : Mm) (w1 w2 w3 w4 : Int32) : fX10_term M w1 w2 w3 w4 = if goodT w1 w2 w3 w4 ∧ ofv (M.1 1 0) w3 w4 ∧ (w2 + w3) + w4 ≤ 4 then (if (M.1 2 0) < 10 then b1 (fX2_push M) fun M11 => b1 (fX7_add M11 w1 w2 w3 w4) fun M13 => some (M13.1 2 0, M13) else some ((-1000003), M)) else some ((-1000001), M) := by
  unfold fX10_term
  rw [within_in, in_any, b1_s]
  by_cases h1 : rg (-99) 99 w1
  · rw [if_pos h1, i10]
    by_cases h2 : w1 = 0
    · rw [if_pos h2, if_neg (fun q => q.1.2.1 h2)]
    · rw [if_neg h2, fitX, b1_s]
      by_cases h3 : rg 0 4 w2 ∧ rg 0 4 w3 ∧ rg 0 4 w4 ∧ ofv (M.1 1 0) w3 w4
      · rw [if_pos h3, i10]
        by_cases h4 : (w2 + w3) + w4 ≤ 4
        · rw [if_pos h4, if_pos (show goodT w1 w2 w3 w4 ∧ ofv (M.1 1 0) w3 w4 ∧ (w2 + w3) + w4 ≤ 4 from ⟨⟨h1, h2, h3.1, h3.2.1, h3.2.2.1⟩, h3.2.2.2, h4⟩)]
        · rw [if_neg h4, if_neg (fun q => h4 q.2.2)]
      · rw [if_neg h3, i00, if_neg (fun q => h3 ⟨q.1.2.2.1, q.1.2.2.2.1, q.1.2.2.2.2, q.2.1⟩)]
  · rw [if_neg h1, i00, if_neg (fun q => h1 q.1.1)]
/-! ===== direction ===== -/
theorem addD {M : Mm} {t : Nat} (h : M.1 8 0 = nI t) (lt : t < 8) (a b c : Int32) : ∃ M', fX1_add M a b c = some M' ∧ ∀ c' j, M'.1 c' j = if c' = 8 ∧ j = 0 then nI (t + 1) else if c' = 10 ∧ j = t then 0 else if c' = 9 ∧ j = 3 * t + 2 then c else if c' = 9 ∧ j = 3 * t + 1 then b else if c' = 9 ∧ j = 3 * t then a else M.1 c' j := by
  unfold fX1_add
  rw [h, if_pos (show nI t < 8 from ltn (t := 8) (by omega) (by omega) lt), n3i, gd_t (inbn (by omega) (by omega)), ixn (by omega)]
  refine bd_st fun M1 r1 _ => ?_
  have h1 : M1.1 8 0 = nI t := by rw [r1, if_neg (by omega), h]
  rw [h1, n3i, show nI (3 * t) + 1 = nI (3 * t + 1) from nI_add _ 1, gd_t (inbn (by omega) (by omega)), ixn (by omega)]
  refine bd_st fun M2 r2 _ => ?_
  have h2 : M2.1 8 0 = nI t := by rw [r2, if_neg (by omega), h1]
  rw [h2, n3i, show nI (3 * t) + 2 = nI (3 * t + 2) from nI_add _ 2, gd_t (inbn (by omega) (by omega)), ixn (by omega)]
  refine bd_st fun M3 r3 _ => ?_
  have h3 : M3.1 8 0 = nI t := by rw [r3, if_neg (by omega), h2]
  rw [h3, gd_t (inbn (by omega) (by omega)), ixn (by omega)]
  refine bd_st fun M4 r4 _ => ?_
  have h4 : M4.1 8 0 = nI t := by rw [r4, if_neg (by omega), h3]
  rw [h4, nI_1]
  refine bd_st fun M5 r5 _ => ⟨M5, rfl, fun c' j => ?_⟩
  rw [r5, r4, r3, r2, r1]
abbrev isD (z : Nat → Int32) (a b c : Int32) (i : Nat) : Prop := z (61 + 4 * i) = a ∧ z (61 + 4 * i + 1) = b ∧ z (61 + 4 * i + 2) = c
def fndD (z : Nat → Int32) (d : Nat) (a b c : Int32) (r : Unit ⊕ Unit) : Prop := (r = .inl () ∧ ∃ i, i < d ∧ isD z a b c i) ∨ (r = .inr () ∧ ∀ i, i < d → ¬ isD z a b c i)
theorem hasX {M : Mm} {z : Nat → Int32} {n d : Nat} (hd : SRd n d (blk M 1) z) (h : M.1 8 0 = nI d) (ld : d ≤ 8) (a b c : Int32) : ∃ r, itr (fX1_has_L3 M a b c) 1000 0 = some r ∧ fndD z d a b c r := by
  refine itr_0 (body := fX1_has_L3 M a b c) (s := (0 : Int32)) (fun i q => q = nI i ∧ ∀ u, u < i → ¬ isD z a b c u) _ d (by omega) ⟨rfl, fun u hu => absurd hu (by omega)⟩ ?_
  rintro i _ hi ⟨rfl, q⟩
  unfold fX1_has_L3
  rw [h]
  rcases Nat.lt_or_ge i d with hl | hl
  · obtain ⟨-, ⟨q1, q2, q3⟩, -⟩ := hd i hl
    have q1 : M.1 9 (3 * i) = z (61 + 4 * i) := q1
    have q2 : M.1 9 (3 * i + 1) = z (61 + 4 * i + 1) := q2
    have q3 : M.1 9 (3 * i + 2) = z (61 + 4 * i + 2) := q3
    rw [if_neg (ngen (t := d) (by omega) (by omega) hl), bd_s, n3i, show nI (3 * i) + 1 = nI (3 * i + 1) from nI_add _ 1, show nI (3 * i) + 2 = nI (3 * i + 2) from nI_add _ 2, gd_t (inbn (by omega) (by omega)), bd_s, bd_s, ixn (by omega), ixn (by omega), ixn (by omega), q1, q2, q3, nI_1]
    have nx : ¬ isD z a b c i → ∀ u, u < i + 1 → ¬ isD z a b c u := fun w u hu => by
      rcases Nat.lt_or_ge u i with e | e
      · exact q u e
      · rw [show u = i by omega]; exact w
    by_cases h1 : z (61 + 4 * i) = a
    · rw [if_pos h1, gd_t (inbn (by omega) (by omega))]
      by_cases h2 : z (61 + 4 * i + 1) = b
      · rw [if_pos h2, gd_t (inbn (by omega) (by omega))]
        by_cases h3 : z (61 + 4 * i + 2) = c
        · rw [if_pos h3]; exact Or.inr ⟨_, rfl, Or.inl ⟨rfl, i, hl, h1, h2, h3⟩⟩
        · rw [if_neg h3]; exact Or.inl ⟨_, rfl, hl, rfl, nx (fun w => h3 w.2.2)⟩
      · rw [if_neg h2]; exact Or.inl ⟨_, rfl, hl, rfl, nx (fun w => h2 w.2.1)⟩
    · rw [if_neg h1]; exact Or.inl ⟨_, rfl, hl, rfl, nx (fun w => h1 w.1)⟩
  · rw [if_pos (gen (by omega) (by omega) hl)]
    exact Or.inr ⟨_, rfl, Or.inr ⟨rfl, fun u hu => q u (by omega)⟩⟩
abbrev goodD (n w1 w2 w3 : Int32) : Prop := (rg (-3) 3 w1 ∧ rg (-3) 3 w2 ∧ rg (-3) 3 w3 ∧ ofv n w2 w3) ∧ ¬ (w1 = 0 ∧ w2 = 0 ∧ w3 = 0)
theorem directionX (M : Mm) (w1 w2 w3 : Int32) : fX10_direction M w1 w2 w3 = if goodD (M.1 1 0) w1 w2 w3 then (b1 (fX1_has M w1 w2 w3) fun x7 => (if x7 = 0 then (if (M.1 8 0) < 8 then b1 (fX2_push M) fun M11 => b1 (fX1_add M11 w1 w2 w3) fun M13 => some ((M13.1 8 0) - 1, M13) else some ((-1000003), M)) else some ((-1000002), M))) else some ((-1000001), M) := by
  unfold fX10_direction
  rw [fitX, b1_s]
  simp only [bd_s]
  by_cases h1 : rg (-3) 3 w1 ∧ rg (-3) 3 w2 ∧ rg (-3) 3 w3 ∧ ofv (M.1 1 0) w2 w3
  · rw [if_pos h1, i10]
    by_cases a : w1 = 0
    · rw [if_pos a]
      by_cases b : w2 = 0
      · rw [if_pos b]
        by_cases c : w3 = 0
        · rw [if_pos c, if_neg (fun q => q.2 ⟨a, b, c⟩)]
        · rw [if_neg c, if_pos (show goodD (M.1 1 0) w1 w2 w3 from ⟨h1, fun q => c q.2.2⟩)]
      · rw [if_neg b, if_pos (show goodD (M.1 1 0) w1 w2 w3 from ⟨h1, fun q => b q.2.1⟩)]
    · rw [if_neg a, if_pos (show goodD (M.1 1 0) w1 w2 w3 from ⟨h1, fun q => a q.1⟩)]
  · rw [if_neg h1, i00, if_neg (fun q => h1 q.1)]
theorem bs_l {α β γ : Type} (a : α) (k : α → Option γ) (j : β → Option γ) : bs (some (.inl a)) k j = k a := rfl
theorem bs_r {α β γ : Type} (b : β) (k : α → Option γ) (j : β → Option γ) : bs (some (.inr b)) k j = j b := rfl
/-! ===== dropTerm, dropDirection ===== -/
theorem shift_loop {body : Int32 × Mm → Option ((Int32 × Mm) ⊕ Mm)} {M : Mm} {a s m w : Nat} (hm : m < 1000) (hw : 0 < w)
    (h : ∀ u M', u < m → (∀ c j, c ≠ a → M'.1 c j = M.1 c j) → (∀ j, ¬ (s ≤ j ∧ j < s + u) → M'.1 a j = M.1 a j) → body (nI (s + u), M') = some (.inl (nI (s + (u + 1)), stI M' a (s + u) (M'.1 a (s + u + w)))))
    (he : ∀ M', (∀ c j, c ≠ a → M'.1 c j = M.1 c j) → (∀ j, ¬ (s ≤ j ∧ j < s + m) → M'.1 a j = M.1 a j) → body (nI (s + m), M') = some (.inr M')) :
    ∃ M', itr body 1000 (nI s, M) = some M' ∧ (∀ j, s ≤ j → j < s + m → M'.1 a j = M.1 a (j + w)) ∧ (∀ j, ¬ (s ≤ j ∧ j < s + m) → M'.1 a j = M.1 a j) ∧ ∀ c j, c ≠ a → M'.1 c j = M.1 c j := by
  refine itr_0 (fun u q => q.1 = nI (s + u) ∧ (∀ j, s ≤ j → j < s + u → q.2.1 a j = M.1 a (j + w)) ∧ (∀ j, ¬ (s ≤ j ∧ j < s + u) → q.2.1 a j = M.1 a j) ∧ ∀ c j, c ≠ a → q.2.1 c j = M.1 c j) _ m hm ⟨rfl, fun j h1 h2 => by omega, fun _ _ => rfl, fun _ _ _ => rfl⟩ ?_
  rintro u ⟨x, M'⟩ hu ⟨rfl, q1, q2, q3⟩
  rcases Nat.lt_or_ge u m with hl | hl
  · left
    refine ⟨_, h u M' hl q3 q2, hl, rfl, fun j h1 h2 => ?_, fun j hj => ?_, fun c j hc => ?_⟩
    · show (stI M' a (s + u) (M'.1 a (s + u + w))).1 a j = _
      rw [stI_rd]
      by_cases e : j = s + u
      · rw [if_pos ⟨rfl, e⟩, q2 _ (by omega), e]
      · rw [if_neg (by omega)]; exact q1 j h1 (by omega)
    · show (stI M' a (s + u) (M'.1 a (s + u + w))).1 a j = _
      rw [stI_rd, if_neg (by omega)]; exact q2 j (by omega)
    · show (stI M' a (s + u) (M'.1 a (s + u + w))).1 c j = _
      rw [stI_rd, if_neg (fun q => hc q.1)]; exact q3 c j hc
  · right
    obtain rfl : u = m := by omega
    exact ⟨M', he M' q3 q2, q1, q2, q3⟩
theorem gapX (M : Mm) {a n w i t : Nat} (hw : 0 < w) (hi : i < t) (hn : w * t ≤ n) (hn2 : n < 900) : ∃ M', fX10_closeGap a n M (nI w) (nI i) (nI t) = some M' ∧ (∀ j, w * i ≤ j → j + w < w * t → M'.1 a j = M.1 a (j + w)) ∧ (∀ j, ¬ (w * i ≤ j ∧ j + w < w * t) → M'.1 a j = M.1 a j) ∧ ∀ c j, c ≠ a → M'.1 c j = M.1 c j := by
  have hwi : w * (i + 1) ≤ w * t := Nat.mul_le_mul_left w hi
  rw [Nat.mul_add, Nat.mul_one] at hwi
  obtain ⟨M', f, b1', b2', b3'⟩ := shift_loop (body := fX10_closeGap_L5 (nI w) (nI t) n a) (M := M) (a := a) (s := w * i) (m := w * t - w - w * i) (w := w) (by omega) hw (fun u M' hu q1 q2 => by
    unfold fX10_closeGap_L5 u2
    dsimp only
    rw [pk_mul, nI_add, if_neg (ngen (by omega) (by omega) (by omega)), gd_t (inbn (by omega) (by omega)), gd_t (inbn (by omega) (by omega)), bd_s, bd_s, ixn (by omega), ixn (by omega), nI_1, Nat.add_assoc (w * i) u 1]) (fun M' q1 q2 => by
    unfold fX10_closeGap_L5 u2
    dsimp only
    rw [pk_mul, nI_add, if_pos (gen (by omega) (by omega) (by omega))])
  refine ⟨M', ?_, fun j h1 h2 => b1' j h1 (by omega), fun j hj => b2' j (by omega), b3'⟩
  unfold fX10_closeGap
  rw [pk_mul, bd_s, f, b1_s]
theorem m1_ne {l : Nat} (h : l < 100) : ¬ nI l = -1 := fun q => by
  have := congrArg Int32.toInt q
  rw [tin (by omega), show (-1 : Int32).toInt = -1 by decide] at this
  omega
/-! ===== reset, begin, variables ===== -/
/-- the axis directions, as they stand in a row: 1 and -1 along each variable -/
def un (k v : Nat) : Int32 := if k / 2 = v then (if k % 2 = 0 then 1 else -1) else 0
theorem alongX {M : Mm} {d i : Nat} (h : M.1 8 0 = nI d) (ld : d < 8) (hi : i < 3) (x : Int32) : ∃ M', fX1_addAlong M (nI i) x = some M' ∧ ∀ c' j, M'.1 c' j = if c' = 8 ∧ j = 0 then nI (d + 1) else if c' = 10 ∧ j = d then 0 else if c' = 9 ∧ 3 * d ≤ j ∧ j < 3 * d + 3 then (if j - 3 * d = i then x else 0) else M.1 c' j := by
  have key : ∀ a b c : Int32, (∀ v, v < 3 → (if v = i then x else 0) = if v = 0 then a else if v = 1 then b else c) → ∃ M', fX1_add M a b c = some M' ∧ ∀ c' j, M'.1 c' j = if c' = 8 ∧ j = 0 then nI (d + 1) else if c' = 10 ∧ j = d then 0 else if c' = 9 ∧ 3 * d ≤ j ∧ j < 3 * d + 3 then (if j - 3 * d = i then x else 0) else M.1 c' j := by
    intro a b c hv
    obtain ⟨M', f, r⟩ := addD h ld a b c
    refine ⟨M', f, fun c' j => ?_⟩
    rw [r]
    by_cases e1 : c' = 8 ∧ j = 0
    · rw [if_pos e1, if_pos e1]
    rw [if_neg e1, if_neg e1]
    by_cases e2 : c' = 10 ∧ j = d
    · rw [if_pos e2, if_pos e2]
    rw [if_neg e2, if_neg e2]
    by_cases e3 : c' = 9 ∧ 3 * d ≤ j ∧ j < 3 * d + 3
    · rw [if_pos e3, hv (j - 3 * d) (by omega)]
      by_cases e4 : j - 3 * d = 0
      · rw [if_pos e4, if_neg (by omega), if_neg (by omega), if_pos (by omega)]
      · rw [if_neg e4]
        by_cases e5 : j - 3 * d = 1
        · rw [if_pos e5, if_neg (by omega), if_pos (by omega)]
        · rw [if_neg e5, if_pos (by omega)]
    · rw [if_neg e3, if_neg (by omega), if_neg (by omega), if_neg (by omega)]
  unfold fX1_addAlong
  rcases (show i = 0 ∨ i = 1 ∨ i = 2 by omega) with rfl | rfl | rfl
  · rw [bd_s, if_pos (show nI 0 = 0 from rfl)]; dsimp only; rw [bd_s, if_neg (show ¬ nI 0 = 1 by decide)]; dsimp only; rw [if_neg (show ¬ nI 0 = 2 by decide)]
    obtain ⟨M', f, r⟩ := key x 0 0 (fun v hv => by rcases (show v = 0 ∨ v = 1 ∨ v = 2 by omega) with rfl | rfl | rfl <;> rfl)
    exact ⟨M', by rw [f, b1_s], r⟩
  · rw [bd_s, if_neg (show ¬ nI 1 = 0 by decide)]; dsimp only; rw [bd_s, if_pos (show nI 1 = 1 from rfl)]; dsimp only; rw [if_neg (show ¬ nI 1 = 2 by decide)]
    obtain ⟨M', f, r⟩ := key 0 x 0 (fun v hv => by rcases (show v = 0 ∨ v = 1 ∨ v = 2 by omega) with rfl | rfl | rfl <;> rfl)
    exact ⟨M', by rw [f, b1_s], r⟩
  · rw [bd_s, if_neg (show ¬ nI 2 = 0 by decide)]; dsimp only; rw [bd_s, if_neg (show ¬ nI 2 = 1 by decide)]; dsimp only; rw [if_pos (show nI 2 = 2 from rfl)]
    obtain ⟨M', f, r⟩ := key 0 0 x (fun v hv => by rcases (show v = 0 ∨ v = 1 ∨ v = 2 by omega) with rfl | rfl | rfl <;> rfl)
    exact ⟨M', by rw [f, b1_s], r⟩
theorem dirsX (M : Mm) {n : Nat} (hn : n ≤ 3) : ∃ M', fX1_reset M (nI n) = some M' ∧ M'.1 8 0 = nI (2 * n) ∧ (∀ i, i < 2 * n → M'.1 10 i = 0 ∧ ∀ v, v < 3 → M'.1 9 (3 * i + v) = un i v) ∧ ∀ c j, c ≠ 8 → c ≠ 9 → c ≠ 10 → M'.1 c j = M.1 c j := by
  obtain ⟨M', f, a1, a2, a3⟩ := itr_0 (body := fX1_reset_L7 (nI n)) (s := ((0 : Int32), stI M 8 0 0)) (fun i q => q.1 = nI i ∧ q.2.1 8 0 = nI (2 * i) ∧ (∀ u, u < 2 * i → q.2.1 10 u = 0 ∧ ∀ v, v < 3 → q.2.1 9 (3 * u + v) = un u v) ∧ ∀ c j, c ≠ 8 → c ≠ 9 → c ≠ 10 → q.2.1 c j = M.1 c j) (fun M' => M'.1 8 0 = nI (2 * n) ∧ (∀ i, i < 2 * n → M'.1 10 i = 0 ∧ ∀ v, v < 3 → M'.1 9 (3 * i + v) = un i v) ∧ ∀ c j, c ≠ 8 → c ≠ 9 → c ≠ 10 → M'.1 c j = M.1 c j) n (by omega) ⟨rfl, by show (stI M 8 0 0).1 8 0 = _; rw [stI_rd, if_pos ⟨rfl, rfl⟩]; rfl, fun u hu => by omega, fun c j h1 _ _ => by show (stI M 8 0 0).1 c j = _; rw [stI_rd, if_neg (by omega)]⟩ (by
    rintro i ⟨x, M'⟩ hi ⟨rfl, q1, q2, q3⟩
    rcases Nat.lt_or_ge i n with hl | hl
    · left
      obtain ⟨M1, f1, r1⟩ := alongX (i := i) q1 (by omega) (by omega) 1
      obtain ⟨M2, f2, r2⟩ := alongX (M := M1) (d := 2 * i + 1) (i := i) (by rw [r1, if_pos ⟨rfl, rfl⟩]) (by omega) (by omega) (-1)
      refine ⟨(nI (i + 1), M2), ?_, hl, rfl, ?_, fun u hu => ⟨?_, fun v hv => ?_⟩, fun c j h1 h2 h3 => ?_⟩
      · unfold fX1_reset_L7 u2
        dsimp only
        rw [if_neg (ngen (by omega) (by omega) hl), f1, b1_s, f2, b1_s, nI_1, bd_s]
      · show M2.1 8 0 = _
        rw [r2, if_pos ⟨rfl, rfl⟩]; exact congrArg nI (by omega)
      · show M2.1 10 u = 0
        rw [r2, if_neg (by omega)]
        by_cases e : u = 2 * i + 1
        · rw [if_pos ⟨rfl, e⟩]
        · rw [if_neg (by omega), if_neg (by omega), r1, if_neg (by omega)]
          by_cases e' : u = 2 * i
          · rw [if_pos ⟨rfl, e'⟩]
          · rw [if_neg (by omega), if_neg (by omega)]; exact (q2 u (by omega)).1
      · show M2.1 9 (3 * u + v) = un u v
        rw [r2, if_neg (by omega), if_neg (by omega)]
        by_cases e : u = 2 * i + 1
        · rw [if_pos (by omega)]
          unfold un
          by_cases e' : v = i
          · rw [if_pos (by omega), if_pos (by omega), if_neg (by omega)]
          · rw [if_neg (by omega), if_neg (by omega)]
        · rw [if_neg (by omega), r1, if_neg (by omega), if_neg (by omega)]
          by_cases e2 : u = 2 * i
          · rw [if_pos (by omega)]
            unfold un
            by_cases e' : v = i
            · rw [if_pos (by omega), if_pos (by omega), if_pos (by omega)]
            · rw [if_neg (by omega), if_neg (by omega)]
          · rw [if_neg (by omega)]; exact (q2 u (by omega)).2 v hv
      · show M2.1 c j = _
        rw [r2, if_neg (by omega), if_neg (by omega), if_neg (by omega), r1, if_neg (by omega), if_neg (by omega), if_neg (by omega)]
        exact q3 c j h1 h2 h3
    · right
      obtain rfl : i = n := by omega
      refine ⟨M', ?_, q1, q2, q3⟩
      unfold fX1_reset_L7 u2
      dsimp only
      rw [if_pos (gen (by omega) (by omega) (by omega))])
  exact ⟨M', by unfold fX1_reset; rw [bd_s, f, b1_s], a1, a2, a3⟩
theorem boundsX (M : Mm) : ∃ M', fX0_reset M = some M' ∧ (∀ v, v < 3 → M'.1 6 v = -50 ∧ M'.1 7 v = 50) ∧ ∀ c j, c ≠ 6 → c ≠ 7 → M'.1 c j = M.1 c j := by
  obtain ⟨M', f, a1, a2⟩ := itr_0 (body := fX0_reset_L2) (s := ((0 : Int32), M)) (fun i q => q.1 = nI i ∧ (∀ v, v < i → q.2.1 6 v = -50 ∧ q.2.1 7 v = 50) ∧ ∀ c j, c ≠ 6 → c ≠ 7 → q.2.1 c j = M.1 c j) (fun M' => (∀ v, v < 3 → M'.1 6 v = -50 ∧ M'.1 7 v = 50) ∧ ∀ c j, c ≠ 6 → c ≠ 7 → M'.1 c j = M.1 c j) 3 (by omega) ⟨rfl, fun v hv => absurd hv (by omega), fun _ _ _ _ => rfl⟩ (by
    rintro i ⟨x, M'⟩ hi ⟨rfl, q1, q2⟩
    rcases Nat.lt_or_ge i 3 with hl | hl
    · left
      have r : ∀ c j, (stI (stI M' 6 i (-50)) 7 i 50).1 c j = if c = 7 ∧ j = i then 50 else if c = 6 ∧ j = i then -50 else M'.1 c j := fun c j => by rw [stI_rd, stI_rd]
      refine ⟨(nI (i + 1), stI (stI M' 6 i (-50)) 7 i 50), ?_, hl, rfl, fun v hv => ⟨?_, ?_⟩, fun c j h1 h2 => ?_⟩
      · unfold fX0_reset_L2 u2
        dsimp only
        rw [if_neg (show ¬ 3 ≤ nI i from ngen (t := 3) (by omega) (by omega) hl), gd_t (inbn (by omega) (by omega)), bd_s, bd_s, bd_s, ixn (by omega), nI_1]
      · show (stI (stI M' 6 i (-50)) 7 i 50).1 6 v = _
        rw [r, if_neg (by omega)]
        by_cases e : v = i
        · rw [if_pos ⟨rfl, e⟩]
        · rw [if_neg (by omega)]; exact (q1 v (by omega)).1
      · show (stI (stI M' 6 i (-50)) 7 i 50).1 7 v = _
        rw [r]
        by_cases e : v = i
        · rw [if_pos ⟨rfl, e⟩]
        · rw [if_neg (by omega), if_neg (by omega)]; exact (q1 v (by omega)).2
      · show (stI (stI M' 6 i (-50)) 7 i 50).1 c j = _
        rw [r, if_neg (by omega), if_neg (by omega)]; exact q2 c j h1 h2
    · right
      obtain rfl : i = 3 := by omega
      refine ⟨M', ?_, q1, q2⟩
      unfold fX0_reset_L2 u2
      dsimp only
      rw [if_pos (show (3 : Int32) ≤ nI 3 by decide)])
  exact ⟨M', by unfold fX0_reset; rw [f, b1_s], a1, a2⟩
/-- the class' side of a new row -/
def RS (n : Nat) (M : Mm) : Prop := (M.1 1 0 = nI n ∧ M.1 1 1 = 0 ∧ M.1 1 2 = 0 ∧ M.1 2 0 = 0) ∧ (M.1 8 0 = nI (2 * n) ∧ ∀ i, i < 2 * n → M.1 10 i = 0 ∧ ∀ v, v < 3 → M.1 9 (3 * i + v) = un i v) ∧ (∀ v, v < 3 → M.1 6 v = -50 ∧ M.1 7 v = 50 ∧ M.1 12 v = 0) ∧ (M.1 11 1 = 4 ∧ M.1 11 2 = 0 ∧ M.1 11 3 = 0 ∧ M.1 11 4 = 0 ∧ M.1 11 5 = -1 ∧ M.1 11 6 = 0 ∧ M.1 11 8 = 0)
theorem resetX (M : Mm) {n : Nat} (hn : n ≤ 3) : ∃ M', fX6_reset M (nI n) = some M' ∧ RS n M' ∧ ∀ c j, ¬ (1 ≤ c ∧ c < 14) → M'.1 c j = M.1 c j := by
  refine bd_st fun M1 r1 _ => bd_st fun M2 r2 _ => bd_st fun M3 r3 _ => bd_st fun M4 r4 _ => ?_
  obtain ⟨M5, f5, p5, o5⟩ := boundsX M4
  obtain ⟨M6, f6, p6, q6, o6⟩ := dirsX M5 hn
  obtain ⟨M7, f7, p7, q7, o7⟩ := beginX M6 0 0 0 4
  have r : ∀ c j, M4.1 c j = if c = 2 ∧ j = 0 then 0 else if c = 1 ∧ j = 2 then 0 else if c = 1 ∧ j = 1 then 0 else if c = 1 ∧ j = 0 then nI n else M.1 c j := fun c j => by rw [r4, r3, r2, r1]
  have l : ∀ c j, c < 6 → M7.1 c j = M4.1 c j := fun c j h => by rw [o7 c j (by omega), o6 c j (by omega) (by omega) (by omega), o5 c j (by omega) (by omega)]
  refine ⟨M7, by rw [f5, b1_s, f6, b1_s, f7, b1_s], ⟨⟨?_, ?_, ?_, ?_⟩, ⟨?_, fun i hi => ⟨?_, fun v hv => ?_⟩⟩, fun v hv => ⟨?_, ?_, ?_⟩, q7⟩, fun c j hc => ?_⟩
  · rw [l 1 0 (by omega), r, if_neg (by omega), if_neg (by omega), if_neg (by omega), if_pos ⟨rfl, rfl⟩]
  · rw [l 1 1 (by omega), r, if_neg (by omega), if_neg (by omega), if_pos ⟨rfl, rfl⟩]
  · rw [l 1 2 (by omega), r, if_neg (by omega), if_pos ⟨rfl, rfl⟩]
  · rw [l 2 0 (by omega), r, if_pos ⟨rfl, rfl⟩]
  · rw [o7 8 0 (by omega)]; exact p6
  · rw [o7 10 i (by omega)]; exact (q6 i hi).1
  · rw [o7 9 _ (by omega)]; exact (q6 i hi).2 v hv
  · rw [o7 6 v (by omega), o6 6 v (by omega) (by omega) (by omega)]; exact (p5 v hv).1
  · rw [o7 7 v (by omega), o6 7 v (by omega) (by omega) (by omega)]; exact (p5 v hv).2
  · rcases (show v = 0 ∨ v = 1 ∨ v = 2 by omega) with rfl | rfl | rfl
    · exact p7.1
    · exact p7.2.1
    · exact p7.2.2
  · rw [o7 c j (by omega), o6 c j (by omega) (by omega) (by omega), o5 c j (by omega) (by omega), r, if_neg (by omega), if_neg (by omega), if_neg (by omega), if_neg (by omega)]
theorem un_rg (k v : Nat) : -3 ≤ (un k v).toInt ∧ (un k v).toInt ≤ 3 := by
  unfold un
  by_cases h : k / 2 = v
  · rw [if_pos h]
    by_cases h2 : k % 2 = 0
    · rw [if_pos h2]; decide
    · rw [if_neg h2]; decide
  · rw [if_neg h]; decide
