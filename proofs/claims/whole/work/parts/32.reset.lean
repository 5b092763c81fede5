/-! ===== reset, begin, variables ===== -/
/-- the axis directions, as they stand in a row: 1 and -1 along each variable -/
def un (k v : Nat) : Int32 := if k / 2 = v then (if k % 2 = 0 then 1 else -1) else 0
theorem alongX {M : Mm} {d i : Nat} (h : M.1 8 0 = nI d) (ld : d < 8) (hi : i < 3) (x : Int32) : ∃ M', fX1_addAlong M (nI i) x = some M' ∧ ∀ c' j, M'.1 c' j = if c' = 8 ∧ j = 0 then nI (d + 1) else if c' = 10 ∧ j = d then 0 else if c' = 9 ∧ 3 * d ≤ j ∧ j < 3 * d + 3 then (if j - 3 * d = i then x else 0) else M.1 c' j := by
  have key : ∀ a b c : Int32, (∀ v, v < 3 → (if v = i then x else 0) = if v = 0 then a else if v = 1 then b else c) → ∃ M', fX1_add M a b c = some M' ∧ ∀ c' j, M'.1 c' j = if c' = 8 ∧ j = 0 then nI (d + 1) else if c' = 10 ∧ j = d then 0 else if c' = 9 ∧ 3 * d ≤ j ∧ j < 3 * d + 3 then (if j - 3 * d = i then x else 0) else M.1 c' j := by
    intro a b c hv
    obtain ⟨M', f, r⟩ := addD h ld a b c
    refine ⟨M', f, fun c' j => ?_⟩
    rw [r]
    by_cases e1 : c' = 8 ∧ j = 0
    · rw [if_pos e1, if_pos e1]
    rw [if_neg e1, if_neg e1]
    by_cases e2 : c' = 10 ∧ j = d
    · rw [if_pos e2, if_pos e2]
    rw [if_neg e2, if_neg e2]
    by_cases e3 : c' = 9 ∧ 3 * d ≤ j ∧ j < 3 * d + 3
    · rw [if_pos e3, hv (j - 3 * d) (by omega)]
      by_cases e4 : j - 3 * d = 0
      · rw [if_pos e4, if_neg (by omega), if_neg (by omega), if_pos (by omega)]
      · rw [if_neg e4]
        by_cases e5 : j - 3 * d = 1
        · rw [if_pos e5, if_neg (by omega), if_pos (by omega)]
        · rw [if_neg e5, if_pos (by omega)]
    · rw [if_neg e3, if_neg (by omega), if_neg (by omega), if_neg (by omega)]
  unfold fX1_addAlong
  rcases (show i = 0 ∨ i = 1 ∨ i = 2 by omega) with rfl | rfl | rfl
  · rw [bd_s, if_pos (show nI 0 = 0 from rfl)]; dsimp only; rw [bd_s, if_neg (show ¬ nI 0 = 1 by decide)]; dsimp only; rw [if_neg (show ¬ nI 0 = 2 by decide)]
    obtain ⟨M', f, r⟩ := key x 0 0 (fun v hv => by rcases (show v = 0 ∨ v = 1 ∨ v = 2 by omega) with rfl | rfl | rfl <;> rfl)
    exact ⟨M', by rw [f, b1_s], r⟩
  · rw [bd_s, if_neg (show ¬ nI 1 = 0 by decide)]; dsimp only; rw [bd_s, if_pos (show nI 1 = 1 from rfl)]; dsimp only; rw [if_neg (show ¬ nI 1 = 2 by decide)]
    obtain ⟨M', f, r⟩ := key 0 x 0 (fun v hv => by rcases (show v = 0 ∨ v = 1 ∨ v = 2 by omega) with rfl | rfl | rfl <;> rfl)
    exact ⟨M', by rw [f, b1_s], r⟩
  · rw [bd_s, if_neg (show ¬ nI 2 = 0 by decide)]; dsimp only; rw [bd_s, if_neg (show ¬ nI 2 = 1 by decide)]; dsimp only; rw [if_pos (show nI 2 = 2 from rfl)]
    obtain ⟨M', f, r⟩ := key 0 0 x (fun v hv => by rcases (show v = 0 ∨ v = 1 ∨ v = 2 by omega) with rfl | rfl | rfl <;> rfl)
    exact ⟨M', by rw [f, b1_s], r⟩
theorem dirsX (M : Mm) {n : Nat} (hn : n ≤ 3) : ∃ M', fX1_reset M (nI n) = some M' ∧ M'.1 8 0 = nI (2 * n) ∧ (∀ i, i < 2 * n → M'.1 10 i = 0 ∧ ∀ v, v < 3 → M'.1 9 (3 * i + v) = un i v) ∧ ∀ c j, c ≠ 8 → c ≠ 9 → c ≠ 10 → M'.1 c j = M.1 c j := by
  obtain ⟨M', f, a1, a2, a3⟩ := itr_0 (body := fX1_reset_L7 (nI n)) (s := ((0 : Int32), stI M 8 0 0)) (fun i q => q.1 = nI i ∧ q.2.1 8 0 = nI (2 * i) ∧ (∀ u, u < 2 * i → q.2.1 10 u = 0 ∧ ∀ v, v < 3 → q.2.1 9 (3 * u + v) = un u v) ∧ ∀ c j, c ≠ 8 → c ≠ 9 → c ≠ 10 → q.2.1 c j = M.1 c j) (fun M' => M'.1 8 0 = nI (2 * n) ∧ (∀ i, i < 2 * n → M'.1 10 i = 0 ∧ ∀ v, v < 3 → M'.1 9 (3 * i + v) = un i v) ∧ ∀ c j, c ≠ 8 → c ≠ 9 → c ≠ 10 → M'.1 c j = M.1 c j) n (by omega) ⟨rfl, by show (stI M 8 0 0).1 8 0 = _; rw [stI_rd, if_pos ⟨rfl, rfl⟩]; rfl, fun u hu => by omega, fun c j h1 _ _ => by show (stI M 8 0 0).1 c j = _; rw [stI_rd, if_neg (by omega)]⟩ (by
    rintro i ⟨x, M'⟩ hi ⟨rfl, q1, q2, q3⟩
    rcases Nat.lt_or_ge i n with hl | hl
    · left
      obtain ⟨M1, f1, r1⟩ := alongX (i := i) q1 (by omega) (by omega) 1
      obtain ⟨M2, f2, r2⟩ := alongX (M := M1) (d := 2 * i + 1) (i := i) (by rw [r1, if_pos ⟨rfl, rfl⟩]) (by omega) (by omega) (-1)
      refine ⟨(nI (i + 1), M2), ?_, hl, rfl, ?_, fun u hu => ⟨?_, fun v hv => ?_⟩, fun c j h1 h2 h3 => ?_⟩
      · unfold fX1_reset_L7 u2
        dsimp only
        rw [if_neg (ngen (by omega) (by omega) hl), f1, b1_s, f2, b1_s, nI_1, bd_s]
      · show M2.1 8 0 = _
        rw [r2, if_pos ⟨rfl, rfl⟩]; exact congrArg nI (by omega)
      · show M2.1 10 u = 0
        rw [r2, if_neg (by omega)]
        by_cases e : u = 2 * i + 1
        · rw [if_pos ⟨rfl, e⟩]
        · rw [if_neg (by omega), if_neg (by omega), r1, if_neg (by omega)]
          by_cases e' : u = 2 * i
          · rw [if_pos ⟨rfl, e'⟩]
          · rw [if_neg (by omega), if_neg (by omega)]; exact (q2 u (by omega)).1
      · show M2.1 9 (3 * u + v) = un u v
        rw [r2, if_neg (by omega), if_neg (by omega)]
        by_cases e : u = 2 * i + 1
        · rw [if_pos (by omega)]
          unfold un
          by_cases e' : v = i
          · rw [if_pos (by omega), if_pos (by omega), if_neg (by omega)]
          · rw [if_neg (by omega), if_neg (by omega)]
        · rw [if_neg (by omega), r1, if_neg (by omega), if_neg (by omega)]
          by_cases e2 : u = 2 * i
          · rw [if_pos (by omega)]
            unfold un
            by_cases e' : v = i
            · rw [if_pos (by omega), if_pos (by omega), if_pos (by omega)]
            · rw [if_neg (by omega), if_neg (by omega)]
          · rw [if_neg (by omega)]; exact (q2 u (by omega)).2 v hv
      · show M2.1 c j = _
        rw [r2, if_neg (by omega), if_neg (by omega), if_neg (by omega), r1, if_neg (by omega), if_neg (by omega), if_neg (by omega)]
        exact q3 c j h1 h2 h3
    · right
      obtain rfl : i = n := by omega
      refine ⟨M', ?_, q1, q2, q3⟩
      unfold fX1_reset_L7 u2
      dsimp only
      rw [if_pos (gen (by omega) (by omega) (by omega))])
  exact ⟨M', by unfold fX1_reset; rw [bd_s, f, b1_s], a1, a2, a3⟩
theorem boundsX (M : Mm) : ∃ M', fX0_reset M = some M' ∧ (∀ v, v < 3 → M'.1 6 v = -50 ∧ M'.1 7 v = 50) ∧ ∀ c j, c ≠ 6 → c ≠ 7 → M'.1 c j = M.1 c j := by
  obtain ⟨M', f, a1, a2⟩ := itr_0 (body := fX0_reset_L2) (s := ((0 : Int32), M)) (fun i q => q.1 = nI i ∧ (∀ v, v < i → q.2.1 6 v = -50 ∧ q.2.1 7 v = 50) ∧ ∀ c j, c ≠ 6 → c ≠ 7 → q.2.1 c j = M.1 c j) (fun M' => (∀ v, v < 3 → M'.1 6 v = -50 ∧ M'.1 7 v = 50) ∧ ∀ c j, c ≠ 6 → c ≠ 7 → M'.1 c j = M.1 c j) 3 (by omega) ⟨rfl, fun v hv => absurd hv (by omega), fun _ _ _ _ => rfl⟩ (by
    rintro i ⟨x, M'⟩ hi ⟨rfl, q1, q2⟩
    rcases Nat.lt_or_ge i 3 with hl | hl
    · left
      have r : ∀ c j, (stI (stI M' 6 i (-50)) 7 i 50).1 c j = if c = 7 ∧ j = i then 50 else if c = 6 ∧ j = i then -50 else M'.1 c j := fun c j => by rw [stI_rd, stI_rd]
      refine ⟨(nI (i + 1), stI (stI M' 6 i (-50)) 7 i 50), ?_, hl, rfl, fun v hv => ⟨?_, ?_⟩, fun c j h1 h2 => ?_⟩
      · unfold fX0_reset_L2 u2
        dsimp only
        rw [if_neg (show ¬ 3 ≤ nI i from ngen (t := 3) (by omega) (by omega) hl), gd_t (inbn (by omega) (by omega)), bd_s, bd_s, bd_s, ixn (by omega), nI_1]
      · show (stI (stI M' 6 i (-50)) 7 i 50).1 6 v = _
        rw [r, if_neg (by omega)]
        by_cases e : v = i
        · rw [if_pos ⟨rfl, e⟩]
        · rw [if_neg (by omega)]; exact (q1 v (by omega)).1
      · show (stI (stI M' 6 i (-50)) 7 i 50).1 7 v = _
        rw [r]
        by_cases e : v = i
        · rw [if_pos ⟨rfl, e⟩]
        · rw [if_neg (by omega), if_neg (by omega)]; exact (q1 v (by omega)).2
      · show (stI (stI M' 6 i (-50)) 7 i 50).1 c j = _
        rw [r, if_neg (by omega), if_neg (by omega)]; exact q2 c j h1 h2
    · right
      obtain rfl : i = 3 := by omega
      refine ⟨M', ?_, q1, q2⟩
      unfold fX0_reset_L2 u2
      dsimp only
      rw [if_pos (show (3 : Int32) ≤ nI 3 by decide)])
  exact ⟨M', by unfold fX0_reset; rw [f, b1_s], a1, a2⟩
/-- the class' side of a new row -/
def RS (n : Nat) (M : Mm) : Prop := (M.1 1 0 = nI n ∧ M.1 1 1 = 0 ∧ M.1 1 2 = 0 ∧ M.1 2 0 = 0) ∧ (M.1 8 0 = nI (2 * n) ∧ ∀ i, i < 2 * n → M.1 10 i = 0 ∧ ∀ v, v < 3 → M.1 9 (3 * i + v) = un i v) ∧ (∀ v, v < 3 → M.1 6 v = -50 ∧ M.1 7 v = 50 ∧ M.1 12 v = 0) ∧ (M.1 11 1 = 4 ∧ M.1 11 2 = 0 ∧ M.1 11 3 = 0 ∧ M.1 11 4 = 0 ∧ M.1 11 5 = -1 ∧ M.1 11 6 = 0 ∧ M.1 11 8 = 0)
theorem resetX (M : Mm) {n : Nat} (hn : n ≤ 3) : ∃ M', fX6_reset M (nI n) = some M' ∧ RS n M' ∧ ∀ c j, ¬ (1 ≤ c ∧ c < 14) → M'.1 c j = M.1 c j := by
  refine bd_st fun M1 r1 _ => bd_st fun M2 r2 _ => bd_st fun M3 r3 _ => bd_st fun M4 r4 _ => ?_
  obtain ⟨M5, f5, p5, o5⟩ := boundsX M4
  obtain ⟨M6, f6, p6, q6, o6⟩ := dirsX M5 hn
  obtain ⟨M7, f7, p7, q7, o7⟩ := beginX M6 0 0 0 4
  have r : ∀ c j, M4.1 c j = if c = 2 ∧ j = 0 then 0 else if c = 1 ∧ j = 2 then 0 else if c = 1 ∧ j = 1 then 0 else if c = 1 ∧ j = 0 then nI n else M.1 c j := fun c j => by rw [r4, r3, r2, r1]
  have l : ∀ c j, c < 6 → M7.1 c j = M4.1 c j := fun c j h => by rw [o7 c j (by omega), o6 c j (by omega) (by omega) (by omega), o5 c j (by omega) (by omega)]
  refine ⟨M7, by rw [f5, b1_s, f6, b1_s, f7, b1_s], ⟨⟨?_, ?_, ?_, ?_⟩, ⟨?_, fun i hi => ⟨?_, fun v hv => ?_⟩⟩, fun v hv => ⟨?_, ?_, ?_⟩, q7⟩, fun c j hc => ?_⟩
  · rw [l 1 0 (by omega), r, if_neg (by omega), if_neg (by omega), if_neg (by omega), if_pos ⟨rfl, rfl⟩]
  · rw [l 1 1 (by omega), r, if_neg (by omega), if_neg (by omega), if_pos ⟨rfl, rfl⟩]
  · rw [l 1 2 (by omega), r, if_neg (by omega), if_pos ⟨rfl, rfl⟩]
  · rw [l 2 0 (by omega), r, if_pos ⟨rfl, rfl⟩]
  · rw [o7 8 0 (by omega)]; exact p6
  · rw [o7 10 i (by omega)]; exact (q6 i hi).1
  · rw [o7 9 _ (by omega)]; exact (q6 i hi).2 v hv
  · rw [o7 6 v (by omega), o6 6 v (by omega) (by omega) (by omega)]; exact (p5 v hv).1
  · rw [o7 7 v (by omega), o6 7 v (by omega) (by omega) (by omega)]; exact (p5 v hv).2
  · rcases (show v = 0 ∨ v = 1 ∨ v = 2 by omega) with rfl | rfl | rfl
    · exact p7.1
    · exact p7.2.1
    · exact p7.2.2
  · rw [o7 c j (by omega), o6 c j (by omega) (by omega) (by omega), o5 c j (by omega) (by omega), r, if_neg (by omega), if_neg (by omega), if_neg (by omega), if_neg (by omega)]
/-- a row of the reference as it begins -/
def zb (n : Nat) (j : Nat) : Int32 := if j = 0 then nI n else if j = 2 then nI (2 * n) else if j = 3 then nI 2 else if j = 9 then -1 else if 12 ≤ j ∧ j < 15 then -50 else if 15 ≤ j ∧ j < 18 then 50 else if 61 ≤ j ∧ (j - 61) / 8 < n then un ((j - 61) / 4) ((j - 61) % 4) else 0
theorem beginM (M : Mm) {n : Nat} (hn : n ≤ 3) : ∃ M', fX11_begin M (nI n) = some M' ∧ (∀ j, j < 111 → M'.1 96 j = zb n j) ∧ ∀ c j, c ≠ 96 → M'.1 c j = M.1 c j := by
  obtain ⟨M1, f1, p1, o1⟩ := fill_loop (body := fX11_begin_L2) (M := M) (d := 96) (n := 111) (v := 0) (f := fun i => i) (by omega) (fun i M' hi _ => by
    unfold fX11_begin_L2 u2
    dsimp only
    rw [if_neg (show ¬ 111 ≤ nI i from ngen (t := 111) (by omega) (by omega) hi), gd_t (inbn hi (by omega)), bd_s, bd_s, ixn (by omega), nI_1]) (fun M' _ => by
    unfold fX11_begin_L2 u2
    exact if_pos (show (111 : Int32) ≤ nI 111 by decide))
  unfold fX11_begin
  rw [f1, b1_s]
  refine bd_st fun M2 r2 _ => bd_st fun M3 r3 _ => bd_st fun M4 r4 _ => ?_
  have r : ∀ c j, M4.1 c j = if c = 96 ∧ j = 9 then -1 else if c = 96 ∧ j = 3 then 2 else if c = 96 ∧ j = 0 then nI n else M1.1 c j := fun c j => by rw [r4, r3, r2]
  obtain ⟨M5, f5, p5, o5⟩ := itr_0 (body := fX11_begin_L45) (s := ((0 : Int32), M4)) (fun i q => q.1 = nI i ∧ (∀ v, v < i → q.2.1 96 (12 + v) = -50 ∧ q.2.1 96 (15 + v) = 50) ∧ ∀ c j, ¬ (c = 96 ∧ 12 ≤ j ∧ j < 18) → q.2.1 c j = M4.1 c j) (fun M' => (∀ v, v < 3 → M'.1 96 (12 + v) = -50 ∧ M'.1 96 (15 + v) = 50) ∧ ∀ c j, ¬ (c = 96 ∧ 12 ≤ j ∧ j < 18) → M'.1 c j = M4.1 c j) 3 (by omega) ⟨rfl, fun v hv => absurd hv (by omega), fun _ _ _ => rfl⟩ (by
    rintro i ⟨x, M'⟩ hi ⟨rfl, q1, q2⟩
    rcases Nat.lt_or_ge i 3 with hl | hl
    · left
      have r : ∀ c j, (stI (stI M' 96 (12 + i) (-50)) 96 (15 + i) 50).1 c j = if c = 96 ∧ j = 15 + i then 50 else if c = 96 ∧ j = 12 + i then -50 else M'.1 c j := fun c j => by rw [stI_rd, stI_rd]
      refine ⟨(nI (i + 1), stI (stI M' 96 (12 + i) (-50)) 96 (15 + i) 50), ?_, hl, rfl, fun v hv => ⟨?_, ?_⟩, fun c j h1 => ?_⟩
      · unfold fX11_begin_L45 u2
        dsimp only
        rw [if_neg (show ¬ 3 ≤ nI i from ngen (t := 3) (by omega) (by omega) hl), show (12 : Int32) + nI i = nI (12 + i) from nI_add 12 _, show (15 : Int32) + nI i = nI (15 + i) from nI_add 15 _, gd_t (inbn (by omega) (by omega)), bd_s, gd_t (inbn (by omega) (by omega)), bd_s, bd_s, ixn (by omega), ixn (by omega), nI_1]
      · show (stI (stI M' 96 (12 + i) (-50)) 96 (15 + i) 50).1 96 (12 + v) = _
        rw [r, if_neg (by omega)]
        by_cases e : v = i
        · rw [if_pos (by omega)]
        · rw [if_neg (by omega)]; exact (q1 v (by omega)).1
      · show (stI (stI M' 96 (12 + i) (-50)) 96 (15 + i) 50).1 96 (15 + v) = _
        rw [r]
        by_cases e : v = i
        · rw [if_pos (by omega)]
        · rw [if_neg (by omega), if_neg (by omega)]; exact (q1 v (by omega)).2
      · show (stI (stI M' 96 (12 + i) (-50)) 96 (15 + i) 50).1 c j = _
        rw [r, if_neg (by omega), if_neg (by omega)]; exact q2 c j h1
    · right
      obtain rfl : i = 3 := by omega
      refine ⟨M', ?_, q1, q2⟩
      unfold fX11_begin_L45 u2
      dsimp only
      rw [if_pos (show (3 : Int32) ≤ nI 3 by decide)])
  rw [f5, b1_s]
  obtain ⟨M6, f6, p6, o6⟩ := itr_0 (body := fX11_begin_L80 (nI n)) (s := ((0 : Int32), M5)) (fun i q => q.1 = nI i ∧ (∀ j, 61 ≤ j → j < 111 → q.2.1 96 j = if (j - 61) / 8 < i then un ((j - 61) / 4) ((j - 61) % 4) else 0) ∧ ∀ c j, ¬ (c = 96 ∧ 61 ≤ j) → q.2.1 c j = M5.1 c j) (fun M' => (∀ j, 61 ≤ j → j < 111 → M'.1 96 j = if (j - 61) / 8 < n then un ((j - 61) / 4) ((j - 61) % 4) else 0) ∧ ∀ c j, ¬ (c = 96 ∧ 61 ≤ j) → M'.1 c j = M5.1 c j) n (by omega) ⟨rfl, fun j h1 h2 => by show M5.1 96 j = _; rw [if_neg (by omega), o5 96 j (by omega), r, if_neg (by omega), if_neg (by omega), if_neg (by omega)]; exact p1 j h2, fun _ _ _ => rfl⟩ (by
    rintro i ⟨x, M'⟩ hi ⟨rfl, q1, q2⟩
    rcases Nat.lt_or_ge i n with hl | hl
    · left
      have r : ∀ c j, (stI (stI M' 96 (61 + 8 * i + i) 1) 96 (61 + 8 * i + 4 + i) (-1)).1 c j = if c = 96 ∧ j = 61 + 8 * i + 4 + i then -1 else if c = 96 ∧ j = 61 + 8 * i + i then 1 else M'.1 c j := fun c j => by rw [stI_rd, stI_rd]
      refine ⟨(nI (i + 1), stI (stI M' 96 (61 + 8 * i + i) 1) 96 (61 + 8 * i + 4 + i) (-1)), ?_, hl, rfl, fun j h1 h2 => ?_, fun c j h1 => ?_⟩
      · unfold fX11_begin_L80 u2
        dsimp only
        rw [if_neg (ngen (by omega) (by omega) hl), n8i, show (61 : Int32) + nI (8 * i) = nI (61 + 8 * i) from nI_add 61 _, show nI (61 + 8 * i) + 4 = nI (61 + 8 * i + 4) from nI_add _ 4, show nI (61 + 8 * i) + nI i = nI (61 + 8 * i + i) from nI_add _ _, show nI (61 + 8 * i + 4) + nI i = nI (61 + 8 * i + 4 + i) from nI_add _ _, gd_t (inbn (by omega) (by omega)), bd_s, gd_t (inbn (by omega) (by omega)), bd_s, bd_s, ixn (by omega), ixn (by omega), nI_1]
      · show (stI (stI M' 96 (61 + 8 * i + i) 1) 96 (61 + 8 * i + 4 + i) (-1)).1 96 j = _
        rw [r]
        by_cases e1 : j = 61 + 8 * i + 4 + i
        · rw [if_pos ⟨rfl, e1⟩, if_pos (by omega)]
          subst e1
          rcases (show i = 0 ∨ i = 1 ∨ i = 2 by omega) with rfl | rfl | rfl <;> rfl
        rw [if_neg (by omega)]
        by_cases e2 : j = 61 + 8 * i + i
        · rw [if_pos ⟨rfl, e2⟩, if_pos (by omega)]
          subst e2
          rcases (show i = 0 ∨ i = 1 ∨ i = 2 by omega) with rfl | rfl | rfl <;> rfl
        rw [if_neg (by omega), q1 j h1 h2]
        by_cases e3 : (j - 61) / 8 < i
        · rw [if_pos e3, if_pos (by omega)]
        rw [if_neg e3]
        by_cases e4 : (j - 61) / 8 < i + 1
        · rw [if_pos e4]
          unfold un
          rw [Nat.div_div_eq_div_mul, if_neg]
          intro (e5 : (j - 61) / 8 = (j - 61) % 4)
          rcases (show i = 0 ∨ i = 1 ∨ i = 2 by omega) with rfl | rfl | rfl <;> omega
        · rw [if_neg e4]
      · show (stI (stI M' 96 (61 + 8 * i + i) 1) 96 (61 + 8 * i + 4 + i) (-1)).1 c j = _
        rw [r, if_neg (by omega), if_neg (by omega)]; exact q2 c j h1
    · right
      obtain rfl : i = n := by omega
      refine ⟨M', ?_, q1, q2⟩
      unfold fX11_begin_L80 u2
      dsimp only
      rw [if_pos (gen (by omega) (by omega) (by omega))])
  rw [f6, b1_s]
  refine bd_st fun M7 r7 _ => ⟨M7, rfl, fun j hj => ?_, fun c j hc => ?_⟩
  · rw [r7, show (2 : Int32) * nI n = nI (2 * n) from pk_mul 2 n]
    unfold zb
    by_cases h61 : 61 ≤ j
    · rw [if_neg (by omega), p6 j h61 hj]
      by_cases e : (j - 61) / 8 < n
      · rw [if_pos e, if_neg (by omega), if_neg (by omega), if_neg (by omega), if_neg (by omega), if_neg (by omega), if_neg (by omega), if_pos ⟨h61, e⟩]
      · rw [if_neg e, if_neg (by omega), if_neg (by omega), if_neg (by omega), if_neg (by omega), if_neg (by omega), if_neg (by omega), if_neg (fun q => e q.2)]
    by_cases e2 : j = 2
    · rw [if_pos ⟨rfl, e2⟩, if_neg (by omega), if_pos e2]
    rw [if_neg (by omega), o6 96 j (by omega)]
    by_cases eb : 12 ≤ j ∧ j < 18
    · rw [if_neg (by omega), if_neg (by omega), if_neg (by omega), if_neg (by omega)]
      by_cases ec : j < 15
      · rw [if_pos (by omega)]
        have := (p5 (j - 12) (by omega)).1
        rw [show 12 + (j - 12) = j by omega] at this
        exact this
      · rw [if_neg (by omega), if_pos (by omega)]
        have := (p5 (j - 15) (by omega)).2
        rw [show 15 + (j - 15) = j by omega] at this
        exact this
    rw [o5 96 j (by omega), r, if_neg e2]
    by_cases e0 : j = 0
    · rw [if_neg (by omega), if_neg (by omega), if_pos ⟨rfl, e0⟩, if_pos e0]
    rw [if_neg e0]
    by_cases e3 : j = 3
    · rw [if_neg (by omega), if_pos ⟨rfl, e3⟩, if_pos e3]; rfl
    rw [if_neg e3]
    by_cases e9 : j = 9
    · rw [if_pos ⟨rfl, e9⟩, if_pos e9]
    rw [if_neg (by omega), if_neg (by omega), if_neg (by omega), if_neg e9, if_neg (by omega), if_neg (by omega), if_neg (by omega)]
    exact p1 j hj
  · rw [r7, if_neg (by omega), o6 c j (by omega), o5 c j (by omega), r, if_neg (by omega), if_neg (by omega), if_neg (by omega), o1 c j (Or.inl hc)]
theorem un_rg (k v : Nat) : -3 ≤ (un k v).toInt ∧ (un k v).toInt ≤ 3 := by
  unfold un
  by_cases h : k / 2 = v
  · rw [if_pos h]
    by_cases h2 : k % 2 = 0
    · rw [if_pos h2]; decide
    · rw [if_neg h2]; decide
  · rw [if_neg h]; decide
theorem resetSR {M : Mm} {n : Nat} (h1 : 1 ≤ n) (h3 : n ≤ 3) (hx : RS n M) {z : Nat → Int32} (hz : ∀ j, j < 111 → z j = zb n j) : SR (blk M 1) z := by
  obtain ⟨⟨x0, x1, x2, x3⟩, ⟨d0, d1⟩, b, ⟨s1, s2, s3, s4, s5, s6, s8⟩⟩ := hx
  have z0 : z 0 = nI n := hz 0 (by omega)
  have z1 : z 1 = 0 := hz 1 (by omega)
  have z2 : z 2 = nI (2 * n) := hz 2 (by omega)
  have z3 : z 3 = nI 2 := hz 3 (by omega)
  have z4 : z 4 = 0 := hz 4 (by omega)
  have z5 : z 5 = 0 := hz 5 (by omega)
  have z6 : z 6 = 0 := hz 6 (by omega)
  have z7 : z 7 = 0 := hz 7 (by omega)
  have z8 : z 8 = 0 := hz 8 (by omega)
  have z9 : z 9 = -1 := hz 9 (by omega)
  have z10 : z 10 = 0 := hz 10 (by omega)
  have z11 : z 11 = 0 := hz 11 (by omega)
  have zu : ∀ i, i < 2 * n → ∀ v, v < 4 → z (61 + 4 * i + v) = un i v := fun i hi v hv => by
    rw [hz _ (by omega)]
    unfold zb
    rw [if_neg (by omega), if_neg (by omega), if_neg (by omega), if_neg (by omega), if_neg (by omega), if_neg (by omega), if_pos (by omega), show (61 + 4 * i + v - 61) / 4 = i by omega, show (61 + 4 * i + v - 61) % 4 = v by omega]
  refine ⟨n, 0, 2 * n, 2, 0, ⟨⟨h1, h3, by omega, by omega, by omega, by omega⟩, ⟨x0, z0⟩, ⟨x3, z1⟩, ⟨d0, z2⟩, ⟨s1, z3⟩, ⟨s6, z10⟩⟩, ⟨⟨x1.trans z4.symm, x2.trans z5.symm, s2.trans z6.symm, s3.trans z7.symm, s4.trans z8.symm, s5.trans z9.symm, s8.trans z11.symm⟩, Or.inl z4, Or.inl z5, Or.inl z11, Or.inl z9⟩, fun v hv => ?_, fun i hi => absurd hi (by omega), fun i hi => ⟨?_, ⟨?_, ?_, ?_⟩, ?_, ?_⟩, fun i hi => absurd hi (by omega)⟩
  · have q := b v hv
    have w1 : z (12 + v) = -50 := by
      rw [hz _ (by omega)]; unfold zb
      rw [if_neg (by omega), if_neg (by omega), if_neg (by omega), if_neg (by omega), if_pos (by omega)]
    have w2 : z (15 + v) = 50 := by
      rw [hz _ (by omega)]; unfold zb
      rw [if_neg (by omega), if_neg (by omega), if_neg (by omega), if_neg (by omega), if_neg (by omega), if_pos (by omega)]
    have w3 : z (18 + v) = 0 := by
      rw [hz _ (by omega)]; unfold zb
      rw [if_neg (by omega), if_neg (by omega), if_neg (by omega), if_neg (by omega), if_neg (by omega), if_neg (by omega), if_neg (by omega)]
    rw [w1, w2, w3]
    exact ⟨q.1, q.2.1, q.2.2, by decide, by decide⟩
  · rw [zu i hi 3 (by omega)]
    unfold un
    rw [if_neg (by omega)]
    exact (d1 i hi).1
  · exact ((d1 i hi).2 0 (by omega)).trans (zu i hi 0 (by omega)).symm
  · exact ((d1 i hi).2 1 (by omega)).trans (zu i hi 1 (by omega)).symm
  · exact ((d1 i hi).2 2 (by omega)).trans (zu i hi 2 (by omega)).symm
  · intro v hv
    rw [zu i hi v (by omega)]
    refine ⟨(un_rg i v).1, (un_rg i v).2, fun q => ?_⟩
    unfold un
    rw [if_neg (by omega)]
  · rintro ⟨q0, q1, q2⟩
    rw [show 61 + 4 * i = 61 + 4 * i + 0 by omega, zu i hi 0 (by omega)] at q0
    rw [zu i hi 1 (by omega)] at q1
    rw [zu i hi 2 (by omega)] at q2
    have ne : ∀ v, i / 2 = v → un i v ≠ 0 := fun v e => by
      unfold un
      rw [if_pos e]
      by_cases h2 : i % 2 = 0
      · rw [if_pos h2]; decide
      · rw [if_neg h2]; decide
    rcases (show i / 2 = 0 ∨ i / 2 = 1 ∨ i / 2 = 2 by omega) with e | e | e
    · exact ne 0 e q0
    · exact ne 1 e q1
    · exact ne 2 e q2
theorem p_variables {M : Mm} (h : R M) (w1 : Int32) : Ok2 (fun M => fX10_variables M w1) (fun M => fX11_variables M w1) M := by
  obtain ⟨n, t, d, e, k, hn, hsc, hb', ht, hd, hl⟩ := h.1
  have a1 : M.1 1 0 = nI n := hn.2.1.1
  have a2 : M.1 96 0 = nI n := hn.2.1.2
  rcases in_ab w1 1 3 with q | ⟨q, h1, h2⟩
  · exact .no h _ (by show fX10_variables M _ = _; unfold fX10_variables; rw [within_in, q, b1_s, i00]) (by show fX11_variables M _ = _; unfold fX11_variables; rw [q, b1_s, i00])
  rw [show (1 : Int32).toInt = 1 by decide] at h1
  rw [show (3 : Int32).toInt = 3 by decide] at h2
  obtain ⟨v, hv, rfl⟩ := nI_of (x := w1) (by rw [Int32.lt_iff_toInt_lt, show (0 : Int32).toInt = 0 by decide]; omega)
  rw [tin hv] at h1 h2
  refine Ok2.ch h (kx := fun M6 => b1 (fX6_reset M6 (nI v)) fun M8 => some (M.1 1 0, M8)) (km := fun M5 => bd (M5.1 96 0) fun x6 => b1 (fX11_begin M5 (nI v)) fun M8 => some (x6, M8)) (by
    show fX10_variables M _ = _
    unfold fX10_variables
    rw [within_in, q, b1_s, i10, bd_s]) (fun M1 e96 => by
    show fX11_variables M1 _ = _
    unfold fX11_variables
    rw [q, b1_s, i10]) (fun M1 lo => ?_)
  obtain ⟨M2, f2, p2, o2⟩ := resetX M1 (n := v) (by omega)
  refine ⟨(nI n, M2), by rw [f2, b1_s, a1], fun c j hc _ => o2 c j hc, fun M3 e3 l3 => ?_⟩
  obtain ⟨M4, f4, p4, o4⟩ := beginM M3 (n := v) (by omega)
  refine ⟨(nI n, M4), by rw [bd_s, f4, b1_s, e3, a2], fun c j hc _ => o4 c j hc, ?_, rfl⟩
  refine resetSR (n := v) (by omega) (by omega) ?_ p4
  have L : ∀ c j, c < 14 → M4.1 c j = M2.1 c j := fun c j hc => (o4 c j (by omega)).trans (l3 c j hc)
  obtain ⟨⟨x0, x1, x2, x3⟩, ⟨d0, d1⟩, b, ⟨s1, s2, s3, s4, s5, s6, s8⟩⟩ := p2
  refine ⟨⟨?_, ?_, ?_, ?_⟩, ⟨?_, fun i hi => ⟨?_, fun v hv => ?_⟩⟩, fun v hv => ⟨?_, ?_, ?_⟩, ?_, ?_, ?_, ?_, ?_, ?_, ?_⟩
  all_goals rw [L _ _ (by omega)]
  · exact x0
  · exact x1
  · exact x2
  · exact x3
  · exact d0
  · exact (d1 i hi).1
  · exact (d1 i hi).2 v hv
  · exact (b v hv).1
  · exact (b v hv).2.1
  · exact (b v hv).2.2
  · exact s1
  · exact s2
  · exact s3
  · exact s4
  · exact s5
  · exact s6
  · exact s8
