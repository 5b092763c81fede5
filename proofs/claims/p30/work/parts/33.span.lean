/-! ===== spans ===== -/
/-! ===== spans: the loops of both sides ===== -/
def cr (a b : Nat → Int32) (v : Nat) : Int32 := if v = 0 then a 1 * b 2 - a 2 * b 1 else if v = 1 then a 2 * b 0 - a 0 * b 2 else a 0 * b 1 - a 1 * b 0
def dt (N r : Nat → Int32) : Int32 := N 0 * r 0 + N 1 * r 1 + N 2 * r 2
def nz (N : Nat → Int32) : Prop := ¬ (N 0 = 0 ∧ N 1 = 0 ∧ N 2 = 0)
def bo (p : Nat → Nat → Int32) (m : Nat) (N : Nat → Int32) : Prop := (∃ r, r < m ∧ ¬ dt N (p r) ≤ 0) ∧ ∃ r, r < m ∧ ¬ 0 ≤ dt N (p r)
def Whole (p : Nat → Nat → Int32) (m : Nat) : Prop := (∃ i j, i < j ∧ j < m ∧ nz (cr (p i) (p j))) ∧ ∀ i j, i < j → j < m → nz (cr (p i) (p j)) → bo p m (cr (p i) (p j))
/-- a flag that holds a proposition -/
def bq (x : Int32) (P : Prop) : Prop := (x = 1 ∧ P) ∨ (x = 0 ∧ ¬ P)
theorem bq.z {x : Int32} {P : Prop} (h : bq x P) : x = 0 ↔ ¬ P := by
  rcases h with ⟨rfl, p⟩ | ⟨rfl, p⟩
  · exact ⟨fun q => absurd q (by decide), fun q => absurd p q⟩
  · exact ⟨fun _ => p, fun _ => rfl⟩
theorem bq.o {x : Int32} {P : Prop} (h : bq x P) : x = 0 ∨ x = 1 := h.elim (fun q => Or.inr q.1) (fun q => Or.inl q.1)
theorem bq.c {x : Int32} {P Q : Prop} (h : bq x P) (e : P ↔ Q) : bq x Q := h.elim (fun q => Or.inl ⟨q.1, e.mp q.2⟩) (fun q => Or.inr ⟨q.1, fun w => q.2 (e.mpr w)⟩)
theorem bq1 {P : Prop} (h : P) : bq 1 P := Or.inl ⟨rfl, h⟩
theorem bq0 {P : Prop} (h : ¬ P) : bq 0 P := Or.inr ⟨rfl, h⟩
theorem addAlong5 {M : Mm} {N w : Nat} (h : M.1 92 0 = nI N) (hN : N < 14) (x : Int32) : ∃ M', fX5_addAlong M (nI w) x = some M' ∧ M'.1 92 0 = nI (N + 1) ∧ (∀ v, v < 3 → M'.1 93 (3 * N + v) = if nI v = nI w then x else 0) ∧ ∀ c j, ¬ (c = 92 ∧ j = 0) → ¬ (c = 93 ∧ 3 * N ≤ j ∧ j < 3 * N + 3) → M'.1 c j = M.1 c j := by
  obtain ⟨M1, f1, a1, a2⟩ := itr_0 (body := fX5_addAlong_L2 (nI w) x) (s := ((0 : Int32), M)) (fun i q => q.1 = nI i ∧ (∀ v, v < i → q.2.1 93 (3 * N + v) = if nI v = nI w then x else 0) ∧ ∀ c j, ¬ (c = 93 ∧ 3 * N ≤ j ∧ j < 3 * N + 3) → q.2.1 c j = M.1 c j) (fun M' => (∀ v, v < 3 → M'.1 93 (3 * N + v) = if nI v = nI w then x else 0) ∧ ∀ c j, ¬ (c = 93 ∧ 3 * N ≤ j ∧ j < 3 * N + 3) → M'.1 c j = M.1 c j) 3 (by omega) ⟨rfl, fun v hv => absurd hv (by omega), fun _ _ _ => rfl⟩ (by
    rintro i ⟨y, M'⟩ hi ⟨rfl, q1, q2⟩
    have e92 : M'.1 92 0 = nI N := (q2 92 0 (by omega)).trans h
    rcases Nat.lt_or_ge i 3 with hl | hl
    · left
      refine ⟨(nI (i + 1), stI M' 93 (3 * N + i) (if nI i = nI w then x else 0)), ?_, hl, rfl, fun v hv => ?_, fun c j w1 => ?_⟩
      · unfold fX5_addAlong_L2 u2
        dsimp only
        rw [if_neg (show ¬ 3 ≤ nI i from ngen (t := 3) (by omega) (by omega) hl), bd_s]
        by_cases c : nI i = nI w
        · rw [if_pos c, if_pos c]; dsimp only; rw [e92, n3i, nI_add, gd_t (inbn (by omega) (by omega)), ixn (by omega), bd_s, nI_1, bd_s]
        · rw [if_neg c, if_neg c]; dsimp only; rw [e92, n3i, nI_add, gd_t (inbn (by omega) (by omega)), ixn (by omega), bd_s, nI_1, bd_s]
      · show (stI M' 93 (3 * N + i) _).1 93 (3 * N + v) = _
        rw [stI_rd]
        by_cases e : v = i
        · rw [if_pos (by omega), e]
        · rw [if_neg (by omega)]; exact q1 v (by omega)
      · show (stI M' 93 (3 * N + i) _).1 c j = _
        rw [stI_rd, if_neg (by omega)]; exact q2 c j w1
    · right
      obtain rfl : i = 3 := by omega
      refine ⟨M', ?_, q1, q2⟩
      unfold fX5_addAlong_L2 u2
      dsimp only
      rw [if_pos (show (3 : Int32) ≤ nI 3 by decide)])
  unfold fX5_addAlong
  rw [f1, b1_s, show M1.1 92 0 = nI N from (a2 92 0 (by omega)).trans h, nI_1]
  refine bd_st fun M2 r2 _ => ⟨M2, rfl, by rw [r2, if_pos ⟨rfl, rfl⟩], fun v hv => by rw [r2, if_neg (by omega)]; exact a1 v hv, fun c j w1 w2 => by rw [r2, if_neg w1]; exact a2 c j w2⟩
/-- the rows that the class tries: the directions, and an axis pair for each variable that is missing -/
def rws (z : Nat → Int32) (n d i v : Nat) : Int32 := if i < d then z (61 + 4 * i + v) else un (2 * n + (i - d)) v
theorem fillX {n d : Nat} {M : Mm} {z : Nat → Int32} (ln : 1 ≤ n ∧ n ≤ 3) (ld : d ≤ 8) (h8 : M.1 8 0 = nI d) (hd : ∀ i, i < d → ∀ v, v < 3 → M.1 9 (3 * i + v) = z (61 + 4 * i + v)) : ∃ M', fX5_fill M (nI n) = some M' ∧ M'.1 92 0 = nI (d + 2 * (3 - n)) ∧ (∀ i, i < d + 2 * (3 - n) → ∀ v, v < 3 → M'.1 93 (3 * i + v) = rws z n d i v) ∧ ∀ c j, c ≠ 92 → c ≠ 93 → M'.1 c j = M.1 c j := by
  unfold fX5_fill
  rw [h8]
  refine bd_st fun M1 r1 _ => ?_
  rw [show M1.1 92 0 = nI d by rw [r1, if_pos ⟨rfl, rfl⟩], n3i, ixn (by omega)]
  refine gd_x ⟨gen (t := 0) (by omega) (by omega) (by omega), by omega, by omega⟩ (bd_cp fun M2 r2 _ => ?_)
  have s0 : ∀ i, i < d → ∀ v, v < 3 → M2.1 93 (3 * i + v) = rws z n d i v := fun i hi v hv => by
    rw [r2, if_pos (by omega), r1, if_neg (by omega), show 0 + (3 * i + v - 0) = 3 * i + v by omega, hd i hi v hv]
    unfold rws
    rw [if_pos hi]
  obtain ⟨M3, f3, a1, a2, a3⟩ := itr_0 (body := fX5_fill_L29) (s := (nI n, M2)) (fun i q => q.1 = nI (n + i) ∧ q.2.1 92 0 = nI (d + 2 * i) ∧ (∀ u, u < d + 2 * i → ∀ v, v < 3 → q.2.1 93 (3 * u + v) = rws z n d u v) ∧ ∀ c j, c ≠ 92 → c ≠ 93 → q.2.1 c j = M.1 c j) (fun M' => M'.1 92 0 = nI (d + 2 * (3 - n)) ∧ (∀ i, i < d + 2 * (3 - n) → ∀ v, v < 3 → M'.1 93 (3 * i + v) = rws z n d i v) ∧ ∀ c j, c ≠ 92 → c ≠ 93 → M'.1 c j = M.1 c j) (3 - n) (by omega) ⟨rfl, by show M2.1 92 0 = _; rw [r2, if_neg (by omega), r1, if_pos ⟨rfl, rfl⟩]; rfl, s0, fun c j w1 w2 => by show M2.1 c j = _; rw [r2, if_neg (by omega), r1, if_neg (by omega)]⟩ (by
    rintro i ⟨x, M'⟩ hi ⟨rfl, q1, q2, q3⟩
    rcases Nat.lt_or_ge i (3 - n) with hl | hl
    · left
      obtain ⟨M4, f4, p1, p2, p3⟩ := addAlong5 (w := n + i) q1 (by omega) 1
      obtain ⟨M5, f5, p4, p5, p6⟩ := addAlong5 (w := n + i) p1 (by omega) (-1)
      refine ⟨(nI (n + (i + 1)), M5), ?_, hl, rfl, p4, fun u hu v hv => ?_, fun c j w1 w2 => (p6 c j (by omega) (by omega)).trans ((p3 c j (by omega) (by omega)).trans (q3 c j w1 w2))⟩
      · unfold fX5_fill_L29 u2
        dsimp only
        rw [if_neg (show ¬ 3 ≤ nI (n + i) from ngen (t := 3) (by omega) (by omega) (by omega)), f4, b1_s, f5, b1_s, nI_1, bd_s]
        rfl
      · show M5.1 93 (3 * u + v) = _
        rcases Nat.lt_or_ge u (d + 2 * i) with w | w
        · rw [p6 93 _ (by omega) (by omega), p3 93 _ (by omega) (by omega)]; exact q2 u w v hv
        · unfold rws un
          rw [if_neg (by omega)]
          rcases Nat.lt_or_ge u (d + 2 * i + 1) with w' | w'
          · obtain rfl : u = d + 2 * i := by omega
            rw [p6 93 _ (by omega) (by omega), p2 v hv]
            by_cases e : nI v = nI (n + i)
            · have := (neq (by omega) (by omega)).mp e
              rw [if_pos e, if_pos (by omega), if_pos (by omega)]
            · have : v ≠ n + i := fun q => e (by rw [q])
              rw [if_neg e, if_neg (by omega)]
          · obtain rfl : u = d + 2 * i + 1 := by omega
            rw [p5 v hv]
            by_cases e : nI v = nI (n + i)
            · have := (neq (by omega) (by omega)).mp e
              rw [if_pos e, if_pos (by omega), if_neg (by omega)]
            · have : v ≠ n + i := fun q => e (by rw [q])
              rw [if_neg e, if_neg (by omega)]
    · right
      obtain rfl : i = 3 - n := by omega
      refine ⟨M', ?_, q1, q2, q3⟩
      unfold fX5_fill_L29 u2
      dsimp only
      rw [if_pos (show 3 ≤ nI (n + (3 - n)) from gen (t := 3) (by omega) (by omega) (by omega))])
  exact ⟨M3, by rw [f3, b1_s], a1, a2, a3⟩
theorem normalX {M : Mm} {i j : Nat} (hi : i < 14) (hj : j < 14) {p : Nat → Nat → Int32} (hp : ∀ i, i < 14 → ∀ v, v < 3 → M.1 93 (3 * i + v) = p i v) : ∃ r M', fX5_findNormal M (nI (3 * i)) (nI (3 * j)) = some (r, M') ∧ bq r (nz (cr (p i) (p j))) ∧ (M'.1 94 0 = cr (p i) (p j) 0 ∧ M'.1 94 1 = cr (p i) (p j) 1 ∧ M'.1 94 2 = cr (p i) (p j) 2) ∧ ∀ c k, c ≠ 94 → M'.1 c k = M.1 c k := by
  have q : ∀ i, i < 14 → M.1 93 (3 * i) = p i 0 ∧ M.1 93 (3 * i + 1) = p i 1 ∧ M.1 93 (3 * i + 2) = p i 2 := fun i hi => ⟨hp i hi 0 (by omega), hp i hi 1 (by omega), hp i hi 2 (by omega)⟩
  obtain ⟨i0, i1, i2⟩ := q i hi
  obtain ⟨j0, j1, j2⟩ := q j hj
  obtain ⟨M3, e3, r3⟩ : ∃ M3, M3 = stI (stI (stI M 94 0 (cr (p i) (p j) 0)) 94 1 (cr (p i) (p j) 1)) 94 2 (cr (p i) (p j) 2) ∧ ∀ c k, M3.1 c k = if c = 94 ∧ k = 2 then cr (p i) (p j) 2 else if c = 94 ∧ k = 1 then cr (p i) (p j) 1 else if c = 94 ∧ k = 0 then cr (p i) (p j) 0 else M.1 c k := ⟨_, rfl, fun c k => by rw [stI_rd, stI_rd, stI_rd]⟩
  have m0 : M3.1 94 0 = cr (p i) (p j) 0 := by rw [r3, if_neg (by omega), if_neg (by omega), if_pos ⟨rfl, rfl⟩]
  have m1 : M3.1 94 1 = cr (p i) (p j) 1 := by rw [r3, if_neg (by omega), if_pos ⟨rfl, rfl⟩]
  have m2 : M3.1 94 2 = cr (p i) (p j) 2 := by rw [r3, if_pos ⟨rfl, rfl⟩]
  have f : fX5_findNormal M (nI (3 * i)) (nI (3 * j)) = (if (M3.1 94 0) = 0 then (if (M3.1 94 1) = 0 then (if (M3.1 94 2) = 0 then some (0, M3) else some (1, M3)) else some (1, M3)) else some (1, M3)) := by
    unfold fX5_findNormal
    rw [show nI (3 * i) + 1 = nI (3 * i + 1) from nI_add _ 1, show nI (3 * i) + 2 = nI (3 * i + 2) from nI_add _ 2, show nI (3 * j) + 1 = nI (3 * j + 1) from nI_add _ 1, show nI (3 * j) + 2 = nI (3 * j + 2) from nI_add _ 2, gd_t (inbn (by omega) (by omega)), gd_t (inbn (by omega) (by omega)), gd_t (inbn (by omega) (by omega)), gd_t (inbn (by omega) (by omega)), ixn (by omega), ixn (by omega), ixn (by omega), ixn (by omega), ixn (by omega), ixn (by omega), i1, i2, j1, j2, show p i 1 * p j 2 - p i 2 * p j 1 = cr (p i) (p j) 0 from rfl]
    obtain ⟨M1, e1, r1⟩ : ∃ M1, M1 = stI M 94 0 (cr (p i) (p j) 0) ∧ ∀ k, M1.1 93 k = M.1 93 k := ⟨_, rfl, fun k => by rw [stI_rd, if_neg (by omega)]⟩
    rw [← e1, bd_s, gd_t (inbn (by omega) (by omega)), gd_t (inbn (by omega) (by omega)), r1, r1, r1, r1, i0, i2, j0, j2, show p i 2 * p j 0 - p i 0 * p j 2 = cr (p i) (p j) 1 from rfl]
    obtain ⟨M2, e2, r2⟩ : ∃ M2, M2 = stI M1 94 1 (cr (p i) (p j) 1) ∧ ∀ k, M2.1 93 k = M.1 93 k := ⟨_, rfl, fun k => by rw [stI_rd, if_neg (by omega), r1]⟩
    rw [← e2, bd_s, r2, r2, r2, r2, i0, i1, j0, j1, show p i 0 * p j 1 - p i 1 * p j 0 = cr (p i) (p j) 2 from rfl, e2, e1, ← e3, bd_s]
  rw [f, m0, m1, m2]
  have fr : ∀ c k, c ≠ 94 → M3.1 c k = M.1 c k := fun c k w => by rw [r3, if_neg (by omega), if_neg (by omega), if_neg (by omega)]
  by_cases c0 : cr (p i) (p j) 0 = 0
  · rw [if_pos c0]
    by_cases c1 : cr (p i) (p j) 1 = 0
    · rw [if_pos c1]
      by_cases c2 : cr (p i) (p j) 2 = 0
      · rw [if_pos c2]
        exact ⟨0, M3, rfl, bq0 (fun w => w ⟨c0, c1, c2⟩), ⟨m0, m1, m2⟩, fr⟩
      · rw [if_neg c2]
        exact ⟨1, M3, rfl, bq1 (fun w => c2 w.2.2), ⟨m0, m1, m2⟩, fr⟩
    · rw [if_neg c1]
      exact ⟨1, M3, rfl, bq1 (fun w => c1 w.2.1), ⟨m0, m1, m2⟩, fr⟩
  · rw [if_neg c0]
    exact ⟨1, M3, rfl, bq1 (fun w => c0 w.1), ⟨m0, m1, m2⟩, fr⟩
theorem sidesX {M : Mm} {m : Nat} (hm : m ≤ 14) (h92 : M.1 92 0 = nI m) {p : Nat → Nat → Int32} {N : Nat → Int32} (hp : ∀ i, i < m → ∀ v, v < 3 → M.1 93 (3 * i + v) = p i v) (h0 : M.1 94 0 = N 0) (h1 : M.1 94 1 = N 1) (h2 : M.1 94 2 = N 2) : ∃ r, fX5_hasRowsOnBothSides M = some r ∧ bq r (bo p m N) := by
  obtain ⟨⟨a, b⟩, f, q1, q2⟩ := itr_0 (body := fX5_hasRowsOnBothSides_L6 M) (s := ((0 : Int32), (0 : Int32), (0 : Int32))) (fun i q => q.2.2 = nI i ∧ bq q.1 (∃ r, r < i ∧ ¬ dt N (p r) ≤ 0) ∧ bq q.2.1 (∃ r, r < i ∧ ¬ 0 ≤ dt N (p r))) (fun q => bq q.1 (∃ r, r < m ∧ ¬ dt N (p r) ≤ 0) ∧ bq q.2 (∃ r, r < m ∧ ¬ 0 ≤ dt N (p r))) m (by omega) ⟨rfl, bq0 (fun ⟨r, hr, _⟩ => absurd hr (by omega)), bq0 (fun ⟨r, hr, _⟩ => absurd hr (by omega))⟩ (by
    rintro i ⟨x1, x2, x3⟩ hi ⟨rfl, q1, q2⟩
    rcases Nat.lt_or_ge i m with hl | hl
    · left
      obtain ⟨D, eD⟩ : ∃ D, D = dt N (p i) := ⟨_, rfl⟩
      have st : ∀ (P : Nat → Prop) (c : Prop), (c ↔ P i) → ((∃ r, r < i + 1 ∧ P r) ↔ ((∃ r, r < i ∧ P r) ∨ c)) := fun P c hc => ⟨fun ⟨r, hr, w⟩ => by
        rcases Nat.lt_or_ge r i with q | q
        · exact Or.inl ⟨r, q, w⟩
        · exact Or.inr (hc.mpr (by rw [show i = r by omega]; exact w)), fun w => w.elim (fun ⟨r, hr, w⟩ => ⟨r, by omega, w⟩) (fun w => ⟨i, by omega, hc.mp w⟩)⟩
      have body : fX5_hasRowsOnBothSides_L6 M (x1, x2, nI i) = some (.inl ((if x1 = 0 then (if D ≤ 0 then 0 else 1) else 1), (if x2 = 0 then (if 0 ≤ D then 0 else 1) else 1), nI (i + 1))) := by
        have e0 : M.1 93 (3 * i) = p i 0 := hp i hl 0 (by omega)
        have e1 : M.1 93 (3 * i + 1) = p i 1 := hp i hl 1 (by omega)
        have e2 : M.1 93 (3 * i + 2) = p i 2 := hp i hl 2 (by omega)
        unfold fX5_hasRowsOnBothSides_L6 u3
        dsimp only
        rw [h92, if_neg (ngen (by omega) (by omega) hl), n3i, bd_s, show nI (3 * i) + 1 = nI (3 * i + 1) from nI_add _ 1, show nI (3 * i) + 2 = nI (3 * i + 2) from nI_add _ 2, gd_t (inbn (by omega) (by omega)), gd_t (inbn (by omega) (by omega)), gd_t (inbn (by omega) (by omega)), ixn (by omega), ixn (by omega), ixn (by omega), h0, h1, h2, e0, e1, e2, show N 0 * p i 0 + N 1 * p i 1 + N 2 * p i 2 = dt N (p i) from rfl, ← eD, nI_1]
        by_cases c1 : x1 = 0 <;> by_cases c2 : x2 = 0 <;> by_cases c3 : D ≤ 0 <;> by_cases c4 : 0 ≤ D <;> simp only [bd_s, c1, c2, c3, c4, if_true, if_false]
      refine ⟨_, body, hl, rfl, ?_, ?_⟩
      · show bq (if x1 = 0 then (if D ≤ 0 then 0 else 1) else 1) _
        refine bq.c ?_ (st (fun r => ¬ dt N (p r) ≤ 0) (¬ D ≤ 0) (by rw [eD])).symm
        by_cases c1 : x1 = 0
        · rw [if_pos c1]
          by_cases c3 : D ≤ 0
          · rw [if_pos c3]; exact bq0 (fun w => w.elim (q1.z.mp c1) (fun q => q c3))
          · rw [if_neg c3]; exact bq1 (Or.inr c3)
        · rw [if_neg c1]; exact bq1 (Or.inl (Classical.byContradiction fun w => c1 (q1.z.mpr w)))
      · show bq (if x2 = 0 then (if 0 ≤ D then 0 else 1) else 1) _
        refine bq.c ?_ (st (fun r => ¬ 0 ≤ dt N (p r)) (¬ 0 ≤ D) (by rw [eD])).symm
        by_cases c1 : x2 = 0
        · rw [if_pos c1]
          by_cases c3 : 0 ≤ D
          · rw [if_pos c3]; exact bq0 (fun w => w.elim (q2.z.mp c1) (fun q => q c3))
          · rw [if_neg c3]; exact bq1 (Or.inr c3)
        · rw [if_neg c1]; exact bq1 (Or.inl (Classical.byContradiction fun w => c1 (q2.z.mpr w)))
    · right
      obtain rfl : i = m := by omega
      refine ⟨(x1, x2), ?_, q1, q2⟩
      unfold fX5_hasRowsOnBothSides_L6 u3
      dsimp only
      rw [h92, if_pos (gen (by omega) (by omega) (by omega))])
  unfold fX5_hasRowsOnBothSides
  rw [f, b2_s]
  have q1 : bq a _ := q1
  have q2 : bq b _ := q2
  by_cases c1 : a = 0
  · rw [if_pos c1]; exact ⟨0, rfl, bq0 (fun w => q1.z.mp c1 w.1)⟩
  · rw [if_neg c1]
    by_cases c2 : b = 0
    · rw [if_pos c2]; exact ⟨0, rfl, bq0 (fun w => q2.z.mp c2 w.2)⟩
    · rw [if_neg c2]; exact ⟨1, rfl, bq1 ⟨Classical.byContradiction fun w => c1 (q1.z.mpr w), Classical.byContradiction fun w => c2 (q2.z.mpr w)⟩⟩
/-! ===== spans: whether the rows span, on both sides ===== -/
theorem wholeX {M : Mm} {m : Nat} (hm : m ≤ 14) (h92 : M.1 92 0 = nI m) {p : Nat → Nat → Int32} (hp : ∀ i v, M.1 93 (3 * i + v) = p i v) : ∃ q M', itr (fX5_isWhole_L11) 1000 (0, 0, M) = some q ∧ ((q = .inl M' ∧ ¬ Whole p m) ∨ ∃ x, q = .inr (x, M') ∧ bq x (Whole p m)) ∧ ∀ c j, c ≠ 94 → M'.1 c j = M.1 c j := by
  -- the rows behind row i
  have inner : ∀ i, i < m → ∀ (x : Int32) (S : Prop) (M' : Mm), bq x S → (∀ c j, c ≠ 94 → M'.1 c j = M.1 c j) → ∃ q M'', itr (fX5_isWhole_L26 (nI i)) 1000 (x, nI (i + 1), M') = some q ∧ ((q = .inl M'' ∧ ∃ j, i < j ∧ j < m ∧ nz (cr (p i) (p j)) ∧ ¬ bo p m (cr (p i) (p j))) ∨ ∃ y, q = .inr (y, M'') ∧ bq y (S ∨ ∃ j, i < j ∧ j < m ∧ nz (cr (p i) (p j))) ∧ ∀ j, i < j → j < m → nz (cr (p i) (p j)) → bo p m (cr (p i) (p j))) ∧ ∀ c j, c ≠ 94 → M''.1 c j = M.1 c j := by
    intro i hi x S M' hx fr
    obtain ⟨q, f, M'', q1, q2⟩ := itr_0 (body := fX5_isWhole_L26 (nI i)) (s := (x, nI (i + 1), M')) (fun u q => q.2.1 = nI (i + 1 + u) ∧ bq q.1 (S ∨ ∃ j, i < j ∧ j < i + 1 + u ∧ nz (cr (p i) (p j))) ∧ (∀ j, i < j → j < i + 1 + u → nz (cr (p i) (p j)) → bo p m (cr (p i) (p j))) ∧ ∀ c j, c ≠ 94 → q.2.2.1 c j = M.1 c j) (fun q => ∃ M'' : Mm, ((q = .inl M'' ∧ ∃ j, i < j ∧ j < m ∧ nz (cr (p i) (p j)) ∧ ¬ bo p m (cr (p i) (p j))) ∨ ∃ y, q = .inr (y, M'') ∧ bq y (S ∨ ∃ j, i < j ∧ j < m ∧ nz (cr (p i) (p j))) ∧ ∀ j, i < j → j < m → nz (cr (p i) (p j)) → bo p m (cr (p i) (p j))) ∧ ∀ c j, c ≠ 94 → M''.1 c j = M.1 c j) (m - (i + 1)) (by omega) ⟨rfl, hx.c ⟨Or.inl, fun w => w.elim id (fun ⟨j, h1, h2, _⟩ => by omega)⟩, fun j h1 h2 => by omega, fr⟩ (by
      rintro u ⟨x8, x9, M1⟩ hu ⟨rfl, q1, q2, q3⟩
      have e92 : M1.1 92 0 = nI m := (q3 92 0 (by omega)).trans h92
      rcases Nat.lt_or_ge (i + 1 + u) m with hl | hl
      · obtain ⟨r, M2, f2, b2', ⟨n0', n1', n2'⟩, o2⟩ := normalX (M := M1) (i := i) (j := i + 1 + u) (by omega) (by omega) (p := p) (fun i _ v _ => (q3 93 _ (by omega)).trans (hp i v))
        have o2' : ∀ c j, c ≠ 94 → M2.1 c j = M.1 c j := fun c j w => (o2 c j w).trans (q3 c j w)
        obtain ⟨s, f3, b3'⟩ := sidesX (M := M2) hm ((o2' 92 0 (by omega)).trans h92) (p := p) (N := cr (p i) (p (i + 1 + u))) (fun i _ v _ => (o2' 93 _ (by omega)).trans (hp i v)) n0' n1' n2'
        have st : (S ∨ ∃ j, i < j ∧ j < i + 1 + (u + 1) ∧ nz (cr (p i) (p j))) ↔ ((S ∨ ∃ j, i < j ∧ j < i + 1 + u ∧ nz (cr (p i) (p j))) ∨ nz (cr (p i) (p (i + 1 + u)))) := by
          constructor
          · rintro (w | ⟨j, h1, h2, h3⟩)
            · exact Or.inl (Or.inl w)
            · rcases Nat.lt_or_ge j (i + 1 + u) with w | w
              · exact Or.inl (Or.inr ⟨j, h1, w, h3⟩)
              · exact Or.inr (by rw [show i + 1 + u = j by omega]; exact h3)
          · rintro ((w | ⟨j, h1, h2, h3⟩) | w)
            · exact Or.inl w
            · exact Or.inr ⟨j, h1, by omega, h3⟩
            · exact Or.inr ⟨i + 1 + u, by omega, by omega, w⟩
        have ste : (nz (cr (p i) (p (i + 1 + u))) → bo p m (cr (p i) (p (i + 1 + u)))) → ∀ j, i < j → j < i + 1 + (u + 1) → nz (cr (p i) (p j)) → bo p m (cr (p i) (p j)) := fun w j h1 h2 => by
          rcases Nat.lt_or_ge j (i + 1 + u) with w' | w'
          · exact q2 j h1 w'
          · rw [show j = i + 1 + u by omega]; exact w
        have pre : fX5_isWhole_L26 (nI i) (x8, nI (i + 1 + u), M1) = (if r = 0 then some (.inl (x8, nI (i + 1 + (u + 1)), M2)) else (if s = 0 then some (.inr (.inl M2)) else some (.inl (1, nI (i + 1 + (u + 1)), M2)))) := by
          unfold fX5_isWhole_L26 u3
          dsimp only
          rw [e92, if_neg (ngen (by omega) (by omega) hl), n3i, n3i, f2, b2_s, bd_s]
          by_cases c1 : r = 0
          · rw [if_pos c1, if_pos c1]; dsimp only; rw [nI_1, bd_s]; rfl
          · rw [if_neg c1, if_neg c1, f3, b1_s]
            by_cases c2 : s = 0
            · rw [if_pos c2, if_pos c2]
            · rw [if_neg c2, if_neg c2]; dsimp only; rw [nI_1, bd_s]; rfl
        by_cases c1 : r = 0
        · rw [if_pos c1] at pre
          have nn := b2'.z.mp c1
          exact Or.inl ⟨_, pre, by omega, rfl, q1.c ⟨fun w => st.mpr (Or.inl w), fun w => (st.mp w).elim id (fun w => absurd w nn)⟩, ste (fun w => absurd w nn), o2'⟩
        · rw [if_neg c1] at pre
          have nn : nz (cr (p i) (p (i + 1 + u))) := Classical.byContradiction fun w => c1 (b2'.z.mpr w)
          by_cases c2 : s = 0
          · rw [if_pos c2] at pre
            exact Or.inr ⟨_, pre, M2, Or.inl ⟨rfl, i + 1 + u, by omega, hl, nn, b3'.z.mp c2⟩, o2'⟩
          · rw [if_neg c2] at pre
            have bb : bo p m (cr (p i) (p (i + 1 + u))) := Classical.byContradiction fun w => c2 (b3'.z.mpr w)
            exact Or.inl ⟨_, pre, by omega, rfl, bq1 (st.mpr (Or.inr nn)), ste (fun _ => bb), o2'⟩
      · right
        have eu : i + 1 + u = m := by omega
        refine ⟨.inr (x8, M1), ?_, M1, Or.inr ⟨x8, rfl, by rw [eu] at q1; exact q1, by rw [eu] at q2; exact q2⟩, q3⟩
        unfold fX5_isWhole_L26 u3
        dsimp only
        rw [e92, if_pos (gen (by omega) (by omega) hl)])
    exact ⟨q, M'', f, q1, q2⟩
  obtain ⟨q, f, M'', q1, q2⟩ := itr_0 (body := fX5_isWhole_L11) (s := ((0 : Int32), (0 : Int32), M)) (fun i q => q.2.1 = nI i ∧ bq q.1 (∃ i' j, i' < i ∧ i' < j ∧ j < m ∧ nz (cr (p i') (p j))) ∧ (∀ i' j, i' < i → i' < j → j < m → nz (cr (p i') (p j)) → bo p m (cr (p i') (p j))) ∧ ∀ c j, c ≠ 94 → q.2.2.1 c j = M.1 c j) (fun q => ∃ M'' : Mm, ((q = .inl M'' ∧ ¬ Whole p m) ∨ ∃ x, q = .inr (x, M'') ∧ bq x (Whole p m)) ∧ ∀ c j, c ≠ 94 → M''.1 c j = M.1 c j) m (by omega) ⟨rfl, bq0 (fun ⟨i', j, h1, _⟩ => by omega), fun i' j h1 => by omega, fun _ _ _ => rfl⟩ (by
    rintro i ⟨x3, x4, M1⟩ hi ⟨rfl, q1, q2, q3⟩
    have e92 : M1.1 92 0 = nI m := (q3 92 0 (by omega)).trans h92
    rcases Nat.lt_or_ge i m with hl | hl
    · obtain ⟨r, M2, f2, h2, o2⟩ := inner i hl x3 _ M1 q1 q3
      have pre : fX5_isWhole_L11 (x3, nI i, M1) = bs (some r) (fun (M24 : Mm) => some (Sum.inr (Sum.inl M24))) (u2 (fun (x25 : Int32) (M26 : Mm) => bd (nI i + 1) fun x27 => some (Sum.inl (x25, x27, M26)))) := by
        unfold fX5_isWhole_L11 u3
        dsimp only
        rw [e92, if_neg (ngen (by omega) (by omega) hl), nI_1, bd_s, f2]
      rcases h2 with ⟨rfl, j, h1, h2', h3, h4⟩ | ⟨y, rfl, h3, h4⟩
      · rw [bs_l] at pre
        exact Or.inr ⟨_, pre, M2, Or.inl ⟨rfl, fun w => h4 (w.2 i j h1 h2' h3)⟩, o2⟩
      · rw [bs_r] at pre
        unfold u2 at pre
        dsimp only at pre
        rw [nI_1, bd_s] at pre
        refine Or.inl ⟨_, pre, hl, rfl, h3.c ⟨?_, ?_⟩, fun i' j h1 h2' h3' => ?_, o2⟩
        · rintro (⟨i', j, w1, w2, w3, w4⟩ | ⟨j, w2, w3, w4⟩)
          · exact ⟨i', j, by omega, w2, w3, w4⟩
          · exact ⟨i, j, by omega, w2, w3, w4⟩
        · rintro ⟨i', j, w1, w2, w3, w4⟩
          rcases Nat.lt_or_ge i' i with w | w
          · exact Or.inl ⟨i', j, w, w2, w3, w4⟩
          · obtain rfl : i' = i := by omega
            exact Or.inr ⟨j, w2, w3, w4⟩
        · rcases Nat.lt_or_ge i' i with w | w
          · exact q2 i' j w h2' h3'
          · obtain rfl : i' = i := by omega
            exact h4 j h2' h3'
    · right
      have ei : i = m := by omega
      have pre : fX5_isWhole_L11 (x3, nI i, M1) = some (.inr (.inr (x3, M1))) := by
        unfold fX5_isWhole_L11 u3
        dsimp only
        rw [e92, if_pos (gen (by omega) (by omega) hl)]
      refine ⟨.inr (x3, M1), pre, M1, Or.inr ⟨x3, rfl, q1.c ⟨fun ⟨i', j, w1, w2, w3, w4⟩ => ⟨⟨i', j, w2, w3, w4⟩, fun i' j h1 h2' => q2 i' j (by omega) h1 h2'⟩, fun w => ?_⟩⟩, q3⟩
      obtain ⟨i', j, w2, w3, w4⟩ := w.1
      exact ⟨i', j, by omega, w2, w3, w4⟩)
  exact ⟨q, M'', f, q1, q2⟩
/-! ===== spans: the reference's loops ===== -/
def vec3 (a b c : Int32) : Nat → Int32 := fun v => if v = 0 then a else if v = 1 then b else c
def barr (q : Nat → Nat → Int32) (d : Nat) (N : Nat → Int32) : Prop := ∀ i, i < d → ¬ 0 < dt N (q i)
def barB (q : Nat → Nat → Int32) (d : Nat) (a b c : Int32) : Prop := barr q d (vec3 a b c) ∨ barr q d (vec3 (-a) (-b) (-c))
/-! ===== spans: both sides answer alike ===== -/
theorem cr_sw (a b : Nat → Int32) (v : Nat) : cr b a v = -(cr a b v) := by
  unfold cr
  by_cases h0 : v = 0
  · rw [if_pos h0, if_pos h0]; grind
  · rw [if_neg h0, if_neg h0]
    by_cases h1 : v = 1
    · rw [if_pos h1, if_pos h1]; grind
    · rw [if_neg h1, if_neg h1]; grind
theorem dt_neg (a b c : Int32) (r : Nat → Int32) : dt (vec3 (-a) (-b) (-c)) r = -(dt (vec3 a b c) r) := by
  show -a * r 0 + -b * r 1 + -c * r 2 = -(a * r 0 + b * r 1 + c * r 2)
  grind
def sm (B : Nat) (x : Int32) : Prop := x.toInt.natAbs ≤ B
theorem sm.mono {A B : Nat} {x : Int32} (h : sm A x) (hB : A ≤ B) : sm B x := Nat.le_trans h hB
theorem sm_mul {A B : Nat} {x y : Int32} (ha : sm A x) (hb : sm B y) (h : A * B < 2147483648) : sm (A * B) (x * y) := by
  unfold sm at *
  have e : (x.toInt * y.toInt).natAbs ≤ A * B := by rw [Int.natAbs_mul]; exact Nat.mul_le_mul ha hb
  rw [Int32.toInt_mul, Int.bmod_eq_of_le (by omega) (by omega)]; exact e
theorem sm_add {A B : Nat} {x y : Int32} (ha : sm A x) (hb : sm B y) (h : A + B < 2147483648) : sm (A + B) (x + y) := by
  unfold sm at *
  rw [Int32.toInt_add, Int.bmod_eq_of_le (by omega) (by omega)]; omega
theorem sm_neg {A : Nat} {x : Int32} (ha : sm A x) (h : A < 2147483648) : (-x).toInt = -x.toInt := by
  unfold sm at *
  rw [Int32.toInt_neg, Int.bmod_eq_of_le (by omega) (by omega)]
theorem sm_sub {A B : Nat} {x y : Int32} (ha : sm A x) (hb : sm B y) (h : A + B < 2147483648) : sm (A + B) (x - y) := by
  unfold sm at *
  rw [Int32.toInt_sub, Int.bmod_eq_of_le (by omega) (by omega)]; omega
theorem pos_neg {A : Nat} {x : Int32} (ha : sm A x) (h : A < 2147483648) : (0 < -x ↔ ¬ 0 ≤ x) ∧ (0 < x ↔ ¬ x ≤ 0) := by
  have e := sm_neg ha h
  refine ⟨?_, ?_⟩
  · rw [Int32.lt_iff_toInt_lt, Int32.le_iff_toInt_le, e, show (0 : Int32).toInt = 0 by decide]; omega
  · rw [Int32.lt_iff_toInt_lt, Int32.le_iff_toInt_le, show (0 : Int32).toInt = 0 by decide]; omega
theorem sm_cr {a b : Nat → Int32} (ha : ∀ v, v < 3 → sm 3 (a v)) (hb : ∀ v, v < 3 → sm 3 (b v)) (v : Nat) : sm 18 (cr a b v) := by
  have f : ∀ i j k l, i < 3 → j < 3 → k < 3 → l < 3 → sm 18 (a i * b j - a k * b l) := fun i j k l h1 h2 h3 h4 => sm_sub (A := 9) (B := 9) (sm_mul (ha i h1) (hb j h2) (by decide)) (sm_mul (ha k h3) (hb l h4) (by decide)) (by decide)
  unfold cr
  by_cases h0 : v = 0
  · rw [if_pos h0]; exact f 1 2 2 1 (by omega) (by omega) (by omega) (by omega)
  · rw [if_neg h0]
    by_cases h1 : v = 1
    · rw [if_pos h1]; exact f 2 0 0 2 (by omega) (by omega) (by omega) (by omega)
    · rw [if_neg h1]; exact f 0 1 1 0 (by omega) (by omega) (by omega) (by omega)
theorem sm_dt {N r : Nat → Int32} (hN : ∀ v, v < 3 → sm 18 (N v)) (hr : ∀ v, v < 3 → sm 3 (r v)) : sm 162 (dt N r) := by
  have f : ∀ i, i < 3 → sm 54 (N i * r i) := fun i h => sm_mul (hN i h) (hr i h) (by decide)
  exact sm_add (A := 108) (B := 54) (sm_add (A := 54) (B := 54) (f 0 (by omega)) (f 1 (by omega)) (by decide)) (f 2 (by omega)) (by decide)
/-- no side is bare: in the reference's words and in the class' -/
theorem bar_bo {q : Nat → Nat → Int32} {d : Nat} (hq : ∀ i, i < d → ∀ v, v < 3 → sm 3 (q i v)) {a b c : Int32} (ha : sm 18 a) (hb : sm 18 b) (hc : sm 18 c) : ¬ barB q d a b c ↔ (∃ i, i < d ∧ ¬ dt (vec3 a b c) (q i) ≤ 0) ∧ ∃ i, i < d ∧ ¬ 0 ≤ dt (vec3 a b c) (q i) := by
  have hs : ∀ i, i < d → sm 162 (dt (vec3 a b c) (q i)) := fun i hi => sm_dt (fun v hv => by
    rcases (show v = 0 ∨ v = 1 ∨ v = 2 by omega) with rfl | rfl | rfl
    · exact ha
    · exact hb
    · exact hc) (hq i hi)
  constructor
  · intro h
    refine ⟨?_, ?_⟩
    · apply Classical.byContradiction
      intro w
      exact h (Or.inl (fun i hi w' => w ⟨i, hi, (pos_neg (hs i hi) (by decide)).2.mp w'⟩))
    · apply Classical.byContradiction
      intro w
      exact h (Or.inr (fun i hi w' => w ⟨i, hi, (pos_neg (hs i hi) (by decide)).1.mp (by rw [dt_neg] at w'; exact w')⟩))
  · rintro ⟨⟨i, hi, w1⟩, j, hj, w2⟩ (w | w)
    · exact w i hi ((pos_neg (hs i hi) (by decide)).2.mpr w1)
    · exact w j hj (by rw [dt_neg]; exact (pos_neg (hs j hj) (by decide)).1.mpr w2)
theorem barB_neg {q : Nat → Nat → Int32} {d : Nat} {a b c : Int32} : barB q d (-a) (-b) (-c) ↔ barB q d a b c := by
  unfold barB
  rw [Int32.neg_neg, Int32.neg_neg, Int32.neg_neg]
  exact Or.comm
theorem dt_vec (N r : Nat → Int32) : dt (vec3 (N 0) (N 1) (N 2)) r = dt N r := rfl
theorem ng0 (x : Int32) : -x = 0 ↔ x = 0 := by
  constructor
  · intro h
    have e : - -x = -0 := by rw [h]
    rw [Int32.neg_neg] at e
    rw [e]; rfl
  · intro h; rw [h]; rfl
/-- two rows on either side are enough -/
theorem via {p : Nat → Nat → Int32} {m r1 r2 : Nat} {N : Nat → Int32} {X : Int32} (h1 : r1 < m) (h2 : r2 < m) (e1 : dt N (p r1) = X) (e2 : dt N (p r2) = -X) (hX : X ≠ 0) (hs : sm 18 X) : bo p m N := by
  have ne := sm_neg hs (by decide)
  have n0 : X.toInt ≠ 0 := fun w => hX (Int32.toInt_inj.mp (by rw [w]; rfl))
  have le : ∀ a b : Int32, a ≤ b ↔ a.toInt ≤ b.toInt := fun a b => Int32.le_iff_toInt_le
  have z0 : (0 : Int32).toInt = 0 := by decide
  rcases Int.lt_or_gt_of_ne n0 with w | w
  · exact ⟨⟨r2, h2, by rw [e2, le, ne, z0]; omega⟩, ⟨r1, h1, by rw [e1, le, z0]; omega⟩⟩
  · exact ⟨⟨r1, h1, by rw [e1, le, z0]; omega⟩, ⟨r2, h2, by rw [e2, le, ne, z0]; omega⟩⟩
/-- rows behind the directions that are square to a side don't count -/
theorem bo_bar {p q : Nat → Nat → Int32} {d m : Nat} (hdm : d ≤ m) (hA : ∀ i, i < d → ∀ v, v < 3 → p i v = q i v) (hq : ∀ i, i < d → ∀ v, v < 3 → sm 3 (q i v)) {N : Nat → Int32} (hN : ∀ v, v < 3 → sm 18 (N v)) (h0 : ∀ r, d ≤ r → r < m → dt N (p r) = 0) : bo p m N ↔ ¬ barB q d (N 0) (N 1) (N 2) := by
  have e : ∀ r, r < d → dt N (p r) = dt N (q r) := fun r hr => by
    unfold dt
    rw [hA r hr 0 (by omega), hA r hr 1 (by omega), hA r hr 2 (by omega)]
  rw [bar_bo hq (hN 0 (by omega)) (hN 1 (by omega)) (hN 2 (by omega))]
  have z1 : ¬ ¬ (0 : Int32) ≤ 0 := by decide
  constructor
  · rintro ⟨⟨r, h1, h2⟩, s, h3, h4⟩
    have r1 : r < d := by
      rcases Nat.lt_or_ge r d with w | w
      · exact w
      · rw [h0 r w h1] at h2; exact absurd h2 z1
    have s1 : s < d := by
      rcases Nat.lt_or_ge s d with w | w
      · exact w
      · rw [h0 s w h3] at h4; exact absurd h4 z1
    rw [e r r1] at h2
    rw [e s s1] at h4
    exact ⟨⟨r, r1, h2⟩, s, s1, h4⟩
  · rintro ⟨⟨r, h1, h2⟩, s, h3, h4⟩
    exact ⟨⟨r, by omega, by rw [e r h1]; exact h2⟩, s, by omega, by rw [e s h3]; exact h4⟩
theorem sm_un (k v : Nat) : sm 3 (un k v) := by
  unfold un sm
  by_cases h : k / 2 = v
  · rw [if_pos h]
    by_cases h2 : k % 2 = 0
    · rw [if_pos h2]; decide
    · rw [if_neg h2]; decide
  · rw [if_neg h]; decide
/-- two variables -/
theorem bridge2 {p q : Nat → Nat → Int32} {d : Nat} (hq : ∀ i, i < d → ∀ v, v < 3 → sm 3 (q i v)) (hA : ∀ i, i < d → ∀ v, v < 3 → p i v = q i v) (hE : ∀ k, k < 2 → ∀ v, v < 3 → p (d + k) v = un (4 + k) v) (h2 : ∀ i, i < d → q i 2 = 0) (hn : ∀ i, i < d → ¬ (q i 0 = 0 ∧ q i 1 = 0)) : Whole p (d + 2) ↔ (d ≠ 0 ∧ ∀ i, i < d → ¬ barB q d (-(q i 1)) (q i 0) 0) := by
  have E00 : p d 0 = 0 := hE 0 (by omega) 0 (by omega)
  have E01 : p d 1 = 0 := hE 0 (by omega) 1 (by omega)
  have E02 : p d 2 = 1 := hE 0 (by omega) 2 (by omega)
  have E10 : p (d + 1) 0 = 0 := hE 1 (by omega) 0 (by omega)
  have E11 : p (d + 1) 1 = 0 := hE 1 (by omega) 1 (by omega)
  have E12 : p (d + 1) 2 = -1 := hE 1 (by omega) 2 (by omega)
  have A0 : ∀ i, i < d → p i 0 = q i 0 := fun i hi => hA i hi 0 (by omega)
  have A1 : ∀ i, i < d → p i 1 = q i 1 := fun i hi => hA i hi 1 (by omega)
  have A2 : ∀ i, i < d → p i 2 = 0 := fun i hi => (hA i hi 2 (by omega)).trans (h2 i hi)
  have sp : ∀ i, i < d + 2 → ∀ v, v < 3 → sm 3 (p i v) := fun i hi v hv => by
    rcases Nat.lt_or_ge i d with w | w
    · rw [hA i w v hv]; exact hq i w v hv
    · obtain ⟨k, rfl⟩ : ∃ k, i = d + k := ⟨i - d, by omega⟩
      rw [hE k (by omega) v hv]; exact sm_un _ _
  -- the pair of a direction and an axis
  have c0 : ∀ i, i < d → cr (p i) (p d) 0 = q i 1 ∧ cr (p i) (p d) 1 = -(q i 0) ∧ cr (p i) (p d) 2 = 0 := fun i hi => by
    refine ⟨?_, ?_, ?_⟩
    · show p i 1 * p d 2 - p i 2 * p d 1 = _
      rw [A1 i hi, A2 i hi, E02, E01]; grind
    · show p i 2 * p d 0 - p i 0 * p d 2 = _
      rw [A0 i hi, A2 i hi, E02, E00]; grind
    · show p i 0 * p d 1 - p i 1 * p d 0 = _
      rw [E01, E00]; grind
  have c1 : ∀ i, i < d → cr (p i) (p (d + 1)) 0 = -(q i 1) ∧ cr (p i) (p (d + 1)) 1 = q i 0 ∧ cr (p i) (p (d + 1)) 2 = 0 := fun i hi => by
    refine ⟨?_, ?_, ?_⟩
    · show p i 1 * p (d + 1) 2 - p i 2 * p (d + 1) 1 = _
      rw [A1 i hi, A2 i hi, E12, E11]; grind
    · show p i 2 * p (d + 1) 0 - p i 0 * p (d + 1) 2 = _
      rw [A0 i hi, A2 i hi, E12, E10]; grind
    · show p i 0 * p (d + 1) 1 - p i 1 * p (d + 1) 0 = _
      rw [E11, E10]; grind
  have flat : ∀ N : Nat → Int32, N 2 = 0 → ∀ r, d ≤ r → r < d + 2 → dt N (p r) = 0 := fun N h r w1 w2 => by
    show N 0 * p r 0 + N 1 * p r 1 + N 2 * p r 2 = 0
    rcases (show r = d ∨ r = d + 1 by omega) with rfl | rfl
    · rw [E00, E01, h]; grind
    · rw [E10, E11, h]; grind
  have b0 : ∀ i, i < d → (bo p (d + 2) (cr (p i) (p d)) ↔ ¬ barB q d (-(q i 1)) (q i 0) 0) := fun i hi => by
    obtain ⟨u0, u1, u2'⟩ := c0 i hi
    rw [bo_bar (by omega) hA hq (fun v _ => sm_cr (sp i (by omega)) (sp d (by omega)) v) (flat _ u2'), u0, u1, u2', ← barB_neg, Int32.neg_neg, show -(0 : Int32) = 0 by decide]
  have b1' : ∀ i, i < d → (bo p (d + 2) (cr (p i) (p (d + 1))) ↔ ¬ barB q d (-(q i 1)) (q i 0) 0) := fun i hi => by
    obtain ⟨u0, u1, u2'⟩ := c1 i hi
    rw [bo_bar (by omega) hA hq (fun v _ => sm_cr (sp i (by omega)) (sp (d + 1) (by omega)) v) (flat _ u2'), u0, u1, u2']
  have nz0 : ∀ i, i < d → nz (cr (p i) (p d)) := fun i hi w => by
    obtain ⟨u0, u1, u2'⟩ := c0 i hi
    rw [u0, u1, u2', ng0] at w
    exact hn i hi ⟨w.2.1, w.1⟩
  constructor
  · rintro ⟨⟨i, j, h1, h2', h3⟩, h4⟩
    have hd0 : d ≠ 0 := by
      rintro rfl
      obtain rfl : i = 0 := by omega
      obtain rfl : j = 1 := by omega
      refine h3 ⟨?_, ?_, ?_⟩
      · show p 0 1 * p 1 2 - p 0 2 * p 1 1 = 0
        rw [show p 0 1 = 0 from E01, show p 1 1 = 0 from E11]; grind
      · show p 0 2 * p 1 0 - p 0 0 * p 1 2 = 0
        rw [show p 0 0 = 0 from E00, show p 1 0 = 0 from E10]; grind
      · show p 0 0 * p 1 1 - p 0 1 * p 1 0 = 0
        rw [show p 0 0 = 0 from E00, show p 1 0 = 0 from E10]; grind
    exact ⟨hd0, fun i hi => (b0 i hi).mp (h4 i d hi (by omega) (nz0 i hi))⟩
  · rintro ⟨h1, h3⟩
    refine ⟨⟨0, d, by omega, by omega, nz0 0 (by omega)⟩, fun i j hij hj w => ?_⟩
    rcases Nat.lt_or_ge j d with w1 | w1
    · -- two directions
      have e0 : cr (p i) (p j) 0 = 0 := by
        show p i 1 * p j 2 - p i 2 * p j 1 = 0
        rw [A2 i (by omega), A2 j w1]; grind
      have e1 : cr (p i) (p j) 1 = 0 := by
        show p i 2 * p j 0 - p i 0 * p j 2 = 0
        rw [A2 i (by omega), A2 j w1]; grind
      refine via (r1 := d) (r2 := d + 1) (X := cr (p i) (p j) 2) (by omega) (by omega) ?_ ?_ (fun e2 => w ⟨e0, e1, e2⟩) (sm_cr (sp i (by omega)) (sp j (by omega)) 2)
      · show cr (p i) (p j) 0 * p d 0 + cr (p i) (p j) 1 * p d 1 + cr (p i) (p j) 2 * p d 2 = _
        rw [e0, e1, E02]; grind
      · show cr (p i) (p j) 0 * p (d + 1) 0 + cr (p i) (p j) 1 * p (d + 1) 1 + cr (p i) (p j) 2 * p (d + 1) 2 = _
        rw [e0, e1, E12]; grind
    · rcases Nat.lt_or_ge i d with w2 | w2
      · rcases (show j = d ∨ j = d + 1 by omega) with rfl | rfl
        · exact (b0 i w2).mpr (h3 i w2)
        · exact (b1' i w2).mpr (h3 i w2)
      · obtain rfl : i = d := by omega
        obtain rfl : j = i + 1 := by omega
        refine absurd ⟨?_, ?_, ?_⟩ w
        · show p i 1 * p (i + 1) 2 - p i 2 * p (i + 1) 1 = 0
          rw [E01, E11]; grind
        · show p i 2 * p (i + 1) 0 - p i 0 * p (i + 1) 2 = 0
          rw [E00, E10]; grind
        · show p i 0 * p (i + 1) 1 - p i 1 * p (i + 1) 0 = 0
          rw [E00, E10]; grind
/-! ===== spans, as a call ===== -/
/-- one variable -/
theorem bridge1 {p q : Nat → Nat → Int32} {d : Nat} (hq : ∀ i, i < d → ∀ v, v < 3 → sm 3 (q i v)) (hA : ∀ i, i < d → ∀ v, v < 3 → p i v = q i v) (hE : ∀ k, k < 4 → ∀ v, v < 3 → p (d + k) v = un (2 + k) v) (h1 : ∀ i, i < d → q i 1 = 0) (h2 : ∀ i, i < d → q i 2 = 0) : Whole p (d + 4) ↔ ¬ barB q d 1 0 0 := by
  have E00 : p d 0 = 0 := hE 0 (by omega) 0 (by omega)
  have E01 : p d 1 = 1 := hE 0 (by omega) 1 (by omega)
  have E02 : p d 2 = 0 := hE 0 (by omega) 2 (by omega)
  have E10 : p (d + 1) 0 = 0 := hE 1 (by omega) 0 (by omega)
  have E11 : p (d + 1) 1 = -1 := hE 1 (by omega) 1 (by omega)
  have E12 : p (d + 1) 2 = 0 := hE 1 (by omega) 2 (by omega)
  have E20 : p (d + 2) 0 = 0 := hE 2 (by omega) 0 (by omega)
  have E21 : p (d + 2) 1 = 0 := hE 2 (by omega) 1 (by omega)
  have E22 : p (d + 2) 2 = 1 := hE 2 (by omega) 2 (by omega)
  have E30 : p (d + 3) 0 = 0 := hE 3 (by omega) 0 (by omega)
  have E31 : p (d + 3) 1 = 0 := hE 3 (by omega) 1 (by omega)
  have E32 : p (d + 3) 2 = -1 := hE 3 (by omega) 2 (by omega)
  have A1 : ∀ i, i < d → p i 1 = 0 := fun i hi => (hA i hi 1 (by omega)).trans (h1 i hi)
  have A2 : ∀ i, i < d → p i 2 = 0 := fun i hi => (hA i hi 2 (by omega)).trans (h2 i hi)
  have sp : ∀ i, i < d + 4 → ∀ v, v < 3 → sm 3 (p i v) := fun i hi v hv => by
    rcases Nat.lt_or_ge i d with w | w
    · rw [hA i w v hv]; exact hq i w v hv
    · obtain ⟨k, rfl⟩ : ∃ k, i = d + k := ⟨i - d, by omega⟩
      rw [hE k (by omega) v hv]; exact sm_un _ _
  have crs : ∀ i j, (cr (p i) (p j) 0 = p i 1 * p j 2 - p i 2 * p j 1) ∧ (cr (p i) (p j) 1 = p i 2 * p j 0 - p i 0 * p j 2) ∧ (cr (p i) (p j) 2 = p i 0 * p j 1 - p i 1 * p j 0) := fun i j => ⟨rfl, rfl, rfl⟩
  have dts : ∀ (N : Nat → Int32) r, dt N (p r) = N 0 * p r 0 + N 1 * p r 1 + N 2 * p r 2 := fun N r => rfl
  have flat : ∀ N : Nat → Int32, N 1 = 0 → N 2 = 0 → ∀ r, d ≤ r → r < d + 4 → dt N (p r) = 0 := fun N n1 n2 r w1 w2 => by
    rw [dts, n1, n2]
    rcases (show r = d ∨ r = d + 1 ∨ r = d + 2 ∨ r = d + 3 by omega) with rfl | rfl | rfl | rfl
    · rw [E00]; grind
    · rw [E10]; grind
    · rw [E20]; grind
    · rw [E30]; grind
  -- a side along the first axis
  have ax : ∀ i j, i < d + 4 → j < d + 4 → (cr (p i) (p j) 0 = 1 ∨ cr (p i) (p j) 0 = -1) → cr (p i) (p j) 1 = 0 → cr (p i) (p j) 2 = 0 → (bo p (d + 4) (cr (p i) (p j)) ↔ ¬ barB q d 1 0 0) := fun i j hi hj h0 hy hz => by
    rw [bo_bar (by omega) hA hq (fun v _ => sm_cr (sp i hi) (sp j hj) v) (flat _ hy hz), hy, hz]
    rcases h0 with h0 | h0
    · rw [h0]
    · rw [h0, ← barB_neg, Int32.neg_neg, show -(0 : Int32) = 0 by decide]
  have s02 : cr (p d) (p (d + 2)) 0 = 1 ∧ cr (p d) (p (d + 2)) 1 = 0 ∧ cr (p d) (p (d + 2)) 2 = 0 := by
    obtain ⟨a, b, c⟩ := crs d (d + 2)
    refine ⟨?_, ?_, ?_⟩
    · rw [a, E01, E22, E02]; grind
    · rw [b, E02, E00]; grind
    · rw [c, E00, E20]; grind
  have nz02 : nz (cr (p d) (p (d + 2))) := fun w => absurd (s02.1.symm.trans w.1) (by decide)
  constructor
  · rintro ⟨-, h4⟩
    exact (ax d (d + 2) (by omega) (by omega) (Or.inl s02.1) s02.2.1 s02.2.2).mp (h4 d (d + 2) (by omega) (by omega) nz02)
  · intro h3
    refine ⟨⟨d, d + 2, by omega, by omega, nz02⟩, fun i j hij hj w => ?_⟩
    obtain ⟨a, b, c⟩ := crs i j
    have scr := sm_cr (sp i (by omega)) (sp j hj)
    rcases Nat.lt_or_ge i d with wi | wi
    · rcases Nat.lt_or_ge j d with wj | wj
      · refine absurd ⟨?_, ?_, ?_⟩ w
        · rw [a, A1 i wi, A2 i wi]; grind
        · rw [b, A2 i wi, A2 j wj]; grind
        · rw [c, A1 i wi, A1 j wj]; grind
      · -- a direction and an axis
        have e0 : cr (p i) (p j) 0 = 0 := by rw [a, A1 i wi, A2 i wi]; grind
        rcases (show (j = d ∨ j = d + 1) ∨ (j = d + 2 ∨ j = d + 3) by omega) with hj' | hj'
        · have e1 : cr (p i) (p j) 1 = 0 := by
            rw [b, A2 i wi]
            rcases hj' with rfl | rfl
            · rw [E02]; grind
            · rw [E12]; grind
          refine via (r1 := d + 2) (r2 := d + 3) (X := cr (p i) (p j) 2) (by omega) (by omega) ?_ ?_ (fun e2 => w ⟨e0, e1, e2⟩) (scr 2)
          · rw [dts, e0, e1, E22]; grind
          · rw [dts, e0, e1, E32]; grind
        · have e2 : cr (p i) (p j) 2 = 0 := by
            rw [c, A1 i wi]
            rcases hj' with rfl | rfl
            · rw [E21]; grind
            · rw [E31]; grind
          refine via (r1 := d) (r2 := d + 1) (X := cr (p i) (p j) 1) (by omega) (by omega) ?_ ?_ (fun e1 => w ⟨e0, e1, e2⟩) (scr 1)
          · rw [dts, e0, e2, E01]; grind
          · rw [dts, e0, e2, E11]; grind
    · have pi0 : p i 0 = 0 := by
        rcases (show i = d ∨ i = d + 1 ∨ i = d + 2 ∨ i = d + 3 by omega) with rfl | rfl | rfl | rfl
        · exact E00
        · exact E10
        · exact E20
        · exact E30
      have pj0 : p j 0 = 0 := by
        rcases (show j = d ∨ j = d + 1 ∨ j = d + 2 ∨ j = d + 3 by omega) with rfl | rfl | rfl | rfl
        · exact E00
        · exact E10
        · exact E20
        · exact E30
      have e1 : cr (p i) (p j) 1 = 0 := by rw [b, pi0, pj0]; grind
      have e2 : cr (p i) (p j) 2 = 0 := by rw [c, pi0, pj0]; grind
      have e0 : cr (p i) (p j) 0 = 0 ∨ cr (p i) (p j) 0 = 1 ∨ cr (p i) (p j) 0 = -1 := by
        rw [a]
        rcases (show (i = d ∧ j = d + 1) ∨ (i = d ∧ j = d + 2) ∨ (i = d ∧ j = d + 3) ∨ (i = d + 1 ∧ j = d + 2) ∨ (i = d + 1 ∧ j = d + 3) ∨ (i = d + 2 ∧ j = d + 3) by omega) with ⟨rfl, rfl⟩ | ⟨rfl, rfl⟩ | ⟨rfl, rfl⟩ | ⟨rfl, rfl⟩ | ⟨rfl, rfl⟩ | ⟨rfl, rfl⟩
        · left; rw [E01, E12, E02, E11]; decide
        · right; left; rw [E01, E22, E02, E21]; decide
        · right; right; rw [E01, E32, E02, E31]; decide
        · right; right; rw [E11, E22, E12, E21]; decide
        · right; left; rw [E11, E32, E12, E31]; decide
        · left; rw [E21, E32, E22, E31]; decide
      rcases e0 with e0 | e0
      · exact absurd ⟨e0, e1, e2⟩ w
      · exact (ax i j (by omega) hj e0 e1 e2).mpr h3
theorem Whole.c {p p' : Nat → Nat → Int32} {m : Nat} (h : ∀ i, i < m → ∀ v, v < 3 → p' i v = p i v) : Whole p' m ↔ Whole p m := by
  have e : ∀ i j, i < m → j < m → cr (p' i) (p' j) = cr (p i) (p j) := fun i j hi hj => by
    funext v
    unfold cr
    rw [h i hi 0 (by omega), h i hi 1 (by omega), h i hi 2 (by omega), h j hj 0 (by omega), h j hj 1 (by omega), h j hj 2 (by omega)]
  have e2 : ∀ N r, r < m → dt N (p' r) = dt N (p r) := fun N r hr => by
    unfold dt
    rw [h r hr 0 (by omega), h r hr 1 (by omega), h r hr 2 (by omega)]
  have e3 : ∀ N, bo p' m N ↔ bo p m N := fun N => by
    unfold bo
    exact and_congr ⟨fun ⟨r, a, b⟩ => ⟨r, a, by rw [← e2 N r a]; exact b⟩, fun ⟨r, a, b⟩ => ⟨r, a, by rw [e2 N r a]; exact b⟩⟩ ⟨fun ⟨r, a, b⟩ => ⟨r, a, by rw [← e2 N r a]; exact b⟩, fun ⟨r, a, b⟩ => ⟨r, a, by rw [e2 N r a]; exact b⟩⟩
  constructor
  · rintro ⟨⟨i, j, h1, h2, h3⟩, h4⟩
    refine ⟨⟨i, j, h1, h2, by rw [← e i j (by omega) h2]; exact h3⟩, fun i j h1 h2 h3 => ?_⟩
    have := h4 i j h1 h2 (by rw [e i j (by omega) h2]; exact h3)
    rw [e i j (by omega) h2] at this
    exact (e3 _).mp this
  · rintro ⟨⟨i, j, h1, h2, h3⟩, h4⟩
    refine ⟨⟨i, j, h1, h2, by rw [e i j (by omega) h2]; exact h3⟩, fun i j h1 h2 h3 => ?_⟩
    have := h4 i j h1 h2 (by rw [← e i j (by omega) h2]; exact h3)
    rw [e i j (by omega) h2]
    exact (e3 _).mpr this
