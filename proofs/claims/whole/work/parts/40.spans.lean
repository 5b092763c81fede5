/-! ===== spans: the loops of both sides ===== -/
def cr (a b : Nat → Int32) (v : Nat) : Int32 := if v = 0 then a 1 * b 2 - a 2 * b 1 else if v = 1 then a 2 * b 0 - a 0 * b 2 else a 0 * b 1 - a 1 * b 0
def dt (N r : Nat → Int32) : Int32 := N 0 * r 0 + N 1 * r 1 + N 2 * r 2
def nz (N : Nat → Int32) : Prop := ¬ (N 0 = 0 ∧ N 1 = 0 ∧ N 2 = 0)
def bo (p : Nat → Nat → Int32) (m : Nat) (N : Nat → Int32) : Prop := (∃ r, r < m ∧ ¬ dt N (p r) ≤ 0) ∧ ∃ r, r < m ∧ ¬ 0 ≤ dt N (p r)
def Whole (p : Nat → Nat → Int32) (m : Nat) : Prop := (∃ i j, i < j ∧ j < m ∧ nz (cr (p i) (p j))) ∧ ∀ i j, i < j → j < m → nz (cr (p i) (p j)) → bo p m (cr (p i) (p j))
/-- a flag that holds a proposition -/
def bq (x : Int32) (P : Prop) : Prop := (x = 1 ∧ P) ∨ (x = 0 ∧ ¬ P)
theorem bq.z {x : Int32} {P : Prop} (h : bq x P) : x = 0 ↔ ¬ P := by
  rcases h with ⟨rfl, p⟩ | ⟨rfl, p⟩
  · exact ⟨fun q => absurd q (by decide), fun q => absurd p q⟩
  · exact ⟨fun _ => p, fun _ => rfl⟩
theorem bq.o {x : Int32} {P : Prop} (h : bq x P) : x = 0 ∨ x = 1 := h.elim (fun q => Or.inr q.1) (fun q => Or.inl q.1)
theorem bq.c {x : Int32} {P Q : Prop} (h : bq x P) (e : P ↔ Q) : bq x Q := h.elim (fun q => Or.inl ⟨q.1, e.mp q.2⟩) (fun q => Or.inr ⟨q.1, fun w => q.2 (e.mpr w)⟩)
theorem bq1 {P : Prop} (h : P) : bq 1 P := Or.inl ⟨rfl, h⟩
theorem bq0 {P : Prop} (h : ¬ P) : bq 0 P := Or.inr ⟨rfl, h⟩
theorem addAlong5 {M : Mm} {N w : Nat} (h : M.1 92 0 = nI N) (hN : N < 14) (x : Int32) : ∃ M', fX5_addAlong M (nI w) x = some M' ∧ M'.1 92 0 = nI (N + 1) ∧ (∀ v, v < 3 → M'.1 93 (3 * N + v) = if nI v = nI w then x else 0) ∧ ∀ c j, ¬ (c = 92 ∧ j = 0) → ¬ (c = 93 ∧ 3 * N ≤ j ∧ j < 3 * N + 3) → M'.1 c j = M.1 c j := by
  obtain ⟨M1, f1, a1, a2⟩ := itr_0 (body := fX5_addAlong_L2 (nI w) x) (s := ((0 : Int32), M)) (fun i q => q.1 = nI i ∧ (∀ v, v < i → q.2.1 93 (3 * N + v) = if nI v = nI w then x else 0) ∧ ∀ c j, ¬ (c = 93 ∧ 3 * N ≤ j ∧ j < 3 * N + 3) → q.2.1 c j = M.1 c j) (fun M' => (∀ v, v < 3 → M'.1 93 (3 * N + v) = if nI v = nI w then x else 0) ∧ ∀ c j, ¬ (c = 93 ∧ 3 * N ≤ j ∧ j < 3 * N + 3) → M'.1 c j = M.1 c j) 3 (by omega) ⟨rfl, fun v hv => absurd hv (by omega), fun _ _ _ => rfl⟩ (by
    rintro i ⟨y, M'⟩ hi ⟨rfl, q1, q2⟩
    have e92 : M'.1 92 0 = nI N := (q2 92 0 (by omega)).trans h
    rcases Nat.lt_or_ge i 3 with hl | hl
    · left
      refine ⟨(nI (i + 1), stI M' 93 (3 * N + i) (if nI i = nI w then x else 0)), ?_, hl, rfl, fun v hv => ?_, fun c j w1 => ?_⟩
      · unfold fX5_addAlong_L2 u2
        dsimp only
        rw [if_neg (show ¬ 3 ≤ nI i from ngen (t := 3) (by omega) (by omega) hl), bd_s]
        by_cases c : nI i = nI w
        · rw [if_pos c, if_pos c]; dsimp only; rw [e92, n3i, nI_add, gd_t (inbn (by omega) (by omega)), ixn (by omega), bd_s, nI_1, bd_s]
        · rw [if_neg c, if_neg c]; dsimp only; rw [e92, n3i, nI_add, gd_t (inbn (by omega) (by omega)), ixn (by omega), bd_s, nI_1, bd_s]
      · show (stI M' 93 (3 * N + i) _).1 93 (3 * N + v) = _
        rw [stI_rd]
        by_cases e : v = i
        · rw [if_pos (by omega), e]
        · rw [if_neg (by omega)]; exact q1 v (by omega)
      · show (stI M' 93 (3 * N + i) _).1 c j = _
        rw [stI_rd, if_neg (by omega)]; exact q2 c j w1
    · right
      obtain rfl : i = 3 := by omega
      refine ⟨M', ?_, q1, q2⟩
      unfold fX5_addAlong_L2 u2
      dsimp only
      rw [if_pos (show (3 : Int32) ≤ nI 3 by decide)])
  unfold fX5_addAlong
  rw [f1, b1_s, show M1.1 92 0 = nI N from (a2 92 0 (by omega)).trans h, nI_1]
  refine bd_st fun M2 r2 _ => ⟨M2, rfl, by rw [r2, if_pos ⟨rfl, rfl⟩], fun v hv => by rw [r2, if_neg (by omega)]; exact a1 v hv, fun c j w1 w2 => by rw [r2, if_neg w1]; exact a2 c j w2⟩
/-- the rows that the class tries: the directions, and an axis pair for each variable that is missing -/
def rws (z : Nat → Int32) (n d i v : Nat) : Int32 := if i < d then z (61 + 4 * i + v) else un (2 * n + (i - d)) v
theorem fillX {n d : Nat} {M : Mm} {z : Nat → Int32} (ln : 1 ≤ n ∧ n ≤ 3) (ld : d ≤ 8) (h8 : M.1 8 0 = nI d) (hd : ∀ i, i < d → ∀ v, v < 3 → M.1 9 (3 * i + v) = z (61 + 4 * i + v)) : ∃ M', fX5_fill M (nI n) = some M' ∧ M'.1 92 0 = nI (d + 2 * (3 - n)) ∧ (∀ i, i < d + 2 * (3 - n) → ∀ v, v < 3 → M'.1 93 (3 * i + v) = rws z n d i v) ∧ ∀ c j, c ≠ 92 → c ≠ 93 → M'.1 c j = M.1 c j := by
  unfold fX5_fill
  rw [h8]
  refine bd_st fun M1 r1 _ => ?_
  rw [show M1.1 92 0 = nI d by rw [r1, if_pos ⟨rfl, rfl⟩], n3i, ixn (by omega)]
  refine gd_x ⟨gen (t := 0) (by omega) (by omega) (by omega), by omega, by omega⟩ (bd_cp fun M2 r2 _ => ?_)
  have s0 : ∀ i, i < d → ∀ v, v < 3 → M2.1 93 (3 * i + v) = rws z n d i v := fun i hi v hv => by
    rw [r2, if_pos (by omega), r1, if_neg (by omega), show 0 + (3 * i + v - 0) = 3 * i + v by omega, hd i hi v hv]
    unfold rws
    rw [if_pos hi]
  obtain ⟨M3, f3, a1, a2, a3⟩ := itr_0 (body := fX5_fill_L29) (s := (nI n, M2)) (fun i q => q.1 = nI (n + i) ∧ q.2.1 92 0 = nI (d + 2 * i) ∧ (∀ u, u < d + 2 * i → ∀ v, v < 3 → q.2.1 93 (3 * u + v) = rws z n d u v) ∧ ∀ c j, c ≠ 92 → c ≠ 93 → q.2.1 c j = M.1 c j) (fun M' => M'.1 92 0 = nI (d + 2 * (3 - n)) ∧ (∀ i, i < d + 2 * (3 - n) → ∀ v, v < 3 → M'.1 93 (3 * i + v) = rws z n d i v) ∧ ∀ c j, c ≠ 92 → c ≠ 93 → M'.1 c j = M.1 c j) (3 - n) (by omega) ⟨rfl, by show M2.1 92 0 = _; rw [r2, if_neg (by omega), r1, if_pos ⟨rfl, rfl⟩]; rfl, s0, fun c j w1 w2 => by show M2.1 c j = _; rw [r2, if_neg (by omega), r1, if_neg (by omega)]⟩ (by
    rintro i ⟨x, M'⟩ hi ⟨rfl, q1, q2, q3⟩
    rcases Nat.lt_or_ge i (3 - n) with hl | hl
    · left
      obtain ⟨M4, f4, p1, p2, p3⟩ := addAlong5 (w := n + i) q1 (by omega) 1
      obtain ⟨M5, f5, p4, p5, p6⟩ := addAlong5 (w := n + i) p1 (by omega) (-1)
      refine ⟨(nI (n + (i + 1)), M5), ?_, hl, rfl, p4, fun u hu v hv => ?_, fun c j w1 w2 => (p6 c j (by omega) (by omega)).trans ((p3 c j (by omega) (by omega)).trans (q3 c j w1 w2))⟩
      · unfold fX5_fill_L29 u2
        dsimp only
        rw [if_neg (show ¬ 3 ≤ nI (n + i) from ngen (t := 3) (by omega) (by omega) (by omega)), f4, b1_s, f5, b1_s, nI_1, bd_s]
        rfl
      · show M5.1 93 (3 * u + v) = _
        rcases Nat.lt_or_ge u (d + 2 * i) with w | w
        · rw [p6 93 _ (by omega) (by omega), p3 93 _ (by omega) (by omega)]; exact q2 u w v hv
        · unfold rws un
          rw [if_neg (by omega)]
          rcases Nat.lt_or_ge u (d + 2 * i + 1) with w' | w'
          · obtain rfl : u = d + 2 * i := by omega
            rw [p6 93 _ (by omega) (by omega), p2 v hv]
            by_cases e : nI v = nI (n + i)
            · have := (neq (by omega) (by omega)).mp e
              rw [if_pos e, if_pos (by omega), if_pos (by omega)]
            · have : v ≠ n + i := fun q => e (by rw [q])
              rw [if_neg e, if_neg (by omega)]
          · obtain rfl : u = d + 2 * i + 1 := by omega
            rw [p5 v hv]
            by_cases e : nI v = nI (n + i)
            · have := (neq (by omega) (by omega)).mp e
              rw [if_pos e, if_pos (by omega), if_neg (by omega)]
            · have : v ≠ n + i := fun q => e (by rw [q])
              rw [if_neg e, if_neg (by omega)]
    · right
      obtain rfl : i = 3 - n := by omega
      refine ⟨M', ?_, q1, q2, q3⟩
      unfold fX5_fill_L29 u2
      dsimp only
      rw [if_pos (show 3 ≤ nI (n + (3 - n)) from gen (t := 3) (by omega) (by omega) (by omega))])
  exact ⟨M3, by rw [f3, b1_s], a1, a2, a3⟩
theorem normalX {M : Mm} {i j : Nat} (hi : i < 14) (hj : j < 14) {p : Nat → Nat → Int32} (hp : ∀ i, i < 14 → ∀ v, v < 3 → M.1 93 (3 * i + v) = p i v) : ∃ r M', fX5_findNormal M (nI (3 * i)) (nI (3 * j)) = some (r, M') ∧ bq r (nz (cr (p i) (p j))) ∧ (M'.1 94 0 = cr (p i) (p j) 0 ∧ M'.1 94 1 = cr (p i) (p j) 1 ∧ M'.1 94 2 = cr (p i) (p j) 2) ∧ ∀ c k, c ≠ 94 → M'.1 c k = M.1 c k := by
  have q : ∀ i, i < 14 → M.1 93 (3 * i) = p i 0 ∧ M.1 93 (3 * i + 1) = p i 1 ∧ M.1 93 (3 * i + 2) = p i 2 := fun i hi => ⟨hp i hi 0 (by omega), hp i hi 1 (by omega), hp i hi 2 (by omega)⟩
  obtain ⟨i0, i1, i2⟩ := q i hi
  obtain ⟨j0, j1, j2⟩ := q j hj
  obtain ⟨M3, e3, r3⟩ : ∃ M3, M3 = stI (stI (stI M 94 0 (cr (p i) (p j) 0)) 94 1 (cr (p i) (p j) 1)) 94 2 (cr (p i) (p j) 2) ∧ ∀ c k, M3.1 c k = if c = 94 ∧ k = 2 then cr (p i) (p j) 2 else if c = 94 ∧ k = 1 then cr (p i) (p j) 1 else if c = 94 ∧ k = 0 then cr (p i) (p j) 0 else M.1 c k := ⟨_, rfl, fun c k => by rw [stI_rd, stI_rd, stI_rd]⟩
  have m0 : M3.1 94 0 = cr (p i) (p j) 0 := by rw [r3, if_neg (by omega), if_neg (by omega), if_pos ⟨rfl, rfl⟩]
  have m1 : M3.1 94 1 = cr (p i) (p j) 1 := by rw [r3, if_neg (by omega), if_pos ⟨rfl, rfl⟩]
  have m2 : M3.1 94 2 = cr (p i) (p j) 2 := by rw [r3, if_pos ⟨rfl, rfl⟩]
  have f : fX5_findNormal M (nI (3 * i)) (nI (3 * j)) = (if (M3.1 94 0) = 0 then (if (M3.1 94 1) = 0 then (if (M3.1 94 2) = 0 then some (0, M3) else some (1, M3)) else some (1, M3)) else some (1, M3)) := by
    unfold fX5_findNormal
    rw [show nI (3 * i) + 1 = nI (3 * i + 1) from nI_add _ 1, show nI (3 * i) + 2 = nI (3 * i + 2) from nI_add _ 2, show nI (3 * j) + 1 = nI (3 * j + 1) from nI_add _ 1, show nI (3 * j) + 2 = nI (3 * j + 2) from nI_add _ 2, gd_t (inbn (by omega) (by omega)), gd_t (inbn (by omega) (by omega)), gd_t (inbn (by omega) (by omega)), gd_t (inbn (by omega) (by omega)), ixn (by omega), ixn (by omega), ixn (by omega), ixn (by omega), ixn (by omega), ixn (by omega), i1, i2, j1, j2, show p i 1 * p j 2 - p i 2 * p j 1 = cr (p i) (p j) 0 from rfl]
    obtain ⟨M1, e1, r1⟩ : ∃ M1, M1 = stI M 94 0 (cr (p i) (p j) 0) ∧ ∀ k, M1.1 93 k = M.1 93 k := ⟨_, rfl, fun k => by rw [stI_rd, if_neg (by omega)]⟩
    rw [← e1, bd_s, gd_t (inbn (by omega) (by omega)), gd_t (inbn (by omega) (by omega)), r1, r1, r1, r1, i0, i2, j0, j2, show p i 2 * p j 0 - p i 0 * p j 2 = cr (p i) (p j) 1 from rfl]
    obtain ⟨M2, e2, r2⟩ : ∃ M2, M2 = stI M1 94 1 (cr (p i) (p j) 1) ∧ ∀ k, M2.1 93 k = M.1 93 k := ⟨_, rfl, fun k => by rw [stI_rd, if_neg (by omega), r1]⟩
    rw [← e2, bd_s, r2, r2, r2, r2, i0, i1, j0, j1, show p i 0 * p j 1 - p i 1 * p j 0 = cr (p i) (p j) 2 from rfl, e2, e1, ← e3, bd_s]
  rw [f, m0, m1, m2]
  have fr : ∀ c k, c ≠ 94 → M3.1 c k = M.1 c k := fun c k w => by rw [r3, if_neg (by omega), if_neg (by omega), if_neg (by omega)]
  by_cases c0 : cr (p i) (p j) 0 = 0
  · rw [if_pos c0]
    by_cases c1 : cr (p i) (p j) 1 = 0
    · rw [if_pos c1]
      by_cases c2 : cr (p i) (p j) 2 = 0
      · rw [if_pos c2]
        exact ⟨0, M3, rfl, bq0 (fun w => w ⟨c0, c1, c2⟩), ⟨m0, m1, m2⟩, fr⟩
      · rw [if_neg c2]
        exact ⟨1, M3, rfl, bq1 (fun w => c2 w.2.2), ⟨m0, m1, m2⟩, fr⟩
    · rw [if_neg c1]
      exact ⟨1, M3, rfl, bq1 (fun w => c1 w.2.1), ⟨m0, m1, m2⟩, fr⟩
  · rw [if_neg c0]
    exact ⟨1, M3, rfl, bq1 (fun w => c0 w.1), ⟨m0, m1, m2⟩, fr⟩
theorem sidesX {M : Mm} {m : Nat} (hm : m ≤ 14) (h92 : M.1 92 0 = nI m) {p : Nat → Nat → Int32} {N : Nat → Int32} (hp : ∀ i, i < m → ∀ v, v < 3 → M.1 93 (3 * i + v) = p i v) (h0 : M.1 94 0 = N 0) (h1 : M.1 94 1 = N 1) (h2 : M.1 94 2 = N 2) : ∃ r, fX5_hasRowsOnBothSides M = some r ∧ bq r (bo p m N) := by
  obtain ⟨⟨a, b⟩, f, q1, q2⟩ := itr_0 (body := fX5_hasRowsOnBothSides_L6 M) (s := ((0 : Int32), (0 : Int32), (0 : Int32))) (fun i q => q.2.2 = nI i ∧ bq q.1 (∃ r, r < i ∧ ¬ dt N (p r) ≤ 0) ∧ bq q.2.1 (∃ r, r < i ∧ ¬ 0 ≤ dt N (p r))) (fun q => bq q.1 (∃ r, r < m ∧ ¬ dt N (p r) ≤ 0) ∧ bq q.2 (∃ r, r < m ∧ ¬ 0 ≤ dt N (p r))) m (by omega) ⟨rfl, bq0 (fun ⟨r, hr, _⟩ => absurd hr (by omega)), bq0 (fun ⟨r, hr, _⟩ => absurd hr (by omega))⟩ (by
    rintro i ⟨x1, x2, x3⟩ hi ⟨rfl, q1, q2⟩
    rcases Nat.lt_or_ge i m with hl | hl
    · left
      obtain ⟨D, eD⟩ : ∃ D, D = dt N (p i) := ⟨_, rfl⟩
      have st : ∀ (P : Nat → Prop) (c : Prop), (c ↔ P i) → ((∃ r, r < i + 1 ∧ P r) ↔ ((∃ r, r < i ∧ P r) ∨ c)) := fun P c hc => ⟨fun ⟨r, hr, w⟩ => by
        rcases Nat.lt_or_ge r i with q | q
        · exact Or.inl ⟨r, q, w⟩
        · exact Or.inr (hc.mpr (by rw [show i = r by omega]; exact w)), fun w => w.elim (fun ⟨r, hr, w⟩ => ⟨r, by omega, w⟩) (fun w => ⟨i, by omega, hc.mp w⟩)⟩
      have body : fX5_hasRowsOnBothSides_L6 M (x1, x2, nI i) = some (.inl ((if x1 = 0 then (if D ≤ 0 then 0 else 1) else 1), (if x2 = 0 then (if 0 ≤ D then 0 else 1) else 1), nI (i + 1))) := by
        have e0 : M.1 93 (3 * i) = p i 0 := hp i hl 0 (by omega)
        have e1 : M.1 93 (3 * i + 1) = p i 1 := hp i hl 1 (by omega)
        have e2 : M.1 93 (3 * i + 2) = p i 2 := hp i hl 2 (by omega)
        unfold fX5_hasRowsOnBothSides_L6 u3
        dsimp only
        rw [h92, if_neg (ngen (by omega) (by omega) hl), n3i, bd_s, show nI (3 * i) + 1 = nI (3 * i + 1) from nI_add _ 1, show nI (3 * i) + 2 = nI (3 * i + 2) from nI_add _ 2, gd_t (inbn (by omega) (by omega)), gd_t (inbn (by omega) (by omega)), gd_t (inbn (by omega) (by omega)), ixn (by omega), ixn (by omega), ixn (by omega), h0, h1, h2, e0, e1, e2, show N 0 * p i 0 + N 1 * p i 1 + N 2 * p i 2 = dt N (p i) from rfl, ← eD, nI_1]
        by_cases c1 : x1 = 0 <;> by_cases c2 : x2 = 0 <;> by_cases c3 : D ≤ 0 <;> by_cases c4 : 0 ≤ D <;> simp only [bd_s, c1, c2, c3, c4, if_true, if_false]
      refine ⟨_, body, hl, rfl, ?_, ?_⟩
      · show bq (if x1 = 0 then (if D ≤ 0 then 0 else 1) else 1) _
        refine bq.c ?_ (st (fun r => ¬ dt N (p r) ≤ 0) (¬ D ≤ 0) (by rw [eD])).symm
        by_cases c1 : x1 = 0
        · rw [if_pos c1]
          by_cases c3 : D ≤ 0
          · rw [if_pos c3]; exact bq0 (fun w => w.elim (q1.z.mp c1) (fun q => q c3))
          · rw [if_neg c3]; exact bq1 (Or.inr c3)
        · rw [if_neg c1]; exact bq1 (Or.inl (Classical.byContradiction fun w => c1 (q1.z.mpr w)))
      · show bq (if x2 = 0 then (if 0 ≤ D then 0 else 1) else 1) _
        refine bq.c ?_ (st (fun r => ¬ 0 ≤ dt N (p r)) (¬ 0 ≤ D) (by rw [eD])).symm
        by_cases c1 : x2 = 0
        · rw [if_pos c1]
          by_cases c3 : 0 ≤ D
          · rw [if_pos c3]; exact bq0 (fun w => w.elim (q2.z.mp c1) (fun q => q c3))
          · rw [if_neg c3]; exact bq1 (Or.inr c3)
        · rw [if_neg c1]; exact bq1 (Or.inl (Classical.byContradiction fun w => c1 (q2.z.mpr w)))
    · right
      obtain rfl : i = m := by omega
      refine ⟨(x1, x2), ?_, q1, q2⟩
      unfold fX5_hasRowsOnBothSides_L6 u3
      dsimp only
      rw [h92, if_pos (gen (by omega) (by omega) (by omega))])
  unfold fX5_hasRowsOnBothSides
  rw [f, b2_s]
  have q1 : bq a _ := q1
  have q2 : bq b _ := q2
  by_cases c1 : a = 0
  · rw [if_pos c1]; exact ⟨0, rfl, bq0 (fun w => q1.z.mp c1 w.1)⟩
  · rw [if_neg c1]
    by_cases c2 : b = 0
    · rw [if_pos c2]; exact ⟨0, rfl, bq0 (fun w => q2.z.mp c2 w.2)⟩
    · rw [if_neg c2]; exact ⟨1, rfl, bq1 ⟨Classical.byContradiction fun w => c1 (q1.z.mpr w), Classical.byContradiction fun w => c2 (q2.z.mpr w)⟩⟩
