/-! ===== spans: both sides answer alike ===== -/
theorem cr_sw (a b : Nat → Int32) (v : Nat) : cr b a v = -(cr a b v) := by
  unfold cr
  by_cases h0 : v = 0
  · rw [if_pos h0, if_pos h0]; grind
  · rw [if_neg h0, if_neg h0]
    by_cases h1 : v = 1
    · rw [if_pos h1, if_pos h1]; grind
    · rw [if_neg h1, if_neg h1]; grind
theorem dt_neg (a b c : Int32) (r : Nat → Int32) : dt (vec3 (-a) (-b) (-c)) r = -(dt (vec3 a b c) r) := by
  show -a * r 0 + -b * r 1 + -c * r 2 = -(a * r 0 + b * r 1 + c * r 2)
  grind
def sm (B : Nat) (x : Int32) : Prop := x.toInt.natAbs ≤ B
theorem sm.mono {A B : Nat} {x : Int32} (h : sm A x) (hB : A ≤ B) : sm B x := Nat.le_trans h hB
theorem sm_mul {A B : Nat} {x y : Int32} (ha : sm A x) (hb : sm B y) (h : A * B < 2147483648) : sm (A * B) (x * y) := by
  unfold sm at *
  have e : (x.toInt * y.toInt).natAbs ≤ A * B := by rw [Int.natAbs_mul]; exact Nat.mul_le_mul ha hb
  rw [Int32.toInt_mul, Int.bmod_eq_of_le (by omega) (by omega)]; exact e
theorem sm_add {A B : Nat} {x y : Int32} (ha : sm A x) (hb : sm B y) (h : A + B < 2147483648) : sm (A + B) (x + y) := by
  unfold sm at *
  rw [Int32.toInt_add, Int.bmod_eq_of_le (by omega) (by omega)]; omega
theorem sm_neg {A : Nat} {x : Int32} (ha : sm A x) (h : A < 2147483648) : (-x).toInt = -x.toInt := by
  unfold sm at *
  rw [Int32.toInt_neg, Int.bmod_eq_of_le (by omega) (by omega)]
theorem sm_sub {A B : Nat} {x y : Int32} (ha : sm A x) (hb : sm B y) (h : A + B < 2147483648) : sm (A + B) (x - y) := by
  unfold sm at *
  rw [Int32.toInt_sub, Int.bmod_eq_of_le (by omega) (by omega)]; omega
theorem pos_neg {A : Nat} {x : Int32} (ha : sm A x) (h : A < 2147483648) : (0 < -x ↔ ¬ 0 ≤ x) ∧ (0 < x ↔ ¬ x ≤ 0) := by
  have e := sm_neg ha h
  refine ⟨?_, ?_⟩
  · rw [Int32.lt_iff_toInt_lt, Int32.le_iff_toInt_le, e, show (0 : Int32).toInt = 0 by decide]; omega
  · rw [Int32.lt_iff_toInt_lt, Int32.le_iff_toInt_le, show (0 : Int32).toInt = 0 by decide]; omega
theorem sm_cr {a b : Nat → Int32} (ha : ∀ v, v < 3 → sm 3 (a v)) (hb : ∀ v, v < 3 → sm 3 (b v)) (v : Nat) : sm 18 (cr a b v) := by
  have f : ∀ i j k l, i < 3 → j < 3 → k < 3 → l < 3 → sm 18 (a i * b j - a k * b l) := fun i j k l h1 h2 h3 h4 => sm_sub (A := 9) (B := 9) (sm_mul (ha i h1) (hb j h2) (by decide)) (sm_mul (ha k h3) (hb l h4) (by decide)) (by decide)
  unfold cr
  by_cases h0 : v = 0
  · rw [if_pos h0]; exact f 1 2 2 1 (by omega) (by omega) (by omega) (by omega)
  · rw [if_neg h0]
    by_cases h1 : v = 1
    · rw [if_pos h1]; exact f 2 0 0 2 (by omega) (by omega) (by omega) (by omega)
    · rw [if_neg h1]; exact f 0 1 1 0 (by omega) (by omega) (by omega) (by omega)
theorem sm_dt {N r : Nat → Int32} (hN : ∀ v, v < 3 → sm 18 (N v)) (hr : ∀ v, v < 3 → sm 3 (r v)) : sm 162 (dt N r) := by
  have f : ∀ i, i < 3 → sm 54 (N i * r i) := fun i h => sm_mul (hN i h) (hr i h) (by decide)
  exact sm_add (A := 108) (B := 54) (sm_add (A := 54) (B := 54) (f 0 (by omega)) (f 1 (by omega)) (by decide)) (f 2 (by omega)) (by decide)
/-- no side is bare: in the reference's words and in the class' -/
theorem bar_bo {q : Nat → Nat → Int32} {d : Nat} (hq : ∀ i, i < d → ∀ v, v < 3 → sm 3 (q i v)) {a b c : Int32} (ha : sm 18 a) (hb : sm 18 b) (hc : sm 18 c) : ¬ barB q d a b c ↔ (∃ i, i < d ∧ ¬ dt (vec3 a b c) (q i) ≤ 0) ∧ ∃ i, i < d ∧ ¬ 0 ≤ dt (vec3 a b c) (q i) := by
  have hs : ∀ i, i < d → sm 162 (dt (vec3 a b c) (q i)) := fun i hi => sm_dt (fun v hv => by
    rcases (show v = 0 ∨ v = 1 ∨ v = 2 by omega) with rfl | rfl | rfl
    · exact ha
    · exact hb
    · exact hc) (hq i hi)
  constructor
  · intro h
    refine ⟨?_, ?_⟩
    · apply Classical.byContradiction
      intro w
      exact h (Or.inl (fun i hi w' => w ⟨i, hi, (pos_neg (hs i hi) (by decide)).2.mp w'⟩))
    · apply Classical.byContradiction
      intro w
      exact h (Or.inr (fun i hi w' => w ⟨i, hi, (pos_neg (hs i hi) (by decide)).1.mp (by rw [dt_neg] at w'; exact w')⟩))
  · rintro ⟨⟨i, hi, w1⟩, j, hj, w2⟩ (w | w)
    · exact w i hi ((pos_neg (hs i hi) (by decide)).2.mpr w1)
    · exact w j hj (by rw [dt_neg]; exact (pos_neg (hs j hj) (by decide)).1.mpr w2)
theorem barB_neg {q : Nat → Nat → Int32} {d : Nat} {a b c : Int32} : barB q d (-a) (-b) (-c) ↔ barB q d a b c := by
  unfold barB
  rw [Int32.neg_neg, Int32.neg_neg, Int32.neg_neg]
  exact Or.comm
theorem dt_vec (N r : Nat → Int32) : dt (vec3 (N 0) (N 1) (N 2)) r = dt N r := rfl
theorem ng0 (x : Int32) : -x = 0 ↔ x = 0 := by
  constructor
  · intro h
    have e : - -x = -0 := by rw [h]
    rw [Int32.neg_neg] at e
    rw [e]; rfl
  · intro h; rw [h]; rfl
/-- three variables -/
theorem bridge3 {q : Nat → Nat → Int32} {d : Nat} (hq : ∀ i, i < d → ∀ v, v < 3 → sm 3 (q i v)) : Whole q d ↔ ((∃ i j, i < d ∧ j < i ∧ nz (cr (q i) (q j))) ∧ ∀ i j, i < d → j < i → ¬ bad3 q d (q i) (q j)) := by
  have sw : ∀ i j, nz (cr (q j) (q i)) ↔ nz (cr (q i) (q j)) := fun i j => by
    unfold nz
    rw [cr_sw (q i) (q j) 0, cr_sw (q i) (q j) 1, cr_sw (q i) (q j) 2, ng0, ng0, ng0]
  have bb : ∀ i j, i < d → j < d → (bo q d (cr (q j) (q i)) ↔ ¬ barB q d (cr (q i) (q j) 0) (cr (q i) (q j) 1) (cr (q i) (q j) 2)) := fun i j hi hj => by
    rw [← barB_neg, ← cr_sw (q i) (q j) 0, ← cr_sw (q i) (q j) 1, ← cr_sw (q i) (q j) 2, bar_bo hq (sm_cr (hq j hj) (hq i hi) 0) (sm_cr (hq j hj) (hq i hi) 1) (sm_cr (hq j hj) (hq i hi) 2)]
    rfl
  constructor
  · rintro ⟨⟨i, j, h1, h2, h3⟩, h4⟩
    refine ⟨⟨j, i, h2, h1, (sw j i).mp h3⟩, fun i j hi hj w => ?_⟩
    exact (bb i j hi (by omega)).mp (h4 j i hj hi ((sw i j).mpr w.1)) w.2
  · rintro ⟨⟨i, j, h1, h2, h3⟩, h4⟩
    refine ⟨⟨j, i, h2, h1, (sw i j).mpr h3⟩, fun j i hj hi w => ?_⟩
    exact (bb i j hi (by omega)).mpr (fun w' => h4 i j hi hj ⟨(sw i j).mp w, w'⟩)
/-- two rows on either side are enough -/
theorem via {p : Nat → Nat → Int32} {m r1 r2 : Nat} {N : Nat → Int32} {X : Int32} (h1 : r1 < m) (h2 : r2 < m) (e1 : dt N (p r1) = X) (e2 : dt N (p r2) = -X) (hX : X ≠ 0) (hs : sm 18 X) : bo p m N := by
  have ne := sm_neg hs (by decide)
  have n0 : X.toInt ≠ 0 := fun w => hX (Int32.toInt_inj.mp (by rw [w]; rfl))
  have le : ∀ a b : Int32, a ≤ b ↔ a.toInt ≤ b.toInt := fun a b => Int32.le_iff_toInt_le
  have z0 : (0 : Int32).toInt = 0 := by decide
  rcases Int.lt_or_gt_of_ne n0 with w | w
  · exact ⟨⟨r2, h2, by rw [e2, le, ne, z0]; omega⟩, ⟨r1, h1, by rw [e1, le, z0]; omega⟩⟩
  · exact ⟨⟨r1, h1, by rw [e1, le, z0]; omega⟩, ⟨r2, h2, by rw [e2, le, ne, z0]; omega⟩⟩
/-- rows behind the directions that are square to a side don't count -/
theorem bo_bar {p q : Nat → Nat → Int32} {d m : Nat} (hdm : d ≤ m) (hA : ∀ i, i < d → ∀ v, v < 3 → p i v = q i v) (hq : ∀ i, i < d → ∀ v, v < 3 → sm 3 (q i v)) {N : Nat → Int32} (hN : ∀ v, v < 3 → sm 18 (N v)) (h0 : ∀ r, d ≤ r → r < m → dt N (p r) = 0) : bo p m N ↔ ¬ barB q d (N 0) (N 1) (N 2) := by
  have e : ∀ r, r < d → dt N (p r) = dt N (q r) := fun r hr => by
    unfold dt
    rw [hA r hr 0 (by omega), hA r hr 1 (by omega), hA r hr 2 (by omega)]
  rw [bar_bo hq (hN 0 (by omega)) (hN 1 (by omega)) (hN 2 (by omega))]
  have z1 : ¬ ¬ (0 : Int32) ≤ 0 := by decide
  constructor
  · rintro ⟨⟨r, h1, h2⟩, s, h3, h4⟩
    have r1 : r < d := by
      rcases Nat.lt_or_ge r d with w | w
      · exact w
      · rw [h0 r w h1] at h2; exact absurd h2 z1
    have s1 : s < d := by
      rcases Nat.lt_or_ge s d with w | w
      · exact w
      · rw [h0 s w h3] at h4; exact absurd h4 z1
    rw [e r r1] at h2
    rw [e s s1] at h4
    exact ⟨⟨r, r1, h2⟩, s, s1, h4⟩
  · rintro ⟨⟨r, h1, h2⟩, s, h3, h4⟩
    exact ⟨⟨r, by omega, by rw [e r h1]; exact h2⟩, s, by omega, by rw [e s h3]; exact h4⟩
theorem sm_un (k v : Nat) : sm 3 (un k v) := by
  unfold un sm
  by_cases h : k / 2 = v
  · rw [if_pos h]
    by_cases h2 : k % 2 = 0
    · rw [if_pos h2]; decide
    · rw [if_neg h2]; decide
  · rw [if_neg h]; decide
/-- two variables -/
theorem bridge2 {p q : Nat → Nat → Int32} {d : Nat} (hq : ∀ i, i < d → ∀ v, v < 3 → sm 3 (q i v)) (hA : ∀ i, i < d → ∀ v, v < 3 → p i v = q i v) (hE : ∀ k, k < 2 → ∀ v, v < 3 → p (d + k) v = un (4 + k) v) (h2 : ∀ i, i < d → q i 2 = 0) (hn : ∀ i, i < d → ¬ (q i 0 = 0 ∧ q i 1 = 0)) : Whole p (d + 2) ↔ (d ≠ 0 ∧ ∀ i, i < d → ¬ barB q d (-(q i 1)) (q i 0) 0) := by
  have E00 : p d 0 = 0 := hE 0 (by omega) 0 (by omega)
  have E01 : p d 1 = 0 := hE 0 (by omega) 1 (by omega)
  have E02 : p d 2 = 1 := hE 0 (by omega) 2 (by omega)
  have E10 : p (d + 1) 0 = 0 := hE 1 (by omega) 0 (by omega)
  have E11 : p (d + 1) 1 = 0 := hE 1 (by omega) 1 (by omega)
  have E12 : p (d + 1) 2 = -1 := hE 1 (by omega) 2 (by omega)
  have A0 : ∀ i, i < d → p i 0 = q i 0 := fun i hi => hA i hi 0 (by omega)
  have A1 : ∀ i, i < d → p i 1 = q i 1 := fun i hi => hA i hi 1 (by omega)
  have A2 : ∀ i, i < d → p i 2 = 0 := fun i hi => (hA i hi 2 (by omega)).trans (h2 i hi)
  have sp : ∀ i, i < d + 2 → ∀ v, v < 3 → sm 3 (p i v) := fun i hi v hv => by
    rcases Nat.lt_or_ge i d with w | w
    · rw [hA i w v hv]; exact hq i w v hv
    · obtain ⟨k, rfl⟩ : ∃ k, i = d + k := ⟨i - d, by omega⟩
      rw [hE k (by omega) v hv]; exact sm_un _ _
  -- the pair of a direction and an axis
  have c0 : ∀ i, i < d → cr (p i) (p d) 0 = q i 1 ∧ cr (p i) (p d) 1 = -(q i 0) ∧ cr (p i) (p d) 2 = 0 := fun i hi => by
    refine ⟨?_, ?_, ?_⟩
    · show p i 1 * p d 2 - p i 2 * p d 1 = _
      rw [A1 i hi, A2 i hi, E02, E01]; grind
    · show p i 2 * p d 0 - p i 0 * p d 2 = _
      rw [A0 i hi, A2 i hi, E02, E00]; grind
    · show p i 0 * p d 1 - p i 1 * p d 0 = _
      rw [E01, E00]; grind
  have c1 : ∀ i, i < d → cr (p i) (p (d + 1)) 0 = -(q i 1) ∧ cr (p i) (p (d + 1)) 1 = q i 0 ∧ cr (p i) (p (d + 1)) 2 = 0 := fun i hi => by
    refine ⟨?_, ?_, ?_⟩
    · show p i 1 * p (d + 1) 2 - p i 2 * p (d + 1) 1 = _
      rw [A1 i hi, A2 i hi, E12, E11]; grind
    · show p i 2 * p (d + 1) 0 - p i 0 * p (d + 1) 2 = _
      rw [A0 i hi, A2 i hi, E12, E10]; grind
    · show p i 0 * p (d + 1) 1 - p i 1 * p (d + 1) 0 = _
      rw [E11, E10]; grind
  have flat : ∀ N : Nat → Int32, N 2 = 0 → ∀ r, d ≤ r → r < d + 2 → dt N (p r) = 0 := fun N h r w1 w2 => by
    show N 0 * p r 0 + N 1 * p r 1 + N 2 * p r 2 = 0
    rcases (show r = d ∨ r = d + 1 by omega) with rfl | rfl
    · rw [E00, E01, h]; grind
    · rw [E10, E11, h]; grind
  have b0 : ∀ i, i < d → (bo p (d + 2) (cr (p i) (p d)) ↔ ¬ barB q d (-(q i 1)) (q i 0) 0) := fun i hi => by
    obtain ⟨u0, u1, u2'⟩ := c0 i hi
    rw [bo_bar (by omega) hA hq (fun v _ => sm_cr (sp i (by omega)) (sp d (by omega)) v) (flat _ u2'), u0, u1, u2', ← barB_neg, Int32.neg_neg, show -(0 : Int32) = 0 by decide]
  have b1' : ∀ i, i < d → (bo p (d + 2) (cr (p i) (p (d + 1))) ↔ ¬ barB q d (-(q i 1)) (q i 0) 0) := fun i hi => by
    obtain ⟨u0, u1, u2'⟩ := c1 i hi
    rw [bo_bar (by omega) hA hq (fun v _ => sm_cr (sp i (by omega)) (sp (d + 1) (by omega)) v) (flat _ u2'), u0, u1, u2']
  have nz0 : ∀ i, i < d → nz (cr (p i) (p d)) := fun i hi w => by
    obtain ⟨u0, u1, u2'⟩ := c0 i hi
    rw [u0, u1, u2', ng0] at w
    exact hn i hi ⟨w.2.1, w.1⟩
  constructor
  · rintro ⟨⟨i, j, h1, h2', h3⟩, h4⟩
    have hd0 : d ≠ 0 := by
      rintro rfl
      obtain rfl : i = 0 := by omega
      obtain rfl : j = 1 := by omega
      refine h3 ⟨?_, ?_, ?_⟩
      · show p 0 1 * p 1 2 - p 0 2 * p 1 1 = 0
        rw [show p 0 1 = 0 from E01, show p 1 1 = 0 from E11]; grind
      · show p 0 2 * p 1 0 - p 0 0 * p 1 2 = 0
        rw [show p 0 0 = 0 from E00, show p 1 0 = 0 from E10]; grind
      · show p 0 0 * p 1 1 - p 0 1 * p 1 0 = 0
        rw [show p 0 0 = 0 from E00, show p 1 0 = 0 from E10]; grind
    exact ⟨hd0, fun i hi => (b0 i hi).mp (h4 i d hi (by omega) (nz0 i hi))⟩
  · rintro ⟨h1, h3⟩
    refine ⟨⟨0, d, by omega, by omega, nz0 0 (by omega)⟩, fun i j hij hj w => ?_⟩
    rcases Nat.lt_or_ge j d with w1 | w1
    · -- two directions
      have e0 : cr (p i) (p j) 0 = 0 := by
        show p i 1 * p j 2 - p i 2 * p j 1 = 0
        rw [A2 i (by omega), A2 j w1]; grind
      have e1 : cr (p i) (p j) 1 = 0 := by
        show p i 2 * p j 0 - p i 0 * p j 2 = 0
        rw [A2 i (by omega), A2 j w1]; grind
      refine via (r1 := d) (r2 := d + 1) (X := cr (p i) (p j) 2) (by omega) (by omega) ?_ ?_ (fun e2 => w ⟨e0, e1, e2⟩) (sm_cr (sp i (by omega)) (sp j (by omega)) 2)
      · show cr (p i) (p j) 0 * p d 0 + cr (p i) (p j) 1 * p d 1 + cr (p i) (p j) 2 * p d 2 = _
        rw [e0, e1, E02]; grind
      · show cr (p i) (p j) 0 * p (d + 1) 0 + cr (p i) (p j) 1 * p (d + 1) 1 + cr (p i) (p j) 2 * p (d + 1) 2 = _
        rw [e0, e1, E12]; grind
    · rcases Nat.lt_or_ge i d with w2 | w2
      · rcases (show j = d ∨ j = d + 1 by omega) with rfl | rfl
        · exact (b0 i w2).mpr (h3 i w2)
        · exact (b1' i w2).mpr (h3 i w2)
      · obtain rfl : i = d := by omega
        obtain rfl : j = i + 1 := by omega
        refine absurd ⟨?_, ?_, ?_⟩ w
        · show p i 1 * p (i + 1) 2 - p i 2 * p (i + 1) 1 = 0
          rw [E01, E11]; grind
        · show p i 2 * p (i + 1) 0 - p i 0 * p (i + 1) 2 = 0
          rw [E00, E10]; grind
        · show p i 0 * p (i + 1) 1 - p i 1 * p (i + 1) 0 = 0
          rw [E00, E10]; grind
