/-! ===== spans: the reference's loops ===== -/
def vec3 (a b c : Int32) : Nat → Int32 := fun v => if v = 0 then a else if v = 1 then b else c
def barr (q : Nat → Nat → Int32) (d : Nat) (N : Nat → Int32) : Prop := ∀ i, i < d → ¬ 0 < dt N (q i)
def barB (q : Nat → Nat → Int32) (d : Nat) (a b c : Int32) : Prop := barr q d (vec3 a b c) ∨ barr q d (vec3 (-a) (-b) (-c))
def rw_ (M : Mm) : Nat → Nat → Int32 := fun i v => M.1 96 (61 + 4 * i + v)
theorem stp {M : Mm} {i : Nat} (hi : i < 8) : fX11_step M (nI i) 0 = some (rw_ M i 0) ∧ fX11_step M (nI i) 1 = some (rw_ M i 1) ∧ fX11_step M (nI i) 2 = some (rw_ M i 2) := ⟨stepM (v := 0) hi (by omega), stepM (v := 1) hi (by omega), stepM (v := 2) hi (by omega)⟩
theorem barM {M : Mm} {d : Nat} (ld : d ≤ 8) (h : M.1 96 2 = nI d) (a b c : Int32) : ∃ r, fX11_isBarred M a b c = some r ∧ bq r (barr (rw_ M) d (vec3 a b c)) := by
  obtain ⟨x, f, q⟩ := itr_0 (body := fX11_isBarred_L6 M a b c) (s := ((1 : Int32), (0 : Int32))) (fun i q => q.2 = nI i ∧ bq q.1 (∀ j, j < i → ¬ 0 < dt (vec3 a b c) (rw_ M j))) (fun r => bq r (barr (rw_ M) d (vec3 a b c))) d (by omega) ⟨rfl, bq1 (fun j hj => absurd hj (by omega))⟩ (by
    rintro i ⟨x1, x2⟩ hi ⟨rfl, q⟩
    rcases Nat.lt_or_ge i d with hl | hl
    · left
      obtain ⟨s0, s1, s2⟩ := stp (M := M) (i := i) (by omega)
      have st : (∀ j, j < i + 1 → ¬ 0 < dt (vec3 a b c) (rw_ M j)) ↔ ((∀ j, j < i → ¬ 0 < dt (vec3 a b c) (rw_ M j)) ∧ ¬ 0 < dt (vec3 a b c) (rw_ M i)) := ⟨fun w => ⟨fun j hj => w j (by omega), w i (by omega)⟩, fun w j hj => by
        rcases Nat.lt_or_ge j i with w' | w'
        · exact w.1 j w'
        · rw [show j = i by omega]; exact w.2⟩
      by_cases c1 : x1 = 0
      · refine ⟨(0, nI (i + 1)), ?_, hl, rfl, bq0 (fun w => q.z.mp c1 (st.mp w).1)⟩
        unfold fX11_isBarred_L6 u2
        dsimp only
        rw [h, if_neg (ngen (by omega) (by omega) hl), bd_s, bd_s, if_pos c1]
        dsimp only
        rw [nI_1, bd_s]
      · have w1 : ∀ j, j < i → ¬ 0 < dt (vec3 a b c) (rw_ M j) := Classical.byContradiction fun w => c1 (q.z.mpr w)
        by_cases c2 : 0 < dt (vec3 a b c) (rw_ M i)
        · refine ⟨(0, nI (i + 1)), ?_, hl, rfl, bq0 (fun w => (st.mp w).2 c2)⟩
          unfold fX11_isBarred_L6 u2
          dsimp only
          rw [h, if_neg (ngen (by omega) (by omega) hl), bd_s, bd_s, if_neg c1, s0, b1_s, s1, b1_s, s2, b1_s, if_pos (show 0 < a * rw_ M i 0 + b * rw_ M i 1 + c * rw_ M i 2 from c2)]
          dsimp only
          rw [nI_1, bd_s]
        · refine ⟨(1, nI (i + 1)), ?_, hl, rfl, bq1 (st.mpr ⟨w1, c2⟩)⟩
          unfold fX11_isBarred_L6 u2
          dsimp only
          rw [h, if_neg (ngen (by omega) (by omega) hl), bd_s, bd_s, if_neg c1, s0, b1_s, s1, b1_s, s2, b1_s, if_neg (show ¬ 0 < a * rw_ M i 0 + b * rw_ M i 1 + c * rw_ M i 2 from c2)]
          dsimp only
          rw [nI_1, bd_s]
    · right
      obtain rfl : i = d := by omega
      refine ⟨x1, ?_, q⟩
      unfold fX11_isBarred_L6 u2
      dsimp only
      rw [h, if_pos (gen (by omega) (by omega) (by omega))])
  exact ⟨x, by unfold fX11_isBarred; rw [f, b1_s, gd_t q.o], q⟩
theorem bothM {M : Mm} {d : Nat} (ld : d ≤ 8) (h : M.1 96 2 = nI d) (a b c : Int32) : ∃ r, fX11_isBarredBoth M a b c = some r ∧ bq r (barB (rw_ M) d a b c) := by
  obtain ⟨x, f, q⟩ := barM ld h a b c
  obtain ⟨y, g, r⟩ := barM ld h (-a) (-b) (-c)
  unfold fX11_isBarredBoth
  rw [f, b1_s]
  by_cases c1 : x = 0
  · rw [if_pos c1, g, b1_s]
    by_cases c2 : y = 0
    · rw [if_pos c2]; exact ⟨0, rfl, bq0 (fun w => w.elim (q.z.mp c1) (r.z.mp c2))⟩
    · rw [if_neg c2]; exact ⟨1, rfl, bq1 (Or.inr (Classical.byContradiction fun w => c2 (r.z.mpr w)))⟩
  · rw [if_neg c1]; exact ⟨1, rfl, bq1 (Or.inl (Classical.byContradiction fun w => c1 (q.z.mpr w)))⟩
/-- a pair of directions that bars -/
def bad3 (q : Nat → Nat → Int32) (d : Nat) (a b : Nat → Int32) : Prop := nz (cr a b) ∧ barB q d (cr a b 0) (cr a b 1) (cr a b 2)
theorem three_in {M : Mm} {d i : Nat} (ld : d ≤ 8) (h : M.1 96 2 = nI d) (hi : i < d) {S T : Prop} {x5 x6 : Int32} (h5 : bq x5 S) (h6 : bq x6 T) : ∃ r, itr (fX11_spanThree_L19 (nI i) M) 1000 (x5, x6, 0) = some r ∧ bq r.1 (S ∨ ∃ j, j < i ∧ nz (cr (rw_ M i) (rw_ M j))) ∧ bq r.2 (T ∨ ∃ j, j < i ∧ bad3 (rw_ M) d (rw_ M i) (rw_ M j)) := by
  refine itr_0 (body := fX11_spanThree_L19 (nI i) M) (s := (x5, x6, (0 : Int32))) (fun j q => q.2.2 = nI j ∧ bq q.1 (S ∨ ∃ u, u < j ∧ nz (cr (rw_ M i) (rw_ M u))) ∧ bq q.2.1 (T ∨ ∃ u, u < j ∧ bad3 (rw_ M) d (rw_ M i) (rw_ M u))) (fun r => bq r.1 (S ∨ ∃ j, j < i ∧ nz (cr (rw_ M i) (rw_ M j))) ∧ bq r.2 (T ∨ ∃ j, j < i ∧ bad3 (rw_ M) d (rw_ M i) (rw_ M j))) i (by omega) ⟨rfl, h5.c ⟨Or.inl, fun w => w.elim id (fun ⟨j, h1, _⟩ => absurd h1 (by omega))⟩, h6.c ⟨Or.inl, fun w => w.elim id (fun ⟨j, h1, _⟩ => absurd h1 (by omega))⟩⟩ (by
    rintro j ⟨x5, x6, x7⟩ hj ⟨rfl, q1, q2⟩
    rcases Nat.lt_or_ge j i with hl | hl
    · left
      obtain ⟨s0, s1, s2⟩ := stp (M := M) (i := i) (by omega)
      obtain ⟨t0, t1, t2⟩ := stp (M := M) (i := j) (by omega)
      obtain ⟨bb, fb, qb⟩ := bothM ld h (cr (rw_ M i) (rw_ M j) 0) (cr (rw_ M i) (rw_ M j) 1) (cr (rw_ M i) (rw_ M j) 2)
      have st : ∀ (U : Prop) (P : Nat → Prop), (U ∨ ∃ u, u < j + 1 ∧ P u) ↔ ((U ∨ ∃ u, u < j ∧ P u) ∨ P j) := fun U P => by
        constructor
        · rintro (w | ⟨u, w1, w2⟩)
          · exact Or.inl (Or.inl w)
          · rcases Nat.lt_or_ge u j with w' | w'
            · exact Or.inl (Or.inr ⟨u, w', w2⟩)
            · exact Or.inr (by rw [show j = u by omega]; exact w2)
        · rintro ((w | ⟨u, w1, w2⟩) | w)
          · exact Or.inl w
          · exact Or.inr ⟨u, by omega, w2⟩
          · exact Or.inr ⟨j, by omega, w⟩
      obtain ⟨N0, e0⟩ : ∃ N0, N0 = cr (rw_ M i) (rw_ M j) 0 := ⟨_, rfl⟩
      obtain ⟨N1, e1⟩ : ∃ N1, N1 = cr (rw_ M i) (rw_ M j) 1 := ⟨_, rfl⟩
      obtain ⟨N2, e2⟩ : ∃ N2, N2 = cr (rw_ M i) (rw_ M j) 2 := ⟨_, rfl⟩
      have pre : ∃ y5 y6, fX11_spanThree_L19 (nI i) M (x5, x6, nI j) = some (.inl (y5, y6, nI (j + 1))) ∧ (y5 = if N0 = 0 ∧ N1 = 0 ∧ N2 = 0 then (if x5 = 0 then 0 else 1) else 1) ∧ (y6 = if x6 = 0 then (if N0 = 0 ∧ N1 = 0 ∧ N2 = 0 then 0 else if bb = 0 then 0 else 1) else 1) := by
        refine ⟨_, _, ?_, rfl, rfl⟩
        unfold fX11_spanThree_L19 u3
        dsimp only
        rw [if_neg (ngen (by omega) (by omega) hl), s1, b1_s, t2, b1_s, s2, b1_s, t1, b1_s, bd_s, b1_s, t0, b1_s, s0, b1_s, b1_s, bd_s, b1_s, b1_s, b1_s, b1_s, bd_s, show rw_ M i 1 * rw_ M j 2 - rw_ M i 2 * rw_ M j 1 = N0 from e0.symm, show rw_ M i 2 * rw_ M j 0 - rw_ M i 0 * rw_ M j 2 = N1 from e1.symm, show rw_ M i 0 * rw_ M j 1 - rw_ M i 1 * rw_ M j 0 = N2 from e2.symm]
        rw [← e0, ← e1, ← e2] at fb
        by_cases c0 : N0 = 0 <;> by_cases c1 : N1 = 0 <;> by_cases c2 : N2 = 0 <;> by_cases c5 : x5 = 0 <;> by_cases c6 : x6 = 0 <;> by_cases cb : bb = 0 <;> (try rw [c0] at fb) <;> (try rw [c1] at fb) <;> (try rw [c2] at fb) <;> simp [bd_s, nI_1, c5, c6, cb, fb, b1_s, c0, c1, c2, show ¬ (1 : Int32) = 0 by decide]
      obtain ⟨y5, y6, pre, hy5, hy6⟩ := pre
      have nn : nz (cr (rw_ M i) (rw_ M j)) ↔ ¬ (N0 = 0 ∧ N1 = 0 ∧ N2 = 0) := by unfold nz; rw [e0, e1, e2]
      refine ⟨_, pre, hl, rfl, bq.c ?_ (st S (fun u => nz (cr (rw_ M i) (rw_ M u)))).symm, bq.c ?_ (st T (fun u => bad3 (rw_ M) d (rw_ M i) (rw_ M u))).symm⟩
      · show bq y5 _
        rw [hy5]
        by_cases c : N0 = 0 ∧ N1 = 0 ∧ N2 = 0
        · rw [if_pos c]
          by_cases c5 : x5 = 0
          · rw [if_pos c5]; exact bq0 (fun w => w.elim (q1.z.mp c5) (fun w => nn.mp w c))
          · rw [if_neg c5]; exact bq1 (Or.inl (Classical.byContradiction fun w => c5 (q1.z.mpr w)))
        · rw [if_neg c]; exact bq1 (Or.inr (nn.mpr c))
      · show bq y6 _
        rw [hy6]
        by_cases c6 : x6 = 0
        · rw [if_pos c6]
          have n6 := q2.z.mp c6
          by_cases c : N0 = 0 ∧ N1 = 0 ∧ N2 = 0
          · rw [if_pos c]; exact bq0 (fun w => w.elim n6 (fun w => nn.mp w.1 c))
          · rw [if_neg c]
            by_cases cb : bb = 0
            · rw [if_pos cb]; exact bq0 (fun w => w.elim n6 (fun w => qb.z.mp cb w.2))
            · rw [if_neg cb]; exact bq1 (Or.inr ⟨nn.mpr c, Classical.byContradiction fun w => cb (qb.z.mpr w)⟩)
        · rw [if_neg c6]; exact bq1 (Or.inl (Classical.byContradiction fun w => c6 (q2.z.mpr w)))
    · right
      obtain rfl : j = i := by omega
      refine ⟨(x5, x6), ?_, q1, q2⟩
      unfold fX11_spanThree_L19 u3
      dsimp only
      rw [if_pos (gen (by omega) (by omega) (by omega))])
theorem threeM {M : Mm} {d : Nat} (ld : d ≤ 8) (h : M.1 96 2 = nI d) : ∃ r, fX11_spanThree M = some r ∧ bq r ((∃ i j, i < d ∧ j < i ∧ nz (cr (rw_ M i) (rw_ M j))) ∧ ∀ i j, i < d → j < i → ¬ bad3 (rw_ M) d (rw_ M i) (rw_ M j)) := by
  obtain ⟨⟨a, b⟩, f, q1, q2⟩ := itr_0 (body := fX11_spanThree_L6 M) (s := ((0 : Int32), (0 : Int32), (0 : Int32))) (fun i q => q.2.2 = nI i ∧ bq q.1 (∃ i' j, i' < i ∧ j < i' ∧ nz (cr (rw_ M i') (rw_ M j))) ∧ bq q.2.1 (∃ i' j, i' < i ∧ j < i' ∧ bad3 (rw_ M) d (rw_ M i') (rw_ M j))) (fun q => bq q.1 (∃ i' j, i' < d ∧ j < i' ∧ nz (cr (rw_ M i') (rw_ M j))) ∧ bq q.2 (∃ i' j, i' < d ∧ j < i' ∧ bad3 (rw_ M) d (rw_ M i') (rw_ M j))) d (by omega) ⟨rfl, bq0 (fun ⟨i', j, h1, _⟩ => absurd h1 (by omega)), bq0 (fun ⟨i', j, h1, _⟩ => absurd h1 (by omega))⟩ (by
    rintro i ⟨x1, x2, x3⟩ hi ⟨rfl, q1, q2⟩
    rcases Nat.lt_or_ge i d with hl | hl
    · left
      obtain ⟨⟨y1, y2⟩, f, r1, r2⟩ := three_in ld h hl q1 q2
      have st : ∀ P : Nat → Nat → Prop, ((∃ i' j, i' < i ∧ j < i' ∧ P i' j) ∨ ∃ j, j < i ∧ P i j) ↔ ∃ i' j, i' < i + 1 ∧ j < i' ∧ P i' j := fun P => by
        constructor
        · rintro (⟨i', j, w1, w2, w3⟩ | ⟨j, w2, w3⟩)
          · exact ⟨i', j, by omega, w2, w3⟩
          · exact ⟨i, j, by omega, w2, w3⟩
        · rintro ⟨i', j, w1, w2, w3⟩
          rcases Nat.lt_or_ge i' i with w | w
          · exact Or.inl ⟨i', j, w, w2, w3⟩
          · obtain rfl : i' = i := by omega
            exact Or.inr ⟨j, w2, w3⟩
      refine ⟨(y1, y2, nI (i + 1)), ?_, hl, rfl, r1.c (st (fun a b => nz (cr (rw_ M a) (rw_ M b)))), r2.c (st (fun a b => bad3 (rw_ M) d (rw_ M a) (rw_ M b)))⟩
      unfold fX11_spanThree_L6 u3
      dsimp only
      rw [h, if_neg (ngen (by omega) (by omega) hl), f, b2_s, nI_1, bd_s]
    · right
      obtain rfl : i = d := by omega
      refine ⟨(x1, x2), ?_, q1, q2⟩
      unfold fX11_spanThree_L6 u3
      dsimp only
      rw [h, if_pos (gen (by omega) (by omega) (by omega))])
  have q1 : bq a _ := q1
  have q2 : bq b _ := q2
  unfold fX11_spanThree
  rw [f, b2_s]
  by_cases c1 : a = 0
  · rw [if_pos c1]; exact ⟨0, rfl, bq0 (fun w => q1.z.mp c1 w.1)⟩
  · rw [if_neg c1]
    by_cases c2 : b = 0
    · rw [if_pos c2]; exact ⟨1, rfl, bq1 ⟨Classical.byContradiction fun w => c1 (q1.z.mpr w), fun i j h1 h2 w => q2.z.mp c2 ⟨i, j, h1, h2, w⟩⟩⟩
    · rw [if_neg c2]; exact ⟨0, rfl, bq0 (fun w => c2 (q2.z.mpr (fun ⟨i, j, h1, h2, w'⟩ => w.2 i j h1 h2 w')))⟩
theorem twoM {M : Mm} {d : Nat} (ld : d ≤ 8) (h : M.1 96 2 = nI d) : ∃ r, fX11_spanTwo M = some r ∧ bq r (d ≠ 0 ∧ ∀ i, i < d → ¬ barB (rw_ M) d (-(rw_ M i 1)) (rw_ M i 0) 0) := by
  have key : ∀ (x3 : Int32) (S : Prop), bq x3 S → ∃ r, itr (fX11_spanTwo_L17 M) 1000 (x3, 0) = some r ∧ bq r (S ∨ ∃ i, i < d ∧ barB (rw_ M) d (-(rw_ M i 1)) (rw_ M i 0) 0) := by
    intro x3 S hx
    refine itr_0 (body := fX11_spanTwo_L17 M) (s := (x3, (0 : Int32))) (fun i q => q.2 = nI i ∧ bq q.1 (S ∨ ∃ u, u < i ∧ barB (rw_ M) d (-(rw_ M u 1)) (rw_ M u 0) 0)) (fun r => bq r (S ∨ ∃ i, i < d ∧ barB (rw_ M) d (-(rw_ M i 1)) (rw_ M i 0) 0)) d (by omega) ⟨rfl, hx.c ⟨Or.inl, fun w => w.elim id (fun ⟨j, h1, _⟩ => absurd h1 (by omega))⟩⟩ ?_
    rintro i ⟨x4, x5⟩ hi ⟨rfl, q⟩
    rcases Nat.lt_or_ge i d with hl | hl
    · left
      obtain ⟨s0, s1, s2⟩ := stp (M := M) (i := i) (by omega)
      obtain ⟨bb, fb, qb⟩ := bothM ld h (-(rw_ M i 1)) (rw_ M i 0) 0
      have st : ((S ∨ ∃ u, u < i ∧ barB (rw_ M) d (-(rw_ M u 1)) (rw_ M u 0) 0) ∨ barB (rw_ M) d (-(rw_ M i 1)) (rw_ M i 0) 0) ↔ (S ∨ ∃ u, u < i + 1 ∧ barB (rw_ M) d (-(rw_ M u 1)) (rw_ M u 0) 0) := by
        constructor
        · rintro ((w | ⟨u, w1, w2⟩) | w)
          · exact Or.inl w
          · exact Or.inr ⟨u, by omega, w2⟩
          · exact Or.inr ⟨i, by omega, w⟩
        · rintro (w | ⟨u, w1, w2⟩)
          · exact Or.inl (Or.inl w)
          · rcases Nat.lt_or_ge u i with w' | w'
            · exact Or.inl (Or.inr ⟨u, w', w2⟩)
            · obtain rfl : u = i := by omega
              exact Or.inr w2
      by_cases c4 : x4 = 0
      · by_cases cb : bb = 0
        · refine ⟨(0, nI (i + 1)), ?_, hl, rfl, bq.c (bq0 (fun w => w.elim (q.z.mp c4) (qb.z.mp cb))) st⟩
          unfold fX11_spanTwo_L17 u2
          dsimp only
          rw [h, if_neg (ngen (by omega) (by omega) hl), bd_s, bd_s, if_pos c4, s1, b1_s, s0, b1_s, fb, b1_s, if_pos cb]
          dsimp only
          rw [nI_1, bd_s]
        · refine ⟨(1, nI (i + 1)), ?_, hl, rfl, bq.c (bq1 (Or.inr (Classical.byContradiction fun w => cb (qb.z.mpr w)))) st⟩
          unfold fX11_spanTwo_L17 u2
          dsimp only
          rw [h, if_neg (ngen (by omega) (by omega) hl), bd_s, bd_s, if_pos c4, s1, b1_s, s0, b1_s, fb, b1_s, if_neg cb]
          dsimp only
          rw [nI_1, bd_s]
      · refine ⟨(1, nI (i + 1)), ?_, hl, rfl, bq.c (bq1 (Or.inl (Classical.byContradiction fun w => c4 (q.z.mpr w)))) st⟩
        unfold fX11_spanTwo_L17 u2
        dsimp only
        rw [h, if_neg (ngen (by omega) (by omega) hl), bd_s, bd_s, if_neg c4]
        dsimp only
        rw [nI_1, bd_s]
    · right
      obtain rfl : i = d := by omega
      refine ⟨x4, ?_, q⟩
      unfold fX11_spanTwo_L17 u2
      dsimp only
      rw [h, if_pos (gen (by omega) (by omega) (by omega))]
  have fin : ∀ (x3 : Int32), bq x3 (d = 0) → ∃ r, (b1 (itr (fX11_spanTwo_L17 M) 1000 (x3, 0)) fun x22 => (if x22 = 0 then some (1 : Int32) else some 0)) = some r ∧ bq r (d ≠ 0 ∧ ∀ i, i < d → ¬ barB (rw_ M) d (-(rw_ M i 1)) (rw_ M i 0) 0) := by
    intro x3 hx
    obtain ⟨r, f, q⟩ := key x3 _ hx
    rw [f, b1_s]
    by_cases c : r = 0
    · rw [if_pos c]
      have := q.z.mp c
      exact ⟨1, rfl, bq1 ⟨fun w => this (Or.inl w), fun i hi w => this (Or.inr ⟨i, hi, w⟩)⟩⟩
    · rw [if_neg c]
      exact ⟨0, rfl, bq0 (fun w => c (q.z.mpr (fun w' => w'.elim w.1 (fun ⟨i, hi, w''⟩ => w.2 i hi w''))))⟩
  unfold fX11_spanTwo
  rw [bd_s, h]
  by_cases c : d = 0
  · rw [if_pos (show nI d = 0 by rw [c]; rfl)]
    exact fin 1 (bq1 c)
  · rw [if_neg (show ¬ nI d = 0 from fun q => c ((neq (b := 0) (by omega) (by omega)).mp q))]
    exact fin 0 (bq0 c)
