/-! ===== the law's look at spans ===== -/
theorem zeroS {β : Type} (f : Int32 → Option β) (a b c : Int32) : (bd f fun k24 => bd (fun (_ : Unit) => k24 0) fun k55 => (if a = 0 then (if b = 0 then (if c = 0 then k24 1 else k55 ()) else k55 ()) else k55 ())) = f (if a = 0 ∧ b = 0 ∧ c = 0 then 1 else 0) := by
  simp only [bd_s]
  by_cases h1 : a = 0
  · by_cases h2 : b = 0
    · by_cases h3 : c = 0
      · rw [if_pos h1, if_pos h2, if_pos h3, if_pos ⟨h1, h2, h3⟩]
      · rw [if_pos h1, if_pos h2, if_neg h3, if_neg (fun q => h3 q.2.2)]
    · rw [if_pos h1, if_neg h2, if_neg (fun q => h2 q.2.1)]
  · rw [if_neg h1, if_neg (fun q => h1 q.1)]
theorem orS {β : Type} (f : Int32 → Option β) (x y : Int32) : (bd f fun k46 => bd (fun (_ : Unit) => k46 1) fun k50 => (if x = 0 then (if y = 0 then k50 () else k46 0) else k50 ())) = f (if x = 0 ∧ ¬ y = 0 then 0 else 1) := by
  simp only [bd_s]
  by_cases h1 : x = 0
  · by_cases h2 : y = 0
    · rw [if_pos h1, if_pos h2, if_neg (fun q => q.2 h2)]
    · rw [if_pos h1, if_neg h2, if_pos ⟨h1, h2⟩]
  · rw [if_neg h1, if_neg (fun q => h1 q.1)]
theorem bq_or {x y : Int32} {P Q : Prop} (hx : bq x P) (hy : bq y (¬ Q)) : bq (if x = 0 ∧ ¬ y = 0 then (0 : Int32) else 1) (P ∨ Q) := by
  by_cases c : x = 0 ∧ ¬ y = 0
  · rw [if_pos c]
    refine bq0 ?_
    rintro (q | q)
    · exact hx.z.mp c.1 q
    · exact c.2 (hy.z.mpr (fun w => w q))
  · rw [if_neg c]
    refine bq1 ?_
    by_cases h1 : x = 0
    · have h2 : y = 0 := Classical.byContradiction fun w => c ⟨h1, w⟩
      exact Or.inr (Classical.byContradiction fun w => hy.z.mp h2 w)
    · exact Or.inl (Classical.byContradiction fun w => h1 (hx.z.mpr w))
theorem bq_z {a b c : Int32} : bq (if a = 0 ∧ b = 0 ∧ c = 0 then (1 : Int32) else 0) (a = 0 ∧ b = 0 ∧ c = 0) := by
  by_cases h : a = 0 ∧ b = 0 ∧ c = 0
  · rw [if_pos h]; exact bq1 h
  · rw [if_neg h]; exact bq0 h
theorem spIn {n t d e k : Nat} {M : Mm} (h : JJ n t d e k M) {a b c x0 : Int32} (h0 : bq x0 (a = 0 ∧ b = 0 ∧ c = 0)) : ∃ r, itr (fL_spans_L96 M a b c) 1000 (x0, 0) = some r ∧ bq r (¬ Bar n d M a b c) := by
  obtain ⟨⟨⟨l1, l3, lt, ld, -⟩, a10, -, a80, -⟩, -⟩ := id h
  obtain ⟨r, f, hr⟩ := itr_0 (body := fL_spans_L96 M a b c) (s := (x0, (0 : Int32))) (fun i q => q.2 = nI i ∧ bq q.1 ((a = 0 ∧ b = 0 ∧ c = 0) ∨ ∃ u, u < i ∧ 0 < dt (vec3 a b c) (dr M u))) (fun r => bq r ((a = 0 ∧ b = 0 ∧ c = 0) ∨ ∃ u, u < d ∧ 0 < dt (vec3 a b c) (dr M u))) d (by omega) ⟨rfl, h0.c ⟨fun q => Or.inl q, fun q => q.elim id (fun ⟨u, hu, _⟩ => absurd hu (by omega))⟩⟩ (by
    rintro i ⟨x, y⟩ hi ⟨rfl, hq⟩
    have hq : bq x _ := hq
    rcases Nat.lt_or_ge i d with hl | hl
    · by_cases c1 : x = 0
      · left
        have q0 : fX10_directionOf M (nI i) 0 = some (dr M i 0) := di_v a80 ld hl (v := 0) (by omega)
        have q1 : fX10_directionOf M (nI i) 1 = some (dr M i 1) := di_v a80 ld hl (v := 1) (by omega)
        have q2 : fX10_directionOf M (nI i) 2 = some (dr M i 2) := di_v a80 ld hl (v := 2) (by omega)
        refine ⟨(if dt (vec3 a b c) (dr M i) ≤ 0 then 0 else 1, nI (i + 1)), ?_, hl, rfl, ?_⟩
        · unfold fL_spans_L96 u2
          dsimp only
          rw [cnt_2, b1_s, a80, if_neg (ngen (by omega) (by omega) hl), if_pos c1, q0, b1_s, q1, b1_s, q2, b1_s, bd_01]
          try dsimp only
          rw [nI_1, bd_s]
          rfl
        · have no := hq.z.mp c1
          by_cases c2 : dt (vec3 a b c) (dr M i) ≤ 0
          · show bq (if _ then _ else _) _
            rw [if_pos c2]
            refine bq0 ?_
            rintro (q | ⟨u, hu, q⟩)
            · exact no (Or.inl q)
            · rcases Nat.lt_or_ge u i with w | w
              · exact no (Or.inr ⟨u, w, q⟩)
              · rw [show u = i by omega] at q
                rw [Int32.lt_iff_toInt_lt] at q
                rw [Int32.le_iff_toInt_le] at c2
                omega
          · show bq (if _ then _ else _) _
            rw [if_neg c2]
            refine bq1 (Or.inr ⟨i, by omega, ?_⟩)
            rw [Int32.le_iff_toInt_le] at c2
            rw [Int32.lt_iff_toInt_lt]
            omega
      · right
        refine ⟨x, ?_, ?_⟩
        · unfold fL_spans_L96 u2
          dsimp only
          rw [cnt_2, b1_s, a80, if_neg (ngen (by omega) (by omega) hl), if_neg c1]
        · have w := Classical.byContradiction (fun w => c1 (hq.z.mpr w))
          rw [hq.o.resolve_left c1]
          exact bq1 (w.elim Or.inl (fun ⟨u, hu, q⟩ => Or.inr ⟨u, by omega, q⟩))
    · right
      obtain rfl : i = d := by omega
      refine ⟨x, ?_, hq⟩
      unfold fL_spans_L96 u2
      dsimp only
      rw [cnt_2, b1_s, a80, if_pos (gen (by omega) (by omega) (by omega))])
  refine ⟨r, f, hr.c ?_⟩
  unfold Bar barr
  constructor
  · rintro (q | ⟨u, hu, q⟩) w
    · exact w.1 q
    · exact w.2 u hu q
  · intro w
    by_cases c1 : a = 0 ∧ b = 0 ∧ c = 0
    · exact Or.inl c1
    · refine Or.inr (Classical.byContradiction fun z => w ⟨c1, fun i hi q => z ⟨i, hi, q⟩⟩)
/-- how far the numbers of the second and the third variable go -/
theorem lim2 {n : Nat} (hn : n ≤ 3) (k : Nat) (hk : k ≤ 2) : (if nI n ≤ nI k then (0 : Int32) else 3) = nI (wd n k 3) ∧ (if nI n ≤ nI k then (0 : Int32) else (-3)) = ofs (wd n k 3) 0 := by
  unfold wd
  by_cases c : n ≤ k
  · rw [if_pos ((nle (by omega) (by omega)).mpr c), if_pos ((nle (by omega) (by omega)).mpr c), if_pos c]
    exact ⟨rfl, by decide⟩
  · rw [if_neg (fun q => c ((nle (by omega) (by omega)).mp q)), if_neg (fun q => c ((nle (by omega) (by omega)).mp q)), if_neg c]
    exact ⟨rfl, by decide⟩
theorem wd3 (n k : Nat) : wd n k 3 < 4 := by unfold wd; by_cases c : n ≤ k <;> simp [c]
theorem sp57 {n t d e k : Nat} {M : Mm} (h : JJ n t d e k M) {a b x0 : Int32} {P : Prop} (h0 : bq x0 P) : ∃ r, itr (fL_spans_L57 M a b (nI n)) 1000 (x0, ofs (wd n 2 3) 0) = some r ∧ bq r (P ∨ ∃ l, l < 2 * wd n 2 3 + 1 ∧ Bar n d M a b (ofs (wd n 2 3) l)) := by
  have l3 := h.1.1.2.1
  have w4 := wd3 n 2
  refine itr_0 (body := fL_spans_L57 M a b (nI n)) (fun i q => q.2 = ofs (wd n 2 3) i ∧ bq q.1 (P ∨ ∃ l, l < i ∧ Bar n d M a b (ofs (wd n 2 3) l))) (fun r => bq r (P ∨ ∃ l, l < 2 * wd n 2 3 + 1 ∧ Bar n d M a b (ofs (wd n 2 3) l))) (2 * wd n 2 3 + 1) (by omega) ⟨rfl, h0.c ⟨Or.inl, fun q => q.elim id (fun ⟨l, hl, _⟩ => absurd hl (by omega))⟩⟩ ?_
  rintro i ⟨x, y⟩ hi ⟨rfl, hq⟩
  have hq : bq x _ := hq
  rcases Nat.lt_or_ge (2 * wd n 2 3) i with hl | hl
  · right
    obtain rfl : i = 2 * wd n 2 3 + 1 := by omega
    refine ⟨x, ?_, hq⟩
    unfold fL_spans_L57 u2
    dsimp only
    rw [bd_01, show (2 : Int32) = nI 2 from rfl, (lim2 l3 2 (by omega)).1, if_pos ((ofs_lt _ w4 _ (by omega)).mpr hl)]
  · left
    obtain ⟨r, f, hr⟩ := spIn h (a := a) (b := b) (c := ofs (wd n 2 3) i) bq_z
    refine ⟨(if x = 0 ∧ ¬ r = 0 then 0 else 1, ofs (wd n 2 3) (i + 1)), ?_, by omega, rfl, ?_⟩
    · unfold fL_spans_L57 u2
      dsimp only
      rw [bd_01, show (2 : Int32) = nI 2 from rfl, (lim2 l3 2 (by omega)).1, if_neg (fun w => by have := (ofs_lt _ w4 _ (by omega)).mp w; omega), zeroS]
      try dsimp only
      rw [f, b1_s, orS]
      try dsimp only
      rw [ofs_1, bd_s]
    · refine (bq_or hq hr).c ?_
      constructor
      · rintro ((q | ⟨l, h1, h2⟩) | q)
        · exact Or.inl q
        · exact Or.inr ⟨l, by omega, h2⟩
        · exact Or.inr ⟨i, by omega, q⟩
      · rintro (q | ⟨l, h1, h2⟩)
        · exact Or.inl (Or.inl q)
        · rcases Nat.lt_or_ge l i with w | w
          · exact Or.inl (Or.inr ⟨l, w, h2⟩)
          · exact Or.inr (by rw [show i = l by omega]; exact h2)
/-- a number for the first variable (and one for the second) with a barred plane -/
def B2 (n d : Nat) (M : Mm) (a b : Int32) : Prop := ∃ l, l < 2 * wd n 2 3 + 1 ∧ Bar n d M a b (ofs (wd n 2 3) l)
def B1 (n d : Nat) (M : Mm) (a : Int32) : Prop := ∃ l, l < 2 * wd n 1 3 + 1 ∧ B2 n d M a (ofs (wd n 1 3) l)
theorem sp29 {n t d e k : Nat} {M : Mm} (h : JJ n t d e k M) {a x0 : Int32} {P : Prop} (h0 : bq x0 P) : ∃ r, itr (fL_spans_L29 M a (nI n)) 1000 (x0, ofs (wd n 1 3) 0) = some r ∧ bq r (P ∨ B1 n d M a) := by
  have l3 := h.1.1.2.1
  have w4 := wd3 n 1
  refine itr_0 (body := fL_spans_L29 M a (nI n)) (fun i q => q.2 = ofs (wd n 1 3) i ∧ bq q.1 (P ∨ ∃ l, l < i ∧ B2 n d M a (ofs (wd n 1 3) l))) (fun r => bq r (P ∨ B1 n d M a)) (2 * wd n 1 3 + 1) (by omega) ⟨rfl, h0.c ⟨Or.inl, fun q => q.elim id (fun ⟨l, hl, _⟩ => absurd hl (by omega))⟩⟩ ?_
  rintro i ⟨x, y⟩ hi ⟨rfl, hq⟩
  have hq : bq x _ := hq
  rcases Nat.lt_or_ge (2 * wd n 1 3) i with hl | hl
  · right
    obtain rfl : i = 2 * wd n 1 3 + 1 := by omega
    refine ⟨x, ?_, hq⟩
    unfold fL_spans_L29 u2
    dsimp only
    rw [bd_01, show (1 : Int32) = nI 1 from rfl, (lim2 l3 1 (by omega)).1, if_pos ((ofs_lt _ w4 _ (by omega)).mpr hl)]
  · left
    obtain ⟨r, f, hr⟩ := sp57 h (a := a) (b := ofs (wd n 1 3) i) hq
    refine ⟨(r, ofs (wd n 1 3) (i + 1)), ?_, by omega, rfl, ?_⟩
    · unfold fL_spans_L29 u2
      dsimp only
      rw [bd_01, show (1 : Int32) = nI 1 from rfl, (lim2 l3 1 (by omega)).1, if_neg (fun w => by have := (ofs_lt _ w4 _ (by omega)).mp w; omega), bd_01, show (2 : Int32) = nI 2 from rfl, (lim2 l3 2 (by omega)).2]
      try dsimp only
      rw [f, b1_s, show nI 1 = (1 : Int32) from rfl, ofs_1, bd_s]
    · refine hr.c ?_
      constructor
      · rintro ((q | ⟨l, h1, h2⟩) | q)
        · exact Or.inl q
        · exact Or.inr ⟨l, by omega, h2⟩
        · exact Or.inr ⟨i, by omega, q⟩
      · rintro (q | ⟨l, h1, h2⟩)
        · exact Or.inl (Or.inl q)
        · rcases Nat.lt_or_ge l i with w | w
          · exact Or.inl (Or.inr ⟨l, w, h2⟩)
          · exact Or.inr (by rw [show i = l by omega]; exact h2)
theorem sp11 {n t d e k : Nat} {M : Mm} (h : JJ n t d e k M) : ∃ r, itr (fL_spans_L11 M (nI n)) 1000 (0, (-3)) = some r ∧ bq r (∃ l, l < 7 ∧ B1 n d M (ofs 3 l)) := by
  have l3 := h.1.1.2.1
  refine itr_0 (body := fL_spans_L11 M (nI n)) (s := ((0 : Int32), ((-3) : Int32))) (fun i q => q.2 = ofs 3 i ∧ bq q.1 (∃ l, l < i ∧ B1 n d M (ofs 3 l))) (fun r => bq r (∃ l, l < 7 ∧ B1 n d M (ofs 3 l))) 7 (by omega) ⟨by decide, bq0 (fun ⟨l, hl, _⟩ => absurd hl (by omega))⟩ ?_
  rintro i ⟨x, y⟩ hi ⟨rfl, hq⟩
  have hq : bq x _ := hq
  rcases Nat.lt_or_ge 6 i with hl | hl
  · right
    obtain rfl : i = 7 := by omega
    refine ⟨x, ?_, hq⟩
    unfold fL_spans_L11 u2
    dsimp only
    rw [if_pos (show (3 : Int32) < ofs 3 7 by decide)]
  · left
    obtain ⟨r, f, hr⟩ := sp29 h (a := ofs 3 i) hq
    refine ⟨(r, ofs 3 (i + 1)), ?_, by omega, rfl, ?_⟩
    · unfold fL_spans_L11 u2
      dsimp only
      rw [if_neg (show ¬ (3 : Int32) < ofs 3 i from fun w => by have := (ofs_lt 3 (by omega) i (by omega)).mp w; omega), bd_01, show (1 : Int32) = nI 1 from rfl, (lim2 l3 1 (by omega)).2]
      try dsimp only
      rw [f, b1_s, show nI 1 = (1 : Int32) from rfl, ofs_1, bd_s]
    · refine hr.c ?_
      constructor
      · rintro (⟨l, h1, h2⟩ | q)
        · exact ⟨l, by omega, h2⟩
        · exact ⟨i, by omega, q⟩
      · rintro ⟨l, h1, h2⟩
        rcases Nat.lt_or_ge l i with w | w
        · exact Or.inl ⟨l, w, h2⟩
        · exact Or.inr (by rw [show i = l by omega]; exact h2)
/-- the numbers from -3 to 3 -/
theorem ofs_sm {w i : Nat} (hw : w < 4) (hi : i < 2 * w + 1) : sm 3 (ofs w i) := by
  have key : ∀ w, w < 4 → ∀ i, i < 8 → i < 2 * w + 1 → (ofs w i).toInt.natAbs ≤ 3 := by decide +kernel
  exact key w hw i (by omega) hi
theorem ofs_all {x : Int32} (h : sm 3 x) : ∃ i, i < 7 ∧ x = ofs 3 i := by
  unfold sm at h
  have key : ∀ i, i < 7 → (ofs 3 i).toInt = (i : Int) - 3 := by decide +kernel
  refine ⟨(x.toInt + 3).toNat, by omega, Int32.toInt_inj.mp ?_⟩
  rw [key _ (by omega)]
  omega
theorem wd_in {n k : Nat} {x : Int32} (h : sm 3 x) (h0 : n ≤ k → x = 0) : ∃ i, i < 2 * wd n k 3 + 1 ∧ x = ofs (wd n k 3) i := by
  unfold wd
  by_cases c : n ≤ k
  · rw [if_pos c, h0 c]; exact ⟨0, by omega, by decide⟩
  · rw [if_neg c]; exact ofs_all h
theorem wd_out {n k i : Nat} (hi : i < 2 * wd n k 3 + 1) : n ≤ k → ofs (wd n k 3) i = 0 := fun c => by
  unfold wd at hi ⊢
  rw [if_pos c] at hi ⊢
  rw [show i = 0 by omega]; decide
theorem spansL {n t d e k : Nat} {M : Mm} (h : JJ n t d e k M) : ∃ M', fL_spans M = some (1, M') ∧ Vw M M' := by
  have l3 := h.1.1.2.1
  obtain ⟨r, f, hr⟩ := sp11 h
  obtain ⟨x, M', f2, hx, vw⟩ := spansX h
  unfold fL_spans
  rw [cnt_0, b1_s, h.1.2.1, f, b1_s]
  by_cases c : r = 0
  · rw [if_pos c]
    by_cases c3 : nI n = 3
    · rw [if_pos c3]; exact ⟨M, rfl, Vw.rf⟩
    · have hn : n ≤ 2 := by
        rcases Nat.lt_or_ge n 3 with w | w
        · omega
        · exact absurd (by rw [show n = 3 by omega]; rfl) c3
      have nb := hr.z.mp c
      have yes : Sp n d M := nobar_yes h hn (fun a b c ha hb hc ho hB => by
        obtain ⟨i, hi, ei⟩ := ofs_all ha
        obtain ⟨j, hj, ej⟩ := wd_in (n := n) (k := 1) hb ho.1
        obtain ⟨l, hl, el⟩ := wd_in (n := n) (k := 2) hc ho.2
        exact nb ⟨i, hi, j, hj, l, hl, by rw [← ei, ← ej, ← el]; exact hB⟩)
      have x1 : x = 1 := hx.elim (fun q => q.1) (fun q => absurd yes q.2)
      rw [if_neg c3, f2, b2_s, if_pos x1]
      exact ⟨M', rfl, vw⟩
  · rw [if_neg c]
    have b := Classical.byContradiction (fun w => c (hr.z.mpr w))
    obtain ⟨i, hi, j, hj, l, hl, hB⟩ := b
    have no : ¬ Sp n d M := bar_no h (ofs_sm (by omega) (by omega)) (ofs_sm (wd3 n 1) hj) (ofs_sm (wd3 n 2) hl) ⟨wd_out hj, wd_out hl⟩ hB
    rw [f2, b2_s, if_pos (hx.z.mpr no)]
    exact ⟨M', rfl, vw⟩
