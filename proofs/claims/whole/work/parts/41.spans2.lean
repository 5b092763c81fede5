/-! ===== spans: whether the rows span, on both sides ===== -/
theorem wholeX {M : Mm} {m : Nat} (hm : m ≤ 14) (h92 : M.1 92 0 = nI m) {p : Nat → Nat → Int32} (hp : ∀ i v, M.1 93 (3 * i + v) = p i v) : ∃ q M', itr (fX5_isWhole_L11) 1000 (0, 0, M) = some q ∧ ((q = .inl M' ∧ ¬ Whole p m) ∨ ∃ x, q = .inr (x, M') ∧ bq x (Whole p m)) ∧ ∀ c j, c ≠ 94 → M'.1 c j = M.1 c j := by
  -- the rows behind row i
  have inner : ∀ i, i < m → ∀ (x : Int32) (S : Prop) (M' : Mm), bq x S → (∀ c j, c ≠ 94 → M'.1 c j = M.1 c j) → ∃ q M'', itr (fX5_isWhole_L26 (nI i)) 1000 (x, nI (i + 1), M') = some q ∧ ((q = .inl M'' ∧ ∃ j, i < j ∧ j < m ∧ nz (cr (p i) (p j)) ∧ ¬ bo p m (cr (p i) (p j))) ∨ ∃ y, q = .inr (y, M'') ∧ bq y (S ∨ ∃ j, i < j ∧ j < m ∧ nz (cr (p i) (p j))) ∧ ∀ j, i < j → j < m → nz (cr (p i) (p j)) → bo p m (cr (p i) (p j))) ∧ ∀ c j, c ≠ 94 → M''.1 c j = M.1 c j := by
    intro i hi x S M' hx fr
    obtain ⟨q, f, M'', q1, q2⟩ := itr_0 (body := fX5_isWhole_L26 (nI i)) (s := (x, nI (i + 1), M')) (fun u q => q.2.1 = nI (i + 1 + u) ∧ bq q.1 (S ∨ ∃ j, i < j ∧ j < i + 1 + u ∧ nz (cr (p i) (p j))) ∧ (∀ j, i < j → j < i + 1 + u → nz (cr (p i) (p j)) → bo p m (cr (p i) (p j))) ∧ ∀ c j, c ≠ 94 → q.2.2.1 c j = M.1 c j) (fun q => ∃ M'' : Mm, ((q = .inl M'' ∧ ∃ j, i < j ∧ j < m ∧ nz (cr (p i) (p j)) ∧ ¬ bo p m (cr (p i) (p j))) ∨ ∃ y, q = .inr (y, M'') ∧ bq y (S ∨ ∃ j, i < j ∧ j < m ∧ nz (cr (p i) (p j))) ∧ ∀ j, i < j → j < m → nz (cr (p i) (p j)) → bo p m (cr (p i) (p j))) ∧ ∀ c j, c ≠ 94 → M''.1 c j = M.1 c j) (m - (i + 1)) (by omega) ⟨rfl, hx.c ⟨Or.inl, fun w => w.elim id (fun ⟨j, h1, h2, _⟩ => by omega)⟩, fun j h1 h2 => by omega, fr⟩ (by
      rintro u ⟨x8, x9, M1⟩ hu ⟨rfl, q1, q2, q3⟩
      have e92 : M1.1 92 0 = nI m := (q3 92 0 (by omega)).trans h92
      rcases Nat.lt_or_ge (i + 1 + u) m with hl | hl
      · obtain ⟨r, M2, f2, b2', ⟨n0', n1', n2'⟩, o2⟩ := normalX (M := M1) (i := i) (j := i + 1 + u) (by omega) (by omega) (p := p) (fun i _ v _ => (q3 93 _ (by omega)).trans (hp i v))
        have o2' : ∀ c j, c ≠ 94 → M2.1 c j = M.1 c j := fun c j w => (o2 c j w).trans (q3 c j w)
        obtain ⟨s, f3, b3'⟩ := sidesX (M := M2) hm ((o2' 92 0 (by omega)).trans h92) (p := p) (N := cr (p i) (p (i + 1 + u))) (fun i _ v _ => (o2' 93 _ (by omega)).trans (hp i v)) n0' n1' n2'
        have st : (S ∨ ∃ j, i < j ∧ j < i + 1 + (u + 1) ∧ nz (cr (p i) (p j))) ↔ ((S ∨ ∃ j, i < j ∧ j < i + 1 + u ∧ nz (cr (p i) (p j))) ∨ nz (cr (p i) (p (i + 1 + u)))) := by
          constructor
          · rintro (w | ⟨j, h1, h2, h3⟩)
            · exact Or.inl (Or.inl w)
            · rcases Nat.lt_or_ge j (i + 1 + u) with w | w
              · exact Or.inl (Or.inr ⟨j, h1, w, h3⟩)
              · exact Or.inr (by rw [show i + 1 + u = j by omega]; exact h3)
          · rintro ((w | ⟨j, h1, h2, h3⟩) | w)
            · exact Or.inl w
            · exact Or.inr ⟨j, h1, by omega, h3⟩
            · exact Or.inr ⟨i + 1 + u, by omega, by omega, w⟩
        have ste : (nz (cr (p i) (p (i + 1 + u))) → bo p m (cr (p i) (p (i + 1 + u)))) → ∀ j, i < j → j < i + 1 + (u + 1) → nz (cr (p i) (p j)) → bo p m (cr (p i) (p j)) := fun w j h1 h2 => by
          rcases Nat.lt_or_ge j (i + 1 + u) with w' | w'
          · exact q2 j h1 w'
          · rw [show j = i + 1 + u by omega]; exact w
        have pre : fX5_isWhole_L26 (nI i) (x8, nI (i + 1 + u), M1) = (if r = 0 then some (.inl (x8, nI (i + 1 + (u + 1)), M2)) else (if s = 0 then some (.inr (.inl M2)) else some (.inl (1, nI (i + 1 + (u + 1)), M2)))) := by
          unfold fX5_isWhole_L26 u3
          dsimp only
          rw [e92, if_neg (ngen (by omega) (by omega) hl), n3i, n3i, f2, b2_s, bd_s]
          by_cases c1 : r = 0
          · rw [if_pos c1, if_pos c1]; dsimp only; rw [nI_1, bd_s]; rfl
          · rw [if_neg c1, if_neg c1, f3, b1_s]
            by_cases c2 : s = 0
            · rw [if_pos c2, if_pos c2]
            · rw [if_neg c2, if_neg c2]; dsimp only; rw [nI_1, bd_s]; rfl
        by_cases c1 : r = 0
        · rw [if_pos c1] at pre
          have nn := b2'.z.mp c1
          exact Or.inl ⟨_, pre, by omega, rfl, q1.c ⟨fun w => st.mpr (Or.inl w), fun w => (st.mp w).elim id (fun w => absurd w nn)⟩, ste (fun w => absurd w nn), o2'⟩
        · rw [if_neg c1] at pre
          have nn : nz (cr (p i) (p (i + 1 + u))) := Classical.byContradiction fun w => c1 (b2'.z.mpr w)
          by_cases c2 : s = 0
          · rw [if_pos c2] at pre
            exact Or.inr ⟨_, pre, M2, Or.inl ⟨rfl, i + 1 + u, by omega, hl, nn, b3'.z.mp c2⟩, o2'⟩
          · rw [if_neg c2] at pre
            have bb : bo p m (cr (p i) (p (i + 1 + u))) := Classical.byContradiction fun w => c2 (b3'.z.mpr w)
            exact Or.inl ⟨_, pre, by omega, rfl, bq1 (st.mpr (Or.inr nn)), ste (fun _ => bb), o2'⟩
      · right
        have eu : i + 1 + u = m := by omega
        refine ⟨.inr (x8, M1), ?_, M1, Or.inr ⟨x8, rfl, by rw [eu] at q1; exact q1, by rw [eu] at q2; exact q2⟩, q3⟩
        unfold fX5_isWhole_L26 u3
        dsimp only
        rw [e92, if_pos (gen (by omega) (by omega) hl)])
    exact ⟨q, M'', f, q1, q2⟩
  obtain ⟨q, f, M'', q1, q2⟩ := itr_0 (body := fX5_isWhole_L11) (s := ((0 : Int32), (0 : Int32), M)) (fun i q => q.2.1 = nI i ∧ bq q.1 (∃ i' j, i' < i ∧ i' < j ∧ j < m ∧ nz (cr (p i') (p j))) ∧ (∀ i' j, i' < i → i' < j → j < m → nz (cr (p i') (p j)) → bo p m (cr (p i') (p j))) ∧ ∀ c j, c ≠ 94 → q.2.2.1 c j = M.1 c j) (fun q => ∃ M'' : Mm, ((q = .inl M'' ∧ ¬ Whole p m) ∨ ∃ x, q = .inr (x, M'') ∧ bq x (Whole p m)) ∧ ∀ c j, c ≠ 94 → M''.1 c j = M.1 c j) m (by omega) ⟨rfl, bq0 (fun ⟨i', j, h1, _⟩ => by omega), fun i' j h1 => by omega, fun _ _ _ => rfl⟩ (by
    rintro i ⟨x3, x4, M1⟩ hi ⟨rfl, q1, q2, q3⟩
    have e92 : M1.1 92 0 = nI m := (q3 92 0 (by omega)).trans h92
    rcases Nat.lt_or_ge i m with hl | hl
    · obtain ⟨r, M2, f2, h2, o2⟩ := inner i hl x3 _ M1 q1 q3
      have pre : fX5_isWhole_L11 (x3, nI i, M1) = bs (some r) (fun (M24 : Mm) => some (Sum.inr (Sum.inl M24))) (u2 (fun (x25 : Int32) (M26 : Mm) => bd (nI i + 1) fun x27 => some (Sum.inl (x25, x27, M26)))) := by
        unfold fX5_isWhole_L11 u3
        dsimp only
        rw [e92, if_neg (ngen (by omega) (by omega) hl), nI_1, bd_s, f2]
      rcases h2 with ⟨rfl, j, h1, h2', h3, h4⟩ | ⟨y, rfl, h3, h4⟩
      · rw [bs_l] at pre
        exact Or.inr ⟨_, pre, M2, Or.inl ⟨rfl, fun w => h4 (w.2 i j h1 h2' h3)⟩, o2⟩
      · rw [bs_r] at pre
        unfold u2 at pre
        dsimp only at pre
        rw [nI_1, bd_s] at pre
        refine Or.inl ⟨_, pre, hl, rfl, h3.c ⟨?_, ?_⟩, fun i' j h1 h2' h3' => ?_, o2⟩
        · rintro (⟨i', j, w1, w2, w3, w4⟩ | ⟨j, w2, w3, w4⟩)
          · exact ⟨i', j, by omega, w2, w3, w4⟩
          · exact ⟨i, j, by omega, w2, w3, w4⟩
        · rintro ⟨i', j, w1, w2, w3, w4⟩
          rcases Nat.lt_or_ge i' i with w | w
          · exact Or.inl ⟨i', j, w, w2, w3, w4⟩
          · obtain rfl : i' = i := by omega
            exact Or.inr ⟨j, w2, w3, w4⟩
        · rcases Nat.lt_or_ge i' i with w | w
          · exact q2 i' j w h2' h3'
          · obtain rfl : i' = i := by omega
            exact h4 j h2' h3'
    · right
      have ei : i = m := by omega
      have pre : fX5_isWhole_L11 (x3, nI i, M1) = some (.inr (.inr (x3, M1))) := by
        unfold fX5_isWhole_L11 u3
        dsimp only
        rw [e92, if_pos (gen (by omega) (by omega) hl)]
      refine ⟨.inr (x3, M1), pre, M1, Or.inr ⟨x3, rfl, q1.c ⟨fun ⟨i', j, w1, w2, w3, w4⟩ => ⟨⟨i', j, w2, w3, w4⟩, fun i' j h1 h2' => q2 i' j (by omega) h1 h2'⟩, fun w => ?_⟩⟩, q3⟩
      obtain ⟨i', j, w2, w3, w4⟩ := w.1
      exact ⟨i', j, by omega, w2, w3, w4⟩)
  exact ⟨q, M'', f, q1, q2⟩
