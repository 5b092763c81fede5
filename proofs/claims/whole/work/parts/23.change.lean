/-! ===== a change, on both sides ===== -/
def PX (h : Nat) (M M' : Mm) : Prop := (∀ k j, sIn k j → M'.1 (15 + k) j = M.1 (1 + k) j) ∧ (∀ i, i < 3 → ∀ k j, sIn k j → M'.1 (28 + 13 * i + k) j = M.1 (15 + 13 * i + k) j) ∧ M'.1 14 0 = nI (min (h + 1) 4) ∧ ∀ c j, ¬ (1 ≤ c ∧ c < 67) → ¬ tmpP c j → M'.1 c j = M.1 c j
def RXm (h : Nat) (M M' : Mm) : Prop := (∀ i, i < min h 3 → ∀ j, j < 111 → M'.1 97 (111 * (min h 3 - 1 - i) + j) = M.1 97 (111 * (h - 1 - i) + j)) ∧ (∀ j, j < 111 → M'.1 97 (111 * min h 3 + j) = M.1 96 j) ∧ M'.1 95 3 = nI (min (h + 1) 4) ∧ ∀ c j, c ≠ 96 → c ≠ 97 → ¬ (c = 95 ∧ j = 3) → ¬ tmpP c j → M'.1 c j = M.1 c j
theorem PX.off {h : Nat} {M M1 M2 : Mm} (p : PX h M M1) (o : ∀ c j, ¬ (1 ≤ c ∧ c < 14) → ¬ tmpP c j → M2.1 c j = M1.1 c j) : PX h M M2 := by
  obtain ⟨a, b, c, d⟩ := p
  refine ⟨fun k j hk => ?_, fun i hi k j hk => ?_, ?_, fun c' j h1 h2 => ?_⟩
  · have : k < 13 := by unfold sIn at hk; omega
    rw [o _ _ (by omega) (by unfold tmpP; omega)]; exact a k j hk
  · have : k < 13 := by unfold sIn at hk; omega
    rw [o _ _ (by omega) (by unfold tmpP; omega)]; exact b i hi k j hk
  · rw [o _ _ (by omega) (by unfold tmpP; omega)]; exact c
  · rw [o _ _ (by omega) h2]; exact d c' j h1 h2
theorem RXm.off {h : Nat} {M M1 M2 : Mm} (p : RXm h M M1) (o : ∀ c j, c ≠ 96 → ¬ tmpP c j → M2.1 c j = M1.1 c j) : RXm h M M2 := by
  obtain ⟨a, b, c, d⟩ := p
  refine ⟨fun i hi j hj => ?_, fun j hj => ?_, ?_, fun c' j h1 h2 h3 h4 => ?_⟩
  · rw [o _ _ (by omega) (by unfold tmpP; omega)]; exact a i hi j hj
  · rw [o _ _ (by omega) (by unfold tmpP; omega)]; exact b j hj
  · rw [o _ _ (by omega) (by unfold tmpP; omega)]; exact c
  · rw [o _ _ h1 h4]; exact d c' j h1 h2 h3 h4
theorem chX {M : Mm} (h : R M) {g : Nat} (hg : M.1 14 0 = nI g) (g4 : g ≤ 4) : ∃ M1, fX2_push M = some M1 ∧ PX g M M1 ∧ ∀ c j, c < 14 → M1.1 c j = M.1 c j := by
  obtain ⟨⟨n, t, d, e, k, hn, hsc, hb, ht, hd, hl⟩, -, -, -, hE⟩ := h
  have s7 : M.1 11 8 = M.1 96 11 := hsc.1.2.2.2.2.2.2
  obtain ⟨M', f, a, b, c, -, o⟩ := pushX hE (by rw [s7]; exact hsc.2.2.2.1) hg g4
  exact ⟨M', f, ⟨a, b, c, fun c' j h1 _ => o c' j (by omega)⟩, fun c' j h1 => o c' j (by omega)⟩
theorem chM {M : Mm} {g : Nat} (hg : M.1 95 3 = nI g) (g4 : g ≤ 4) : ∃ M1, fX11_record M = some M1 ∧ RXm g M M1 ∧ (∀ j, M1.1 96 j = M.1 96 j) ∧ (∀ c j, c < 95 ∨ 98 ≤ c → M1.1 c j = M.1 c j) ∧ ∀ j, j ≠ 3 → M1.1 95 j = M.1 95 j := by
  obtain ⟨M', f, a, b, c, e, o⟩ := recM hg g4
  refine ⟨M', f, ⟨a, b, c, fun c' j h1 h2 h3 _ => ?_⟩, fun j => o 96 j (by omega) (by omega), fun c' j h => o c' j (by omega) (by omega), e⟩
  by_cases h5 : c' = 95
  · subst h5; exact e j (fun q => h3 ⟨rfl, q⟩)
  · exact o c' j h5 h2
theorem R.change {M M2 M4 : Mm} {g : Nat} (h : R M) (hg : M.1 14 0 = nI g) (g4 : g ≤ 4) (p : PX g M M2) (q : RXm g M2 M4) (hS : SR (blk M4 1) (M4.1 96)) : R M4 := by
  obtain ⟨h1, ⟨g', l', e1, e2, h2⟩, h3, h4, h5⟩ := h
  have hgg : g' = g := (neq (by omega) (by omega)).mp (e1.symm.trans hg)
  subst hgg
  obtain ⟨p1, p2, p3, p4⟩ := p
  obtain ⟨q1, q2, q3, q4⟩ := q
  have flag : M.1 11 8 = 0 ∨ M.1 11 8 = 1 := by
    obtain ⟨n, t, d, e, k, hn, hsc, -⟩ := h1
    have s7 : M.1 11 8 = M.1 96 11 := hsc.1.2.2.2.2.2.2
    rw [s7]; exact hsc.2.2.2.1
  have low : ∀ c j, c < 95 → ¬ tmpP c j → M4.1 c j = M2.1 c j := fun c j hc ht => q4 c j (by omega) (by omega) (by omega) ht
  have B : ∀ c k j, 1 ≤ c → c ≤ 54 → sIn k j → M4.1 (c + k) j = M2.1 (c + k) j := fun c k j h1 h2 hk => by
    have : k < 13 := by unfold sIn at hk; omega
    exact low _ _ (by omega) (by unfold tmpP; omega)
  refine ⟨hS, ⟨min (g' + 1) 4, by omega, ?_, q3, fun i hi => ?_⟩, ?_, ?_, fun i hi => ?_, ?_⟩
  · rw [low _ _ (by omega) (by unfold tmpP; omega)]; exact p3
  · rcases Nat.eq_zero_or_pos i with rfl | hp
    · refine h1.cong (fun k j hk => ?_) (fun j hj => ?_)
      · show M4.1 (15 + k) j = M.1 (1 + k) j
        rw [B 15 k j (by omega) (by omega) hk]; exact p1 k j hk
      · show M4.1 97 (111 * (min (g' + 1) 4 - 1 - 0) + j) = _
        rw [show min (g' + 1) 4 - 1 - 0 = min g' 3 by omega, q2 j hj]
        exact p4 96 j (by omega) (by unfold tmpP; omega)
    · refine (h2 (i - 1) (by omega)).cong (fun k j hk => ?_) (fun j hj => ?_)
      · show M4.1 (15 + 13 * i + k) j = M.1 (15 + 13 * (i - 1) + k) j
        rw [B (15 + 13 * i) k j (by omega) (by omega) hk]
        have := p2 (i - 1) (by omega) k j hk
        rw [show 28 + 13 * (i - 1) + k = 15 + 13 * i + k by omega] at this
        exact this
      · show M4.1 97 (111 * (min (g' + 1) 4 - 1 - i) + j) = M.1 97 (111 * (g' - 1 - (i - 1)) + j)
        have := q1 (i - 1) (by omega) j hj
        rw [show min g' 3 - 1 - (i - 1) = min (g' + 1) 4 - 1 - i by omega] at this
        rw [this]
        exact p4 97 _ (by omega) (by unfold tmpP; omega)
  · obtain ⟨⟨k1, k2⟩, k3⟩ := h3
    have a1 : M4.1 0 3 = M.1 0 3 := (low 0 3 (by omega) (by unfold tmpP; omega)).trans (p4 0 3 (by omega) (by unfold tmpP; omega))
    have a2 : M4.1 95 4 = M.1 95 4 := (q4 95 4 (by omega) (by omega) (by omega) (by unfold tmpP; omega)).trans (p4 95 4 (by omega) (by unfold tmpP; omega))
    refine ⟨⟨a1.trans (k1.trans a2.symm), by rw [a2]; exact k2⟩, fun hk => (k3 (by rw [← a2]; exact hk)).cong (fun k j hs => ?_) (fun j hj => ?_)⟩
    · have : k < 13 := by unfold sIn at hs; omega
      show M4.1 (67 + k) j = M.1 (67 + k) j
      rw [low _ _ (by omega) (by unfold tmpP; omega)]; exact p4 _ _ (by omega) (by unfold tmpP; omega)
    · rw [q4 98 j (by omega) (by omega) (by omega) (by unfold tmpP; omega)]; exact p4 _ _ (by omega) (by unfold tmpP; omega)
  · obtain ⟨l, l1, l2, l3, l4⟩ := h4
    refine ⟨l, l1, ?_, ?_, fun i hi => ?_⟩
    · rw [low 80 0 (by omega) (by unfold tmpP; omega), p4 80 0 (by omega) (by unfold tmpP; omega)]; exact l2
    · rw [q4 95 6 (by omega) (by omega) (by omega) (by unfold tmpP; omega), p4 95 6 (by omega) (by unfold tmpP; omega)]; exact l3
    · rw [low 81 i (by omega) (by unfold tmpP; omega), p4 81 i (by omega) (by unfold tmpP; omega), q4 99 i (by omega) (by omega) (by omega) (by unfold tmpP; omega), p4 99 i (by omega) (by unfold tmpP; omega)]
      exact l4 i hi
  · rw [low _ _ (by omega) (by unfold tmpP; omega)]
    rcases Nat.eq_zero_or_pos i with rfl | hp
    · have := p1 10 8 (by simp [sIn])
      rw [show M2.1 (25 + 13 * 0) 8 = M2.1 (15 + 10) 8 from rfl, this]; exact flag
    · have := p2 (i - 1) (by omega) 10 8 (by simp [sIn])
      rw [show 28 + 13 * (i - 1) + 10 = 25 + 13 * i by omega] at this
      rw [this, show 15 + 13 * (i - 1) + 10 = 25 + 13 * (i - 1) by omega]
      exact h5.1 (i - 1) (by omega)
  · rw [low 77 8 (by omega) (by unfold tmpP; omega), p4 77 8 (by omega) (by unfold tmpP; omega)]; exact h5.2
/-- both sides record, then change the state each -/
theorem hist_g {M : Mm} (h : R M) : ∃ g, g ≤ 4 ∧ M.1 14 0 = nI g ∧ M.1 95 3 = nI g := by
  obtain ⟨-, ⟨g, l, e1, e2, -⟩, -⟩ := h
  exact ⟨g, l, e1, e2⟩
/-- what both sides of a change have to show, for functions that go on behind push and record -/
theorem R.both {M : Mm} (h : R M) {β γ : Type} {kx : Mm → Option β} {km : Mm → Option γ} {mx : β → Mm} {mm : γ → Mm} {Q : β → γ → Prop}
    (hx : ∀ M1, (∀ c j, c < 14 → M1.1 c j = M.1 c j) → ∃ r, kx M1 = some r ∧ (∀ c j, ¬ (1 ≤ c ∧ c < 14) → ¬ tmpP c j → (mx r).1 c j = M1.1 c j) ∧
      ∀ M3, (∀ j, M3.1 96 j = M.1 96 j) → (∀ c j, c < 14 → M3.1 c j = (mx r).1 c j) → ∃ r2, km M3 = some r2 ∧ (∀ c j, c ≠ 96 → ¬ tmpP c j → (mm r2).1 c j = M3.1 c j) ∧ (SR (blk (mm r2) 1) ((mm r2).1 96)) ∧ Q r r2) :
    ∃ r, b1 (fX2_push M) kx = some r ∧ ∃ r2, b1 (fX11_record (mx r)) km = some r2 ∧ R (mm r2) ∧ Q r r2 := by
  obtain ⟨g, g4, g1, g2⟩ := hist_g h
  obtain ⟨M1, f1, p1, o1⟩ := chX h g1 g4
  obtain ⟨r, k1, o2, rest⟩ := hx M1 (fun c j hc => o1 c j hc)
  have p2 : PX g M (mx r) := p1.off o2
  have e95 : (mx r).1 95 3 = nI g := (p2.2.2.2 95 3 (by omega) (by unfold tmpP; omega)).trans g2
  obtain ⟨M3, f3, q1, a1, a2, -⟩ := chM e95 g4
  obtain ⟨r2, k2, o3, hS, hQ⟩ := rest M3 (fun j => (a1 j).trans (p2.2.2.2 96 j (by omega) (by unfold tmpP; omega))) (fun c j hc => a2 c j (by omega))
  exact ⟨r, by rw [f1]; exact k1, r2, by rw [f3]; exact k2, h.change g1 g4 p2 (q1.off o3) hS, hQ⟩
