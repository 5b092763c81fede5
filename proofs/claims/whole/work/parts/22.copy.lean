/-! ===== copies of states; the history, the snapshot ===== -/
/-! rules: a function answers, and its answer is as wanted -/
theorem bd_st {β : Type} {M : Mm} {c j : Nat} {x : Int32} {k : Mm → Option β} {Q : β → Prop} (h : ∀ v : Mm, (∀ c' j', v.1 c' j' = if c' = c ∧ j' = j then x else M.1 c' j') → v.2 = M.2 → ∃ r, k v = some r ∧ Q r) : ∃ r, bd (stI M c j x) k = some r ∧ Q r := h _ (fun c' j' => stI_rd M c j x c' j') rfl
theorem bd_sl {β : Type} {M : Mm} {c j : Nat} {x : Int64} {k : Mm → Option β} {Q : β → Prop} (h : ∀ v : Mm, (∀ c' j', v.2 c' j' = if c' = c ∧ j' = j then x else M.2 c' j') → v.1 = M.1 → ∃ r, k v = some r ∧ Q r) : ∃ r, bd (stL M c j x) k = some r ∧ Q r := h _ (fun c' j' => stL_rd M c j x c' j') rfl
theorem bd_cp {β : Type} {M : Mm} {s sp d dp n : Nat} {k : Mm → Option β} {Q : β → Prop} (h : ∀ v : Mm, (∀ c' j', v.1 c' j' = if c' = d ∧ dp ≤ j' ∧ j' < dp + n then M.1 s (sp + (j' - dp)) else M.1 c' j') → v.2 = M.2 → ∃ r, k v = some r ∧ Q r) : ∃ r, bd (cpI M s sp d dp n) k = some r ∧ Q r := h _ (fun c' j' => cpI_rd M s sp d dp n c' j') rfl
theorem bd_v {α β : Type} {e : α} {k : α → Option β} {Q : β → Prop} (h : ∀ v, v = e → ∃ r, k v = some r ∧ Q r) : ∃ r, bd e k = some r ∧ Q r := h e rfl
theorem b1_x {α β : Type} {x : Option α} {k : α → Option β} {P : α → Prop} {Q : β → Prop} (h : ∃ v, x = some v ∧ P v) (h2 : ∀ v, P v → ∃ r, k v = some r ∧ Q r) : ∃ r, b1 x k = some r ∧ Q r := by
  obtain ⟨v, e, p⟩ := h
  rw [e]; exact h2 v p
theorem gd_x {β : Type} {c : Prop} [Decidable c] {x : Option β} {Q : β → Prop} (h : c) (h2 : ∃ r, x = some r ∧ Q r) : ∃ r, gd c x = some r ∧ Q r := by rw [gd_t h]; exact h2
theorem if_x {β : Type} {c : Prop} [Decidable c] {a b : Option β} {Q : β → Prop} (h1 : c → ∃ r, a = some r ∧ Q r) (h2 : ¬ c → ∃ r, b = some r ∧ Q r) : ∃ r, (if c then a else b) = some r ∧ Q r := by
  by_cases h : c
  · rw [if_pos h]; exact h1 h
  · rw [if_neg h]; exact h2 h
theorem cp7 {c o : Nat} (M : Mm) (hd : c + 3 ≤ o ∨ o + 3 ≤ c) : ∃ M', fX7_copyFrom c o M = some M' ∧ M'.1 c 0 = M.1 o 0 ∧ (∀ j, j < 10 → M'.1 (c + 1) j = M.1 (o + 1) j) ∧ (∀ j, j < 30 → M'.1 (c + 2) j = M.1 (o + 2) j) ∧ ∀ c' j, c' < c ∨ c + 3 ≤ c' → M'.1 c' j = M.1 c' j := by
  refine bd_st fun M1 r1 _ => bd_cp fun M2 r2 _ => bd_cp fun M3 r3 _ => ⟨M3, rfl, ?_, fun j hj => ?_, fun j hj => ?_, fun c' j h => ?_⟩
  · rw [r3, if_neg (by omega), r2, if_neg (by omega), r1, if_pos (by omega)]
  · rw [r3, if_neg (by omega), r2, if_pos (by omega), r1, if_neg (by omega)]; exact congrArg _ (by omega)
  · rw [r3, if_pos (by omega), r2, if_neg (by omega), r1, if_neg (by omega)]; exact congrArg _ (by omega)
  · rw [r3, if_neg (by omega), r2, if_neg (by omega), r1, if_neg (by omega)]
theorem cp0 {c o : Nat} (M : Mm) (hd : c + 3 ≤ o ∨ o + 3 ≤ c) : ∃ M', fX0_copyFrom c o M = some M' ∧ (∀ j, j < 3 → M'.1 (c + 1) j = M.1 (o + 1) j) ∧ (∀ j, j < 3 → M'.1 (c + 2) j = M.1 (o + 2) j) ∧ ∀ c' j, c' < c ∨ c + 3 ≤ c' → M'.1 c' j = M.1 c' j := by
  refine bd_cp fun M2 r2 _ => bd_cp fun M3 r3 _ => ⟨M3, rfl, fun j hj => ?_, fun j hj => ?_, fun c' j h => ?_⟩
  · rw [r3, if_neg (by omega), r2, if_pos (by omega)]; exact congrArg _ (by omega)
  · rw [r3, if_pos (by omega), r2, if_neg (by omega)]; exact congrArg _ (by omega)
  · rw [r3, if_neg (by omega), r2, if_neg (by omega)]
theorem cp1 {c o : Nat} (M : Mm) (hd : c + 3 ≤ o ∨ o + 3 ≤ c) : ∃ M', fX1_copyFrom c o M = some M' ∧ M'.1 c 0 = M.1 o 0 ∧ (∀ j, j < 24 → M'.1 (c + 1) j = M.1 (o + 1) j) ∧ (∀ j, j < 8 → M'.1 (c + 2) j = M.1 (o + 2) j) ∧ ∀ c' j, c' < c ∨ c + 3 ≤ c' → M'.1 c' j = M.1 c' j := by
  refine bd_st fun M1 r1 _ => bd_cp fun M2 r2 _ => bd_cp fun M3 r3 _ => ⟨M3, rfl, ?_, fun j hj => ?_, fun j hj => ?_, fun c' j h => ?_⟩
  · rw [r3, if_neg (by omega), r2, if_neg (by omega), r1, if_pos (by omega)]
  · rw [r3, if_neg (by omega), r2, if_pos (by omega), r1, if_neg (by omega)]; exact congrArg _ (by omega)
  · rw [r3, if_pos (by omega), r2, if_neg (by omega), r1, if_neg (by omega)]; exact congrArg _ (by omega)
  · rw [r3, if_neg (by omega), r2, if_neg (by omega), r1, if_neg (by omega)]
theorem cp4 {c o : Nat} (M : Mm) (hd : c + 3 ≤ o ∨ o + 3 ≤ c) (he : M.1 o 8 = 0 ∨ M.1 o 8 = 1) : ∃ M', fX4_copyFrom c o M = some M' ∧ (∀ j, 1 ≤ j → j < 9 → j ≠ 7 → M'.1 c j = M.1 o j) ∧ (∀ j, j < 3 → M'.1 (c + 1) j = M.1 (o + 1) j) ∧ (∀ j, j < 18 → M'.1 (c + 2) j = M.1 (o + 2) j) ∧ ∀ c' j, c' < c ∨ c + 3 ≤ c' → M'.1 c' j = M.1 c' j := by
  refine bd_cp fun M1 r1 _ => bd_st fun M2 r2 _ => bd_st fun M3 r3 _ => bd_st fun M4 r4 _ => bd_st fun M5 r5 _ => bd_st fun M6 r6 _ => bd_st fun M7 r7 _ => bd_cp fun M8 r8 _ => ?_
  have o8 : ∀ c' j, c' < c ∨ c + 3 ≤ c' → M8.1 c' j = M.1 c' j := fun c' j h => by
    rw [r8, if_neg (by omega), r7, if_neg (by omega), r6, if_neg (by omega), r5, if_neg (by omega), r4, if_neg (by omega), r3, if_neg (by omega), r2, if_neg (by omega), r1, if_neg (by omega)]
  have q1 : ∀ j, M1.1 o j = M.1 o j := fun j => by rw [r1, if_neg (by omega)]
  have q2 : ∀ j, M2.1 o j = M.1 o j := fun j => by rw [r2, if_neg (by omega), q1]
  have q3 : ∀ j, M3.1 o j = M.1 o j := fun j => by rw [r3, if_neg (by omega), q2]
  have q4 : ∀ j, M4.1 o j = M.1 o j := fun j => by rw [r4, if_neg (by omega), q3]
  have q5 : ∀ j, M5.1 o j = M.1 o j := fun j => by rw [r5, if_neg (by omega), q4]
  have q6 : ∀ j, M6.1 o j = M.1 o j := fun j => by rw [r6, if_neg (by omega), q5]
  refine gd_x (by rw [o8 o 8 (by omega)]; exact he) (bd_st fun M9 r9 _ => ⟨M9, rfl, fun j h1 h2 h3 => ?_, fun j hj => ?_, fun j hj => ?_, fun c' j h => ?_⟩)
  · rw [r9]
    by_cases e8 : j = 8
    · rw [if_pos (by omega), o8 o 8 (by omega), e8]
    rw [if_neg (by omega), r8, if_neg (by omega), r7]
    by_cases e6 : j = 6
    · rw [if_pos (by omega), q6, e6]
    rw [if_neg (by omega), r6]
    by_cases e5 : j = 5
    · rw [if_pos (by omega), q5, e5]
    rw [if_neg (by omega), r5]
    by_cases e4 : j = 4
    · rw [if_pos (by omega), q4, e4]
    rw [if_neg (by omega), r4]
    by_cases e3 : j = 3
    · rw [if_pos (by omega), q3, e3]
    rw [if_neg (by omega), r3]
    by_cases e2 : j = 2
    · rw [if_pos (by omega), q2, e2]
    rw [if_neg (by omega), r2, if_pos (by omega), q1, show j = 1 by omega]
  · rw [r9, if_neg (by omega), r8, if_neg (by omega), r7, if_neg (by omega), r6, if_neg (by omega), r5, if_neg (by omega), r4, if_neg (by omega), r3, if_neg (by omega), r2, if_neg (by omega), r1, if_pos (by omega)]; exact congrArg _ (by omega)
  · rw [r9, if_neg (by omega), r8, if_pos (by omega), r7, if_neg (by omega), r6, if_neg (by omega), r5, if_neg (by omega), r4, if_neg (by omega), r3, if_neg (by omega), r2, if_neg (by omega), r1, if_neg (by omega)]; exact congrArg _ (by omega)
  · rw [r9, if_neg (by omega), o8 c' j h]
theorem cp6 {c o : Nat} (M : Mm) (hd : c + 13 ≤ o ∨ o + 13 ≤ c) (he : M.1 (o + 10) 8 = 0 ∨ M.1 (o + 10) 8 = 1) : ∃ M', fX6_copyFrom c o M = some M' ∧ (∀ k j, sIn k j → M'.1 (c + k) j = M.1 (o + k) j) ∧ ∀ c' j, c' < c ∨ c + 13 ≤ c' → M'.1 c' j = M.1 c' j := by
  obtain ⟨M0, e0⟩ : ∃ M0, M0 = stI (stI (stI M c 0 (M.1 o 0)) c 1 (M.1 o 1)) c 2 (M.1 o 2) := ⟨_, rfl⟩
  have a0 : ∀ j, j < 3 → M0.1 c j = M.1 o j := fun j hj => by
    rw [e0, stI_rd, stI_rd, stI_rd]
    rcases (show j = 0 ∨ j = 1 ∨ j = 2 by omega) with rfl | rfl | rfl
    · rw [if_neg (by omega), if_neg (by omega), if_pos (by omega)]
    · rw [if_neg (by omega), if_pos (by omega)]
    · rw [if_pos (by omega)]
  have b0 : ∀ c' j, c' ≠ c → M0.1 c' j = M.1 c' j := fun c' j h => by rw [e0]; simp (disch := omega) only [stI_rd, if_neg]
  obtain ⟨M1, f1, a1, a2, a3, b1'⟩ := cp7 (c := c + 1) (o := o + 1) M0 (by omega)
  obtain ⟨M2, f2, a5, a6, b2'⟩ := cp0 (c := c + 4) (o := o + 4) M1 (by omega)
  obtain ⟨M3, f3, a7, a8, a9, b3'⟩ := cp1 (c := c + 7) (o := o + 7) M2 (by omega)
  have keep : ∀ k j, k < 13 → 10 ≤ k → M3.1 (o + k) j = M.1 (o + k) j := fun k j h1 h2 => by
    rw [b3' _ _ (by omega), b2' _ _ (by omega), b1' _ _ (by omega), b0 _ _ (by omega)]
  obtain ⟨M4, f4, a10, a11, a12, b4'⟩ := cp4 (c := c + 10) (o := o + 10) M3 (by omega) (by rw [keep 10 8 (by omega) (by omega)]; exact he)
  refine ⟨M4, ?_, fun k j h => ?_, fun c' j h => ?_⟩
  · unfold fX6_copyFrom bd
    have r1 : (stI M c 0 (M.1 o 0)).1 o 1 = M.1 o 1 := by simp (disch := omega) only [stI_rd, if_neg]
    have r2 : (stI (stI M c 0 (M.1 o 0)) c 1 (M.1 o 1)).1 o 2 = M.1 o 2 := by simp (disch := omega) only [stI_rd, if_neg]
    simp only [r1, r2, ← e0, f1, b1_s, f2, f3, f4]
  · rcases h with ⟨rfl, h⟩ | ⟨rfl, rfl⟩ | ⟨rfl, h⟩ | ⟨rfl, h⟩ | ⟨rfl, h⟩ | ⟨rfl, h⟩ | ⟨rfl, rfl⟩ | ⟨rfl, h⟩ | ⟨rfl, h⟩ | ⟨rfl, h1, h2, h3⟩ | ⟨rfl, h⟩ | ⟨rfl, h⟩
    · rw [b4' _ _ (by omega), b3' _ _ (by omega), b2' _ _ (by omega), b1' _ _ (by omega)]; exact a0 j h
    · rw [b4' _ _ (by omega), b3' _ _ (by omega), b2' _ _ (by omega), a1, b0 _ _ (by omega)]
    · rw [b4' _ _ (by omega), b3' _ _ (by omega), b2' _ _ (by omega)]
      exact (a2 j h).trans (b0 _ _ (by omega))
    · rw [b4' _ _ (by omega), b3' _ _ (by omega), b2' _ _ (by omega)]
      exact (a3 j h).trans (b0 _ _ (by omega))
    · rw [b4' _ _ (by omega), b3' _ _ (by omega)]
      refine (a5 j h).trans ?_
      rw [b1' _ _ (by omega), b0 _ _ (by omega)]
    · rw [b4' _ _ (by omega), b3' _ _ (by omega)]
      refine (a6 j h).trans ?_
      rw [b1' _ _ (by omega), b0 _ _ (by omega)]
    · rw [b4' _ _ (by omega), a7, b2' _ _ (by omega), b1' _ _ (by omega), b0 _ _ (by omega)]
    · rw [b4' _ _ (by omega)]
      refine (a8 j h).trans ?_
      rw [b2' _ _ (by omega), b1' _ _ (by omega), b0 _ _ (by omega)]
    · rw [b4' _ _ (by omega)]
      refine (a9 j h).trans ?_
      rw [b2' _ _ (by omega), b1' _ _ (by omega), b0 _ _ (by omega)]
    · exact (a10 j h1 h2 h3).trans (keep 10 j (by omega) (by omega))
    · exact (a11 j h).trans (keep 11 j (by omega) (by omega))
    · exact (a12 j h).trans (keep 12 j (by omega) (by omega))
  · rw [b4' _ _ (by omega), b3' _ _ (by omega), b2' _ _ (by omega), b1' _ _ (by omega), b0 _ _ (by omega)]
/-- the class records its state -/
theorem pushX {M : Mm} (hE : ER M) (he : M.1 11 8 = 0 ∨ M.1 11 8 = 1) {h : Nat} (hh : M.1 14 0 = nI h) (h4 : h ≤ 4) : ∃ M', fX2_push M = some M' ∧ (∀ k j, sIn k j → M'.1 (15 + k) j = M.1 (1 + k) j) ∧ (∀ i, i < 3 → ∀ k j, sIn k j → M'.1 (28 + 13 * i + k) j = M.1 (15 + 13 * i + k) j) ∧ M'.1 14 0 = nI (min (h + 1) 4) ∧ (∀ j, j ≠ 0 → M'.1 14 j = M.1 14 j) ∧ ∀ c j, c < 14 ∨ 67 ≤ c → M'.1 c j = M.1 c j := by
  obtain ⟨M1, f1, a1, b1'⟩ := cp6 (c := 54) (o := 41) M (by omega) (hE.1 2 (by omega))
  obtain ⟨M2, f2, a2, b2'⟩ := cp6 (c := 41) (o := 28) M1 (by omega) (by rw [b1' _ _ (by omega)]; exact hE.1 1 (by omega))
  obtain ⟨M3, f3, a3, b3'⟩ := cp6 (c := 28) (o := 15) M2 (by omega) (by rw [b2' _ _ (by omega), b1' _ _ (by omega)]; exact hE.1 0 (by omega))
  obtain ⟨M4, f4, a4, b4'⟩ := cp6 (c := 15) (o := 1) M3 (by omega) (by rw [b3' _ _ (by omega), b2' _ _ (by omega), b1' _ _ (by omega)]; exact he)
  have low : ∀ c j, c < 15 ∨ 67 ≤ c → M4.1 c j = M.1 c j := fun c j q => by rw [b4' _ _ (by omega), b3' _ _ (by omega), b2' _ _ (by omega), b1' _ _ (by omega)]
  have e14 : M4.1 14 0 = nI h := (low 14 0 (by omega)).trans hh
  refine ⟨stI M4 14 0 (nI (min (h + 1) 4)), ?_, fun k j hk => ?_, fun i hi k j hk => ?_, ?_, fun j hj => ?_, fun c j q => ?_⟩
  · unfold fX2_push bd
    rw [f1, b1_s, f2, b1_s, f3, b1_s, f4, b1_s, e14, nI_1]
    rcases (show h < 4 ∨ h = 4 by omega) with q | rfl
    · rw [if_neg (show ¬ 4 < nI (h + 1) from nltn (i := 4) (t := h + 1) (by omega) (by omega) (by omega)), show min (h + 1) 4 = h + 1 by omega]
    · rfl
  · have : k < 13 := by unfold sIn at hk; omega
    rw [stI_rd, if_neg (by omega), a4 k j hk, b3' _ _ (by omega), b2' _ _ (by omega), b1' _ _ (by omega)]
  · have : k < 13 := by unfold sIn at hk; omega
    rw [stI_rd, if_neg (by omega)]
    rcases (show i = 0 ∨ i = 1 ∨ i = 2 by omega) with rfl | rfl | rfl
    · show M4.1 (28 + k) j = M.1 (15 + k) j
      rw [b4' _ _ (by omega), a3 k j hk, b2' _ _ (by omega), b1' _ _ (by omega)]
    · show M4.1 (41 + k) j = M.1 (28 + k) j
      rw [b4' _ _ (by omega), b3' _ _ (by omega), a2 k j hk, b1' _ _ (by omega)]
    · show M4.1 (54 + k) j = M.1 (41 + k) j
      rw [b4' _ _ (by omega), b3' _ _ (by omega), b2' _ _ (by omega), a1 k j hk]
  · rw [stI_rd, if_pos ⟨rfl, rfl⟩]
  · rw [stI_rd, if_neg (by omega), low 14 j (by omega)]
  · rw [stI_rd, if_neg (by omega), low c j (by omega)]
/-- a loop that copies n places of the cell s to the cell d, behind an offset each -/
theorem copy_loop {body : Int32 × Mm → Option ((Int32 × Mm) ⊕ Mm)} {M : Mm} {s d so dof n : Nat} (hn : n < 1000) (hsd : s ≠ d ∨ (s = d ∧ dof < so))
    (h : ∀ i M', i < n → (∀ c j, c ≠ d → M'.1 c j = M.1 c j) → (∀ j, j < dof ∨ dof + i ≤ j → M'.1 d j = M.1 d j) → body (nI i, M') = some (.inl (nI (i + 1), stI M' d (dof + i) (M'.1 s (so + i)))))
    (he : ∀ M', (∀ c j, c ≠ d → M'.1 c j = M.1 c j) → (∀ j, j < dof ∨ dof + n ≤ j → M'.1 d j = M.1 d j) → body (nI n, M') = some (.inr M')) :
    ∃ M', itr body 1000 (0, M) = some M' ∧ (∀ j, j < n → M'.1 d (dof + j) = M.1 s (so + j)) ∧ (∀ j, j < dof ∨ dof + n ≤ j → M'.1 d j = M.1 d j) ∧ ∀ c j, c ≠ d → M'.1 c j = M.1 c j := by
  refine itr_0 (fun i q => q.1 = nI i ∧ (∀ c j, c ≠ d → q.2.1 c j = M.1 c j) ∧ (∀ j, j < dof ∨ dof + i ≤ j → q.2.1 d j = M.1 d j) ∧ ∀ j, j < i → q.2.1 d (dof + j) = M.1 s (so + j)) _ n hn ⟨rfl, fun _ _ _ => rfl, fun _ _ => rfl, fun j hj => absurd hj (by omega)⟩ ?_
  rintro i ⟨x, M'⟩ hi ⟨rfl, q1, q2, q3⟩
  rcases Nat.lt_or_ge i n with hl | hl
  · left
    refine ⟨_, h i M' hl q1 q2, hl, rfl, fun c j hc => ?_, fun j hj => ?_, fun j hj => ?_⟩
    · show (stI M' d (dof + i) (M'.1 s (so + i))).1 c j = _
      rw [stI_rd, if_neg (fun q => hc q.1)]; exact q1 c j hc
    · show (stI M' d (dof + i) (M'.1 s (so + i))).1 d j = _
      rw [stI_rd, if_neg (by omega)]; exact q2 j (by omega)
    · show (stI M' d (dof + i) (M'.1 s (so + i))).1 d (dof + j) = _
      rw [stI_rd]
      by_cases e : j = i
      · subst e
        rw [if_pos ⟨rfl, rfl⟩]
        rcases hsd with q | ⟨q, q'⟩
        · exact q1 s _ q
        · subst q; exact q2 _ (by omega)
      · rw [if_neg (by omega)]; exact q3 j (by omega)
  · right
    obtain rfl : i = n := by omega
    exact ⟨M', he M' q1 q2, q3, q2, q1⟩
/-- the reference records its row -/
theorem recM {M : Mm} {h : Nat} (hh : M.1 95 3 = nI h) (h4 : h ≤ 4) : ∃ M', fX11_record M = some M' ∧ (∀ i, i < min h 3 → ∀ j, j < 111 → M'.1 97 (111 * (min h 3 - 1 - i) + j) = M.1 97 (111 * (h - 1 - i) + j)) ∧ (∀ j, j < 111 → M'.1 97 (111 * min h 3 + j) = M.1 96 j) ∧ M'.1 95 3 = nI (min (h + 1) 4) ∧ (∀ j, j ≠ 3 → M'.1 95 j = M.1 95 j) ∧ ∀ c j, c ≠ 95 → c ≠ 97 → M'.1 c j = M.1 c j := by
  have second : ∀ (M1 : Mm) (g : Nat), g ≤ 3 → M1.1 95 3 = nI g → ∃ M', (b1 (itr (fX11_record_L50) 1000 (0, M1)) fun M12 => bd (stI M12 95 3 ((M12.1 95 3) + 1)) fun M13 => some M13) = some M' ∧ (∀ j, j < 111 → M'.1 97 (111 * g + j) = M1.1 96 j) ∧ (∀ j, j < 111 * g → M'.1 97 j = M1.1 97 j) ∧ M'.1 95 3 = nI (g + 1) ∧ (∀ j, j ≠ 3 → M'.1 95 j = M1.1 95 j) ∧ ∀ c j, c ≠ 95 → c ≠ 97 → M'.1 c j = M1.1 c j := by
    intro M1 g hg e
    obtain ⟨M2, f, a, b, c⟩ := copy_loop (body := fX11_record_L50) (M := M1) (s := 96) (d := 97) (so := 0) (dof := 111 * g) (n := 111) (by omega) (Or.inl (by omega)) (fun i M' hi q1 q2 => by
      unfold fX11_record_L50 u2 bd
      show (if 111 ≤ nI i then _ else _) = _
      rw [if_neg (show ¬ 111 ≤ nI i from ngen (t := 111) (by omega) (by omega) hi), gd_t (inbn hi (by omega)), q1 95 3 (by omega), e, show nI g * 111 + nI i = nI (111 * g + i) by rw [show (111 : Int32) = nI 111 from rfl, pk_mul, nI_add, Nat.mul_comm], gd_t (inbn (by omega) (by omega)), ixn (by omega), ixn (by omega), nI_1, Nat.zero_add]) (fun M' q1 q2 => by
      unfold fX11_record_L50 u2
      exact if_pos (show (111 : Int32) ≤ nI 111 by decide))
    have e2 : M2.1 95 3 = nI g := (c 95 3 (by omega)).trans e
    refine ⟨stI M2 95 3 (nI (g + 1)), by rw [f, b1_s]; unfold bd; rw [e2, nI_1], fun j hj => ?_, fun j hj => ?_, ?_, fun j hj => ?_, fun c' j h1 h2 => ?_⟩
    · rw [stI_rd, if_neg (by omega), a j hj, Nat.zero_add]
    · rw [stI_rd, if_neg (by omega), b j (by omega)]
    · rw [stI_rd, if_pos ⟨rfl, rfl⟩]
    · rw [stI_rd, if_neg (by omega), c 95 j (by omega)]
    · rw [stI_rd, if_neg (by omega), c c' j h2]
  rcases Nat.lt_or_ge h 4 with hl | hl
  · obtain ⟨M', f, a, b, e, g, o⟩ := second M h (by omega) hh
    refine ⟨M', ?_, fun i hi j hj => ?_, fun j hj => ?_, by rw [e, show min (h + 1) 4 = h + 1 by omega], g, o⟩
    · unfold fX11_record
      show (if M.1 95 3 = 4 then _ else _) = _
      rw [hh, if_neg (fun q => by have := (neq (a := h) (b := 4) (by omega) (by omega)).mp q; omega)]
      exact f
    · rw [show min h 3 = h by omega] at hi ⊢
      exact b _ (by have : h - 1 - i ≤ h - 1 := by omega
                    have : 111 * (h - 1 - i) ≤ 111 * (h - 1) := Nat.mul_le_mul_left _ this
                    omega)
    · rw [show min h 3 = h by omega]; exact a j hj
  · obtain rfl : h = 4 := by omega
    obtain ⟨M2, f2, a2, b2', c2⟩ := copy_loop (body := fX11_record_L10) (M := M) (s := 97) (d := 97) (so := 111) (dof := 0) (n := 333) (by omega) (Or.inr ⟨rfl, by omega⟩) (fun i M' hi q1 q2 => by
      unfold fX11_record_L10 u2 bd
      show (if 333 ≤ nI i then _ else _) = _
      rw [if_neg (show ¬ 333 ≤ nI i from ngen (t := 333) (by omega) (by omega) hi), show nI i + 111 = nI (111 + i) by rw [show (111 : Int32) = nI 111 from rfl, nI_add, Nat.add_comm], gd_t (inbn (by omega) (by omega)), gd_t (inbn (by omega) (by omega)), ixn (by omega), ixn (by omega), nI_1, Nat.zero_add]) (fun M' q1 q2 => by
      unfold fX11_record_L10 u2
      exact if_pos (show (333 : Int32) ≤ nI 333 by decide))
    have e2 : M2.1 95 3 = nI 4 := (c2 95 3 (by omega)).trans hh
    obtain ⟨M', f, a, b, e, g, o⟩ := second (stI M2 95 3 (nI 3)) 3 (by omega) (by rw [stI_rd, if_pos ⟨rfl, rfl⟩])
    refine ⟨M', ?_, fun i hi j hj => ?_, fun j hj => ?_, e, fun j hj => ?_, fun c' j h1 h2 => ?_⟩
    · unfold fX11_record
      show (if M.1 95 3 = 4 then _ else _) = _
      rw [hh, if_pos (show nI 4 = 4 from rfl), f2, b1_s]
      show b1 _ _ = _
      rw [e2]
      exact f
    · rw [show min 4 3 = 3 from rfl] at hi ⊢
      rw [b _ (by rcases (show i = 0 ∨ i = 1 ∨ i = 2 by omega) with rfl | rfl | rfl <;> omega), stI_rd, if_neg (by omega)]
      have := a2 (111 * (3 - 1 - i) + j) (by rcases (show i = 0 ∨ i = 1 ∨ i = 2 by omega) with rfl | rfl | rfl <;> omega)
      rw [Nat.zero_add] at this
      rw [this]
      exact congrArg (M.1 97) (by rcases (show i = 0 ∨ i = 1 ∨ i = 2 by omega) with rfl | rfl | rfl <;> omega)
    · have := a j hj
      rw [stI_rd, if_neg (by omega), c2 96 j (by omega)] at this
      exact this
    · rw [g j hj, stI_rd, if_neg (by omega), c2 95 j (by omega)]
    · rw [o c' j h1 h2, stI_rd, if_neg (by omega), c2 c' j h2]
