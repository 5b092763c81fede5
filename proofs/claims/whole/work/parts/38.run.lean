/-! ===== poll, run, as calls ===== -/
theorem Ok2.two {fx fm : Mm → Option (Int32 × Mm)} {M : Mm} {kx km : Mm → Option (Int32 × Mm)} (h : R M) (e1 : fx M = b1 (fX2_push M) kx) (e2 : ∀ M1, (∀ j, M1.1 96 j = M.1 96 j) → fm M1 = b1 (fX11_record M1) km)
    (st : ∀ A B, SR (blk A 1) (B.1 96) → ∃ r A' B', kx A = some (r, A') ∧ km B = some (r, B') ∧ SR (blk A' 1) (B'.1 96) ∧ (∀ c j, ¬ (1 ≤ c ∧ c < 14) → ¬ tmpP c j → A'.1 c j = A.1 c j) ∧ ∀ c j, c ≠ 96 → ¬ tmpP c j → B'.1 c j = B.1 c j) : Ok2 fx fm M := by
  refine Ok2.ch h e1 e2 (fun M1 lo => ?_)
  have h0 : ∀ B : Mm, (∀ j, B.1 96 j = M.1 96 j) → SR (blk M1 1) (B.1 96) := fun B hB => h.1.cong (fun k j hk => lo _ _ (by unfold sIn at hk; omega)) (fun j _ => hB j)
  obtain ⟨r, A', -, f, -, -, o, -⟩ := st M1 ((fun _ j => M.1 96 j), M1.2) (h0 _ (fun _ => rfl))
  refine ⟨(r, A'), f, o, fun M3 e3 l3 => ?_⟩
  obtain ⟨r', A2, B', f', g, s, -, p⟩ := st M1 M3 (h0 _ e3)
  obtain ⟨rfl, rfl⟩ := Prod.mk.inj (Option.some.inj (f.symm.trans f'))
  exact ⟨(r, B'), g, p, s.cong (fun k j hk => by
    have : k < 13 := by unfold sIn at hk; omega
    show B'.1 (1 + k) j = A'.1 (1 + k) j
    rw [p _ _ (by omega) (by unfold tmpP; omega)]; exact l3 _ _ (by omega)) (fun _ _ => rfl), rfl⟩
theorem can2 {A B : Mm} (h : SR (blk A 1) (B.1 96)) : fX6_canPoll A = fX11_canPoll B ∧ (fX11_canPoll B = some 0 ∨ fX11_canPoll B = some 1) := by
  obtain ⟨n, t, d, e, k, hn, hsc, hb, ht, hd, hl⟩ := h
  have a80 : A.1 8 0 = nI d := hn.2.2.2.1.1
  have b2' : B.1 96 2 = nI d := hn.2.2.2.1.2
  unfold fX6_canPoll fX11_canPoll
  rw [hereX hb, a80, b2', hereM, b1_s]
  refine ⟨rfl, ?_⟩
  by_cases c : alw (B.1 96) (B.1 96 18) (B.1 96 19) (B.1 96 20)
  · rw [if_pos c, i10]
    by_cases c2 : nI d ≤ 0
    · rw [if_pos c2]; exact Or.inl rfl
    · rw [if_neg c2]; exact Or.inr rfl
  · rw [if_neg c, i00]; exact Or.inl rfl
theorem p_poll {M : Mm} (h : R M) : Ok2 (fun M => fX10_poll M) (fun M => fX11_poll M) M := by
  obtain ⟨e, q⟩ := can2 h.1
  rcases q with q | q
  · exact .no h _ (by show fX10_poll M = _; unfold fX10_poll; rw [e, q, b1_s, i00]) (by show fX11_poll M = _; unfold fX11_poll; rw [q, b1_s, i00])
  refine Ok2.two h (kx := fun M5 => b2 (fX6_pollOnce M5) fun x7 M8 => some (x7, M8)) (km := fun M5 => b2 (fX11_pollOnce M5) fun x7 M8 => some (x7, M8)) (by show fX10_poll M = _; unfold fX10_poll; rw [e, q, b1_s, i10]) (fun M1 e96 => by
    have q1 : fX11_canPoll M1 = some 1 := by
      have hS : SR (blk M 1) (M1.1 96) := h.1.cong (fun _ _ _ => rfl) (fun j _ => e96 j)
      rw [← (can2 hS).1, e, q]
    show fX11_poll M1 = _; unfold fX11_poll; rw [q1, b1_s, i10]) (fun A B hAB => ?_)
  obtain ⟨r, A', B', f, g, s, o, p⟩ := poll2 hAB
  exact ⟨r, A', B', by rw [f, b2_s], by rw [g, b2_s], s, o, p⟩
theorem run2 {w : Nat} (hw : w ≤ 60) : ∀ k j A B, j + (k + 1) = w → SR (blk A 1) (B.1 96) → ∀ fa fb, k + 1 ≤ fa → k + 1 < fb →
    ∃ r A' B', itr (fX10_run_L39 (nI w)) fa (nI j, A) = some (r, A') ∧ itr (fX11_run_L31 (nI w)) fb (nI j, 1, B) = some (r, B') ∧ SR (blk A' 1) (B'.1 96) ∧ (∀ c j, ¬ (1 ≤ c ∧ c < 14) → ¬ tmpP c j → A'.1 c j = A.1 c j) ∧ ∀ c j, c ≠ 96 → ¬ tmpP c j → B'.1 c j = B.1 c j := by
  intro k
  induction k with
  | zero =>
    intro j A B hj hS fa fb ha hb
    obtain ⟨fa, rfl⟩ : ∃ f, fa = f + 1 := ⟨fa - 1, by omega⟩
    obtain ⟨fb, rfl⟩ : ∃ f, fb = f + 1 + 1 := ⟨fb - 2, by omega⟩
    obtain ⟨r, A', B', f, g, s, o, p⟩ := poll2 hS
    refine ⟨nI (j + 1), A', B', itr_r ?_, ?_, s, o, p⟩
    · unfold fX10_run_L39 u2
      dsimp only
      rw [f, b2_s, nI_1, bd_s, if_pos (gen (by omega) (by omega) (by omega))]
    · rw [itr_l (s' := (nI (j + 1), if B'.1 96 11 = 0 then 1 else 0, B'))]
      · refine itr_r ?_
        unfold fX11_run_L31 u3
        dsimp only
        by_cases c : B'.1 96 11 = 0
        · rw [if_pos c, i10, if_pos (gen (by omega) (by omega) (by omega))]
        · rw [if_neg c, i00]
      · unfold fX11_run_L31 u3
        dsimp only
        rw [i10, if_neg (ngen (by omega) (by omega) (by omega)), g, b2_s, nI_1, bd_s, bd_s]
        by_cases c : B'.1 96 11 = 0
        · rw [if_pos c, if_pos c]
        · rw [if_neg c, if_neg c]
  | succ k ih =>
    intro j A B hj hS fa fb ha hb
    obtain ⟨fa, rfl⟩ : ∃ f, fa = f + 1 := ⟨fa - 1, by omega⟩
    obtain ⟨fb, rfl⟩ : ∃ f, fb = f + 1 + 1 := ⟨fb - 2, by omega⟩
    obtain ⟨r, A', B', f, g, s, o, p⟩ := poll2 hS
    have e11 : A'.1 11 8 = B'.1 96 11 := by
      obtain ⟨n, t, d, e, k, hn, hsc, -⟩ := s
      exact hsc.1.2.2.2.2.2.2
    have hx : fX10_run_L39 (nI w) (nI j, A) = (if B'.1 96 11 = 0 then some (.inl (nI (j + 1), A')) else some (.inr (nI (j + 1), A'))) := by
      unfold fX10_run_L39 u2
      dsimp only
      rw [f, b2_s, nI_1, bd_s, if_neg (ngen (by omega) (by omega) (by omega)), e11]
    have hm : fX11_run_L31 (nI w) (nI j, 1, B) = some (.inl (nI (j + 1), if B'.1 96 11 = 0 then 1 else 0, B')) := by
      unfold fX11_run_L31 u3
      dsimp only
      rw [i10, if_neg (ngen (by omega) (by omega) (by omega)), g, b2_s, nI_1, bd_s, bd_s]
      by_cases c : B'.1 96 11 = 0
      · rw [if_pos c, if_pos c]
      · rw [if_neg c, if_neg c]
    by_cases c : B'.1 96 11 = 0
    · rw [if_pos c] at hx hm
      obtain ⟨r2, A2, B2, f2, g2, s2, o2, p2⟩ := ih (j + 1) A' B' (by omega) s fa (fb + 1) (by omega) (by omega)
      exact ⟨r2, A2, B2, by rw [itr_l hx]; exact f2, by rw [itr_l hm]; exact g2, s2, fun c j w1 w2 => (o2 c j w1 w2).trans (o c j w1 w2), fun c j w1 w2 => (p2 c j w1 w2).trans (p c j w1 w2)⟩
    · rw [if_neg c] at hx hm
      refine ⟨nI (j + 1), A', B', itr_r hx, ?_, s, o, p⟩
      rw [itr_l hm]
      refine itr_r ?_
      unfold fX11_run_L31 u3
      dsimp only
      rw [i00]
theorem p_run {M : Mm} (h : R M) (w1 : Int32) : Ok2 (fun M => fX10_run M w1) (fun M => fX11_run M w1) M := by
  rcases in_ab w1 1 60 with q | ⟨q, h1, h2⟩
  · exact .no h _ (by show fX10_run M _ = _; unfold fX10_run; rw [within_in, q, b1_s, i00]) (by show fX11_run M _ = _; unfold fX11_run; rw [q, b1_s, i00])
  rw [show (1 : Int32).toInt = 1 by decide] at h1
  rw [show (60 : Int32).toInt = 60 by decide] at h2
  obtain ⟨v, hv, rfl⟩ := nI_of (x := w1) (by rw [Int32.lt_iff_toInt_lt, show (0 : Int32).toInt = 0 by decide]; omega)
  rw [tin hv] at h1 h2
  obtain ⟨e, c⟩ := can2 h.1
  rcases c with c | c
  · exact .no h _ (by show fX10_run M _ = _; unfold fX10_run; rw [within_in, q, b1_s, i10, e, c, b1_s, i00]) (by show fX11_run M _ = _; unfold fX11_run; rw [q, b1_s, i10, c, b1_s, i00])
  refine Ok2.two h (kx := fun M8 => b2 (itr (fX10_run_L39 (nI v)) 1000 (0, M8)) fun x18 M19 => some (x18, M19)) (km := fun M8 => b2 (itr (fX11_run_L31 (nI v)) 1000 (0, 1, M8)) fun x23 M24 => some (x23, M24)) (by show fX10_run M _ = _; unfold fX10_run; rw [within_in, q, b1_s, i10, e, c, b1_s, i10]) (fun M1 e96 => by
    have q1 : fX11_canPoll M1 = some 1 := by
      have hS : SR (blk M 1) (M1.1 96) := h.1.cong (fun _ _ _ => rfl) (fun j _ => e96 j)
      rw [← (can2 hS).1, e, c]
    show fX11_run M1 _ = _; unfold fX11_run; rw [q, b1_s, i10, q1, b1_s, i10]) (fun A B hAB => ?_)
  obtain ⟨r, A', B', f, g, s, o, p⟩ := run2 (w := v) (by omega) (v - 1) 0 A B (by omega) hAB 1000 1000 (by omega) (by omega)
  have f : itr (fX10_run_L39 (nI v)) 1000 (0, A) = some (r, A') := f
  have g : itr (fX11_run_L31 (nI v)) 1000 (0, 1, B) = some (r, B') := g
  exact ⟨r, A', B', by rw [f, b2_s], by rw [g, b2_s], s, o, p⟩
