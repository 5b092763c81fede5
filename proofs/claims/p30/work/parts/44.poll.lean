/-! ===== poll, run ===== -/
theorem pushH {M : Mm} (h : HI M) (f : M.1 11 8 = 0 ∨ M.1 11 8 = 1) : ∃ M1, fX2_push M = some M1 ∧ (∀ c j, c < 14 ∨ 67 ≤ c → M1.1 c j = M.1 c j) ∧ HI M1 := by
  obtain ⟨⟨g, g4, hg⟩, hE⟩ := h
  obtain ⟨M', e, a, b, c, -, o⟩ := pushX hE f hg g4
  refine ⟨M', e, o, ⟨_, by omega, c⟩, fun i hi => ?_, ?_⟩
  · rcases Nat.eq_zero_or_pos i with rfl | hp
    · have := a 10 8 (by simp [sIn])
      rw [show M'.1 (25 + 13 * 0) 8 = M'.1 (15 + 10) 8 from rfl, this]; exact f
    · have := b (i - 1) (by omega) 10 8 (by simp [sIn])
      rw [show 28 + 13 * (i - 1) + 10 = 25 + 13 * i by omega] at this
      rw [this, show 15 + 13 * (i - 1) + 10 = 25 + 13 * (i - 1) by omega]
      exact hE.1 (i - 1) (by omega)
  · rw [o 77 8 (by omega)]; exact hE.2
theorem ch_dec (vl : Nat → Int64) (g : Nat → Nat) (all : Bool) : ∀ k j x y, ((∀ a, j ≤ a → a < j + k → 0 ≤ lg_cmp (vl (g a)) y) ∧ ch vl g all k j x y = (x, j + k)) ∨ ∃ a, j ≤ a ∧ a < j + k ∧ (ch vl g all k j x y).1 = nI (g a) ∧ ¬ 0 ≤ lg_cmp (vl (g a)) y := by
  intro k
  induction k with
  | zero => intro j x y; exact Or.inl ⟨fun a h1 h2 => absurd h2 (by omega), rfl⟩
  | succ k ih =>
    intro j x y
    unfold ch
    by_cases c : 0 ≤ lg_cmp (vl (g j)) y
    · rw [if_pos c]
      rcases ih (j + 1) x y with ⟨q1, q2⟩ | ⟨a, q1, q2, q3, q4⟩
      · refine Or.inl ⟨fun a h1 h2 => ?_, by rw [q2, Nat.add_right_comm, Nat.add_assoc]⟩
        rcases Nat.eq_or_lt_of_le h1 with w | w
        · rw [← w]; exact c
        · exact q1 a w (by omega)
      · exact Or.inr ⟨a, by omega, by omega, q3, q4⟩
    · rw [if_neg c]
      by_cases c2 : all = true
      · rw [if_pos c2]
        rcases ih (j + 1) (nI (g j)) (vl (g j)) with ⟨q1, q2⟩ | ⟨a, q1, q2, q3, q4⟩
        · exact Or.inr ⟨j, by omega, by omega, by rw [q2], c⟩
        · refine Or.inr ⟨a, by omega, by omega, q3, fun w => ?_⟩
          have w1 := Int64.le_iff_toInt_le.mp ((lg_cmp_ge _ _).mp w)
          have w2 : ¬ y ≤ vl (g j) := fun q => c ((lg_cmp_ge _ _).mpr q)
          have w3 : ¬ vl (g j) ≤ vl (g a) := fun q => q4 ((lg_cmp_ge _ _).mpr q)
          rw [Int64.le_iff_toInt_le] at w2 w3
          omega
      · rw [if_neg c2]
        exact Or.inr ⟨j, by omega, by omega, rfl, c⟩
theorem vh_lo {M M' : Mm} (l : Lo M M') (t : Nat) : vh M' t = vh M t := by
  unfold vh; rw [zM_low l, l 12 0 (by omega), l 12 1 (by omega), l 12 2 (by omega)]
theorem chz_lo {M M' : Mm} (l : Lo M M') (t e m : Nat) (g : Nat → Nat) (all : Bool) : chz M' t e m g all = chz M t e m g all := by
  unfold chz; rw [zM_low l, vh_lo l]
/-- all that a poll does -/
def PR (n t d e k : Nat) (r : Int32) (cn : Nat) (M M' : Mm) : Prop := (M'.1 11 2 = M.1 11 2 + 1 ∧ M'.1 11 4 = M.1 11 4 + nI cn) ∧ (∀ c j, c = 6 ∨ c = 7 ∨ (c = 1 ∧ j < 3) ∨ c = 2 ∨ c = 8 → M'.1 c j = M.1 c j) ∧ ((r = -1 ∧ NB t d e M ∧ PollF n t d e k M M') ∨ ∃ i, r = nI i ∧ ¬ 0 ≤ lg_cmp (vlz (zM M) e t i) (vh M t) ∧ PollS n t d e k i M M')
theorem PR.lo {n t d e k : Nat} {r : Int32} {cn : Nat} {M M1 M' : Mm} (h : PR n t d e k r cn M1 M') (l : Lo M M1) : PR n t d e k r cn M M' := by
  unfold PR NB PollF PollS at *
  rw [zM_low l, vh_lo l, l 11 2 (by omega), l 11 4 (by omega), l 11 3 (by omega)] at h
  obtain ⟨a, b, c⟩ := h
  refine ⟨a, fun c j q => (b c j q).trans (l c j (by omega)), ?_⟩
  rcases c with c | ⟨i, c1, c2, c3, c4, c5, c6, c7, ⟨d1, d2, d3, d4⟩, c9, c10⟩
  · exact Or.inl c
  · exact Or.inr ⟨i, c1, c2, c3, c4, c5, c6, c7, ⟨d1, d2, d3, d4.trans (by rw [l 10 i (by omega)])⟩, fun v hv => (c9 v hv).trans (l 12 v (by omega)), c10⟩
theorem pollPR {n t d e k : Nat} {M : Mm} (h : JJ n t d e k M) {m : Nat} {g : Nat → Nat} (L : TL t d e M m g) {all : Bool} (hw : Way M all) : ∃ M', fX6_pollOnce M = some ((chz M t e m g all).1, M') ∧ PR n t d e k (chz M t e m g all).1 (chz M t e m g all).2 M M' ∧ ∀ c j, 14 ≤ c → ¬ (86 ≤ c ∧ c < 90) → M'.1 c j = M.1 c j := by
  obtain ⟨M', f, a, o, b, r⟩ := pollX h L hw
  have md : m ≤ d := L.1
  have ld := h.1.1.2.2.2.1
  have dec := ch_dec (vlz (zM M) e t) g all m 0 (-1) (vh M t)
  refine ⟨M', f, ⟨a, b, ?_⟩, o⟩
  rcases r with ⟨r1, r2⟩ | ⟨i, r1, r2⟩
  · refine Or.inl ⟨r1, ?_, r2⟩
    rcases dec with ⟨q, -⟩ | ⟨a, -, q2, q3, -⟩
    · exact (NB.all L).mpr (fun a ha => q a (by omega) (by omega))
    · have q3 : (chz M t e m g all).1 = nI (g a) := q3
      have := (L.2.2.1 a (by omega)).1
      exact absurd (q3.symm.trans r1) (m1_ne (by omega))
  · refine Or.inr ⟨i, r1, ?_, r2⟩
    rcases dec with ⟨-, q⟩ | ⟨a, -, q2, q3, q4⟩
    · have q : chz M t e m g all = (-1, 0 + m) := q
      rw [q] at r1
      have := r2.1
      exact absurd r1.symm (m1_ne (by omega))
    · have q3 : (chz M t e m g all).1 = nI (g a) := q3
      have w := (L.2.2.1 a (by omega)).1
      have w2 := r2.1
      have e : g a = i := (neq (by omega) (by omega)).mp (q3.symm.trans r1)
      rw [← e]; exact q4
theorem canP {n t d e k : Nat} {M : Mm} (h : JJ n t d e k M) (p : PA M) (hd : 0 < d) : fX6_canPoll M = some 1 := by
  unfold fX6_canPoll
  rw [hereP h p, b1_s, i10, h.1.2.2.2.1, if_neg (show ¬ nI d ≤ 0 from ngen (i := 0) (t := d) (by omega) (by have := h.1.1.2.2.2.1; omega) hd)]
theorem can0 {n t e k : Nat} {M : Mm} (h : JJ n t 0 e k M) (p : PA M) : fX6_canPoll M = some 0 := by
  unfold fX6_canPoll
  rw [hereP h p, b1_s, i10, h.1.2.2.2.1, if_pos (show nI 0 ≤ 0 by decide)]
/-- what stays of a state behind polls -/
theorem PR.st {n t d e k : Nat} {r : Int32} {cn : Nat} {M M' : Mm} (h : PR n t d e k r cn M M') (p : PA M) : ∃ e' k', JJ n t d e' k' M' ∧ PA M' ∧ (M'.1 11 8 = 1 → e' = 0 ∧ NB t d 0 M') := by
  obtain ⟨-, b, c⟩ := h
  rcases c with ⟨c1, c2, c3, c4, c5, c6⟩ | ⟨i, c1, c2, c3, c4, c5, c6, c7, ⟨d1, d2, d3, d4⟩, -⟩
  · refine ⟨e - 1, k, c3, fun v hv => ?_, fun q => ?_⟩
    · have w : M'.1 12 v = M.1 12 v := by
        have := congrFun c4 (18 + v)
        rw [zM_pl M' hv, zM_pl M hv] at this; exact this
      rw [w, b 6 v (by omega), b 7 v (by omega)]; exact p v hv
    · rw [c6] at q
      by_cases w : e = 0
      · subst w
        refine ⟨rfl, ?_⟩
        have w : ∀ v, v < 3 → M'.1 12 v = M.1 12 v := fun v hv => by
          have := congrFun c4 (18 + v)
          rw [zM_pl M' hv, zM_pl M hv] at this; exact this
        unfold NB vh at *
        rw [c4, w 0 (by omega), w 1 (by omega), w 2 (by omega)]; exact c2
      · rw [if_neg w] at q; exact absurd q (by decide)
  · refine ⟨_, _, c5, c6, fun q => ?_⟩
    rw [d3] at q; exact absurd q (by decide)
theorem pollC {n t d e k : Nat} {M : Mm} (h : JJ n t d e k M) (hh : HI M) (p : PA M) (hd : 0 < d) {m : Nat} {g : Nat → Nat} (L : TL t d e M m g) {all : Bool} (hw : Way M all) : ∃ M', fX10_poll M = some ((chz M t e m g all).1, M') ∧ PR n t d e k (chz M t e m g all).1 (chz M t e m g all).2 M M' ∧ HI M' ∧ ∀ j, M'.1 95 j = M.1 95 j := by
  obtain ⟨M1, f1, o1, h1⟩ := pushH hh h.2.1.2.2.1
  have l1 : Lo M M1 := fun c j q => o1 c j (by omega)
  obtain ⟨M', f2, r, o2⟩ := pollPR (h.lo l1) (L.lo l1) (hw.lo l1)
  rw [chz_lo l1] at f2 r
  refine ⟨M', ?_, r.lo l1, h1.c (fun c j q1 q2 => o2 c j q1 (by omega)), fun j => (o2 95 j (by omega) (by omega)).trans (o1 95 j (by omega))⟩
  unfold fX10_poll
  rw [canP h p hd, b1_s, i10, f1, b1_s, f2, b2_s]
/-- the loop of run -/
theorem runLoop {n t d : Nat} {w : Nat} (hw : w ≤ 60) (hd : 0 < d) : ∀ q j (A : Mm) (e k : Nat), j + (q + 1) = w → JJ n t d e k A → PA A → ∀ fa, q + 1 ≤ fa → ∃ c A' e' k', itr (fX10_run_L39 (nI w)) fa (nI j, A) = some (nI (j + c), A') ∧ 1 ≤ c ∧ j + c ≤ w ∧ A'.1 11 2 = A.1 11 2 + nI c ∧ JJ n t d e' k' A' ∧ PA A' ∧ (j + c < w → A'.1 11 8 = 1) ∧ (A'.1 11 8 = 1 → e' = 0 ∧ NB t d 0 A') ∧ ∀ c j, 14 ≤ c → ¬ (86 ≤ c ∧ c < 90) → A'.1 c j = A.1 c j := by
  intro q
  induction q with
  | zero =>
    intro j A e k hj hJ hP fa ha
    obtain ⟨fa, rfl⟩ : ∃ f, fa = f + 1 := ⟨fa - 1, by omega⟩
    obtain ⟨m, g, L⟩ := TL.ex hJ e
    obtain ⟨all, ha⟩ := way_ex hJ.2.1
    obtain ⟨A', f, r, o⟩ := pollPR hJ L ha
    obtain ⟨e', k', hJ', hP', hE⟩ := r.st hP
    refine ⟨1, A', e', k', itr_r ?_, by omega, by omega, r.1.1, hJ', hP', fun w => absurd w (by omega), hE, o⟩
    unfold fX10_run_L39 u2
    dsimp only
    rw [f, b2_s, nI_1, bd_s, if_pos (gen (by omega) (by omega) (by omega))]
  | succ q ih =>
    intro j A e k hj hJ hP fa ha
    obtain ⟨fa, rfl⟩ : ∃ f, fa = f + 1 := ⟨fa - 1, by omega⟩
    obtain ⟨m, g, L⟩ := TL.ex hJ e
    obtain ⟨all, hal⟩ := way_ex hJ.2.1
    obtain ⟨A1, f, r, o⟩ := pollPR hJ L hal
    obtain ⟨e', k', hJ', hP', hE⟩ := r.st hP
    have hx : fX10_run_L39 (nI w) (nI j, A) = (if A1.1 11 8 = 0 then some (.inl (nI (j + 1), A1)) else some (.inr (nI (j + 1), A1))) := by
      unfold fX10_run_L39 u2
      dsimp only
      rw [f, b2_s, nI_1, bd_s, if_neg (ngen (by omega) (by omega) (by omega))]
    by_cases c : A1.1 11 8 = 0
    · rw [if_pos c] at hx
      obtain ⟨c2, A2, e2, k2, f2, g1, g2, g3, g4, g5, g6, g7, g8⟩ := ih (j + 1) A1 e' k' (by omega) hJ' hP' fa (by omega)
      refine ⟨c2 + 1, A2, e2, k2, by rw [itr_l hx, f2]; exact congrArg (fun v => some (nI v, A2)) (by omega), by omega, by omega, ?_, g4, g5, fun w => g6 (by omega), g7, fun c j w1 w2 => (g8 c j w1 w2).trans (o c j w1 w2)⟩
      rw [g3, r.1.1, Int32.add_assoc, show (1 : Int32) + nI c2 = nI (1 + c2) from nI_add 1 c2, Nat.add_comm 1 c2]
    · rw [if_neg c] at hx
      exact ⟨1, A1, e', k', itr_r hx, by omega, by omega, r.1.1, hJ', hP', fun _ => hJ'.2.1.2.2.1.resolve_left c, hE, o⟩
theorem runC {n t d e k : Nat} {M : Mm} (h : JJ n t d e k M) (hh : HI M) (p : PA M) (hd : 0 < d) {w : Nat} (w1 : 1 ≤ w) (w2 : w ≤ 60) : ∃ c M' e' k', fX10_run M (nI w) = some (nI c, M') ∧ 1 ≤ c ∧ c ≤ w ∧ M'.1 11 2 = M.1 11 2 + nI c ∧ JJ n t d e' k' M' ∧ HI M' ∧ PA M' ∧ (c < w → M'.1 11 8 = 1) ∧ (M'.1 11 8 = 1 → e' = 0 ∧ NB t d 0 M') ∧ ∀ j, M'.1 95 j = M.1 95 j := by
  obtain ⟨M1, f1, o1, h1⟩ := pushH hh h.2.1.2.2.1
  have l1 : Lo M M1 := fun c j q => o1 c j (by omega)
  obtain ⟨c, M', e', k', f, g1, g2, g3, g4, g5, g6, g7, g8⟩ := runLoop (w := w) w2 hd (w - 1) 0 M1 e k (by omega) (h.lo l1) (p.lo l1) 1000 (by omega)
  rw [Nat.zero_add] at f g2 g6
  refine ⟨c, M', e', k', ?_, g1, g2, by rw [g3, l1 11 2 (by omega)], g4, h1.c (fun c j q1 q2 => g8 c j q1 (by omega)), g5, g6, g7, fun j => (g8 95 j (by omega) (by omega)).trans (o1 95 j (by omega))⟩
  have q : fX11_in (nI w) 1 60 = some 1 := by
    rw [in_any, tin (by omega), show (1 : Int32).toInt = 1 by decide, show (60 : Int32).toInt = 60 by decide, if_pos (by constructor <;> omega)]
  have f : itr (fX10_run_L39 (nI w)) 1000 (0, M1) = some (nI c, M') := f
  unfold fX10_run
  rw [within_in, q, b1_s, i10, canP h p hd, b1_s, i10, f1, b1_s, f, b2_s]
theorem poll0 {n t e k : Nat} {M : Mm} (h : JJ n t 0 e k M) (p : PA M) : fX10_poll M = some (-1000002, M) ∧ fX10_run M 5 = some (-1000002, M) := by
  constructor
  · unfold fX10_poll
    rw [can0 h p, b1_s, i00]
  · unfold fX10_run
    rw [within_in, show fX11_in 5 1 60 = some 1 from rfl, b1_s, i10, can0 h p, b1_s, i00]
