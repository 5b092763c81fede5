/-! ===== trials in their order; stuck ===== -/
theorem klt.asym {rk : Nat → Int64} {a b : Nat} (h : klt rk a b) : ¬ klt rk b a := by
  unfold klt at *; omega
theorem klt.irr {rk : Nat → Int64} {a : Nat} : ¬ klt rk a a := by
  unfold klt; omega
/-- the row of trials is one alone -/
theorem Lst.uniq1 {ok : Nat → Prop} {rk : Nat → Int64} {d m m' : Nat} {g g' : Nat → Nat} (h : Lst ok rk d m g) (h' : Lst ok rk d m' g') : ∀ a, a < m → a < m' ∧ g a = g' a := by
  intro a
  induction a using Nat.strongRecOn with
  | _ a ih =>
    intro ha
    obtain ⟨b, hb, eb⟩ := h'.2.2.2 (g a) (h.2.2.1 a ha).1 (h.2.2.1 a ha).2
    have hab : a ≤ b := by
      rcases Nat.lt_or_ge b a with q | q
      · have e := (ih b q (by omega)).2
        have w := h.2.1 b a q ha
        rw [e, eb] at w
        exact absurd w klt.irr
      · exact q
    have ham : a < m' := by omega
    obtain ⟨b', hb', eb'⟩ := h.2.2.2 (g' a) (h'.2.2.1 a ham).1 (h'.2.2.1 a ham).2
    refine ⟨ham, ?_⟩
    rcases Nat.eq_or_lt_of_le hab with q | q
    · rw [← eb, ← q]
    · have w1 : klt rk (g' a) (g a) := by
        have w := h'.2.1 a b q hb
        rw [eb] at w; exact w
      rcases Nat.lt_trichotomy b' a with q2 | q2 | q2
      · have e := (ih b' q2 hb').2
        have w := h'.2.1 b' a q2 ham
        rw [← e, eb'] at w
        exact absurd w klt.irr
      · rw [← q2, eb', q2]
      · have w := h.2.1 a b' q2 hb'
        rw [eb'] at w
        exact absurd w1 w.asym
theorem Lst.uniq {ok : Nat → Prop} {rk : Nat → Int64} {d m m' : Nat} {g g' : Nat → Nat} (h : Lst ok rk d m g) (h' : Lst ok rk d m' g') : m = m' ∧ ∀ a, a < m → g a = g' a := by
  refine ⟨?_, fun a ha => (h.uniq1 h' a ha).2⟩
  rcases Nat.lt_trichotomy m m' with q | q | q
  · have := (h'.uniq1 h m q).1; omega
  · exact q
  · have := (h.uniq1 h' m' q).1; omega
/-- the trials of a state on a mesh: m of them, g tells their directions -/
abbrev TL (t d s : Nat) (M : Mm) (m : Nat) (g : Nat → Nat) : Prop := Lst (okz (zM M) s) (rkz (zM M) s t) d m g
theorem TL.ex {n t d e k : Nat} {M : Mm} (h : JJ n t d e k M) (s : Nat) : ∃ m g, TL t d s M m g := by
  obtain ⟨M', -, ⟨m, g, -, L⟩, -⟩ := gatherX h.cx s
  exact ⟨m, g, L⟩
theorem TL.lo {t d s m : Nat} {g : Nat → Nat} {M M' : Mm} (h : TL t d s M m g) (l : Lo M M') : TL t d s M' m g := by
  unfold TL; rw [zM_low l]; exact h
theorem gatherF {n t d e k : Nat} {M : Mm} (h : JJ n t d e k M) {s m : Nat} {g : Nat → Nat} (L : TL t d s M m g) : ∃ M', fX9_gather M (nI (2 ^ s)) = some M' ∧ RowX M' m g (rkz (zM M) s t) (vlz (zM M) s t) ∧ M'.2 86 4 = vh M t ∧ ∀ c j, c ≠ 86 → c ≠ 87 → M'.1 c j = M.1 c j := by
  obtain ⟨M', f, ⟨m0, g0, row, L0⟩, v, o⟩ := gatherX h.cx s
  obtain ⟨rfl, eg⟩ := L.uniq L0
  refine ⟨M', f, ⟨row.1, fun j hj => ?_⟩, v.trans (vh_z M t), o⟩
  rw [eg j hj]; exact row.2 j hj
theorem vw_gather {M M' : Mm} (o : ∀ c j, c ≠ 86 → c ≠ 87 → M'.1 c j = M.1 c j) : Vw M M' := fun c j q => o c j (by omega) (by omega)
theorem in_01 : fX11_in 0 0 1 = some 1 ∧ fX11_in 1 0 1 = some 1 := ⟨rfl, rfl⟩
theorem trialA {n t d e k : Nat} {M : Mm} (h : JJ n t d e k M) {m : Nat} {g : Nat → Nat} (L : TL t d e M m g) {a : Nat} (ha : a < m) : ∃ M', fX10_trialOf M (nI a) 0 = some (nI (g a), M') ∧ Vw M M' := by
  obtain ⟨M1, f1, row, y, o⟩ := gatherF h L
  have md : m ≤ d := L.1
  have ld := h.1.1.2.2.2.1
  refine ⟨M1, ?_, vw_gather o⟩
  unfold fX10_trialOf
  rw [if_neg (nneg (by omega)), within_in, in_01.1, b1_s, i10, h.1.2.2.2.2.1, f1, b1_s, row.1, if_pos (ltn (by omega) (by omega) ha), i00, gd_t (inbn (by omega) (by omega)), ixn (by omega), (row.2 a ha).1]
theorem trialE {n t d e k : Nat} {M : Mm} (h : JJ n t d e k M) {m : Nat} {g : Nat → Nat} (L : TL t d e M m g) : ∃ M', fX10_trialOf M (nI m) 0 = some (-1000004, M') ∧ Vw M M' := by
  obtain ⟨M1, f1, row, y, o⟩ := gatherF h L
  have md : m ≤ d := L.1
  have ld := h.1.1.2.2.2.1
  refine ⟨M1, ?_, vw_gather o⟩
  unfold fX10_trialOf
  rw [if_neg (nneg (by omega)), within_in, in_01.1, b1_s, i10, h.1.2.2.2.2.1, f1, b1_s, row.1, if_neg (nltn (by omega) (by omega) (Nat.le_refl _))]
theorem betterX {M1 : Mm} {m : Nat} {g : Nat → Nat} {rk vl : Nat → Int64} (hm : m ≤ 8) (row : RowX M1 m g rk vl) {y0 : Int64} (y : M1.2 86 4 = y0) {a : Nat} (ha : a < m) : fX9_isBetter M1 (nI a) = some (if 0 ≤ lg_cmp (vl (g a)) y0 then 0 else 1) := by
  unfold fX9_isBetter
  rw [gd_t (inbn (by omega) (by omega)), ixn (by omega), (row.2 a ha).2.2, y]
  by_cases c : 0 ≤ lg_cmp (vl (g a)) y0
  · rw [if_pos c, if_pos c]
  · rw [if_neg c, if_neg c]
theorem bit_h (c : Prop) [Decidable c] : (if c then (0 : Int32) else 1) = 0 ∨ (if c then (0 : Int32) else 1) = 1 := by
  by_cases h : c
  · left; rw [if_pos h]
  · right; rw [if_neg h]
theorem trialB {n t d e k : Nat} {M : Mm} (h : JJ n t d e k M) {m : Nat} {g : Nat → Nat} (L : TL t d e M m g) {a : Nat} (ha : a < m) : ∃ M', fX10_trialOf M (nI a) 1 = some (if 0 ≤ lg_cmp (vlz (zM M) e t (g a)) (vh M t) then 0 else 1, M') ∧ Vw M M' := by
  obtain ⟨M1, f1, row, y, o⟩ := gatherF h L
  have md : m ≤ d := L.1
  have ld := h.1.1.2.2.2.1
  refine ⟨M1, ?_, vw_gather o⟩
  unfold fX10_trialOf
  rw [if_neg (nneg (by omega)), within_in, in_01.2, b1_s, i10, h.1.2.2.2.2.1, f1, b1_s, row.1, if_pos (ltn (by omega) (by omega) ha), i10, betterX (by omega) row y ha, b1_s, oneIf_z (bit_h _), b1_s]
/-- no trial on the mesh is better -/
def NB (t d s : Nat) (M : Mm) : Prop := ∀ x, x < d → okz (zM M) s x → 0 ≤ lg_cmp (vlz (zM M) s t x) (vh M t)
theorem NB.all {t d s m : Nat} {g : Nat → Nat} {M : Mm} (L : TL t d s M m g) : NB t d s M ↔ ∀ a, a < m → 0 ≤ lg_cmp (vlz (zM M) s t (g a)) (vh M t) := by
  constructor
  · intro h a ha
    obtain ⟨q1, q2⟩ := L.2.2.1 a ha
    exact h _ q1 q2
  · intro h x hx hk
    obtain ⟨a, ha, rfl⟩ := L.2.2.2 x hx hk
    exact h a ha
theorem stuckL {n t d e k : Nat} {M : Mm} (h : JJ n t d e k M) (p : PA M) {s : Nat} (hs : s ≤ 4) : ∃ r M', fX10_stuck M (nI s) = some (r, M') ∧ bq r (NB t d s M) ∧ Vw M M' := by
  obtain ⟨m, g, L⟩ := TL.ex h s
  obtain ⟨M1, f1, row, y, o⟩ := gatherF h L
  have md : m ≤ d := L.1
  have ld := h.1.1.2.2.2.1
  obtain ⟨rx, fx, hx⟩ := itr_0 (body := fX9_noneIsBetter_L2 M1) (s := (0 : Int32)) (fun i q => q = nI i ∧ ∀ j, j < i → 0 ≤ lg_cmp (vlz (zM M) s t (g j)) (vh M t)) (fun r => (r = .inl () ∧ ∃ j, j < m ∧ ¬ 0 ≤ lg_cmp (vlz (zM M) s t (g j)) (vh M t)) ∨ (r = .inr () ∧ ∀ j, j < m → 0 ≤ lg_cmp (vlz (zM M) s t (g j)) (vh M t))) m (by omega) ⟨rfl, fun j hj => absurd hj (by omega)⟩ (by
    rintro i x hi ⟨rfl, q1⟩
    rcases Nat.lt_or_ge i m with hl | hl
    · by_cases c : 0 ≤ lg_cmp (vlz (zM M) s t (g i)) (vh M t)
      · left
        refine ⟨nI (i + 1), ?_, hl, rfl, fun j hj => ?_⟩
        · unfold fX9_noneIsBetter_L2
          rw [row.1, if_neg (ngen (by omega) (by omega) hl), betterX (by omega) row y hl, if_pos c, b1_s, i00, nI_1, bd_s]
        · rcases Nat.lt_or_ge j i with w | w
          · exact q1 j w
          · rw [show j = i by omega]; exact c
      · right
        refine ⟨.inl (), ?_, Or.inl ⟨rfl, i, hl, c⟩⟩
        unfold fX9_noneIsBetter_L2
        rw [row.1, if_neg (ngen (by omega) (by omega) hl), betterX (by omega) row y hl, if_neg c, b1_s, i10]
    · right
      obtain rfl : i = m := by omega
      refine ⟨.inr (), ?_, Or.inr ⟨rfl, q1⟩⟩
      unfold fX9_noneIsBetter_L2
      rw [row.1, if_pos (gen (by omega) (by omega) (by omega))])
  have px : fX10_stuck M (nI s) = b1 (fX9_noneIsBetter M1) fun x10 => b1 (fX10_oneIf x10) fun x12 => some (x12, M1) := by
    unfold fX10_stuck
    rw [within_in, show (4 : Int32) = nI 4 from rfl, in_n1 hs (by omega), b1_s, i10, hereP h p, b1_s, i10, shl1 hs, f1, b1_s]
  rcases hx with ⟨rfl, j, hj, hx⟩ | ⟨rfl, hx⟩
  · refine ⟨0, M1, ?_, bq0 (fun w => hx ((NB.all L).mp w j hj)), vw_gather o⟩
    rw [px]; unfold fX9_noneIsBetter; rw [fx, bs_l, b1_s, oneIf_z (Or.inl rfl), b1_s]
  · refine ⟨1, M1, ?_, bq1 ((NB.all L).mpr hx), vw_gather o⟩
    rw [px]; unfold fX9_noneIsBetter; rw [fx, bs_r, b1_s, oneIf_z (Or.inr rfl), b1_s]
