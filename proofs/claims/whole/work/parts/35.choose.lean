/-! ===== the choice of a poll ===== -/
theorem itr_l {σ ρ : Type} {body : σ → Option (σ ⊕ ρ)} {f : Nat} {s s' : σ} (h : body s = some (.inl s')) : itr body (f + 1) s = itr body f s' := by simp [itr, h]
theorem itr_r {σ ρ : Type} {body : σ → Option (σ ⊕ ρ)} {f : Nat} {s : σ} {r : ρ} (h : body s = some (.inr r)) : itr body (f + 1) s = some r := by simp [itr, h]
def ch (vl : Nat → Int64) (g : Nat → Nat) (all : Bool) : Nat → Nat → Int32 → Int64 → Int32 × Nat
  | 0, j, x, _ => (x, j)
  | k + 1, j, x, y => if 0 ≤ lg_cmp (vl (g j)) y then ch vl g all k (j + 1) x y else if all = true then ch vl g all k (j + 1) (nI (g j)) (vl (g j)) else (nI (g j), j + 1)
theorem ch_b (vl : Nat → Int64) (g : Nat → Nat) (all : Bool) : ∀ k j x y, j ≤ (ch vl g all k j x y).2 ∧ (ch vl g all k j x y).2 ≤ j + k ∧ ((ch vl g all k j x y).1 = x ∨ ∃ a, j ≤ a ∧ a < j + k ∧ (ch vl g all k j x y).1 = nI (g a)) := by
  intro k
  induction k with
  | zero => intro j x y; exact ⟨Nat.le_refl _, Nat.le_refl _, Or.inl rfl⟩
  | succ k ih =>
    intro j x y
    unfold ch
    by_cases c1 : 0 ≤ lg_cmp (vl (g j)) y
    · rw [if_pos c1]
      obtain ⟨a1, a2, a3⟩ := ih (j + 1) x y
      refine ⟨by omega, by omega, a3.elim Or.inl (fun ⟨a, b1, b2, b3⟩ => Or.inr ⟨a, by omega, by omega, b3⟩)⟩
    · rw [if_neg c1]
      by_cases c2 : all = true
      · rw [if_pos c2]
        obtain ⟨a1, a2, a3⟩ := ih (j + 1) (nI (g j)) (vl (g j))
        refine ⟨by omega, by omega, a3.elim (fun q => Or.inr ⟨j, by omega, by omega, q⟩) (fun ⟨a, b1, b2, b3⟩ => Or.inr ⟨a, by omega, by omega, b3⟩)⟩
      · rw [if_neg c2]
        exact ⟨by show j ≤ j + 1; omega, by show j + 1 ≤ j + (k + 1); omega, Or.inr ⟨j, by omega, by omega, rfl⟩⟩
theorem chooseX {w1 : Int32} {all : Bool} (hw : (w1 = 0 ∧ all = false) ∨ (w1 = 1 ∧ all = true)) {m : Nat} {g : Nat → Nat} {rk vl : Nat → Int64} (hm : m ≤ 8) : ∀ k j x y M, j + k = m → RowX M m g rk vl → M.1 86 5 = nI j → ∀ fuel, k < fuel →
    ∃ q M', itr (fX9_chooseBetter_L15 w1) fuel (x, y, nI j, M) = some q ∧ (q = .inl ((ch vl g all k j x y).1, M') ∨ q = .inr ((ch vl g all k j x y).1, M')) ∧ M'.1 86 5 = nI (ch vl g all k j x y).2 ∧ ∀ c j', ¬ (c = 86 ∧ j' = 5) → M'.1 c j' = M.1 c j' := by
  intro k
  induction k with
  | zero =>
    intro j x y M hj hr h5 fuel hf
    obtain ⟨f, rfl⟩ : ∃ f, fuel = f + 1 := ⟨fuel - 1, by omega⟩
    refine ⟨_, M, itr_r (r := .inr (x, M)) ?_, Or.inr rfl, h5, fun _ _ _ => rfl⟩
    unfold fX9_chooseBetter_L15 u4
    dsimp only
    rw [hr.1, if_pos (gen (by omega) (by omega) (by omega))]
  | succ k ih =>
    intro j x y M hj hr h5 fuel hf
    obtain ⟨f, rfl⟩ : ∃ f, fuel = f + 1 := ⟨fuel - 1, by omega⟩
    obtain ⟨M2, e2⟩ : ∃ M2, M2 = stI M 86 5 (nI (j + 1)) := ⟨_, rfl⟩
    have r2 : ∀ c j', M2.1 c j' = if c = 86 ∧ j' = 5 then nI (j + 1) else M.1 c j' := fun c j' => by rw [e2, stI_rd]
    have s2 : M2.2 = M.2 := by rw [e2]; rfl
    have hr2 : RowX M2 m g rk vl := ⟨by rw [r2, if_neg (by omega)]; exact hr.1, fun i hi => by rw [r2, if_neg (by omega), s2]; exact hr.2 i hi⟩
    have h52 : M2.1 86 5 = nI (j + 1) := by rw [r2, if_pos ⟨rfl, rfl⟩]
    have fr : ∀ c j', ¬ (c = 86 ∧ j' = 5) → M2.1 c j' = M.1 c j' := fun c j' w => by rw [r2, if_neg w]
    have e87 : M2.1 87 j = nI (g j) := (hr2.2 j (by omega)).1
    have e89 : M2.2 89 j = vl (g j) := (hr2.2 j (by omega)).2.2
    by_cases c1 : 0 ≤ lg_cmp (vl (g j)) y
    · obtain ⟨q, M', f1, f2, f3, f4⟩ := ih (j + 1) x y M2 (by omega) hr2 h52 f (by omega)
      unfold ch
      rw [if_pos c1]
      refine ⟨q, M', ?_, f2, f3, fun c j' w => (f4 c j' w).trans (fr c j' w)⟩
      rw [itr_l (s' := (x, y, nI (j + 1), M2))]
      · exact f1
      · unfold fX9_chooseBetter_L15 u4
        dsimp only
        rw [hr.1, if_neg (ngen (by omega) (by omega) (by omega)), h5, nI_1, bd_s, ← e2, gd_t (inbn (by omega) (by omega)), bd_s, ixn (by omega), e89, if_pos c1]
        dsimp only
        rw [bd_s]
    · unfold ch
      rw [if_neg c1]
      by_cases c2 : all = true
      · rw [if_pos c2]
        obtain ⟨q, M', f1, f2, f3, f4⟩ := ih (j + 1) (nI (g j)) (vl (g j)) M2 (by omega) hr2 h52 f (by omega)
        refine ⟨q, M', ?_, f2, f3, fun c j' w => (f4 c j' w).trans (fr c j' w)⟩
        rw [itr_l (s' := (nI (g j), vl (g j), nI (j + 1), M2))]
        · exact f1
        · have w1n : ¬ w1 = 0 := by
            rcases hw with ⟨_, q⟩ | ⟨q, _⟩
            · rw [c2] at q; exact absurd q (by decide)
            · rw [q]; decide
          unfold fX9_chooseBetter_L15 u4
          dsimp only
          rw [hr.1, if_neg (ngen (by omega) (by omega) (by omega)), h5, nI_1, bd_s, ← e2, gd_t (inbn (by omega) (by omega)), bd_s, ixn (by omega), e89, if_neg c1, e87, bd_s, bd_s, if_neg w1n]
          dsimp only
          rw [bd_s]
      · rw [if_neg c2]
        have w10 : w1 = 0 := by
          rcases hw with ⟨q, _⟩ | ⟨_, q⟩
          · exact q
          · exact absurd q c2
        refine ⟨.inl (nI (g j), M2), M2, itr_r ?_, Or.inl rfl, h52, fr⟩
        unfold fX9_chooseBetter_L15 u4
        dsimp only
        rw [hr.1, if_neg (ngen (by omega) (by omega) (by omega)), h5, nI_1, bd_s, ← e2, gd_t (inbn (by omega) (by omega)), bd_s, ixn (by omega), e89, if_neg c1, e87, bd_s, bd_s, if_pos w10]
theorem vs_cong {z z' : Nat → Int32} (h : ∀ j, 18 ≤ j → z' j = z j) (s : Bool) (x y w : Int32) (t : Nat) : vs z' s x y w t = vs z s x y w t := by
  induction t with
  | zero => rfl
  | succ i ih =>
    unfold vs tv
    rw [ih, h (21 + 4 * i) (by omega), h (21 + 4 * i + 1) (by omega), h (21 + 4 * i + 2) (by omega), h (21 + 4 * i + 3) (by omega)]
theorem trz_cong {z z' : Nat → Int32} (h : ∀ j, 18 ≤ j → z' j = z j) (e i v : Nat) : trz z' e i v = trz z e i v := by
  unfold trz
  rw [h _ (by omega), h _ (by omega)]
theorem vlM {t d : Nat} {M : Mm} (h : MX t d M) {z : Nat → Int32} (hz : ∀ j, 18 ≤ j → M.1 96 j = z j) {i : Nat} (e : Nat) (hi : i < 8) : fX11_trialValue M (nI i) (nI (2 ^ e)) 0 = some (vlz z e t i) := by
  have q : fX11_trialValue M (nI i) (nI (2 ^ e)) 0 = _ := tvM h e hi false
  rw [q]
  unfold vlz
  rw [vs_cong hz, trz_cong hz, trz_cong hz, trz_cong hz]
theorem notneg {b : Nat} (hb : b < 1000) : ¬ nI b < 0 := fun q => by
  have := Int32.lt_iff_toInt_lt.mp q
  rw [tin (by omega), show (0 : Int32).toInt = 0 by decide] at this
  omega
theorem chooseM {all : Bool} {t d m e : Nat} {g : Nat → Nat} {z : Nat → Int32} (hw : (z 5 = 0 ∧ all = false) ∨ (z 5 = 1 ∧ all = true)) (hm : m ≤ 8) (hg : ∀ a, a < m → g a < 8) : ∀ k j x y M, j + k = m → RowM M m g → MX t d M → (∀ j, j ≠ 8 → M.1 96 j = z j) → (x < 0 ∨ all = true) → ∀ fuel, k < fuel →
    ∃ M', itr (fX11_pollOnce_L24 (nI (2 ^ e))) fuel (y, x, nI j, M) = some ((ch (vlz z e t) g all k j x y).1, M') ∧ M'.1 96 8 = M.1 96 8 + nI ((ch (vlz z e t) g all k j x y).2 - j) ∧ ∀ c j', ¬ (c = 96 ∧ j' = 8) → M'.1 c j' = M.1 c j' := by
  intro k
  induction k with
  | zero =>
    intro j x y M hj hr hM hz hx fuel hf
    obtain ⟨f, rfl⟩ : ∃ f, fuel = f + 1 := ⟨fuel - 1, by omega⟩
    refine ⟨M, itr_r ?_, ?_, fun _ _ _ => rfl⟩
    · unfold fX11_pollOnce_L24 u4
      dsimp only
      rw [hr.1, if_pos (gen (by omega) (by omega) (by omega))]
      rfl
    · show _ = _ + nI (j - j)
      rw [Nat.sub_self, n0, Int32.add_zero]
  | succ k ih =>
    intro j x y M hj hr hM hz hx fuel hf
    obtain ⟨f, rfl⟩ : ∃ f, fuel = f + 1 := ⟨fuel - 1, by omega⟩
    obtain ⟨M2, e2⟩ : ∃ M2, M2 = stI M 96 8 (M.1 96 8 + 1) := ⟨_, rfl⟩
    have r2 : ∀ c j', M2.1 c j' = if c = 96 ∧ j' = 8 then M.1 96 8 + 1 else M.1 c j' := fun c j' => by rw [e2, stI_rd]
    have hr2 : RowM M2 m g := ⟨by rw [r2, if_neg (by omega)]; exact hr.1, fun i hi => by rw [r2, if_neg (by omega)]; exact hr.2 i hi⟩
    have hz2 : ∀ j, j ≠ 8 → M2.1 96 j = z j := fun j' w => by rw [r2, if_neg (by omega)]; exact hz j' w
    have hM2 : MX t d M2 := ⟨hM.1, by rw [hz2 1 (by omega), ← hz 1 (by omega)]; exact hM.2.1, by rw [hz2 2 (by omega), ← hz 2 (by omega)]; exact hM.2.2.1, fun i hi => by
      have q := hM.2.2.2 i hi
      unfold tOK at q ⊢
      rw [hz2 _ (by omega), hz2 _ (by omega), hz2 _ (by omega), hz2 _ (by omega), ← hz _ (by omega), ← hz (21 + 4 * i + 1) (by omega), ← hz (21 + 4 * i + 2) (by omega), ← hz (21 + 4 * i + 3) (by omega)]
      exact q⟩
    have fr : ∀ c j', ¬ (c = 96 ∧ j' = 8) → M2.1 c j' = M.1 c j' := fun c j' w => by rw [r2, if_neg w]
    have e100 : M.1 100 j = nI (g j) := hr.2 j (by omega)
    have e1002 : M2.1 100 j = nI (g j) := hr2.2 j (by omega)
    have vv := vlM hM (z := z) (fun j' w => hz j' (by omega)) e (hg j (by omega))
    have z5 : M.1 96 5 = z 5 := hz 5 (by omega)
    -- the head of a round that goes on
    have head : ∀ res, (if 0 ≤ lg_cmp (vlz z e t (g j)) y then some (.inl (y, x, nI (j + 1), M2)) else some (.inl (vlz z e t (g j), nI (g j), nI (j + 1), M2))) = res → fX11_pollOnce_L24 (nI (2 ^ e)) (y, x, nI j, M) = res := by
      intro res hres
      have go : ∀ (A B : Option ((Int64 × Int32 × Int32 × Mm) ⊕ (Int32 × Mm))), A = res → (if x < 0 then A else if M.1 96 5 = 1 then A else B) = res := by
        intro A B hA
        by_cases c : x < 0
        · rw [if_pos c]; exact hA
        · rw [if_neg c, z5]
          rcases hx with q | q
          · exact absurd q c
          · rcases hw with ⟨_, w⟩ | ⟨w, _⟩
            · rw [q] at w; exact absurd w (by decide)
            · rw [if_pos w]; exact hA
      unfold fX11_pollOnce_L24 u4
      dsimp only
      rw [hr.1, if_neg (ngen (by omega) (by omega) (by omega)), bd_s]
      refine go _ _ ?_
      rw [gd_t (inbn (by omega) (by omega)), ixn (by omega), e100, vv, b1_s, bd_s, ← e2, bd_s, nI_1]
      by_cases c1 : 0 ≤ lg_cmp (vlz z e t (g j)) y
      · rw [if_pos c1] at hres ⊢
        rw [← hres]; rfl
      · rw [if_neg c1] at hres ⊢
        rw [e1002, bd_s, ← hres]; rfl
    have cnt : ∀ r, j + 1 ≤ r → M.1 96 8 + 1 + nI (r - (j + 1)) = M.1 96 8 + nI (r - j) := fun r hr => by
      rw [Int32.add_assoc, show (1 : Int32) + nI (r - (j + 1)) = nI (1 + (r - (j + 1))) from nI_add 1 _, show 1 + (r - (j + 1)) = r - j by omega]
    have e28 : M2.1 96 8 = M.1 96 8 + 1 := by rw [r2, if_pos ⟨rfl, rfl⟩]
    unfold ch
    by_cases c1 : 0 ≤ lg_cmp (vlz z e t (g j)) y
    · rw [if_pos c1]
      obtain ⟨M', f1, f2, f3⟩ := ih (j + 1) x y M2 (by omega) hr2 hM2 hz2 hx f (by omega)
      refine ⟨M', by rw [itr_l (head _ (if_pos c1))]; exact f1, ?_, fun c j' w => (f3 c j' w).trans (fr c j' w)⟩
      rw [f2, e28, cnt _ (ch_b _ _ _ _ _ _ _).1]
    · rw [if_neg c1]
      by_cases c2 : all = true
      · rw [if_pos c2]
        obtain ⟨M', f1, f2, f3⟩ := ih (j + 1) (nI (g j)) (vlz z e t (g j)) M2 (by omega) hr2 hM2 hz2 (Or.inr c2) f (by omega)
        refine ⟨M', by rw [itr_l (head _ (if_neg c1))]; exact f1, ?_, fun c j' w => (f3 c j' w).trans (fr c j' w)⟩
        rw [f2, e28, cnt _ (ch_b _ _ _ _ _ _ _).1]
      · rw [if_neg c2]
        obtain ⟨f', rfl⟩ : ∃ f', f = f' + 1 := ⟨f - 1, by omega⟩
        refine ⟨M2, ?_, ?_, fr⟩
        · rw [itr_l (head _ (if_neg c1))]
          refine itr_r ?_
          unfold fX11_pollOnce_L24 u4
          dsimp only
          rw [hr2.1]
          rcases Nat.lt_or_ge (j + 1) m with w | w
          · have z50 : ¬ M2.1 96 5 = 1 := by
              rw [hz2 5 (by omega)]
              rcases hw with ⟨q, _⟩ | ⟨_, q⟩
              · rw [q]; decide
              · exact absurd q c2
            rw [if_neg (ngen (by omega) (by omega) w), bd_s, if_neg (notneg (by have := hg j (by omega); omega)), if_neg z50]
          · rw [if_pos (gen (by omega) (by omega) w)]
        · show M2.1 96 8 = M.1 96 8 + nI (j + 1 - j)
          rw [e28, show j + 1 - j = 1 by omega, n1]
