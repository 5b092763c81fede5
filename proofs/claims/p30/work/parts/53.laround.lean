/-! ===== the law's best place around ===== -/
def RL4 (q : Int64 × Int32 × Int32 × Int32) (s : Bst) : Prop := match s with
  | none => q.1 = 40000000000
  | some r => q.1 = up r.1 ∧ vok r.1 ∧ q.2.1 = r.2.1 ∧ q.2.2.1 = r.2.2.1 ∧ q.2.2.2 = r.2.2.2
theorem arStep {n t d e k : Nat} {M : Mm} (h : JJ n t d e k M) {s : Bst} {y : Int64} {x1 x2 x3 : Int32} (hs : RL4 (y, x1, x2, x3) s) {wz i : Nat} (hz : wz < 4) (hi : i ≤ 2 * wz) {a b : Int32} (hb : n ≤ 1 → b = 0) (hc : n ≤ 2 → ofs wz i = 0) : ∃ y' x1' x2' x3', fL_around_L76 (nI wz) M (nI (2 ^ e)) a b (y, x1, x2, x3, ofs wz i) = some (.inl (y', x1', x2', x3', ofs wz (i + 1))) ∧ RL4 (y', x1', x2', x3') (stA (zM M) e t s a b (ofs wz i)) := by
  obtain ⟨p, ep⟩ : ∃ p, p = M.1 12 0 + nI (2 ^ e) * a := ⟨_, rfl⟩
  obtain ⟨q, eq⟩ : ∃ q, q = M.1 12 1 + nI (2 ^ e) * b := ⟨_, rfl⟩
  obtain ⟨w, ew⟩ : ∃ w, w = M.1 12 2 + nI (2 ^ e) * ofs wz i := ⟨_, rfl⟩
  have ho : ofn n q w := ⟨fun c => by rw [eq, h.pl0.1 c, hb c, Int32.mul_zero, Int32.add_zero], fun c => by rw [ew, h.pl0.2 c, hc c, Int32.mul_zero, Int32.add_zero]⟩
  unfold stA
  rw [show zM M 18 = M.1 12 0 from rfl, show zM M 19 = M.1 12 1 from rfl, show zM M 20 = M.1 12 2 from rfl, ← ep, ← eq, ← ew]
  obtain ⟨v, ev⟩ : ∃ v, v = vs (zM M) false p q w t := ⟨_, rfl⟩
  rw [← ev]
  have pre : fL_around_L76 (nI wz) M (nI (2 ^ e)) a b (y, x1, x2, x3, ofs wz i) = b1 (fL_isAllowed M p q w) fun x44 => bd (fun (y47 : Int64) (x48 : Int32) (x49 : Int32) (x50 : Int32) => some (Sum.inl (y47, x48, x49, x50, ofs wz (i + 1)))) fun k45 => (if x44 = 0 then k45 y x1 x2 x3 else b1 (fX10_value M p q w 0) fun y54 => (if 0 ≤ (lg_cmp y54 y) then k45 y x1 x2 x3 else b1 (fX10_value M p q w 0) fun y57 => k45 y57 p q w)) := by
    unfold fL_around_L76 u5
    dsimp only
    rw [if_neg (fun w => by have := (ofs_lt wz hz _ (by omega)).mp w; omega), so_0, b1_s, so_1, so_2]
    simp only [b1_s]
    rw [← ep, ← eq, ← ew, bd_s, bd_s, bd_s, ofs_1]
    rfl
  rw [pre, isAllowedL h ho, b1_s, bd_s]
  by_cases hal : alw (zM M) p q w
  case neg =>
    rw [if_neg hal, if_pos rfl, if_neg hal]
    exact ⟨y, x1, x2, x3, rfl, hs⟩
  obtain ⟨sp, sq, sw⟩ := h.alw50 hal
  have hv : fX10_value M p q w 0 = some (up v) := by rw [ev]; exact valX h false sp sq sw ho
  have okv : vok v := by rw [ev]; exact vs_ok h false sp sq sw
  rw [if_pos hal, if_neg (show ¬ (1 : Int32) = 0 by decide), if_pos hal, hv, b1_s, b1_s]
  cases s with
  | none =>
    have hs : y = 40000000000 := hs
    have nc : ¬ 0 ≤ lg_cmp (up v) y := fun c => by
      have c := Int64.le_iff_toInt_le.mp ((lg_cmp_ge _ _).mp c)
      rw [hs, up_int okv, show (40000000000 : Int64).toInt = 40000000000 by decide] at c
      unfold vok sl at okv
      omega
    rw [if_neg nc]
    exact ⟨up v, p, q, w, rfl, rfl, okv, rfl, rfl, rfl⟩
  | some r =>
    have hs : y = up r.1 ∧ vok r.1 ∧ x1 = r.2.1 ∧ x2 = r.2.2.1 ∧ x3 = r.2.2.2 := hs
    rw [hs.1, up_cmp okv hs.2.1]
    by_cases c1 : 0 ≤ lg_cmp v r.1
    · rw [if_pos c1]
      refine ⟨up r.1, x1, x2, x3, rfl, ?_⟩
      show RL4 _ (if 0 ≤ lg_cmp v r.1 then some r else some (v, p, q, w))
      rw [if_pos c1]; exact ⟨rfl, hs.2⟩
    · rw [if_neg c1]
      refine ⟨up v, p, q, w, rfl, ?_⟩
      show RL4 _ (if 0 ≤ lg_cmp v r.1 then some r else some (v, p, q, w))
      rw [if_neg c1]; exact ⟨rfl, okv, rfl, rfl, rfl⟩
theorem ar3 {n t d e k : Nat} {M : Mm} (h : JJ n t d e k M) {s : Bst} {q0 : Int64 × Int32 × Int32 × Int32} (hs : RL4 q0 s) {w : Nat} (hw : w < 4) {a b : Int32} (hb : n ≤ 1 → b = 0) : ∃ q, itr (fL_around_L76 (nI (wd n 2 w)) M (nI (2 ^ e)) a b) 1000 (q0.1, q0.2.1, q0.2.2.1, q0.2.2.2, -(nI (wd n 2 w))) = some q ∧ RL4 q (F3 (stA (zM M) e t) (wd n 2 w) a b s (2 * wd n 2 w + 1)) := by
  have hz : wd n 2 w < 4 := by unfold wd; by_cases c : n ≤ 2 <;> simp [c] <;> omega
  refine itr_0 (body := fL_around_L76 (nI (wd n 2 w)) M (nI (2 ^ e)) a b) (fun i q => q.2.2.2.2 = ofs (wd n 2 w) i ∧ RL4 (q.1, q.2.1, q.2.2.1, q.2.2.2.1) (F3 (stA (zM M) e t) (wd n 2 w) a b s i)) (fun q => RL4 q (F3 (stA (zM M) e t) (wd n 2 w) a b s (2 * wd n 2 w + 1))) (2 * wd n 2 w + 1) (by omega) ⟨ofs_0 _, hs⟩ ?_
  rintro i ⟨y, x1, x2, x3, o⟩ hi ⟨rfl, q1⟩
  rcases Nat.lt_or_ge (2 * wd n 2 w) i with hl | hl
  · right
    obtain rfl : i = 2 * wd n 2 w + 1 := by omega
    refine ⟨(y, x1, x2, x3), ?_, q1⟩
    unfold fL_around_L76 u5
    dsimp only
    rw [if_pos ((ofs_lt _ hz _ (by omega)).mpr hl)]
  · left
    obtain ⟨y', x1', x2', x3', f, r⟩ := arStep (e := e) h q1 hz hl (a := a) hb (fun c => by
      have : wd n 2 w = 0 := by unfold wd; rw [if_pos c]
      rw [this] at hl ⊢
      rw [show i = 0 by omega]; decide)
    exact ⟨_, f, by omega, rfl, r⟩
theorem ar2 {n t d e k : Nat} {M : Mm} (h : JJ n t d e k M) {s : Bst} {q0 : Int64 × Int32 × Int32 × Int32} (hs : RL4 q0 s) {w : Nat} (hw : w < 4) {a : Int32} : ∃ q, itr (fL_around_L65 (nI (wd n 1 w)) (nI (wd n 2 w)) M (nI (2 ^ e)) a) 1000 (q0.1, q0.2.1, q0.2.2.1, q0.2.2.2, -(nI (wd n 1 w))) = some q ∧ RL4 q (F2 (stA (zM M) e t) (wd n 1 w) (wd n 2 w) a s (2 * wd n 1 w + 1)) := by
  have hz : wd n 1 w < 4 := by unfold wd; by_cases c : n ≤ 1 <;> simp [c] <;> omega
  refine itr_0 (body := fL_around_L65 (nI (wd n 1 w)) (nI (wd n 2 w)) M (nI (2 ^ e)) a) (fun i q => q.2.2.2.2 = ofs (wd n 1 w) i ∧ RL4 (q.1, q.2.1, q.2.2.1, q.2.2.2.1) (F2 (stA (zM M) e t) (wd n 1 w) (wd n 2 w) a s i)) (fun q => RL4 q (F2 (stA (zM M) e t) (wd n 1 w) (wd n 2 w) a s (2 * wd n 1 w + 1))) (2 * wd n 1 w + 1) (by omega) ⟨ofs_0 _, hs⟩ ?_
  rintro i ⟨y, x1, x2, x3, o⟩ hi ⟨rfl, q1⟩
  rcases Nat.lt_or_ge (2 * wd n 1 w) i with hl | hl
  · right
    obtain rfl : i = 2 * wd n 1 w + 1 := by omega
    refine ⟨(y, x1, x2, x3), ?_, q1⟩
    unfold fL_around_L65 u5
    dsimp only
    rw [if_pos ((ofs_lt _ hz _ (by omega)).mpr hl)]
  · left
    obtain ⟨q, f, r⟩ := ar3 (e := e) h q1 hw (a := a) (b := ofs (wd n 1 w) i) (fun c => by
      have : wd n 1 w = 0 := by unfold wd; rw [if_pos c]
      rw [this] at hl ⊢
      rw [show i = 0 by omega]; decide)
    obtain ⟨y', x1', x2', x3'⟩ := q
    refine ⟨(y', x1', x2', x3', ofs (wd n 1 w) (i + 1)), ?_, by omega, rfl, r⟩
    unfold fL_around_L65 u5
    dsimp only
    rw [if_neg (fun c => by have := (ofs_lt _ hz _ (by omega)).mp c; omega), bd_s, f]
    unfold b4
    dsimp only [Option.bind]
    rw [ofs_1, bd_s]
theorem ar1 {n t d e k : Nat} {M : Mm} (h : JJ n t d e k M) {s : Bst} {q0 : Int64 × Int32 × Int32 × Int32} (hs : RL4 q0 s) {w : Nat} (hw : w < 4) : ∃ y x1 x2 x3, itr (fL_around_L55 (nI w) (nI (wd n 1 w)) (nI (wd n 2 w)) M (nI (2 ^ e))) 1000 (q0.1, q0.2.1, q0.2.2.1, q0.2.2.2, -(nI w)) = some (x1, x2, x3) ∧ RL4 (y, x1, x2, x3) (F1 (stA (zM M) e t) w (wd n 1 w) (wd n 2 w) s (2 * w + 1)) := by
  obtain ⟨⟨x1, x2, x3⟩, f, y, r⟩ := itr_0 (body := fL_around_L55 (nI w) (nI (wd n 1 w)) (nI (wd n 2 w)) M (nI (2 ^ e))) (s := (q0.1, q0.2.1, q0.2.2.1, q0.2.2.2, -(nI w))) (fun i q => q.2.2.2.2 = ofs w i ∧ RL4 (q.1, q.2.1, q.2.2.1, q.2.2.2.1) (F1 (stA (zM M) e t) w (wd n 1 w) (wd n 2 w) s i)) (fun q => ∃ y, RL4 (y, q) (F1 (stA (zM M) e t) w (wd n 1 w) (wd n 2 w) s (2 * w + 1))) (2 * w + 1) (by omega) ⟨ofs_0 _, hs⟩ (by
    rintro i ⟨y, x1, x2, x3, o⟩ hi ⟨rfl, q1⟩
    rcases Nat.lt_or_ge (2 * w) i with hl | hl
    · right
      obtain rfl : i = 2 * w + 1 := by omega
      refine ⟨(x1, x2, x3), ?_, y, q1⟩
      unfold fL_around_L55 u5
      dsimp only
      rw [if_pos ((ofs_lt _ hw _ (by omega)).mpr hl)]
    · left
      obtain ⟨q, f, r⟩ := ar2 (e := e) h q1 hw (a := ofs w i)
      obtain ⟨y', x1', x2', x3'⟩ := q
      refine ⟨(y', x1', x2', x3', ofs w (i + 1)), ?_, by omega, rfl, r⟩
      unfold fL_around_L55 u5
      dsimp only
      rw [if_neg (fun c => by have := (ofs_lt _ hw _ (by omega)).mp c; omega), bd_s, f]
      unfold b4
      dsimp only [Option.bind]
      rw [ofs_1, bd_s])
  exact ⟨y, x1, x2, x3, f, r⟩
/-- the best place, as the class' state tells it -/
def bestF (n t e w : Nat) (M : Mm) : Bst := F1 (stA (zM M) e t) w (wd n 1 w) (wd n 2 w) none (2 * w + 1)
theorem best_some {n t d e k : Nat} {M : Mm} (h : JJ n t d e k M) (p : PA M) {w : Nat} (hw : w < 4) : ∃ r, bestF n t e w M = some r := by
  have hwd : ∀ k, wd n k w < 4 := fun k => by unfold wd; by_cases c : n ≤ k <;> simp [c] <;> omega
  have mono : ∀ s a b c, s.isSome = true → (stA (zM M) e t s a b c).isSome = true := fun s a b c hs => by
    unfold stA
    split
    · cases s with
      | none => exact absurd hs (by decide)
      | some r =>
        dsimp only
        split <;> rfl
    · exact hs
  have mid : ∀ s, (stA (zM M) e t s 0 0 0).isSome = true := fun s => by
    unfold stA
    rw [Int32.mul_zero, Int32.add_zero, Int32.add_zero, Int32.add_zero, if_pos (pa_alw.mp p)]
    cases s with
    | none => rfl
    | some r =>
      dsimp only
      split <;> rfl
  exact Option.isSome_iff_exists.mp (F1_some (s := none) mono mid (wx := w) hw (hwd 1) (hwd 2))
theorem aroundX {n t d e k : Nat} {M : Mm} (h : JJ n t d e k M) (p : PA M) {w : Nat} (hw : w < 4) {r : Int64 × Int32 × Int32 × Int32} (hr : bestF n t e w M = some r) : (∃ M', fX10_around M (nI w) 0 = some (r.2.1, M') ∧ Vw M M') ∧ (∃ M', fX10_around M (nI w) 1 = some (r.2.2.1, M') ∧ Vw M M') ∧ ∃ M', fX10_around M (nI w) 2 = some (r.2.2.2, M') ∧ Vw M M' := by
  obtain ⟨A, fa, ra, oa⟩ := bestX h.cx h.1.2.2.2.2.1 h.1.2.1 (by have := h.1.1.2.1; omega) (w := w) hw
  have ra : RA A (bestF n t e w M) := ra
  rw [hr] at ra
  obtain ⟨-, x0, x1, x2⟩ := ra
  have vw : Vw M A := fun c j q => oa c j (by omega)
  have go : ∀ v, v < 3 → fX10_around M (nI w) (nI v) = some (A.1 91 v, A) := fun v hv => by
    unfold fX10_around
    rw [within_in, show (3 : Int32) = nI 3 from rfl, in_n1 (by omega) (by omega), b1_s, i10, show (2 : Int32) = nI 2 from rfl, in_n1 (by omega) (by omega), b1_s, i10, hereP h p, b1_s, i10, fa, b1_s, gd_t (inbn (by omega) (by omega)), ixn (by omega)]
  exact ⟨⟨A, (go 0 (by omega)).trans (by rw [x0]), vw⟩, ⟨A, (go 1 (by omega)).trans (by rw [x1]), vw⟩, ⟨A, (go 2 (by omega)).trans (by rw [x2]), vw⟩⟩
theorem best_lo {M M' : Mm} (l : Lo M M') (n t e w : Nat) : bestF n t e w M' = bestF n t e w M := by
  unfold bestF; rw [zM_low l]
theorem wdS {n : Nat} (hn : n ≤ 3) (k w : Nat) (hk : k ≤ 2) : (if nI n ≤ nI k then (0 : Int32) else nI w) = nI (wd n k w) := by
  unfold wd
  by_cases c : n ≤ k
  · rw [if_pos ((nle (by omega) (by omega)).mpr c), if_pos c]; rfl
  · rw [if_neg (fun q => c ((nle (by omega) (by omega)).mp q)), if_neg c]
theorem aroundL {n t d e k : Nat} {M : Mm} (h : JJ n t d e k M) (p : PA M) {w : Nat} (hw : w < 4) : ∃ M', fL_around M (nI w) = some (1, M') ∧ Vw M M' := by
  have l3 := h.1.1.2.1
  obtain ⟨r, hr⟩ := best_some h p hw
  obtain ⟨y, x1, x2, x3, f, rl⟩ := ar1 (e := e) h (s := none) (q0 := (40000000000, 0, 0, 0)) rfl hw
  have rl : RL4 (y, x1, x2, x3) (bestF n t e w M) := rl
  rw [hr] at rl
  obtain ⟨-, -, r1, r2, r3⟩ := rl
  obtain ⟨⟨A1, g1, v1⟩, -, -⟩ := aroundX h p hw hr
  obtain ⟨-, ⟨A2, g2, v2⟩, -⟩ := aroundX (h.vw v1) (p.vw v1) hw (by rw [best_lo v1.lo]; exact hr)
  obtain ⟨-, -, A3, g3, v3⟩ := aroundX (h.vw (v1.tr v2)) (p.vw (v1.tr v2)) hw (by rw [best_lo (v1.tr v2).lo]; exact hr)
  refine ⟨A3, ?_, (v1.tr v2).tr v3⟩
  have f : itr (fL_around_L55 (nI w) (nI (wd n 1 w)) (nI (wd n 2 w)) M (nI (2 ^ e))) 1000 (40000000000, 0, 0, 0, -(nI w)) = some (x1, x2, x3) := f
  unfold fL_around
  rw [so_3, b1_s, cnt_0, b1_s, h.1.2.1, h.1.2.2.2.2.1, show (1 : Int32) = nI 1 from rfl, bd_01, wdS l3 1 w (by omega), b1_s, show (2 : Int32) = nI 2 from rfl, bd_01, wdS l3 2 w (by omega)]
  try dsimp only
  rw [bd_s, f, b3_s, g1, b2_s, if_pos r1.symm, show nI 1 = (1 : Int32) from rfl, g2, b2_s, if_pos r2.symm, show nI 2 = (2 : Int32) from rfl, g3, b2_s, if_pos r3.symm]
