/-! ===== what the law looks at: places, values ===== -/
/-- 20000000000 and a value -/
def up (y : Int64) : Int64 := 20000000000 + y
/-- numbers of variables that there are not are 0 -/
abbrev ofn (n : Nat) (y w : Int32) : Prop := (n ≤ 1 → y = 0) ∧ (n ≤ 2 → w = 0)
theorem ofn_ofv {n : Nat} (hn : n ≤ 3) {y w : Int32} (h : ofn n y w) : ofv (nI n) y w := by
  constructor
  · rcases Nat.lt_or_ge 1 n with q | q
    · exact Or.inl (ltn (i := 1) (by omega) (by omega) q)
    · exact Or.inr (h.1 q)
  · rcases Nat.lt_or_ge 2 n with q | q
    · exact Or.inl (ltn (i := 2) (by omega) (by omega) q)
    · exact Or.inr (h.2 q)
theorem rg50 {x : Int32} (h : sm 50 x) : rg (-50) 50 x := by
  have m50 : (-50 : Int32).toInt = -50 := by decide
  have p50 : (50 : Int32).toInt = 50 := by decide
  unfold sm at h
  constructor <;> omega
theorem valX {n t d e k : Nat} {M : Mm} (h : JJ n t d e k M) (s : Bool) {x y w : Int32} (hx : sm 50 x) (hy : sm 50 y) (hw : sm 50 w) (ho : ofn n y w) : fX10_value M x y w (if s then 1 else 0) = some (up (vs (zM M) s x y w t)) := by
  have X : fX7_sumAt M x y w (lim s) = _ := sumX h.srt h.1.2.2.1 h.1.1.2.2.1 s x y w
  unfold fX10_value
  rw [fitX, h.1.2.1, if_pos ⟨rg50 hx, rg50 hy, rg50 hw, ofn_ofv h.1.1.2.1 ho⟩, b1_s, i10]
  cases s with
  | false =>
    rw [within_in, show (1 : Int32) = nI 1 from rfl, show (if (false = true) then nI 1 else 0) = nI 0 from rfl, in_n1 (by omega) (by omega), b1_s, i10, bd_s, if_neg (show ¬ nI 0 = nI 1 by decide)]
    dsimp only
    rw [show (4 : Int32) = lim false from rfl, X, b1_s]; rfl
  | true =>
    rw [within_in, show (1 : Int32) = nI 1 from rfl, show (if (true = true) then nI 1 else 0) = nI 1 from rfl, in_n1 (by omega) (by omega), b1_s, i10, bd_s, if_pos (show nI 1 = nI 1 from rfl)]
    dsimp only
    rw [show (2 : Int32) = lim true from rfl, X, b1_s]; rfl
theorem allw_cells {M : Mm} {x y w : Int32} : alw (zM M) x y w ↔ ((M.1 6 0).toInt ≤ x.toInt ∧ x.toInt ≤ (M.1 7 0).toInt) ∧ ((M.1 6 1).toInt ≤ y.toInt ∧ y.toInt ≤ (M.1 7 1).toInt) ∧ ((M.1 6 2).toInt ≤ w.toInt ∧ w.toInt ≤ (M.1 7 2).toInt) := by
  have a := zM_lo M (v := 0) (by omega)
  have b := zM_lo M (v := 1) (by omega)
  have c := zM_lo M (v := 2) (by omega)
  have a1 := zM_hi M (v := 0) (by omega)
  have b1 := zM_hi M (v := 1) (by omega)
  have c1 := zM_hi M (v := 2) (by omega)
  simp only [Nat.add_zero, Nat.reduceAdd] at a b c a1 b1 c1
  unfold alw
  rw [a, b, c, a1, b1, c1]
/-- a step of the law's look: between a lower and an upper bound -/
theorem two_if {α : Type} {x a b : Int32} {p q : α} : (if x < a then q else if b < x then q else p) = if a.toInt ≤ x.toInt ∧ x.toInt ≤ b.toInt then p else q := by
  by_cases h1 : x < a
  · rw [if_pos h1, if_neg]; rw [Int32.lt_iff_toInt_lt] at h1; omega
  · rw [if_neg h1]
    by_cases h2 : b < x
    · rw [if_pos h2, if_neg]; rw [Int32.lt_iff_toInt_lt] at h2; omega
    · rw [if_neg h2, if_pos]; rw [Int32.lt_iff_toInt_lt] at h1 h2; omega
theorem isAllowedL {n t d e k : Nat} {M : Mm} (h : JJ n t d e k M) {x y w : Int32} (ho : ofn n y w) : fL_isAllowed M x y w = some (if alw (zM M) x y w then 1 else 0) := by
  obtain ⟨⟨⟨n1, n3, -⟩, hn, -⟩, -, hb, -⟩ := h
  have z0 : (0 : Int32).toInt = 0 := rfl
  have m50 : (-50 : Int32).toInt = -50 := by decide
  have p50 : (50 : Int32).toInt = 50 := by decide
  have c0 := (cnt_bd hn n3 (v := 0) (by omega))
  have c10 : fX10_count M 10 = some (M.1 6 0) := c0.1
  have c20 : fX10_count M 20 = some (M.1 7 0) := c0.2
  -- the third variable
  have third : ∀ x10 : Int32, (if x10 = 0 then some (0 : Int32) else (if 3 ≤ nI n then b1 (fX10_count M 12) fun x14 => (if w < x14 then some 0 else b1 (fX10_count M 22) fun x17 => (if x17 < w then some 0 else some 1)) else (if w = 0 then some 1 else some 0))) = some (if x10 = 0 then 0 else if (M.1 6 2).toInt ≤ w.toInt ∧ w.toInt ≤ (M.1 7 2).toInt then 1 else 0) := by
    intro x10
    by_cases hx : x10 = 0
    · rw [if_pos hx, if_pos hx]
    · rw [if_neg hx, if_neg hx]
      rcases Nat.lt_or_ge 2 n with q | q
      · obtain ⟨c12, c22⟩ := cnt_bd hn n3 (v := 2) q
        have c12 : fX10_count M 12 = some (M.1 6 2) := c12
        have c22 : fX10_count M 22 = some (M.1 7 2) := c22
        rw [if_pos (show (3 : Int32) ≤ nI n from gen (i := n) (t := 3) (by omega) (by omega) (by omega)), c12, b1_s, c22, b1_s, two_if]
        split <;> rfl
      · obtain ⟨-, -, r⟩ := hb 2 (by omega)
        rw [if_neg (show ¬ (3 : Int32) ≤ nI n from ngen (i := n) (t := 3) (by omega) (by omega) (by omega)), if_pos (ho.2 q), (r q).1, (r q).2.1, ho.2 q, if_pos (by constructor <;> omega)]
  unfold fL_isAllowed
  simp only [bd_s, cnt_0, hn, c10, c20, b1_s]
  simp only [third, if_true]
  rw [two_if]
  simp only [i10, if_true]
  have second : ∀ p : Option Int32, (if (2 : Int32) ≤ nI n then b1 (fX10_count M 11) fun x27 => (if y < x27 then some 0 else b1 (fX10_count M 21) fun x30 => (if x30 < y then some 0 else p)) else (if y = 0 then p else some 0)) = if (M.1 6 1).toInt ≤ y.toInt ∧ y.toInt ≤ (M.1 7 1).toInt then p else some 0 := by
    intro p
    rcases Nat.lt_or_ge 1 n with q | q
    · obtain ⟨c11, c21⟩ := cnt_bd hn n3 (v := 1) q
      have c11 : fX10_count M 11 = some (M.1 6 1) := c11
      have c21 : fX10_count M 21 = some (M.1 7 1) := c21
      rw [if_pos (show (2 : Int32) ≤ nI n from gen (i := n) (t := 2) (by omega) (by omega) (by omega)), c11, b1_s, c21, b1_s, two_if]
    · obtain ⟨-, -, r⟩ := hb 1 (by omega)
      rw [if_neg (show ¬ (2 : Int32) ≤ nI n from ngen (i := n) (t := 2) (by omega) (by omega) (by omega)), if_pos (ho.1 q), (r q).1, (r q).2.1, ho.1 q, if_pos (by constructor <;> omega)]
  rw [second]
  by_cases h1 : (M.1 6 0).toInt ≤ x.toInt ∧ x.toInt ≤ (M.1 7 0).toInt
  · rw [if_pos h1]
    by_cases h2 : (M.1 6 1).toInt ≤ y.toInt ∧ y.toInt ≤ (M.1 7 1).toInt
    · rw [if_pos h2]
      by_cases h3 : (M.1 6 2).toInt ≤ w.toInt ∧ w.toInt ≤ (M.1 7 2).toInt
      · rw [if_pos h3, if_pos (allw_cells.mpr ⟨h1, h2, h3⟩)]
      · rw [if_neg h3, if_neg (fun q => h3 (allw_cells.mp q).2.2)]
    · rw [if_neg h2, if_neg (fun q => h2 (allw_cells.mp q).2.1)]
  · rw [if_neg h1, if_neg (fun q => h1 (allw_cells.mp q).1)]
/-! ===== trials, as the law sees them ===== -/
theorem JJ.alw50 {n t d e k : Nat} {M : Mm} (h : JJ n t d e k M) {x y w : Int32} (a : alw (zM M) x y w) : sm 50 x ∧ sm 50 y ∧ sm 50 w := alw_sm h.srb a
theorem trz_c (M : Mm) (e i : Nat) {v : Nat} (hv : v < 3) : trz (zM M) e i v = M.1 12 v + nI (2 ^ e) * M.1 9 (3 * i + v) := by
  unfold trz; rw [zM_pl M hv, zM_d M i hv]
theorem JJ.pl0 {n t d e k : Nat} {M : Mm} (h : JJ n t d e k M) : ofn n (M.1 12 1) (M.1 12 2) := ⟨fun q => ((h.2.2.1 1 (by omega)).2.2 (by omega)).2.2, fun q => ((h.2.2.1 2 (by omega)).2.2 (by omega)).2.2⟩
theorem JJ.tr0 {n t d e k : Nat} {M : Mm} (h : JJ n t d e k M) (s : Nat) {i : Nat} (hi : i < d) : ofn n (trz (zM M) s i 1) (trz (zM M) s i 2) := by
  have q := (h.2.2.2.2 i hi).1
  refine ⟨fun w => ?_, fun w => ?_⟩
  · rw [trz_c M s i (by omega), h.pl0.1 w, (q 1 (by omega)).2.2 (by omega), Int32.mul_zero, Int32.add_zero]
  · rw [trz_c M s i (by omega), h.pl0.2 w, (q 2 (by omega)).2.2 (by omega), Int32.mul_zero, Int32.add_zero]
theorem atL {n t d e k : Nat} {M : Mm} (h : JJ n t d e k M) {i v : Nat} (hi : i < d) (hv : v < 3) : fL_at M (nI i) (nI v) = some (trz (zM M) e i v) := by
  unfold fL_at
  rw [so_v M hv, b1_s, so_3, b1_s, di_v h.1.2.2.2.1 h.1.1.2.2.2.1 hi hv, b1_s, h.1.2.2.2.2.1, trz_c M e i hv]
theorem canTryL {n t d e k : Nat} {M : Mm} (h : JJ n t d e k M) {i : Nat} (hi : i < d) : fL_canTry M (nI i) = some (if okz (zM M) e i then 1 else 0) := by
  have a0 : fL_at M (nI i) 0 = _ := atL h hi (v := 0) (by omega)
  have a1 : fL_at M (nI i) 1 = _ := atL h hi (v := 1) (by omega)
  have a2 : fL_at M (nI i) 2 = _ := atL h hi (v := 2) (by omega)
  unfold fL_canTry
  rw [a0, b1_s, a1, b1_s, a2, b1_s, isAllowedL h (h.tr0 e hi), b1_s, gd_t (bit_g _)]
theorem PA.sm50 {n t d e k : Nat} {M : Mm} (h : JJ n t d e k M) (p : PA M) : sm 50 (M.1 12 0) ∧ sm 50 (M.1 12 1) ∧ sm 50 (M.1 12 2) := by
  have q : ∀ v, v < 3 → sm 50 (M.1 12 v) := fun v hv => by
    have a := h.2.2.1 v hv
    have b := p v hv
    unfold sm; omega
  exact ⟨q 0 (by omega), q 1 (by omega), q 2 (by omega)⟩
/-- the value of the place -/
def vh (M : Mm) (t : Nat) : Int64 := vs (zM M) false (M.1 12 0) (M.1 12 1) (M.1 12 2) t
theorem vh_z (M : Mm) (t : Nat) : vs (zM M) false (zM M 18) (zM M 19) (zM M 20) t = vh M t := rfl
theorem hereL {n t d e k : Nat} {M : Mm} (h : JJ n t d e k M) (p : PA M) : fL_here M = some (up (vh M t)) := by
  obtain ⟨a, b, c⟩ := p.sm50 h
  have v : fX10_value M (M.1 12 0) (M.1 12 1) (M.1 12 2) 0 = _ := valX h false a b c h.pl0
  unfold fL_here
  rw [so_0, b1_s, so_1, b1_s, so_2, b1_s, v, b1_s]; rfl
/-- the simpler value at a trial -/
def vtz (z : Nat → Int32) (s : Bool) (e t i : Nat) : Int64 := vs z s (trz z e i 0) (trz z e i 1) (trz z e i 2) t
theorem thereL {n t d e k : Nat} {M : Mm} (h : JJ n t d e k M) (s : Bool) {i : Nat} (hi : i < d) (ok : okz (zM M) e i) : fL_there M (nI i) (if s then 1 else 0) = some (up (vtz (zM M) s e t i)) := by
  have a0 : fL_at M (nI i) 0 = _ := atL h hi (v := 0) (by omega)
  have a1 : fL_at M (nI i) 1 = _ := atL h hi (v := 1) (by omega)
  have a2 : fL_at M (nI i) 2 = _ := atL h hi (v := 2) (by omega)
  obtain ⟨q0, q1, q2⟩ := h.alw50 ok
  unfold fL_there
  rw [a0, b1_s, a1, b1_s, a2, b1_s, valX h s q0 q1 q2 (h.tr0 e hi), b1_s]; rfl
theorem there0L {n t d e k : Nat} {M : Mm} (h : JJ n t d e k M) {i : Nat} (hi : i < d) (ok : okz (zM M) e i) : fL_there M (nI i) 0 = some (up (vlz (zM M) e t i)) := thereL h false hi ok
theorem there1L {n t d e k : Nat} {M : Mm} (h : JJ n t d e k M) {i : Nat} (hi : i < d) (ok : okz (zM M) e i) : fL_there M (nI i) 1 = some (up (vtz (zM M) true e t i)) := thereL h true hi ok
theorem vsb {z : Nat → Int32} {t : Nat} (s : Bool) (ht : ∀ i, i < t → tOK z i) (lt : t ≤ 10) {x y w : Int32} (hx : sm 50 x) (hy : sm 50 y) (hw : sm 50 w) : ∀ u, u ≤ t → sl (u * 618750000) (vs z s x y w u) := by
  intro u
  induction u with
  | zero => intro _; unfold vs sl; decide
  | succ u ih =>
    intro hu
    unfold vs
    rw [Nat.succ_mul]
    by_cases c : s = true ∧ 2 < ix (z (21 + 4 * u + 1)) + ix (z (21 + 4 * u + 2)) + ix (z (21 + 4 * u + 3))
    · rw [if_pos c]
      have q := sl_add (ih (by omega)) (show sl 618750000 (0 : Int64) by unfold sl; decide) (by omega)
      exact q
    · rw [if_neg c]
      exact sl_add (ih (by omega)) (tv_b (ht u (by omega)) hx hy hw) (by omega)
/-- a value that is in bounds -/
abbrev vok (y : Int64) : Prop := sl 6187500000 y
theorem vs_ok {n t d e k : Nat} {M : Mm} (h : JJ n t d e k M) (s : Bool) {x y w : Int32} (hx : sm 50 x) (hy : sm 50 y) (hw : sm 50 w) : vok (vs (zM M) s x y w t) := by
  have lt := h.1.1.2.2.1
  exact Nat.le_trans (vsb s h.tok lt hx hy hw t (Nat.le_refl _)) (by omega)
theorem vtz_ok {n t d e k : Nat} {M : Mm} (h : JJ n t d e k M) (s : Bool) {f i : Nat} (ok : okz (zM M) f i) : vok (vtz (zM M) s f t i) := by
  obtain ⟨q0, q1, q2⟩ := h.alw50 ok
  exact vs_ok h s q0 q1 q2
theorem vlz_ok {n t d e k : Nat} {M : Mm} (h : JJ n t d e k M) {f i : Nat} (ok : okz (zM M) f i) : vok (vlz (zM M) f t i) := vtz_ok h false ok
theorem vh_ok {n t d e k : Nat} {M : Mm} (h : JJ n t d e k M) (p : PA M) : vok (vh M t) := by
  obtain ⟨a, b, c⟩ := p.sm50 h
  exact vs_ok h false a b c
theorem up_int {y : Int64} (h : vok y) : (up y).toInt = 20000000000 + y.toInt := by
  unfold vok sl at h
  unfold up
  rw [Int64.toInt_add, show (20000000000 : Int64).toInt = 20000000000 by decide, Int.bmod_eq_of_le (by omega) (by omega)]
theorem up_lt {x y : Int64} (hx : vok x) (hy : vok y) : up x < up y ↔ x < y := by
  rw [Int64.lt_iff_toInt_lt, Int64.lt_iff_toInt_lt, up_int hx, up_int hy]; omega
theorem up_eq {x y : Int64} (hx : vok x) (hy : vok y) : up x = up y ↔ x = y := by
  rw [← Int64.toInt_inj, ← Int64.toInt_inj, up_int hx, up_int hy]; omega
theorem up_cmp {x y : Int64} (hx : vok x) (hy : vok y) : lg_cmp (up x) (up y) = lg_cmp x y := by
  unfold lg_cmp
  by_cases h1 : y < x
  · rw [if_pos ((up_lt hy hx).mpr h1), if_pos h1]
  · rw [if_neg (fun q => h1 ((up_lt hy hx).mp q)), if_neg h1]
    by_cases h2 : x = y
    · rw [if_pos h2, if_pos (by rw [h2])]
    · rw [if_neg h2, if_neg (fun q => h2 ((up_eq hx hy).mp q))]
