/-! ===== the best place around ===== -/
/-! ===== around ===== -/
def sl (B : Nat) (x : Int64) : Prop := x.toInt.natAbs ≤ B
theorem sl_mul {A B : Nat} {x y : Int64} (ha : sl A x) (hb : sl B y) (h : A * B < 9223372036854775808) : sl (A * B) (x * y) := by
  unfold sl at *
  have e : (x.toInt * y.toInt).natAbs ≤ A * B := by rw [Int.natAbs_mul]; exact Nat.mul_le_mul ha hb
  rw [Int64.toInt_mul, Int.bmod_eq_of_le (by omega) (by omega)]; exact e
theorem sl_add {A B : Nat} {x y : Int64} (ha : sl A x) (hb : sl B y) (h : A + B < 9223372036854775808) : sl (A + B) (x + y) := by
  unfold sl at *
  rw [Int64.toInt_add, Int.bmod_eq_of_le (by omega) (by omega)]; omega
theorem sl_ext {A : Nat} {x : Int32} (h : sm A x) : sl A x.toInt64 := by
  unfold sl sm at *
  rw [Int32.toInt_toInt64]; exact h
theorem pw_b {x : Int32} (hx : sm 50 x) : ∀ p, p ≤ 4 → sl (50 ^ p) (pw x p) := by
  intro p
  induction p with
  | zero => intro _; unfold pw sl; decide
  | succ p ih =>
    intro hp
    have := ih (by omega)
    unfold pw
    rw [Nat.pow_succ]
    refine sl_mul this (sl_ext hx) ?_
    rw [← Nat.pow_succ]
    exact Nat.lt_of_le_of_lt (Nat.pow_le_pow_right (by omega) hp) (by decide)
theorem tv_b {z : Nat → Int32} {i : Nat} (h : tOK z i) {x y w : Int32} (hx : sm 50 x) (hy : sm 50 y) (hw : sm 50 w) : sl 618750000 (tv z x y w i) := by
  obtain ⟨hc, p, q, r, hs, e1, e2, e3⟩ := h
  unfold tv
  rw [e1, e2, e3, ixn (by omega), ixn (by omega), ixn (by omega)]
  have c0 : sl 99 (z (21 + 4 * i)).toInt64 := sl_ext (by unfold sm; omega)
  have P : ∀ k, k ≤ 4 → 99 * 50 ^ k ≤ 618750000 := fun k hk => Nat.le_trans (Nat.mul_le_mul_left 99 (Nat.pow_le_pow_right (by omega) hk)) (by decide)
  have s1 := sl_mul c0 (pw_b hx p (by omega)) (Nat.lt_of_le_of_lt (P p (by omega)) (by decide))
  have s2 := sl_mul s1 (pw_b hy q (by omega)) (by rw [Nat.mul_assoc, ← Nat.pow_add]; exact Nat.lt_of_le_of_lt (P (p + q) (by omega)) (by decide))
  have s3 := sl_mul s2 (pw_b hw r (by omega)) (by rw [Nat.mul_assoc 99, ← Nat.pow_add, Nat.mul_assoc, ← Nat.pow_add]; exact Nat.lt_of_le_of_lt (P (p + q + r) (by omega)) (by decide))
  refine Nat.le_trans s3 ?_
  rw [Nat.mul_assoc 99, ← Nat.pow_add, Nat.mul_assoc, ← Nat.pow_add]
  exact P (p + q + r) (by omega)
theorem vs_b {z : Nat → Int32} {t : Nat} (ht : ∀ i, i < t → tOK z i) (lt : t ≤ 10) {x y w : Int32} (hx : sm 50 x) (hy : sm 50 y) (hw : sm 50 w) : ∀ u, u ≤ t → sl (u * 618750000) (vs z false x y w u) := by
  intro u
  induction u with
  | zero => intro _; unfold vs sl; decide
  | succ u ih =>
    intro hu
    unfold vs
    rw [if_neg (fun q => absurd q.1 (by decide)), Nat.succ_mul]
    exact sl_add (ih (by omega)) (tv_b (ht u (by omega)) hx hy hw) (by omega)
/-- an offset of a cube -/
def ofs (w i : Nat) : Int32 := -(nI w) + nI i
theorem ofs_0 (w : Nat) : -(nI w) = ofs w 0 := by unfold ofs; rw [n0, Int32.add_zero]
theorem ofs_1 (w i : Nat) : ofs w i + 1 = ofs w (i + 1) := by unfold ofs; rw [Int32.add_assoc, nI_1]
theorem ofs_w : ∀ w, w < 4 → ofs w w = 0 := by decide +kernel
theorem ofs_lt : ∀ w, w < 4 → ∀ i, i < 8 → (nI w < ofs w i ↔ 2 * w < i) := by decide +kernel
/-- the best place so far -/
abbrev Bst := Option (Int64 × Int32 × Int32 × Int32)
def stA (z : Nat → Int32) (e t : Nat) (s : Bst) (a b c : Int32) : Bst :=
  if alw z (z 18 + nI (2 ^ e) * a) (z 19 + nI (2 ^ e) * b) (z 20 + nI (2 ^ e) * c) then
    match s with
    | none => some (vs z false (z 18 + nI (2 ^ e) * a) (z 19 + nI (2 ^ e) * b) (z 20 + nI (2 ^ e) * c) t, z 18 + nI (2 ^ e) * a, z 19 + nI (2 ^ e) * b, z 20 + nI (2 ^ e) * c)
    | some q => if 0 ≤ lg_cmp (vs z false (z 18 + nI (2 ^ e) * a) (z 19 + nI (2 ^ e) * b) (z 20 + nI (2 ^ e) * c) t) q.1 then some q else some (vs z false (z 18 + nI (2 ^ e) * a) (z 19 + nI (2 ^ e) * b) (z 20 + nI (2 ^ e) * c) t, z 18 + nI (2 ^ e) * a, z 19 + nI (2 ^ e) * b, z 20 + nI (2 ^ e) * c)
  else s
def F3 (f : Bst → Int32 → Int32 → Int32 → Bst) (wz : Nat) (a b : Int32) (s : Bst) : Nat → Bst
  | 0 => s
  | i + 1 => f (F3 f wz a b s i) a b (ofs wz i)
def F2 (f : Bst → Int32 → Int32 → Int32 → Bst) (wy wz : Nat) (a : Int32) (s : Bst) : Nat → Bst
  | 0 => s
  | i + 1 => F3 f wz a (ofs wy i) (F2 f wy wz a s i) (2 * wz + 1)
def F1 (f : Bst → Int32 → Int32 → Int32 → Bst) (wx wy wz : Nat) (s : Bst) : Nat → Bst
  | 0 => s
  | i + 1 => F2 f wy wz (ofs wx i) (F1 f wx wy wz s i) (2 * wy + 1)
theorem F3_some {f : Bst → Int32 → Int32 → Int32 → Bst} (hf : ∀ s a b c, s.isSome = true → (f s a b c).isSome = true) {wz : Nat} {a b : Int32} {s : Bst} (hs : s.isSome = true) : ∀ i, (F3 f wz a b s i).isSome = true := by
  intro i
  induction i with
  | zero => exact hs
  | succ i ih => exact hf _ _ _ _ ih
theorem F2_some {f : Bst → Int32 → Int32 → Int32 → Bst} (hf : ∀ s a b c, s.isSome = true → (f s a b c).isSome = true) {wy wz : Nat} {a : Int32} {s : Bst} (hs : s.isSome = true) : ∀ i, (F2 f wy wz a s i).isSome = true := by
  intro i
  induction i with
  | zero => exact hs
  | succ i ih => exact F3_some hf ih _
/-- the middle of the cube is met -/
theorem F1_some {f : Bst → Int32 → Int32 → Int32 → Bst} (hf : ∀ s a b c, s.isSome = true → (f s a b c).isSome = true) (h0 : ∀ s, (f s 0 0 0).isSome = true) {wx wy wz : Nat} (hx : wx < 4) (hy : wy < 4) (hz : wz < 4) {s : Bst} : (F1 f wx wy wz s (2 * wx + 1)).isSome = true := by
  have m3 : ∀ s, (F3 f wz 0 0 s (2 * wz + 1)).isSome = true := fun s => by
    have : ∀ k, (F3 f wz 0 0 s (wz + 1 + k)).isSome = true := by
      intro k
      induction k with
      | zero => show (f _ 0 0 (ofs wz wz)).isSome = true; rw [ofs_w wz hz]; exact h0 _
      | succ k ih => exact hf _ _ _ _ ih
    have q := this wz
    rwa [show wz + 1 + wz = 2 * wz + 1 by omega] at q
  have m2 : ∀ s, (F2 f wy wz 0 s (2 * wy + 1)).isSome = true := fun s => by
    have : ∀ k, (F2 f wy wz 0 s (wy + 1 + k)).isSome = true := by
      intro k
      induction k with
      | zero => show (F3 f wz 0 (ofs wy wy) _ _).isSome = true; rw [ofs_w wy hy]; exact m3 _
      | succ k ih => exact F3_some hf ih _
    have q := this wy
    rwa [show wy + 1 + wy = 2 * wy + 1 by omega] at q
  have : ∀ k, (F1 f wx wy wz s (wx + 1 + k)).isSome = true := by
    intro k
    induction k with
    | zero => show (F2 f wy wz (ofs wx wx) _ _).isSome = true; rw [ofs_w wx hx]; exact m2 _
    | succ k ih => exact F2_some hf ih _
  have q := this wx
  rwa [show wx + 1 + wx = 2 * wx + 1 by omega] at q
/-- the class' and the reference's way to keep the best place -/
def RA (A : Mm) (s : Bst) : Prop := match s with
  | none => A.2 90 1 = 20000000000
  | some q => A.2 90 1 = q.1 ∧ A.1 91 0 = q.2.1 ∧ A.1 91 1 = q.2.2.1 ∧ A.1 91 2 = q.2.2.2
theorem alw_sm {s : Nat → Nat → Int32} {z : Nat → Int32} (hb : SRb s z) {x y w : Int32} (h : alw z x y w) : sm 50 x ∧ sm 50 y ∧ sm 50 w := by
  obtain ⟨⟨a1, a2⟩, ⟨b1, b2⟩, c1, c2⟩ := h
  have q0 := (hb 0 (by omega)).2.2.2
  have q1 := (hb 1 (by omega)).2.2.2
  have q2 := (hb 2 (by omega)).2.2.2
  unfold sm
  simp only [Nat.add_zero, Nat.reduceAdd] at q0 q1 q2
  exact ⟨by omega, by omega, by omega⟩
theorem considerX {n t d e : Nat} {A M : Mm} {z : Nat → Int32} (hC : CX n t d M z) (h11 : M.1 11 1 = nI (2 ^ e)) (fr : ∀ c j, c ≠ 91 → A.1 c j = M.1 c j) {s : Bst} (hs : RA A s) (a b c : Int32) : ∃ A', fX3_consider A a b c = some A' ∧ RA A' (stA z e t s a b c) ∧ ∀ c j, c ≠ 91 → A'.1 c j = M.1 c j := by
  have hA : CX n t d A z := hC.cong (fun c j h => fr c j (by omega))
  obtain ⟨⟨lt, ld⟩, a20, -, -, -, hb, ht, -⟩ := hA
  have q0 : A.1 12 0 = z 18 := (hb 0 (by omega)).2.2.1
  have q1 : A.1 12 1 = z 19 := (hb 1 (by omega)).2.2.1
  have q2 : A.1 12 2 = z 20 := (hb 2 (by omega)).2.2.1
  have q3 : A.1 11 1 = nI (2 ^ e) := (fr 11 1 (by omega)).trans h11
  unfold fX3_consider stA
  rw [q0, q1, q2, q3, Int32.mul_comm a, Int32.mul_comm b, Int32.mul_comm c, bd_s, bd_s, bd_s]
  obtain ⟨x, ex⟩ : ∃ x, x = z 18 + nI (2 ^ e) * a := ⟨_, rfl⟩
  obtain ⟨y, ey⟩ : ∃ y, y = z 19 + nI (2 ^ e) * b := ⟨_, rfl⟩
  obtain ⟨w, ew⟩ : ∃ w, w = z 20 + nI (2 ^ e) * c := ⟨_, rfl⟩
  rw [← ex, ← ey, ← ew]
  have al := allowX (M := A) (M' := ((fun _ j => z j), A.2)) hb x y w
  rw [al, allowM]
  by_cases hal : alw z x y w
  case neg => exact ⟨A, by rw [if_neg (show ¬ alw _ x y w from hal), b1_s, i00], by rw [if_neg hal]; exact hs, fr⟩
  rw [if_pos (show alw _ x y w from hal), b1_s, i10, if_pos hal, show (4 : Int32) = lim false from rfl, sumX ht a20 lt false, b1_s]
  obtain ⟨v, ev⟩ : ∃ v, v = vs z false x y w t := ⟨_, rfl⟩
  rw [← ev]
  have put : ∃ A', (bd (stL A 90 1 v) fun M10 => bd (stI M10 91 0 x) fun M11 => bd (stI M11 91 1 y) fun M12 => bd (stI M12 91 2 w) fun M13 => some M13) = some A' ∧ RA A' (some (v, x, y, w)) ∧ ∀ c j, c ≠ 91 → A'.1 c j = M.1 c j := by
    refine bd_sl fun A1 r1 s1 => bd_st fun A2 r2 s2 => bd_st fun A3 r3 s3 => bd_st fun A4 r4 s4 => ⟨A4, rfl, ⟨?_, ?_, ?_, ?_⟩, fun c j h => ?_⟩
    · rw [s4, s3, s2, r1, if_pos ⟨rfl, rfl⟩]
    · rw [r4, if_neg (by omega), r3, if_neg (by omega), r2, if_pos ⟨rfl, rfl⟩]
    · rw [r4, if_neg (by omega), r3, if_pos ⟨rfl, rfl⟩]
    · rw [r4, if_pos ⟨rfl, rfl⟩]
    · rw [r4, if_neg (by omega), r3, if_neg (by omega), r2, if_neg (by omega), s1]; exact fr c j h
  cases s with
  | none =>
    have hs : A.2 90 1 = 20000000000 := hs
    obtain ⟨sx, sy, sw⟩ := alw_sm hb hal
    have bnd := vs_b (fun i hi => (ht i hi).2.2) lt sx sy sw t (Nat.le_refl _)
    rw [← ev] at bnd
    have nc : ¬ 0 ≤ lg_cmp v (A.2 90 1) := fun q => by
      have q := Int64.le_iff_toInt_le.mp ((lg_cmp_ge _ _).mp q)
      rw [hs, show (20000000000 : Int64).toInt = 20000000000 by decide] at q
      unfold sl at bnd
      omega
    rw [if_neg nc]
    exact put
  | some q =>
    have hs : A.2 90 1 = q.1 ∧ A.1 91 0 = q.2.1 ∧ A.1 91 1 = q.2.2.1 ∧ A.1 91 2 = q.2.2.2 := hs
    rw [hs.1]
    by_cases c1 : 0 ≤ lg_cmp v q.1
    · rw [if_pos c1]
      refine ⟨A, rfl, ?_, fr⟩
      show RA A (if 0 ≤ lg_cmp v q.1 then some q else some (v, x, y, w))
      rw [if_pos c1]; exact hs
    · rw [if_neg c1]
      obtain ⟨A', f, r, o⟩ := put
      refine ⟨A', f, ?_, o⟩
      show RA A' (if 0 ≤ lg_cmp v q.1 then some q else some (v, x, y, w))
      rw [if_neg c1]; exact r
/-! ===== around: the loops, and the call ===== -/
theorem best3 {n t d e : Nat} {A M : Mm} {z : Nat → Int32} (hC : CX n t d M z) (h11 : M.1 11 1 = nI (2 ^ e)) (fr : ∀ c j, c ≠ 91 → A.1 c j = M.1 c j) {s : Bst} (hs : RA A s) {wz : Nat} (hz : wz < 4) (a b : Int32) : ∃ A', itr (fX3_findBest_L61 (nI wz) a b) 1000 (-(nI wz), A) = some A' ∧ RA A' (F3 (stA z e t) wz a b s (2 * wz + 1)) ∧ ∀ c j, c ≠ 91 → A'.1 c j = M.1 c j := by
  refine itr_0 (body := fX3_findBest_L61 (nI wz) a b) (fun i q => q.1 = ofs wz i ∧ RA q.2 (F3 (stA z e t) wz a b s i) ∧ ∀ c j, c ≠ 91 → q.2.1 c j = M.1 c j) (fun A' => RA A' (F3 (stA z e t) wz a b s (2 * wz + 1)) ∧ ∀ c j, c ≠ 91 → A'.1 c j = M.1 c j) (2 * wz + 1) (by omega) ⟨ofs_0 wz, hs, fr⟩ ?_
  rintro i ⟨x, A1⟩ hi ⟨rfl, q1, q2⟩
  rcases Nat.lt_or_ge (2 * wz) i with hl | hl
  · right
    obtain rfl : i = 2 * wz + 1 := by omega
    refine ⟨A1, ?_, q1, q2⟩
    unfold fX3_findBest_L61 u2
    dsimp only
    rw [if_pos ((ofs_lt wz hz _ (by omega)).mpr hl)]
  · left
    obtain ⟨A2, f, r, o⟩ := considerX hC h11 q2 q1 a b (ofs wz i)
    refine ⟨(ofs wz (i + 1), A2), ?_, by omega, rfl, r, o⟩
    unfold fX3_findBest_L61 u2
    dsimp only
    rw [if_neg (fun w => by have := (ofs_lt wz hz _ (by omega)).mp w; omega), f, b1_s, ofs_1, bd_s]
theorem best2 {n t d e : Nat} {A M : Mm} {z : Nat → Int32} (hC : CX n t d M z) (h11 : M.1 11 1 = nI (2 ^ e)) (fr : ∀ c j, c ≠ 91 → A.1 c j = M.1 c j) {s : Bst} (hs : RA A s) {wy wz : Nat} (hy : wy < 4) (hz : wz < 4) (a : Int32) : ∃ A', itr (fX3_findBest_L50 (nI wy) (nI wz) a) 1000 (-(nI wy), A) = some A' ∧ RA A' (F2 (stA z e t) wy wz a s (2 * wy + 1)) ∧ ∀ c j, c ≠ 91 → A'.1 c j = M.1 c j := by
  refine itr_0 (body := fX3_findBest_L50 (nI wy) (nI wz) a) (fun i q => q.1 = ofs wy i ∧ RA q.2 (F2 (stA z e t) wy wz a s i) ∧ ∀ c j, c ≠ 91 → q.2.1 c j = M.1 c j) (fun A' => RA A' (F2 (stA z e t) wy wz a s (2 * wy + 1)) ∧ ∀ c j, c ≠ 91 → A'.1 c j = M.1 c j) (2 * wy + 1) (by omega) ⟨ofs_0 wy, hs, fr⟩ ?_
  rintro i ⟨x, A1⟩ hi ⟨rfl, q1, q2⟩
  rcases Nat.lt_or_ge (2 * wy) i with hl | hl
  · right
    obtain rfl : i = 2 * wy + 1 := by omega
    refine ⟨A1, ?_, q1, q2⟩
    unfold fX3_findBest_L50 u2
    dsimp only
    rw [if_pos ((ofs_lt wy hy _ (by omega)).mpr hl)]
  · left
    obtain ⟨A2, f, r, o⟩ := best3 hC h11 q2 q1 hz a (ofs wy i)
    refine ⟨(ofs wy (i + 1), A2), ?_, by omega, rfl, r, o⟩
    unfold fX3_findBest_L50 u2
    dsimp only
    rw [if_neg (fun w => by have := (ofs_lt wy hy _ (by omega)).mp w; omega), bd_s, f, b1_s, ofs_1, bd_s]
theorem best1 {n t d e : Nat} {A M : Mm} {z : Nat → Int32} (hC : CX n t d M z) (h11 : M.1 11 1 = nI (2 ^ e)) (fr : ∀ c j, c ≠ 91 → A.1 c j = M.1 c j) {s : Bst} (hs : RA A s) {wx wy wz : Nat} (hx : wx < 4) (hy : wy < 4) (hz : wz < 4) : ∃ A', itr (fX3_findBest_L40 (nI wx) (nI wy) (nI wz)) 1000 (-(nI wx), A) = some A' ∧ RA A' (F1 (stA z e t) wx wy wz s (2 * wx + 1)) ∧ ∀ c j, c ≠ 91 → A'.1 c j = M.1 c j := by
  refine itr_0 (body := fX3_findBest_L40 (nI wx) (nI wy) (nI wz)) (fun i q => q.1 = ofs wx i ∧ RA q.2 (F1 (stA z e t) wx wy wz s i) ∧ ∀ c j, c ≠ 91 → q.2.1 c j = M.1 c j) (fun A' => RA A' (F1 (stA z e t) wx wy wz s (2 * wx + 1)) ∧ ∀ c j, c ≠ 91 → A'.1 c j = M.1 c j) (2 * wx + 1) (by omega) ⟨ofs_0 wx, hs, fr⟩ ?_
  rintro i ⟨x, A1⟩ hi ⟨rfl, q1, q2⟩
  rcases Nat.lt_or_ge (2 * wx) i with hl | hl
  · right
    obtain rfl : i = 2 * wx + 1 := by omega
    refine ⟨A1, ?_, q1, q2⟩
    unfold fX3_findBest_L40 u2
    dsimp only
    rw [if_pos ((ofs_lt wx hx _ (by omega)).mpr hl)]
  · left
    obtain ⟨A2, f, r, o⟩ := best2 hC h11 q2 q1 hy hz (ofs wx i)
    refine ⟨(ofs wx (i + 1), A2), ?_, by omega, rfl, r, o⟩
    unfold fX3_findBest_L40 u2
    dsimp only
    rw [if_neg (fun w => by have := (ofs_lt wx hx _ (by omega)).mp w; omega), bd_s, f, b1_s, ofs_1, bd_s]
/-- the widths along the second and the third variable -/
def wd (n k w : Nat) : Nat := if n ≤ k then 0 else w
theorem wd_t {n k w : Nat} (hn : n < 1000) (hk : k < 1000) (c : nI n ≤ nI k) : 0 = nI (wd n k w) := by
  unfold wd
  rw [if_pos ((nle (by omega) (by omega)).mp c)]; rfl
theorem wd_f {n k w : Nat} (hn : n < 1000) (hk : k < 1000) (c : ¬ nI n ≤ nI k) : nI w = nI (wd n k w) := by
  unfold wd
  rw [if_neg (fun q => c ((nle (by omega) (by omega)).mpr q))]
theorem bestX {n t d e : Nat} {M : Mm} {z : Nat → Int32} (hC : CX n t d M z) (h11 : M.1 11 1 = nI (2 ^ e)) (h10 : M.1 1 0 = nI n) (hn : n < 1000) {w : Nat} (hw : w < 4) : ∃ A', fX3_findBest M (nI w) = some A' ∧ RA A' (F1 (stA z e t) w (wd n 1 w) (wd n 2 w) none (2 * w + 1)) ∧ ∀ c j, c ≠ 91 → A'.1 c j = M.1 c j := by
  have hwd : ∀ k, wd n k w < 4 := fun k => by unfold wd; by_cases c : n ≤ k <;> simp [c] <;> omega
  obtain ⟨A', f, r, o⟩ := best1 (A := stL M 90 1 20000000000) hC h11 (fun _ _ _ => rfl) (s := none) (by show (stL M 90 1 20000000000).2 90 1 = _; rw [stL_rd, if_pos ⟨rfl, rfl⟩]) hw (hwd 1) (hwd 2)
  refine ⟨A', ?_, r, o⟩
  have key : ∀ x3 x6, x3 = nI (wd n 1 w) → x6 = nI (wd n 2 w) → (bd (stL M 90 1 20000000000) fun M7 => bd (-nI w) fun x8 => b1 (itr (fX3_findBest_L40 (nI w) x3 x6) 1000 (x8, M7)) fun M32 => some M32) = some A' := by
    rintro _ _ rfl rfl
    rw [bd_s, bd_s, f, b1_s]
  unfold fX3_findBest
  rw [bd_s, h10]
  by_cases c1 : nI n ≤ 1 <;> by_cases c2 : nI n ≤ 2
  · rw [if_pos c1]; dsimp only; rw [bd_s, if_pos c2]; exact key 0 0 (wd_t hn (by omega) c1) (wd_t hn (by omega) c2)
  · rw [if_pos c1]; dsimp only; rw [bd_s, if_neg c2]; exact key 0 _ (wd_t hn (by omega) c1) (wd_f hn (by omega) c2)
  · rw [if_neg c1]; dsimp only; rw [bd_s, if_pos c2]; exact key _ 0 (wd_f hn (by omega) c1) (wd_t hn (by omega) c2)
  · rw [if_neg c1]; dsimp only; rw [bd_s, if_neg c2]; exact key _ _ (wd_f hn (by omega) c1) (wd_f hn (by omega) c2)
