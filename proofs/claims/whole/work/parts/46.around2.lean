/-! ===== around: the loops, and the call ===== -/
theorem best3 {n t d e : Nat} {A M : Mm} {z : Nat → Int32} (hC : CX n t d M z) (h11 : M.1 11 1 = nI (2 ^ e)) (fr : ∀ c j, c ≠ 91 → A.1 c j = M.1 c j) {s : Bst} (hs : RA A s) {wz : Nat} (hz : wz < 4) (a b : Int32) : ∃ A', itr (fX3_findBest_L61 (nI wz) a b) 1000 (-(nI wz), A) = some A' ∧ RA A' (F3 (stA z e t) wz a b s (2 * wz + 1)) ∧ ∀ c j, c ≠ 91 → A'.1 c j = M.1 c j := by
  refine itr_0 (body := fX3_findBest_L61 (nI wz) a b) (fun i q => q.1 = ofs wz i ∧ RA q.2 (F3 (stA z e t) wz a b s i) ∧ ∀ c j, c ≠ 91 → q.2.1 c j = M.1 c j) (fun A' => RA A' (F3 (stA z e t) wz a b s (2 * wz + 1)) ∧ ∀ c j, c ≠ 91 → A'.1 c j = M.1 c j) (2 * wz + 1) (by omega) ⟨ofs_0 wz, hs, fr⟩ ?_
  rintro i ⟨x, A1⟩ hi ⟨rfl, q1, q2⟩
  rcases Nat.lt_or_ge (2 * wz) i with hl | hl
  · right
    obtain rfl : i = 2 * wz + 1 := by omega
    refine ⟨A1, ?_, q1, q2⟩
    unfold fX3_findBest_L61 u2
    dsimp only
    rw [if_pos ((ofs_lt wz hz _ (by omega)).mpr hl)]
  · left
    obtain ⟨A2, f, r, o⟩ := considerX hC h11 q2 q1 a b (ofs wz i)
    refine ⟨(ofs wz (i + 1), A2), ?_, by omega, rfl, r, o⟩
    unfold fX3_findBest_L61 u2
    dsimp only
    rw [if_neg (fun w => by have := (ofs_lt wz hz _ (by omega)).mp w; omega), f, b1_s, ofs_1, bd_s]
theorem best2 {n t d e : Nat} {A M : Mm} {z : Nat → Int32} (hC : CX n t d M z) (h11 : M.1 11 1 = nI (2 ^ e)) (fr : ∀ c j, c ≠ 91 → A.1 c j = M.1 c j) {s : Bst} (hs : RA A s) {wy wz : Nat} (hy : wy < 4) (hz : wz < 4) (a : Int32) : ∃ A', itr (fX3_findBest_L50 (nI wy) (nI wz) a) 1000 (-(nI wy), A) = some A' ∧ RA A' (F2 (stA z e t) wy wz a s (2 * wy + 1)) ∧ ∀ c j, c ≠ 91 → A'.1 c j = M.1 c j := by
  refine itr_0 (body := fX3_findBest_L50 (nI wy) (nI wz) a) (fun i q => q.1 = ofs wy i ∧ RA q.2 (F2 (stA z e t) wy wz a s i) ∧ ∀ c j, c ≠ 91 → q.2.1 c j = M.1 c j) (fun A' => RA A' (F2 (stA z e t) wy wz a s (2 * wy + 1)) ∧ ∀ c j, c ≠ 91 → A'.1 c j = M.1 c j) (2 * wy + 1) (by omega) ⟨ofs_0 wy, hs, fr⟩ ?_
  rintro i ⟨x, A1⟩ hi ⟨rfl, q1, q2⟩
  rcases Nat.lt_or_ge (2 * wy) i with hl | hl
  · right
    obtain rfl : i = 2 * wy + 1 := by omega
    refine ⟨A1, ?_, q1, q2⟩
    unfold fX3_findBest_L50 u2
    dsimp only
    rw [if_pos ((ofs_lt wy hy _ (by omega)).mpr hl)]
  · left
    obtain ⟨A2, f, r, o⟩ := best3 hC h11 q2 q1 hz a (ofs wy i)
    refine ⟨(ofs wy (i + 1), A2), ?_, by omega, rfl, r, o⟩
    unfold fX3_findBest_L50 u2
    dsimp only
    rw [if_neg (fun w => by have := (ofs_lt wy hy _ (by omega)).mp w; omega), bd_s, f, b1_s, ofs_1, bd_s]
theorem best1 {n t d e : Nat} {A M : Mm} {z : Nat → Int32} (hC : CX n t d M z) (h11 : M.1 11 1 = nI (2 ^ e)) (fr : ∀ c j, c ≠ 91 → A.1 c j = M.1 c j) {s : Bst} (hs : RA A s) {wx wy wz : Nat} (hx : wx < 4) (hy : wy < 4) (hz : wz < 4) : ∃ A', itr (fX3_findBest_L40 (nI wx) (nI wy) (nI wz)) 1000 (-(nI wx), A) = some A' ∧ RA A' (F1 (stA z e t) wx wy wz s (2 * wx + 1)) ∧ ∀ c j, c ≠ 91 → A'.1 c j = M.1 c j := by
  refine itr_0 (body := fX3_findBest_L40 (nI wx) (nI wy) (nI wz)) (fun i q => q.1 = ofs wx i ∧ RA q.2 (F1 (stA z e t) wx wy wz s i) ∧ ∀ c j, c ≠ 91 → q.2.1 c j = M.1 c j) (fun A' => RA A' (F1 (stA z e t) wx wy wz s (2 * wx + 1)) ∧ ∀ c j, c ≠ 91 → A'.1 c j = M.1 c j) (2 * wx + 1) (by omega) ⟨ofs_0 wx, hs, fr⟩ ?_
  rintro i ⟨x, A1⟩ hi ⟨rfl, q1, q2⟩
  rcases Nat.lt_or_ge (2 * wx) i with hl | hl
  · right
    obtain rfl : i = 2 * wx + 1 := by omega
    refine ⟨A1, ?_, q1, q2⟩
    unfold fX3_findBest_L40 u2
    dsimp only
    rw [if_pos ((ofs_lt wx hx _ (by omega)).mpr hl)]
  · left
    obtain ⟨A2, f, r, o⟩ := best2 hC h11 q2 q1 hy hz (ofs wx i)
    refine ⟨(ofs wx (i + 1), A2), ?_, by omega, rfl, r, o⟩
    unfold fX3_findBest_L40 u2
    dsimp only
    rw [if_neg (fun w => by have := (ofs_lt wx hx _ (by omega)).mp w; omega), bd_s, f, b1_s, ofs_1, bd_s]
/-- the widths along the second and the third variable -/
def wd (n k w : Nat) : Nat := if n ≤ k then 0 else w
theorem wd_t {n k w : Nat} (hn : n < 1000) (hk : k < 1000) (c : nI n ≤ nI k) : 0 = nI (wd n k w) := by
  unfold wd
  rw [if_pos ((nle (by omega) (by omega)).mp c)]; rfl
theorem wd_f {n k w : Nat} (hn : n < 1000) (hk : k < 1000) (c : ¬ nI n ≤ nI k) : nI w = nI (wd n k w) := by
  unfold wd
  rw [if_neg (fun q => c ((nle (by omega) (by omega)).mpr q))]
theorem bestX {n t d e : Nat} {M : Mm} {z : Nat → Int32} (hC : CX n t d M z) (h11 : M.1 11 1 = nI (2 ^ e)) (h10 : M.1 1 0 = nI n) (hn : n < 1000) {w : Nat} (hw : w < 4) : ∃ A', fX3_findBest M (nI w) = some A' ∧ RA A' (F1 (stA z e t) w (wd n 1 w) (wd n 2 w) none (2 * w + 1)) ∧ ∀ c j, c ≠ 91 → A'.1 c j = M.1 c j := by
  have hwd : ∀ k, wd n k w < 4 := fun k => by unfold wd; by_cases c : n ≤ k <;> simp [c] <;> omega
  obtain ⟨A', f, r, o⟩ := best1 (A := stL M 90 1 20000000000) hC h11 (fun _ _ _ => rfl) (s := none) (by show (stL M 90 1 20000000000).2 90 1 = _; rw [stL_rd, if_pos ⟨rfl, rfl⟩]) hw (hwd 1) (hwd 2)
  refine ⟨A', ?_, r, o⟩
  have key : ∀ x3 x6, x3 = nI (wd n 1 w) → x6 = nI (wd n 2 w) → (bd (stL M 90 1 20000000000) fun M7 => bd (-nI w) fun x8 => b1 (itr (fX3_findBest_L40 (nI w) x3 x6) 1000 (x8, M7)) fun M32 => some M32) = some A' := by
    rintro _ _ rfl rfl
    rw [bd_s, bd_s, f, b1_s]
  unfold fX3_findBest
  rw [bd_s, h10]
  by_cases c1 : nI n ≤ 1 <;> by_cases c2 : nI n ≤ 2
  · rw [if_pos c1]; dsimp only; rw [bd_s, if_pos c2]; exact key 0 0 (wd_t hn (by omega) c1) (wd_t hn (by omega) c2)
  · rw [if_pos c1]; dsimp only; rw [bd_s, if_neg c2]; exact key 0 _ (wd_t hn (by omega) c1) (wd_f hn (by omega) c2)
  · rw [if_neg c1]; dsimp only; rw [bd_s, if_pos c2]; exact key _ 0 (wd_f hn (by omega) c1) (wd_t hn (by omega) c2)
  · rw [if_neg c1]; dsimp only; rw [bd_s, if_neg c2]; exact key _ _ (wd_f hn (by omega) c1) (wd_f hn (by omega) c2)
theorem layStep {t d e : Nat} {B M : Mm} (hM : MX t d M) (fr : ∀ c j, c ≠ 101 → B.1 c j = M.1 c j) {s : Bst} {y : Int64} {x : Int32} (hs : RB y x B s) {wz i : Nat} (hz : wz < 4) (hi : i ≤ 2 * wz) (a b : Int32) : ∃ y' x' B', fX11_layAround_L73 (nI wz) (nI (2 ^ e)) a b (y, x, ofs wz i, B) = some (.inl (y', x', ofs wz (i + 1), B')) ∧ RB y' x' B' (stA (M.1 96) e t s a b (ofs wz i)) ∧ ∀ c j, c ≠ 101 → B'.1 c j = M.1 c j := by
  have ez : ∀ j, B.1 96 j = M.1 96 j := fun j => fr 96 j (by omega)
  have ez' : B.1 96 = M.1 96 := by funext j; exact ez j
  have hB : MX t d B := hM.cong ez'
  unfold stA
  obtain ⟨p, ep⟩ : ∃ p, p = M.1 96 18 + nI (2 ^ e) * a := ⟨_, rfl⟩
  obtain ⟨q, eq⟩ : ∃ q, q = M.1 96 19 + nI (2 ^ e) * b := ⟨_, rfl⟩
  obtain ⟨w, ew⟩ : ∃ w, w = M.1 96 20 + nI (2 ^ e) * ofs wz i := ⟨_, rfl⟩
  obtain ⟨v, ev⟩ : ∃ v, v = vs (M.1 96) false p q w t := ⟨_, rfl⟩
  have hv : fX11_valueAt B p q w 0 = some v := by
    have q' : fX11_valueAt B p q w 0 = _ := valM hB.2.2.2 hB.2.1 hB.1.1 false p q w
    rw [q', ez', ev]
  rw [← ep, ← eq, ← ew, ← ev]
  have pre : fX11_layAround_L73 (nI wz) (nI (2 ^ e)) a b (y, x, ofs wz i, B) = b1 (fX11_isAllowed B p q w) fun x30 => (if x30 = 0 then some (.inl (y, x, ofs wz (i + 1), B)) else (if x = 0 then b1 (fX11_valueAt B p q w 0) fun y41 => some (.inl (y41, 1, ofs wz (i + 1), stI (stI (stI B 101 0 p) 101 1 q) 101 2 w)) else b1 (fX11_valueAt B p q w 0) fun y47 => (if 0 ≤ lg_cmp y47 y then some (.inl (y, x, ofs wz (i + 1), B)) else b1 (fX11_valueAt B p q w 0) fun y41 => some (.inl (y41, 1, ofs wz (i + 1), stI (stI (stI B 101 0 p) 101 1 q) 101 2 w))))) := by
    unfold fX11_layAround_L73 u4
    dsimp only
    rw [if_neg (fun w => by have := (ofs_lt wz hz _ (by omega)).mp w; omega), ez, ez, ez, ← ep, ← eq, ← ew, bd_s, bd_s, bd_s, ofs_1]
    rfl
  rw [pre, allowM, ez']
  have putR : ∀ y', y' = v → RB y' 1 (stI (stI (stI B 101 0 p) 101 1 q) 101 2 w) (some (v, p, q, w)) := fun y' hy' => by
    refine ⟨rfl, hy', ?_, ?_, ?_⟩
    · rw [stI_rd, if_neg (by omega), stI_rd, if_neg (by omega), stI_rd, if_pos ⟨rfl, rfl⟩]
    · rw [stI_rd, if_neg (by omega), stI_rd, if_pos ⟨rfl, rfl⟩]
    · rw [stI_rd, if_pos ⟨rfl, rfl⟩]
  have putF : ∀ c j, c ≠ 101 → (stI (stI (stI B 101 0 p) 101 1 q) 101 2 w).1 c j = M.1 c j := fun c j h => by
    rw [stI_rd, if_neg (by omega), stI_rd, if_neg (by omega), stI_rd, if_neg (by omega)]; exact fr c j h
  by_cases hal : alw (M.1 96) p q w
  case neg =>
    rw [if_neg hal, b1_s, i00, if_neg hal]
    exact ⟨y, x, B, rfl, hs, fr⟩
  rw [if_pos hal, b1_s, i10, if_pos hal, hv, b1_s, b1_s]
  cases s with
  | none =>
    have hs : x = 0 := hs
    rw [if_pos hs]
    exact ⟨v, 1, _, rfl, putR v rfl, putF⟩
  | some r =>
    have hs : x = 1 ∧ y = r.1 ∧ B.1 101 0 = r.2.1 ∧ B.1 101 1 = r.2.2.1 ∧ B.1 101 2 = r.2.2.2 := hs
    rw [if_neg (by rw [hs.1]; decide)]
    by_cases c1 : 0 ≤ lg_cmp v r.1
    · rw [if_pos (by rw [hs.2.1]; exact c1)]
      refine ⟨y, x, B, rfl, ?_, fr⟩
      show RB y x B (if 0 ≤ lg_cmp v r.1 then some r else some (v, p, q, w))
      rw [if_pos c1]; exact hs
    · rw [if_neg (by rw [hs.2.1]; exact c1)]
      refine ⟨v, 1, _, rfl, ?_, putF⟩
      show RB v 1 _ (if 0 ≤ lg_cmp v r.1 then some r else some (v, p, q, w))
      rw [if_neg c1]; exact putR v rfl
theorem lay3 {t d e : Nat} {B M : Mm} (hM : MX t d M) (fr : ∀ c j, c ≠ 101 → B.1 c j = M.1 c j) {s : Bst} {y : Int64} {x : Int32} (hs : RB y x B s) {wz : Nat} (hz : wz < 4) (a b : Int32) : ∃ q, itr (fX11_layAround_L73 (nI wz) (nI (2 ^ e)) a b) 1000 (y, x, -(nI wz), B) = some q ∧ RB q.1 q.2.1 q.2.2 (F3 (stA (M.1 96) e t) wz a b s (2 * wz + 1)) ∧ ∀ c j, c ≠ 101 → q.2.2.1 c j = M.1 c j := by
  refine itr_0 (body := fX11_layAround_L73 (nI wz) (nI (2 ^ e)) a b) (fun i q => q.2.2.1 = ofs wz i ∧ RB q.1 q.2.1 q.2.2.2 (F3 (stA (M.1 96) e t) wz a b s i) ∧ ∀ c j, c ≠ 101 → q.2.2.2.1 c j = M.1 c j) (fun q => RB q.1 q.2.1 q.2.2 (F3 (stA (M.1 96) e t) wz a b s (2 * wz + 1)) ∧ ∀ c j, c ≠ 101 → q.2.2.1 c j = M.1 c j) (2 * wz + 1) (by omega) ⟨ofs_0 wz, hs, fr⟩ ?_
  rintro i ⟨y1, x1, o1, B1⟩ hi ⟨rfl, q1, q2⟩
  rcases Nat.lt_or_ge (2 * wz) i with hl | hl
  · right
    obtain rfl : i = 2 * wz + 1 := by omega
    refine ⟨(y1, x1, B1), ?_, q1, q2⟩
    unfold fX11_layAround_L73 u4
    dsimp only
    rw [if_pos ((ofs_lt wz hz _ (by omega)).mpr hl)]
  · left
    obtain ⟨y2, x2, B2, f, r, o⟩ := layStep (e := e) hM q2 q1 hz hl a b
    exact ⟨_, f, by omega, rfl, r, o⟩
theorem lay2 {t d e : Nat} {B M : Mm} (hM : MX t d M) (fr : ∀ c j, c ≠ 101 → B.1 c j = M.1 c j) {s : Bst} {y : Int64} {x : Int32} (hs : RB y x B s) {wy wz : Nat} (hy : wy < 4) (hz : wz < 4) (a : Int32) : ∃ q, itr (fX11_layAround_L62 (nI wy) (nI wz) (nI (2 ^ e)) a) 1000 (y, x, -(nI wy), B) = some q ∧ RB q.1 q.2.1 q.2.2 (F2 (stA (M.1 96) e t) wy wz a s (2 * wy + 1)) ∧ ∀ c j, c ≠ 101 → q.2.2.1 c j = M.1 c j := by
  refine itr_0 (body := fX11_layAround_L62 (nI wy) (nI wz) (nI (2 ^ e)) a) (fun i q => q.2.2.1 = ofs wy i ∧ RB q.1 q.2.1 q.2.2.2 (F2 (stA (M.1 96) e t) wy wz a s i) ∧ ∀ c j, c ≠ 101 → q.2.2.2.1 c j = M.1 c j) (fun q => RB q.1 q.2.1 q.2.2 (F2 (stA (M.1 96) e t) wy wz a s (2 * wy + 1)) ∧ ∀ c j, c ≠ 101 → q.2.2.1 c j = M.1 c j) (2 * wy + 1) (by omega) ⟨ofs_0 wy, hs, fr⟩ ?_
  rintro i ⟨y1, x1, o1, B1⟩ hi ⟨rfl, q1, q2⟩
  rcases Nat.lt_or_ge (2 * wy) i with hl | hl
  · right
    obtain rfl : i = 2 * wy + 1 := by omega
    refine ⟨(y1, x1, B1), ?_, q1, q2⟩
    unfold fX11_layAround_L62 u4
    dsimp only
    rw [if_pos ((ofs_lt wy hy _ (by omega)).mpr hl)]
  · left
    obtain ⟨⟨y2, x2, B2⟩, f, r, o⟩ := lay3 (e := e) hM q2 q1 hz a (ofs wy i)
    refine ⟨(y2, x2, ofs wy (i + 1), B2), ?_, by omega, rfl, r, o⟩
    unfold fX11_layAround_L62 u4
    dsimp only
    rw [if_neg (fun w => by have := (ofs_lt wy hy _ (by omega)).mp w; omega), bd_s, f, b3_s, ofs_1, bd_s]
theorem lay1 {t d e : Nat} {B M : Mm} (hM : MX t d M) (fr : ∀ c j, c ≠ 101 → B.1 c j = M.1 c j) {s : Bst} {y : Int64} {x : Int32} (hs : RB y x B s) {wx wy wz : Nat} (hx : wx < 4) (hy : wy < 4) (hz : wz < 4) : ∃ B', itr (fX11_layAround_L52 (nI wx) (nI wy) (nI wz) (nI (2 ^ e))) 1000 (y, x, -(nI wx), B) = some B' ∧ (∃ y' x', RB y' x' B' (F1 (stA (M.1 96) e t) wx wy wz s (2 * wx + 1))) ∧ ∀ c j, c ≠ 101 → B'.1 c j = M.1 c j := by
  refine itr_0 (body := fX11_layAround_L52 (nI wx) (nI wy) (nI wz) (nI (2 ^ e))) (fun i q => q.2.2.1 = ofs wx i ∧ RB q.1 q.2.1 q.2.2.2 (F1 (stA (M.1 96) e t) wx wy wz s i) ∧ ∀ c j, c ≠ 101 → q.2.2.2.1 c j = M.1 c j) (fun B' => (∃ y' x', RB y' x' B' (F1 (stA (M.1 96) e t) wx wy wz s (2 * wx + 1))) ∧ ∀ c j, c ≠ 101 → B'.1 c j = M.1 c j) (2 * wx + 1) (by omega) ⟨ofs_0 wx, hs, fr⟩ ?_
  rintro i ⟨y1, x1, o1, B1⟩ hi ⟨rfl, q1, q2⟩
  rcases Nat.lt_or_ge (2 * wx) i with hl | hl
  · right
    obtain rfl : i = 2 * wx + 1 := by omega
    refine ⟨B1, ?_, ⟨y1, x1, q1⟩, q2⟩
    unfold fX11_layAround_L52 u4
    dsimp only
    rw [if_pos ((ofs_lt wx hx _ (by omega)).mpr hl)]
  · left
    obtain ⟨⟨y2, x2, B2⟩, f, r, o⟩ := lay2 (e := e) hM q2 q1 hy hz (ofs wx i)
    refine ⟨(y2, x2, ofs wx (i + 1), B2), ?_, by omega, rfl, r, o⟩
    unfold fX11_layAround_L52 u4
    dsimp only
    rw [if_neg (fun w => by have := (ofs_lt wx hx _ (by omega)).mp w; omega), bd_s, f, b3_s, ofs_1, bd_s]
theorem layX {n t d e : Nat} {M : Mm} (hM : MX t d M) (h3 : M.1 96 3 = nI e) (he : e ≤ 4) (h10 : M.1 96 0 = nI n) (hn : n < 1000) {w : Nat} (hw : w < 4) : ∃ B', fX11_layAround M (nI w) = some B' ∧ (∃ y x, RB y x B' (F1 (stA (M.1 96) e t) w (wd n 1 w) (wd n 2 w) none (2 * w + 1))) ∧ ∀ c j, c ≠ 101 → B'.1 c j = M.1 c j := by
  have hwd : ∀ k, wd n k w < 4 := fun k => by unfold wd; by_cases c : n ≤ k <;> simp [c] <;> omega
  obtain ⟨B', f, r, o⟩ := lay1 (e := e) (B := M) hM (fun _ _ _ => rfl) (s := none) (y := 0) (x := 0) rfl hw (hwd 1) (hwd 2)
  refine ⟨B', ?_, r, o⟩
  have key : ∀ x4 x7, x4 = nI (wd n 1 w) → x7 = nI (wd n 2 w) → (bd (-nI w) fun x8 => b1 (itr (fX11_layAround_L52 (nI w) x4 x7 (nI (2 ^ e))) 1000 (0, 0, x8, M)) fun M62 => some M62) = some B' := by
    rintro _ _ rfl rfl
    rw [bd_s, f, b1_s]
  unfold fX11_layAround
  rw [h3, shl1 he, bd_s, bd_s, h10]
  by_cases c1 : nI n ≤ 1 <;> by_cases c2 : nI n ≤ 2
  · rw [if_pos c1]; dsimp only; rw [bd_s, if_pos c2]; exact key 0 0 (wd_t hn (by omega) c1) (wd_t hn (by omega) c2)
  · rw [if_pos c1]; dsimp only; rw [bd_s, if_neg c2]; exact key 0 _ (wd_t hn (by omega) c1) (wd_f hn (by omega) c2)
  · rw [if_neg c1]; dsimp only; rw [bd_s, if_pos c2]; exact key _ 0 (wd_f hn (by omega) c1) (wd_t hn (by omega) c2)
  · rw [if_neg c1]; dsimp only; rw [bd_s, if_neg c2]; exact key _ _ (wd_f hn (by omega) c1) (wd_f hn (by omega) c2)
theorem p_around {M : Mm} (h : R M) (w1 w2 : Int32) : Ok2 (fun M => fX10_around M w1 w2) (fun M => fX11_around M w1 w2) M := by
  obtain ⟨n, t, d, e, k, ⟨le, ld, lt⟩, hC, hM, a11, b3', hb, b0, a10, lk, l1, l3⟩ := R.cm h
  rcases in_n w1 3 (by omega) with q | ⟨w, hw, rfl, q⟩
  · have q : fX11_in w1 0 3 = some 0 := q
    exact .no h _ (by show fX10_around M _ _ = _; unfold fX10_around; rw [within_in, q, b1_s, i00]) (by show fX11_around M _ _ = _; unfold fX11_around; rw [q, b1_s, i00])
  have q : fX11_in (nI w) 0 3 = some 1 := q
  rcases in_n w2 2 (by omega) with q' | ⟨v, hv, rfl, q'⟩
  · have q' : fX11_in w2 0 2 = some 0 := q'
    exact .no h _ (by show fX10_around M _ _ = _; unfold fX10_around; rw [within_in, q, b1_s, i10, q', b1_s, i00]) (by show fX11_around M _ _ = _; unfold fX11_around; rw [q, b1_s, i10, q', b1_s, i00])
  have q' : fX11_in (nI v) 0 2 = some 1 := q'
  by_cases c0 : alw (M.1 96) (M.1 96 18) (M.1 96 19) (M.1 96 20)
  case neg => exact .no h _ (by show fX10_around M _ _ = _; unfold fX10_around; rw [within_in, q, b1_s, i10, q', b1_s, i10, hereX hb, hereM, if_neg c0, b1_s, i00]) (by show fX11_around M _ _ = _; unfold fX11_around; rw [q, b1_s, i10, q', b1_s, i10, hereM, if_neg c0, b1_s, i00])
  obtain ⟨A, fa, ra, oa⟩ := bestX hC a11 a10 (by omega) (w := w) (by omega)
  have ez : A.1 96 = M.1 96 := by funext j; exact oa 96 j (by omega)
  have hMA : MX t d A := hM.cong ez
  obtain ⟨B, fb, ⟨y, x, rb⟩, ob⟩ := layX (n := n) hMA (by rw [ez]; exact b3') le (by rw [ez]; exact b0) (by omega) (w := w) (by omega)
  rw [ez] at rb
  have hR : R B := h.off (fun c j hc => by
    rw [ob c j (by unfold tmpP at hc; omega)]
    exact oa c j (by unfold tmpP at hc; omega))
  have hwd : ∀ k, wd n k w < 4 := fun k => by unfold wd; by_cases c : n ≤ k <;> simp [c] <;> omega
  have mono : ∀ s a b c, s.isSome = true → (stA (M.1 96) e t s a b c).isSome = true := fun s a b c hs => by
    unfold stA
    split
    · cases s with
      | none => exact absurd hs (by decide)
      | some r =>
        dsimp only
        split <;> rfl
    · exact hs
  have mid : ∀ s, (stA (M.1 96) e t s 0 0 0).isSome = true := fun s => by
    unfold stA
    rw [Int32.mul_zero, Int32.add_zero, Int32.add_zero, Int32.add_zero, if_pos c0]
    cases s with
    | none => rfl
    | some r =>
      dsimp only
      split <;> rfl
  obtain ⟨r, er⟩ := Option.isSome_iff_exists.mp (F1_some (s := none) mono mid (wx := w) (by omega) (hwd 1) (hwd 2))
  rw [er] at ra rb
  obtain ⟨-, x0, x1, x2⟩ := ra
  obtain ⟨-, -, y0, y1, y2⟩ := rb
  have ans : A.1 91 v = B.1 101 v := by
    rcases (show v = 0 ∨ v = 1 ∨ v = 2 by omega) with rfl | rfl | rfl
    · exact x0.trans y0.symm
    · exact x1.trans y1.symm
    · exact x2.trans y2.symm
  refine ⟨A.1 91 v, A, B, ?_, ?_, hR⟩
  · show fX10_around M (nI w) (nI v) = _
    unfold fX10_around
    rw [within_in, q, b1_s, i10, q', b1_s, i10, hereX hb, hereM, if_pos c0, b1_s, i10, fa, b1_s, gd_t (inbn (by omega) (by omega)), ixn (by omega)]
  · show fX11_around A (nI w) (nI v) = _
    unfold fX11_around
    rw [q, b1_s, i10, q', b1_s, i10, hereM, ez, if_pos c0, b1_s, i10, fb, b1_s, gd_t (inbn (by omega) (by omega)), ixn (by omega), ans]
