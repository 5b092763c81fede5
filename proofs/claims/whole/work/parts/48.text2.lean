/-! ===== texts: the reference, a term ===== -/
def BSt (B : Mm) (k j : Nat) : Prop := B.1 95 14 = 0 ∧ B.1 95 12 = nI j ∧ B.1 95 11 = nI k
theorem letX {l n : Nat} {ch : Nat → Int32} {MA MB B : Mm} (T : Tx l n ch MA MB) (f : FB MB B) {i : Nat} (hi : i < 1000) : fX11_letter B (nI i) = some (ltr l ch i) := by
  obtain ⟨⟨a1, a2, a3⟩, -, b1', b2', b3'⟩ := T
  unfold fX11_letter ltr
  rw [f 95 6 (by omega), b1']
  by_cases h : i < l
  · rw [if_neg (ngen (by omega) (by omega) h), if_pos h, gd_t (inbn (by omega) (by omega)), ixn (by omega), f 99 i (by omega), b3' i h]
  · rw [if_pos (gen (by omega) (by omega) (by omega)), if_neg h]
theorem digX {l n : Nat} {ch : Nat → Int32} {MA MB B : Mm} (T : Tx l n ch MA MB) (f : FB MB B) {i : Nat} (hi : i < 1000) : fX11_isDigit B (nI i) = some (if dgt (ltr l ch i) then 1 else 0) := by
  unfold fX11_isDigit dgt
  rw [letX T f hi, b1_s]
  by_cases h1 : ltr l ch i < 48
  · rw [if_pos h1, decide_eq_false]
    · rfl
    · rw [Int32.lt_iff_toInt_lt, show (48 : Int32).toInt = 48 from rfl] at h1; omega
  · rw [if_neg h1, b1_s]
    by_cases h2 : 57 < ltr l ch i
    · rw [if_pos h2, decide_eq_false]
      · rfl
      · rw [Int32.lt_iff_toInt_lt, show (57 : Int32).toInt = 57 from rfl] at h2; omega
    · rw [if_neg h2, decide_eq_true]
      · rfl
      · rw [Int32.lt_iff_toInt_lt, show (48 : Int32).toInt = 48 from rfl] at h1; rw [Int32.lt_iff_toInt_lt, show (57 : Int32).toInt = 57 from rfl] at h2; omega
theorem isV {B : Mm} {n v : Nat} (h : B.1 96 0 = nI n) (hn : 1 ≤ n ∧ n ≤ 3) (hv : v < 3) : fX11_isVariable B (nI v) = some (if v < n then 1 else 0) := by
  unfold fX11_isVariable
  rw [h]
  have key : ∀ n, n < 4 → 1 ≤ n → ∀ v, v < 3 → (b1 (fX11_in (nI v) 0 (nI n - 1)) fun x2 => gd (x2 = 0 ∨ x2 = 1) <| some x2) = some (if v < n then 1 else 0) := by decide +kernel
  exact key n (by omega) hn.1 v hv
theorem failR {B : Mm} (h14 : B.1 95 14 = 0) (q : Int32) : ∃ B', fX11_fail B q = some B' ∧ B'.1 95 14 = q ∧ B'.1 95 13 = B.1 95 12 ∧ ∀ c j, ¬ (c = 95 ∧ (j = 13 ∨ j = 14)) → B'.1 c j = B.1 c j := by
  unfold fX11_fail
  rw [if_pos h14]
  refine bd_st fun M1 r1 _ => bd_st fun M2 r2 _ => ⟨M2, rfl, ?_, ?_, fun c j h => ?_⟩
  · rw [r2, if_neg (by omega), r1, if_pos ⟨rfl, rfl⟩]
  · rw [r2, if_pos ⟨rfl, rfl⟩, r1, if_neg (by omega)]
  · rw [r2, if_neg (by omega), r1, if_neg (by omega)]
theorem FB.st {MB B : Mm} (f : FB MB B) {c j : Nat} (v : Int32) (h : (c = 95 ∧ 11 ≤ j ∧ j ≤ 14) ∨ c = 102) : FB MB (stI B c j v) := fun c' j' h' => by
  rw [stI_rd, if_neg (by omega)]; exact f c' j' h'
theorem FB.cg {MB B B' : Mm} (f : FB MB B) (h : ∀ c j, ¬ (c = 95 ∧ (j = 13 ∨ j = 14)) → B'.1 c j = B.1 c j) : FB MB B' := fun c' j' h' => by
  rw [h c' j' (by omega)]; exact f c' j' h'
/-! the letters -/
theorem L2_dead {k : Int32} {B : Mm} (c : Int32) (h : B.1 95 14 ≠ 0) : fX11_readLetters_L2 k (c, B) = some (.inr B) := by
  unfold fX11_readLetters_L2 u2
  exact if_neg h
theorem L2_out {l n : Nat} {ch : Nat → Int32} {MA MB B : Mm} (T : Tx l n ch MA MB) (f : FB MB B) {k j : Nat} (s : BSt B k j) (hj : j < 1000) (h : ltt (ltr l ch j) = false) (c : Int32) : fX11_readLetters_L2 (nI k) (c, B) = some (.inr B) := by
  unfold fX11_readLetters_L2 u2
  dsimp only
  rw [if_pos s.1, s.2.1, letX T f hj, b1_s, in_lt, h, if_neg (by decide), b1_s, i00]
theorem L2_pre {l n : Nat} {ch : Nat → Int32} {MA MB B : Mm} (T : Tx l n ch MA MB) (f : FB MB B) {k j v : Nat} (s : BSt B k j) (hj : j < l) (hv : v < 3) (h : ch j = nI (120 + v)) (c : Int32) : fX11_readLetters_L2 (nI k) (c, B) = (if v < n then (if c = 4 then b1 (fX11_fail B 3) (fun M => some (.inl (c, M))) else gd (inb (((4 * nI k) + 1) + nI v) 40) <| some (.inl (c + 1, stI (stI B 102 (ix (((4 * nI k) + 1) + nI v)) ((B.1 102 (ix (((4 * nI k) + 1) + nI v))) + 1)) 95 12 (((stI B 102 (ix (((4 * nI k) + 1) + nI v)) ((B.1 102 (ix (((4 * nI k) + 1) + nI v))) + 1)).1 95 12) + 1)))) else b1 (fX11_fail B 2) (fun M => some (.inl (c, M)))) := by
  have l60 := T.1
  have e : ltr l ch j = nI (120 + v) := by unfold ltr; rw [if_pos hj, h]
  unfold fX11_readLetters_L2 u2
  dsimp only
  rw [if_pos s.1, s.2.1, letX T f (by omega), e, b1_s, in_lt, (vLt v hv).1, if_pos rfl, b1_s, i10, b1_s, (vLt v hv).2.2, bd_s, isV ((f 96 0 (by omega)).trans T.2.2.2.1) ⟨l60.2.1, l60.2.2⟩ hv, b1_s, bd_s]
  by_cases q : v < n
  · rw [if_pos q, i10, if_pos q]
    by_cases q4 : c = 4
    · rw [if_pos q4, if_pos q4]
    · rw [if_neg q4, if_neg q4]; rfl
  · rw [if_neg q, i00, if_neg q]
/-! the number -/
theorem rN_no {l n : Nat} {ch : Nat → Int32} {MA MB B : Mm} (T : Tx l n ch MA MB) (f : FB MB B) {j : Nat} (s : B.1 95 12 = nI j) (hj : j < 1000) (h : dgt (ltr l ch j) = false) : fX11_readNumber B = some (1, B) := by
  unfold fX11_readNumber
  rw [s, digX T f hj, h, if_neg (by decide), b1_s, i00]
def kN (M8 : Mm) : Option (Int32 × Mm) :=
  b1 (fX11_letter M8 (M8.1 95 12)) fun x10 =>
  bd (x10 - 48) fun x11 =>
  bd (stI M8 95 12 ((M8.1 95 12) + 1)) fun M12 =>
  b1 (fX11_isDigit M12 (M12.1 95 12)) fun x14 =>
  (if x14 = 0 then
  some (x11, M12)
  else
  b1 (fX11_letter M12 (M12.1 95 12)) fun x17 =>
  bd (((10 * x11) + x17) - 48) fun x18 =>
  bd (stI M12 95 12 ((M12.1 95 12) + 1)) fun M19 =>
  some (x18, M19))
theorem rN_k {l n : Nat} {ch : Nat → Int32} {MA MB B : Mm} (T : Tx l n ch MA MB) (f : FB MB B) {j d : Nat} (s : B.1 95 12 = nI j) (hj : j < l) (hd : d < 10) (h : ch j = nI (48 + d)) : fX11_readNumber B = if d = 0 then b1 (fX11_fail B 1) kN else kN B := by
  have l60 := T.1
  have e : ltr l ch j = nI (48 + d) := by unfold ltr; rw [if_pos hj, h]
  unfold fX11_readNumber
  rw [s, digX T f (by omega), e, (dLt d hd).2.1, if_pos rfl, b1_s, i10, letX T f (by omega), e, b1_s, bd_s]
  by_cases q : d = 0
  · rw [if_pos q, if_pos (show nI (48 + d) = 48 by rw [q]; rfl)]; rfl
  · rw [if_neg q, if_neg (fun w => by have := (neq (a := 48 + d) (b := 48) (by omega) (by omega)).mp w; omega)]; rfl
theorem kN_1 {l n : Nat} {ch : Nat → Int32} {MA MB B : Mm} (T : Tx l n ch MA MB) (f : FB MB B) {j d : Nat} (s : B.1 95 12 = nI j) (hj : j < l) (hd : d < 10) (h : ch j = nI (48 + d)) (hn : dgt (ltr l ch (j + 1)) = false) : kN B = some (nI d, stI B 95 12 (nI (j + 1))) := by
  have l60 := T.1
  have e : ltr l ch j = nI (48 + d) := by unfold ltr; rw [if_pos hj, h]
  unfold kN
  rw [s, letX T f (by omega), e, b1_s, (dLt d hd).2.2, bd_s, nI_1, bd_s, stI_rd, if_pos ⟨rfl, rfl⟩, digX T (f.st _ (by omega)) (by omega), hn, if_neg (by decide), b1_s, i00]
theorem kN_2 {l n : Nat} {ch : Nat → Int32} {MA MB B : Mm} (T : Tx l n ch MA MB) (f : FB MB B) {j d d2 : Nat} (s : B.1 95 12 = nI j) (hj : j < l) (hd : d < 10) (h : ch j = nI (48 + d)) (hj2 : j + 1 < l) (hd2 : d2 < 10) (h2 : ch (j + 1) = nI (48 + d2)) : kN B = some (nI (10 * d + d2), stI (stI B 95 12 (nI (j + 1))) 95 12 (nI (j + 2))) := by
  have l60 := T.1
  have e : ltr l ch j = nI (48 + d) := by unfold ltr; rw [if_pos hj, h]
  have e2 : ltr l ch (j + 1) = nI (48 + d2) := by unfold ltr; rw [if_pos hj2, h2]
  unfold kN
  rw [s, letX T f (by omega), e, b1_s, (dLt d hd).2.2, bd_s, nI_1, bd_s, stI_rd, if_pos ⟨rfl, rfl⟩, digX T (f.st _ (by omega)) (by omega), e2, (dLt d2 hd2).2.1, if_pos rfl, b1_s, i10, letX T (f.st _ (by omega)) (by omega), e2, b1_s, (ten2 d hd d2 hd2).2, bd_s, nI_1, bd_s]
/-! the term -/
def stf (k : Nat) (sg y : Int32) (B : Mm) : Mm := stI (stI B 102 (4 * k) (sgd sg y)) 95 11 (B.1 95 11 + 1)
theorem rT_tail {B17 B19 : Mm} {k : Nat} (hk : k < 10) {y sg : Int32} (t : fX11_readLetters B17 (nI k) = some B19) : (b1 (fX11_readLetters B17 (nI k)) fun M19 =>
bd (fun (x22 : Int32) =>
gd (inb (4 * nI k) 40) <|
bd (stI M19 102 (ix (4 * nI k)) x22) fun M24 =>
bd (stI M24 95 11 ((M24.1 95 11) + 1)) fun M25 =>
some M25) fun k20 =>
(if sg = 0 then
k20 y
else
k20 (-y))) = some (stf k sg y B19) := by
  rw [t, b1_s, bd_s]
  have key : ∀ x, x = sgd sg y → (gd (inb (4 * nI k) 40) <| bd (stI B19 102 (ix (4 * nI k)) x) fun M24 => bd (stI M24 95 11 ((M24.1 95 11) + 1)) fun M25 => some M25) = some (stf k sg y B19) := by
    rintro _ rfl
    rw [n4i, gd_t (inbn (by omega) (by omega)), ixn (by omega), bd_s, stI_rd, if_neg (by omega)]
    rfl
  unfold sgd at key
  by_cases h : sg = 0
  · rw [if_pos h] at key ⊢; exact key _ rfl
  · rw [if_neg h] at key ⊢; exact key _ rfl
theorem rT_z {B : Mm} {k : Nat} (hk : k < 10) : ∃ B9, itr (fX11_readTerm_L7 (nI k)) 1000 (1, B) = some B9 ∧ (∀ v, v < 3 → B9.1 102 (4 * k + 1 + v) = nI 0) ∧ ∀ c j, ¬ (c = 102 ∧ 4 * k + 1 ≤ j ∧ j < 4 * k + 4) → B9.1 c j = B.1 c j := by
  have st : ∀ (i : Nat) (M : Mm), i < 4 → fX11_readTerm_L7 (nI k) (nI i, M) = some (.inl (nI (i + 1), stI M 102 (4 * k + i) 0)) := fun i M hi => by
    unfold fX11_readTerm_L7 u2
    dsimp only
    rw [if_neg (show ¬ 4 ≤ nI i from ngen (t := 4) (by omega) (by omega) hi), n4i, nI_add, gd_t (inbn (by omega) (by omega)), ixn (by omega), bd_s, bd_s, nI_1]
  refine ⟨stI (stI (stI B 102 (4 * k + 1) 0) 102 (4 * k + 2) 0) 102 (4 * k + 3) 0, ?_, fun v hv => ?_, fun c j h => ?_⟩
  · show itr (fX11_readTerm_L7 (nI k)) (996 + 1 + 1 + 1 + 1) (nI 1, B) = _
    rw [itr_l (st 1 B (by omega)), itr_l (st 2 _ (by omega)), itr_l (st 3 _ (by omega))]
    refine itr_r ?_
    unfold fX11_readTerm_L7 u2
    exact if_pos (show (4 : Int32) ≤ nI 4 by decide)
  · rcases (show v = 0 ∨ v = 1 ∨ v = 2 by omega) with rfl | rfl | rfl
    · rw [stI_rd, if_neg (by omega), stI_rd, if_neg (by omega), stI_rd, if_pos (by omega)]; rfl
    · rw [stI_rd, if_neg (by omega), stI_rd, if_pos (by omega)]; rfl
    · rw [stI_rd, if_pos (by omega)]; rfl
  · rw [stI_rd, if_neg (by omega), stI_rd, if_neg (by omega), stI_rd, if_neg (by omega)]
theorem rT_d {B B9 B17 B19 : Mm} {k : Nat} (hk : k < 10) {y sg : Int32} (h11 : B.1 95 11 = nI k) (z : itr (fX11_readTerm_L7 (nI k)) 1000 (1, B) = some B9) (hd : fX11_isDigit B9 (B9.1 95 12) = some 1) (r : fX11_readNumber B9 = some (y, B17)) (t : fX11_readLetters B17 (nI k) = some B19) : fX11_readTerm B sg = some (stf k sg y B19) := by
  unfold fX11_readTerm
  rw [bd_s, h11, z, b1_s, hd, b1_s, bd_s, i10]
  dsimp only
  rw [r, b2_s]
  exact rT_tail hk t
theorem rT_l {B B9 B17 B19 : Mm} {k : Nat} (hk : k < 10) {y sg w : Int32} (h11 : B.1 95 11 = nI k) (z : itr (fX11_readTerm_L7 (nI k)) 1000 (1, B) = some B9) (hd : fX11_isDigit B9 (B9.1 95 12) = some 0) (hw : fX11_letter B9 (B9.1 95 12) = some w) (hi : ltt w = true) (r : fX11_readNumber B9 = some (y, B17)) (t : fX11_readLetters B17 (nI k) = some B19) : fX11_readTerm B sg = some (stf k sg y B19) := by
  unfold fX11_readTerm
  rw [bd_s, h11, z, b1_s, hd, b1_s, bd_s, i00, hw, b1_s, in_lt, hi, if_pos rfl, b1_s, i10]
  dsimp only
  rw [r, b2_s]
  exact rT_tail hk t
theorem rT_f {B B9 B14 B17 B19 : Mm} {k : Nat} (hk : k < 10) {y sg w : Int32} (h11 : B.1 95 11 = nI k) (z : itr (fX11_readTerm_L7 (nI k)) 1000 (1, B) = some B9) (hd : fX11_isDigit B9 (B9.1 95 12) = some 0) (hw : fX11_letter B9 (B9.1 95 12) = some w) (hi : ltt w = false) (g : fX11_fail B9 1 = some B14) (r : fX11_readNumber B14 = some (y, B17)) (t : fX11_readLetters B17 (nI k) = some B19) : fX11_readTerm B sg = some (stf k sg y B19) := by
  unfold fX11_readTerm
  rw [bd_s, h11, z, b1_s, hd, b1_s, bd_s, i00, hw, b1_s, in_lt, hi, if_neg (by decide), b1_s, i00, g, b1_s]
  dsimp only
  rw [r, b2_s]
  exact rT_tail hk t
theorem rL_of {B17 B19 : Mm} {k : Int32} {m : Nat} (e : Ev (fX11_readLetters_L2 k) m (0, B17) B19) (hm : m ≤ 1000) : fX11_readLetters B17 k = some B19 := by
  unfold fX11_readLetters
  rw [e 1000 hm, b1_s]
/-! behind a term -/
theorem L54_dead {B : Mm} (h : B.1 95 14 ≠ 0) : fX11_readText_L54 B = some (.inr B) := by
  unfold fX11_readText_L54
  exact if_neg h
theorem L54_end {l n : Nat} {ch : Nat → Int32} {MA MB B : Mm} (T : Tx l n ch MA MB) (f : FB MB B) {k j : Nat} (s : BSt B k j) (hj : l ≤ j) (hj2 : j < 1000) : fX11_readText_L54 B = some (.inr B) := by
  have l60 := T.1
  unfold fX11_readText_L54
  rw [if_pos s.1, f 95 6 (by omega), T.2.2.1, s.2.1, if_pos (gen (by omega) (by omega) hj)]
theorem L54_bad {l n : Nat} {ch : Nat → Int32} {MA MB B B2 : Mm} (T : Tx l n ch MA MB) (f : FB MB B) {k j : Nat} (s : BSt B k j) (hj : j < l) (h : ch j ≠ 43 ∧ ch j ≠ 45) (g : fX11_fail B 1 = some B2) : fX11_readText_L54 B = some (.inl B2) := by
  have l60 := T.1
  have e : ltr l ch j = ch j := by unfold ltr; rw [if_pos hj]
  unfold fX11_readText_L54
  rw [if_pos s.1, f 95 6 (by omega), T.2.2.1, s.2.1, if_neg (ngen (by omega) (by omega) hj), letX T f (by omega), e, b1_s, bd_s, bd_s, if_neg h.1, if_neg h.2, g, b1_s]
theorem L54_full {l n : Nat} {ch : Nat → Int32} {MA MB B B2 : Mm} (T : Tx l n ch MA MB) (f : FB MB B) {j : Nat} (s : BSt B 10 j) (hj : j < l) (h : ch j = 43 ∨ ch j = 45) (g : fX11_fail B 4 = some B2) : fX11_readText_L54 B = some (.inl B2) := by
  have l60 := T.1
  have e : ltr l ch j = ch j := by unfold ltr; rw [if_pos hj]
  unfold fX11_readText_L54
  rw [if_pos s.1, f 95 6 (by omega), T.2.2.1, s.2.1, if_neg (ngen (by omega) (by omega) hj), letX T f (by omega), e, b1_s, bd_s, bd_s, s.2.2, if_pos (show nI 10 = 10 from rfl), g, b1_s]
  rcases h with h | h
  · rw [if_pos h]
  · rw [h]; rfl
theorem L54_sign {l n : Nat} {ch : Nat → Int32} {MA MB B B2 : Mm} (T : Tx l n ch MA MB) (f : FB MB B) {k j : Nat} (s : BSt B k j) (hk : k < 10) (hj : j < l) {sg : Int32} (h : (ch j = 43 ∧ sg = 0) ∨ (ch j = 45 ∧ sg = 1)) (g : fX11_readTerm (stI B 95 12 (nI (j + 1))) sg = some B2) : fX11_readText_L54 B = some (.inl B2) := by
  have l60 := T.1
  have e : ltr l ch j = ch j := by unfold ltr; rw [if_pos hj]
  unfold fX11_readText_L54
  rw [if_pos s.1, f 95 6 (by omega), T.2.2.1, s.2.1, if_neg (ngen (by omega) (by omega) hj), letX T f (by omega), e, b1_s, bd_s, bd_s, s.2.2, if_neg (show ¬ nI k = 10 from fun q => by have := (neq (b := 10) (by omega) (by omega)).mp q; omega), nI_1, bd_s, bd_s]
  rcases h with ⟨h, rfl⟩ | ⟨h, rfl⟩
  · rw [h, if_pos rfl, if_neg (by decide)]
    dsimp only
    rw [g, b1_s]
  · rw [h, if_neg (by decide), if_pos rfl, if_pos rfl]
    dsimp only
    rw [g, b1_s]
