/-! ===== texts: the reading of a function ===== -/
def Ev {σ ρ : Type} (body : σ → Option (σ ⊕ ρ)) (m : Nat) (s : σ) (r : ρ) : Prop := ∀ k, m ≤ k → itr body k s = some r
theorem Ev.go {σ ρ : Type} {body : σ → Option (σ ⊕ ρ)} {m : Nat} {s s' : σ} {r : ρ} (h : body s = some (.inl s')) (e : Ev body m s' r) : Ev body (m + 1) s r := by
  intro k hk
  obtain ⟨k, rfl⟩ : ∃ q, k = q + 1 := ⟨k - 1, by omega⟩
  rw [itr_l h]; exact e k (by omega)
theorem Ev.out {σ ρ : Type} {body : σ → Option (σ ⊕ ρ)} {m : Nat} {s : σ} {r : ρ} (h : body s = some (.inr r)) (hm : 1 ≤ m) : Ev body m s r := by
  intro k hk
  obtain ⟨k, rfl⟩ : ∃ q, k = q + 1 := ⟨k - 1, by omega⟩
  exact itr_r h
theorem Ev.le {σ ρ : Type} {body : σ → Option (σ ⊕ ρ)} {m m' : Nat} {s : σ} {r : ρ} (e : Ev body m s r) (h : m ≤ m') : Ev body m' s r := fun k hk => e k (by omega)
/-- what the two texts have in common -/
def Tx (l n : Nat) (ch : Nat → Int32) (MA MB : Mm) : Prop := (l ≤ 60 ∧ 1 ≤ n ∧ n ≤ 3) ∧ (MA.1 80 0 = nI l ∧ ∀ i, i < l → MA.1 81 i = ch i) ∧ MB.1 95 6 = nI l ∧ MB.1 96 0 = nI n ∧ ∀ i, i < l → MB.1 99 i = ch i
def FA (MA A : Mm) : Prop := ∀ c j, ¬ ((c = 80 ∧ j ≠ 0) ∨ (82 ≤ c ∧ c ≤ 85)) → A.1 c j = MA.1 c j
def FB (MB B : Mm) : Prop := ∀ c j, ¬ ((c = 95 ∧ 11 ≤ j ∧ j ≤ 14) ∨ c = 102) → B.1 c j = MB.1 c j
def ltr (l : Nat) (ch : Nat → Int32) (i : Nat) : Int32 := if i < l then ch i else -1
def dgt (w : Int32) : Bool := decide (48 ≤ w.toInt ∧ w.toInt ≤ 57)
def ltt (w : Int32) : Bool := decide (120 ≤ w.toInt ∧ w.toInt ≤ 122)
theorem vLt : ∀ v, v < 3 → ltt (nI (120 + v)) = true ∧ dgt (nI (120 + v)) = false ∧ nI (120 + v) - 120 = nI v := by decide +kernel
theorem dLt : ∀ d, d < 10 → ltt (nI (48 + d)) = false ∧ dgt (nI (48 + d)) = true ∧ nI (48 + d) - 48 = nI d := by decide +kernel
theorem in_lt (w : Int32) : fX11_in w 120 122 = some (if ltt w then 1 else 0) := by
  rw [in_any, show (120 : Int32).toInt = 120 from rfl, show (122 : Int32).toInt = 122 from rfl]
  unfold ltt
  by_cases h : 120 ≤ w.toInt ∧ w.toInt ≤ 122 <;> simp [h]
theorem in_dg (w : Int32) : fX11_in w 48 57 = some (if dgt w then 1 else 0) := by
  rw [in_any, show (48 : Int32).toInt = 48 from rfl, show (57 : Int32).toInt = 57 from rfl]
  unfold dgt
  by_cases h : 48 ≤ w.toInt ∧ w.toInt ≤ 57 <;> simp [h]
theorem chr (w : Int32) : (∃ v, v < 3 ∧ w = nI (120 + v)) ∨ (∃ d, d < 10 ∧ w = nI (48 + d)) ∨ (w = 43) ∨ (w = 45) ∨ (ltt w = false ∧ dgt w = false ∧ w ≠ 43 ∧ w ≠ 45) := by
  by_cases h1 : 120 ≤ w.toInt ∧ w.toInt ≤ 122
  · left
    obtain ⟨u, h2, h3⟩ := nI_of (x := w) (by rw [Int32.lt_iff_toInt_lt, show (0 : Int32).toInt = 0 from rfl]; omega)
    subst h3
    rw [tin h2] at h1
    exact ⟨u - 120, by omega, by rw [show 120 + (u - 120) = u by omega]⟩
  by_cases h2 : 48 ≤ w.toInt ∧ w.toInt ≤ 57
  · right; left
    obtain ⟨u, h3, h4⟩ := nI_of (x := w) (by rw [Int32.lt_iff_toInt_lt, show (0 : Int32).toInt = 0 from rfl]; omega)
    subst h4
    rw [tin h3] at h2
    exact ⟨u - 48, by omega, by rw [show 48 + (u - 48) = u by omega]⟩
  by_cases h3 : w = 43
  · exact Or.inr (Or.inr (Or.inl h3))
  by_cases h4 : w = 45
  · exact Or.inr (Or.inr (Or.inr (Or.inl h4)))
  · exact Or.inr (Or.inr (Or.inr (Or.inr ⟨by unfold ltt; exact decide_eq_false h1, by unfold dgt; exact decide_eq_false h2, h3, h4⟩)))
theorem b1_id {α : Type} (x : Option α) : (b1 x fun m => some m) = x := by cases x <;> rfl
/-! the class, a character -/
theorem scV (A : Mm) (i n : Int32) {v : Nat} (hv : v < 3) : fX8_scanCharacter A i (nI (120 + v)) n = fX8_scanLetter A i (nI v) n := by
  unfold fX8_scanCharacter
  rw [within_in, in_lt, (vLt v hv).1, if_pos rfl, b1_s, i10, (vLt v hv).2.2, b1_id]
theorem scD (A : Mm) (i n : Int32) {d : Nat} (hd : d < 10) : fX8_scanCharacter A i (nI (48 + d)) n = fX8_scanDigit A i (nI d) := by
  unfold fX8_scanCharacter
  rw [within_in, in_lt, (dLt d hd).1, if_neg (by decide), b1_s, i00, in_dg, (dLt d hd).2.1, if_pos rfl, b1_s, i10, (dLt d hd).2.2, b1_id]
theorem sc43 (A : Mm) (i n : Int32) : fX8_scanCharacter A i 43 n = fX8_scanSign A i 0 := by
  unfold fX8_scanCharacter
  rw [within_in, in_lt, show ltt 43 = false from rfl, if_neg (by decide), b1_s, i00, in_dg, show dgt 43 = false from rfl, if_neg (by decide), b1_s, i00, bd_s, if_pos rfl, if_neg (by decide), b1_id]
theorem sc45 (A : Mm) (i n : Int32) : fX8_scanCharacter A i 45 n = fX8_scanSign A i 1 := by
  unfold fX8_scanCharacter
  rw [within_in, in_lt, show ltt 45 = false from rfl, if_neg (by decide), b1_s, i00, in_dg, show dgt 45 = false from rfl, if_neg (by decide), b1_s, i00, bd_s, if_neg (by decide), if_pos rfl, if_pos rfl, b1_id]
theorem scO (A : Mm) (i n w : Int32) (h : ltt w = false ∧ dgt w = false ∧ w ≠ 43 ∧ w ≠ 45) : fX8_scanCharacter A i w n = fX8_setFault A i 1 := by
  unfold fX8_scanCharacter
  rw [within_in, in_lt, h.1, if_neg (by decide), b1_s, i00, in_dg, h.2.1, if_neg (by decide), b1_s, i00, bd_s, if_neg h.2.2.1, if_neg h.2.2.2, b1_id]
theorem stepC {l n : Nat} {ch : Nat → Int32} {MA MB A A2 : Mm} (T : Tx l n ch MA MB) (f : FA MA A) (h4 : A.1 80 4 = 0) {i : Nat} (hi : i < l) (e : fX8_scanCharacter A (nI i) (ch i) (nI n) = some A2) : fX8_isFunction_L25 (nI n) (nI i, A) = some (.inl (nI (i + 1), A2)) := by
  obtain ⟨⟨a1, a2, a3⟩, ⟨a4, a5⟩, -⟩ := T
  unfold fX8_isFunction_L25 u2
  dsimp only
  rw [f 80 0 (by omega), a4, if_neg (ngen (by omega) (by omega) hi), if_pos h4, gd_t (inbn (by omega) (by omega)), ixn (by omega), f 81 i (by omega), a5 i hi, e, b1_s, bd_s, nI_1]
theorem outC {l n : Nat} {ch : Nat → Int32} {MA MB A : Mm} (T : Tx l n ch MA MB) (f : FA MA A) {i : Nat} (hi : i < 1000) (h : l ≤ i ∨ A.1 80 4 ≠ 0) : fX8_isFunction_L25 (nI n) (nI i, A) = some (.inr A) := by
  obtain ⟨⟨a1, a2, a3⟩, ⟨a4, a5⟩, -⟩ := T
  unfold fX8_isFunction_L25 u2
  dsimp only
  rw [f 80 0 (by omega), a4]
  by_cases c : l ≤ i
  · rw [if_pos (gen (by omega) (by omega) c)]
  · rw [if_neg (ngen (by omega) (by omega) (by omega)), if_neg (h.resolve_left c)]
/-- the class ends its scan from i -/
def Cl (n i : Nat) (A A' : Mm) : Prop := ∃ C, Ev (fX8_isFunction_L25 (nI n)) (62 - i) (nI i, A) C ∧ (if C.1 80 4 = 0 then fX8_scanEnd C else some C) = some A'
theorem setF {MA A : Mm} (f : FA MA A) (w q : Int32) : ∃ A', fX8_setFault A w q = some A' ∧ A'.1 80 3 = w ∧ A'.1 80 4 = q ∧ FA MA A' := by
  refine bd_st fun M1 r1 _ => bd_st fun M2 r2 _ => ⟨M2, rfl, ?_, ?_, fun c j h => ?_⟩
  · rw [r2, if_neg (by omega), r1, if_pos ⟨rfl, rfl⟩]
  · rw [r2, if_pos ⟨rfl, rfl⟩]
  · rw [r2, if_neg (by omega), r1, if_neg (by omega)]; exact f c j h
theorem nzq {q : Nat} (h : 0 < q ∧ q < 5) : nI q ≠ 0 := fun e => by have := (neq (b := 0) (by omega) (by omega)).mp e; omega
theorem faultC {l n : Nat} {ch : Nat → Int32} {MA MB A : Mm} (T : Tx l n ch MA MB) (f : FA MA A) (h4 : A.1 80 4 = 0) {i : Nat} (hi : i < l) {q : Nat} (hq : 0 < q ∧ q < 5) (e : fX8_scanCharacter A (nI i) (ch i) (nI n) = fX8_setFault A (nI i) (nI q)) : ∃ A', Cl n i A A' ∧ A'.1 80 3 = nI i ∧ A'.1 80 4 = nI q ∧ FA MA A' := by
  obtain ⟨A', g, g3, g4, gf⟩ := setF f (nI i) (nI q)
  have l60 := T.1.1
  have n4 : A'.1 80 4 ≠ 0 := by rw [g4]; exact nzq hq
  refine ⟨A', ⟨A', (Ev.go (stepC T f h4 hi (e.trans g)) (Ev.out (m := 1) (outC T gf (i := i + 1) (by omega) (Or.inr n4)) (by omega))).le (by omega), if_neg n4⟩, g3, g4, gf⟩
/-! the class, a term -/
def CSt (A : Mm) (k : Nat) (sg : Int32) (g x c : Nat) (p : Nat → Nat) : Prop := (A.1 80 4 = 0 ∧ A.1 80 5 = sg ∧ A.1 80 6 = nI g ∧ A.1 80 7 = nI x ∧ A.1 80 8 = nI c ∧ A.1 82 0 = nI k) ∧ ∀ v, v < 3 → A.1 85 v = nI (p v)
def cx (g x : Nat) : Int32 := if g = 0 then 1 else nI x
def sgd (sg y : Int32) : Int32 := if sg = 0 then y else -y
theorem zz0 {a : Nat} (ha : a < 2147483648) (h : a ≠ 0) : ¬ nI a = 0 := fun e => h ((neq (b := 0) ha (by omega)).mp e)
theorem emptyX {A : Mm} {k g x c : Nat} {sg : Int32} {p : Nat → Nat} (s : CSt A k sg g x c p) (hg : g < 3) (hc : c < 5) : fX8_termIsEmpty A = some (if g = 0 ∧ c = 0 then 1 else 0) := by
  obtain ⟨⟨-, -, s6, -, s8, -⟩, -⟩ := s
  unfold fX8_termIsEmpty
  rw [s6, s8]
  by_cases h1 : g = 0 <;> by_cases h2 : c = 0
  · subst h1 h2; rfl
  · subst h1
    rw [if_pos (show nI 0 = 0 from rfl), if_neg (zz0 (by omega) h2), if_neg (fun e => h2 e.2)]
  · rw [if_neg (zz0 (by omega) h1), if_neg (fun e => h1 e.1)]
  · rw [if_neg (zz0 (by omega) h1), if_neg (fun e => h1 e.1)]
theorem addX {A : Mm} {k : Nat} (h0 : A.1 82 0 = nI k) (hk : k < 10) (y a b c : Int32) : ∃ A', fX7_add_82 A y a b c = some A' ∧ (A'.1 82 0 = nI (k + 1) ∧ A'.1 83 k = y ∧ A'.1 84 (3 * k) = a ∧ A'.1 84 (3 * k + 1) = b ∧ A'.1 84 (3 * k + 2) = c) ∧ (∀ i, i < k → A'.1 83 i = A.1 83 i) ∧ (∀ j, j < 3 * k → A'.1 84 j = A.1 84 j) ∧ ∀ c' j, c' < 82 ∨ 84 < c' → A'.1 c' j = A.1 c' j := by
  unfold fX7_add_82
  rw [h0, if_pos (show nI k < 10 from ltn (t := 10) (by omega) (by omega) hk), gd_t (inbn hk (by omega)), ixn (by omega)]
  refine bd_st fun M1 r1 _ => ?_
  rw [show M1.1 82 0 = nI k by rw [r1, if_neg (by omega), h0], n3i, gd_t (inbn (by omega) (by omega)), ixn (by omega)]
  refine bd_st fun M2 r2 _ => ?_
  rw [show M2.1 82 0 = nI k by rw [r2, if_neg (by omega), r1, if_neg (by omega), h0], n3i, nI_1, gd_t (inbn (by omega) (by omega)), ixn (by omega)]
  refine bd_st fun M3 r3 _ => ?_
  rw [show M3.1 82 0 = nI k by rw [r3, if_neg (by omega), r2, if_neg (by omega), r1, if_neg (by omega), h0], n3i, show nI (3 * k) + 2 = nI (3 * k + 2) from nI_add _ 2, gd_t (inbn (by omega) (by omega)), ixn (by omega)]
  refine bd_st fun M4 r4 _ => ?_
  rw [show M4.1 82 0 = nI k by rw [r4, if_neg (by omega), r3, if_neg (by omega), r2, if_neg (by omega), r1, if_neg (by omega), h0], nI_1]
  refine bd_st fun M5 r5 _ => ⟨M5, rfl, ⟨?_, ?_, ?_, ?_, ?_⟩, fun i hi => ?_, fun j hj => ?_, fun c' j h => ?_⟩
  · rw [r5, if_pos ⟨rfl, rfl⟩]
  · rw [r5, if_neg (by omega), r4, if_neg (by omega), r3, if_neg (by omega), r2, if_neg (by omega), r1, if_pos ⟨rfl, rfl⟩]
  · rw [r5, if_neg (by omega), r4, if_neg (by omega), r3, if_neg (by omega), r2, if_pos ⟨rfl, rfl⟩]
  · rw [r5, if_neg (by omega), r4, if_neg (by omega), r3, if_pos ⟨rfl, rfl⟩]
  · rw [r5, if_neg (by omega), r4, if_pos ⟨rfl, rfl⟩]
  · rw [r5, if_neg (by omega), r4, if_neg (by omega), r3, if_neg (by omega), r2, if_neg (by omega), r1, if_neg (by omega)]
  · rw [r5, if_neg (by omega), r4, if_neg (by omega), r3, if_neg (by omega), r2, if_neg (by omega), r1, if_neg (by omega)]
  · rw [r5, if_neg (by omega), r4, if_neg (by omega), r3, if_neg (by omega), r2, if_neg (by omega), r1, if_neg (by omega)]
theorem endX {MA A : Mm} {k g x c : Nat} {sg : Int32} {p : Nat → Nat} (f : FA MA A) (s : CSt A k sg g x c p) (hk : k < 10) (hg : g < 3) : ∃ A', fX8_endTerm A = some A' ∧ (A'.1 82 0 = nI (k + 1) ∧ A'.1 83 k = sgd sg (cx g x) ∧ ∀ v, v < 3 → A'.1 84 (3 * k + v) = nI (p v)) ∧ (∀ i, i < k → A'.1 83 i = A.1 83 i) ∧ (∀ j, j < 3 * k → A'.1 84 j = A.1 84 j) ∧ A'.1 80 4 = 0 ∧ FA MA A' := by
  obtain ⟨⟨s4, s5, s6, s7, s8, s9⟩, sp⟩ := s
  obtain ⟨A', e, ⟨q1, q2, q3, q4, q5⟩, o1, o2, o3⟩ := addX s9 hk (sgd sg (cx g x)) (A.1 85 0) (A.1 85 1) (A.1 85 2)
  refine ⟨A', ?_, ⟨q1, q2, fun v hv => ?_⟩, o1, o2, by rw [o3 _ _ (by omega), s4], fun c j h => ?_⟩
  · have key : ∀ y, y = cx g x → (bd (fun (x6 : Int32) => b1 (fX7_add_82 A x6 (A.1 85 0) (A.1 85 1) (A.1 85 2)) fun M8 => some M8) fun k4 => (if (A.1 80 5) = 0 then k4 y else k4 (-y))) = some A' := by
      rintro _ rfl
      rw [bd_s, s5]
      simp only [b1_id]
      unfold sgd at e
      by_cases h : sg = 0
      · rw [if_pos h] at e ⊢; exact e
      · rw [if_neg h] at e ⊢; exact e
    unfold fX8_endTerm
    rw [bd_s, s6]
    by_cases h : g = 0
    · rw [if_pos (show nI g = 0 by rw [h]; rfl)]; exact key 1 (by unfold cx; rw [if_pos h])
    · rw [if_neg (zz0 (by omega) h)]; exact key _ (by unfold cx; rw [if_neg h, s7])
  · rcases (show v = 0 ∨ v = 1 ∨ v = 2 by omega) with rfl | rfl | rfl
    · exact q3.trans (sp 0 (by omega))
    · exact q4.trans (sp 1 (by omega))
    · exact q5.trans (sp 2 (by omega))
  · rw [o3 c j (by omega)]; exact f c j h
theorem begL (A : Mm) {i : Nat} (hi : i < 3) : fX8_beginTerm_L22 (nI i, A) = some (.inl (nI (i + 1), stI A 85 i 0)) := by
  unfold fX8_beginTerm_L22 u2
  dsimp only
  rw [if_neg (show ¬ 3 ≤ nI i from ngen (t := 3) (by omega) (by omega) hi), gd_t (inbn hi (by omega)), ixn (by omega), bd_s, bd_s, nI_1]
theorem begX (A : Mm) {sg : Int32} (hs : sg = 0 ∨ sg = 1) : ∃ A', fX8_beginTerm A sg = some A' ∧ (A'.1 80 5 = sg ∧ A'.1 80 6 = 0 ∧ A'.1 80 7 = 0 ∧ A'.1 80 8 = 0 ∧ ∀ v, v < 3 → A'.1 85 v = 0) ∧ ∀ c j, ¬ (c = 80 ∧ 5 ≤ j ∧ j < 9) → c ≠ 85 → A'.1 c j = A.1 c j := by
  unfold fX8_beginTerm
  rw [gd_t hs]
  refine bd_st fun M1 r1 _ => bd_st fun M2 r2 _ => bd_st fun M3 r3 _ => bd_st fun M4 r4 _ => ?_
  have e : itr fX8_beginTerm_L22 1000 (0, M4) = some (stI (stI (stI M4 85 0 0) 85 1 0) 85 2 0) := by
    show itr fX8_beginTerm_L22 (996 + 1 + 1 + 1 + 1) (nI 0, M4) = _
    rw [itr_l (begL M4 (i := 0) (by omega)), itr_l (begL _ (i := 1) (by omega)), itr_l (begL _ (i := 2) (by omega))]
    refine itr_r ?_
    unfold fX8_beginTerm_L22 u2
    exact if_pos (show (3 : Int32) ≤ nI 3 by decide)
  rw [e, b1_s]
  refine ⟨_, rfl, ⟨?_, ?_, ?_, ?_, fun v hv => ?_⟩, fun c j h h2 => ?_⟩
  · rw [stI_rd, if_neg (by omega), stI_rd, if_neg (by omega), stI_rd, if_neg (by omega), r4, if_neg (by omega), r3, if_neg (by omega), r2, if_neg (by omega), r1, if_pos ⟨rfl, rfl⟩]
  · rw [stI_rd, if_neg (by omega), stI_rd, if_neg (by omega), stI_rd, if_neg (by omega), r4, if_neg (by omega), r3, if_neg (by omega), r2, if_pos ⟨rfl, rfl⟩]
  · rw [stI_rd, if_neg (by omega), stI_rd, if_neg (by omega), stI_rd, if_neg (by omega), r4, if_neg (by omega), r3, if_pos ⟨rfl, rfl⟩]
  · rw [stI_rd, if_neg (by omega), stI_rd, if_neg (by omega), stI_rd, if_neg (by omega), r4, if_pos ⟨rfl, rfl⟩]
  · rcases (show v = 0 ∨ v = 1 ∨ v = 2 by omega) with rfl | rfl | rfl
    · rw [stI_rd, if_neg (by omega), stI_rd, if_neg (by omega), stI_rd, if_pos ⟨rfl, rfl⟩]
    · rw [stI_rd, if_neg (by omega), stI_rd, if_pos ⟨rfl, rfl⟩]
    · rw [stI_rd, if_pos ⟨rfl, rfl⟩]
  · rw [stI_rd, if_neg (by omega), stI_rd, if_neg (by omega), stI_rd, if_neg (by omega), r4, if_neg (by omega), r3, if_neg (by omega), r2, if_neg (by omega), r1, if_neg (by omega)]
theorem ten2 : ∀ x, x < 10 → ∀ d, d < 10 → 10 * nI x + nI d = nI (10 * x + d) ∧ 10 * nI x + nI (48 + d) - 48 = nI (10 * x + d) := by decide +kernel
theorem digC {MA A : Mm} {k g x : Nat} {sg : Int32} {p : Nat → Nat} (f : FA MA A) (s : CSt A k sg g x 0 p) (hg : g < 2) (hx : x < 10) {d : Nat} (hd : d < 10) (h : ¬ (g = 0 ∧ d = 0)) (i : Int32) : ∃ A', fX8_scanDigit A i (nI d) = some A' ∧ CSt A' k sg (g + 1) (10 * x + d) 0 p ∧ FA MA A' ∧ ∀ c j, c = 83 ∨ c = 84 → A'.1 c j = A.1 c j := by
  obtain ⟨⟨s4, s5, s6, s7, s8, s9⟩, sp⟩ := s
  have key : ∃ A', (bd (stI A 80 6 ((A.1 80 6) + 1)) fun M9 => bd (stI M9 80 7 ((10 * (M9.1 80 7)) + nI d)) fun M10 => some M10) = some A' ∧ CSt A' k sg (g + 1) (10 * x + d) 0 p ∧ FA MA A' ∧ ∀ c j, c = 83 ∨ c = 84 → A'.1 c j = A.1 c j := by
    refine bd_st fun M1 r1 _ => ?_
    rw [show M1.1 80 7 = nI x by rw [r1, if_neg (by omega), s7], (ten2 x hx d hd).1]
    refine bd_st fun M2 r2 _ => ⟨M2, rfl, ⟨⟨?_, ?_, ?_, ?_, ?_, ?_⟩, fun v hv => ?_⟩, fun c j h => ?_, fun c j h => ?_⟩
    · rw [r2, if_neg (by omega), r1, if_neg (by omega), s4]
    · rw [r2, if_neg (by omega), r1, if_neg (by omega), s5]
    · rw [r2, if_neg (by omega), r1, if_pos ⟨rfl, rfl⟩, s6, nI_1]
    · rw [r2, if_pos ⟨rfl, rfl⟩]
    · rw [r2, if_neg (by omega), r1, if_neg (by omega), s8]
    · rw [r2, if_neg (by omega), r1, if_neg (by omega), s9]
    · rw [r2, if_neg (by omega), r1, if_neg (by omega), sp v hv]
    · rw [r2, if_neg (by omega), r1, if_neg (by omega)]; exact f c j h
    · rw [r2, if_neg (by omega), r1, if_neg (by omega)]
  obtain ⟨A', e, rest⟩ := key
  refine ⟨A', ?_, rest⟩
  unfold fX8_scanDigit
  rw [s8, if_neg (by decide), s6, if_neg (show ¬ 2 ≤ nI g from ngen (t := 2) (by omega) (by omega) hg), bd_s]
  rw [s6] at e
  by_cases h1 : g = 0
  · rw [if_pos (show nI g = 0 by rw [h1]; rfl), if_neg (zz0 (a := d) (by omega) (by omega))]; exact e
  · rw [if_neg (zz0 (by omega) h1)]; exact e
theorem letC {MA A : Mm} {k g x c : Nat} {sg : Int32} {p : Nat → Nat} (f : FA MA A) (s : CSt A k sg g x c p) (hc : c < 4) {v n : Nat} (hv : v < n) (hn : n ≤ 3) (i : Int32) : ∃ A', fX8_scanLetter A i (nI v) (nI n) = some A' ∧ CSt A' k sg g x (c + 1) (fun w => if w = v then p w + 1 else p w) ∧ FA MA A' ∧ ∀ c j, c = 83 ∨ c = 84 → A'.1 c j = A.1 c j := by
  obtain ⟨⟨s4, s5, s6, s7, s8, s9⟩, sp⟩ := s
  unfold fX8_scanLetter
  rw [if_pos (ltn (by omega) (by omega) hv), s8, if_pos (show nI c < 4 from ltn (t := 4) (by omega) (by omega) hc)]
  refine bd_st fun M1 r1 _ => ?_
  rw [gd_t (inbn (by omega) (by omega)), ixn (by omega), show M1.1 85 v = nI (p v) by rw [r1, if_neg (by omega), sp v (by omega)], nI_1]
  refine bd_st fun M2 r2 _ => ⟨M2, rfl, ⟨⟨?_, ?_, ?_, ?_, ?_, ?_⟩, fun w hw => ?_⟩, fun c j h => ?_, fun c j h => ?_⟩
  · rw [r2, if_neg (by omega), r1, if_neg (by omega), s4]
  · rw [r2, if_neg (by omega), r1, if_neg (by omega), s5]
  · rw [r2, if_neg (by omega), r1, if_neg (by omega), s6]
  · rw [r2, if_neg (by omega), r1, if_neg (by omega), s7]
  · rw [r2, if_neg (by omega), r1, if_pos ⟨rfl, rfl⟩, nI_1]
  · rw [r2, if_neg (by omega), r1, if_neg (by omega), s9]
  · show _ = nI (if w = v then p w + 1 else p w)
    rw [r2]
    by_cases q : w = v
    · rw [if_pos ⟨rfl, q⟩, if_pos q, q]
    · rw [if_neg (by omega), if_neg q, r1, if_neg (by omega), sp w hw]
  · rw [r2, if_neg (by omega), r1, if_neg (by omega)]; exact f c j h
  · rw [r2, if_neg (by omega), r1, if_neg (by omega)]
