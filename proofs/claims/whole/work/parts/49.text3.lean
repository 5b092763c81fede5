/-! ===== texts: both sides, a term behind the other ===== -/
def tkO (B : Mm) (i : Nat) : Prop := (-99 ≤ (B.1 102 (4 * i)).toInt ∧ (B.1 102 (4 * i)).toInt ≤ 99) ∧ ∃ p q r : Nat, p + q + r ≤ 4 ∧ B.1 102 (4 * i + 1) = nI p ∧ B.1 102 (4 * i + 2) = nI q ∧ B.1 102 (4 * i + 3) = nI r
def TTt (k : Nat) (A B : Mm) : Prop := ∀ i, i < k → (A.1 83 i = B.1 102 (4 * i) ∧ A.1 84 (3 * i) = B.1 102 (4 * i + 1) ∧ A.1 84 (3 * i + 1) = B.1 102 (4 * i + 2) ∧ A.1 84 (3 * i + 2) = B.1 102 (4 * i + 3)) ∧ tkO B i
theorem TTt.cg {k : Nat} {A A' B B' : Mm} (h : TTt k A B) (o1 : ∀ i, i < k → A'.1 83 i = A.1 83 i) (o2 : ∀ j, j < 3 * k → A'.1 84 j = A.1 84 j) (o3 : ∀ j, j < 4 * k → B'.1 102 j = B.1 102 j) : TTt k A' B' := fun i hi => by
  have q := h i hi
  unfold tkO at q ⊢
  rw [o1 i hi, o2 (3 * i) (by omega), o2 (3 * i + 1) (by omega), o2 (3 * i + 2) (by omega), o3 (4 * i) (by omega), o3 (4 * i + 1) (by omega), o3 (4 * i + 2) (by omega), o3 (4 * i + 3) (by omega)]
  exact q
theorem cx_n (g x : Nat) (hx : x ≤ 99) : ∃ u, u < 100 ∧ cx g x = nI u := by
  unfold cx
  by_cases h : g = 0
  · exact ⟨1, by omega, by rw [if_pos h]; rfl⟩
  · exact ⟨x, by omega, by rw [if_neg h]⟩
theorem sgd_n (sg y : Int32) {u : Nat} (hu : u < 100) (e : y = nI u) : -99 ≤ (sgd sg y).toInt ∧ (sgd sg y).toInt ≤ 99 := by
  subst e
  have k1 : ∀ u, u < 100 → (-99 ≤ (nI u).toInt ∧ (nI u).toInt ≤ 99) ∧ (-99 ≤ (-nI u).toInt ∧ (-nI u).toInt ≤ 99) := by decide +kernel
  unfold sgd
  by_cases h : sg = 0
  · rw [if_pos h]; exact (k1 u hu).1
  · rw [if_neg h]; exact (k1 u hu).2
theorem TTt.more {k g x : Nat} {sg : Int32} {p : Nat → Nat} {A A' B B' : Mm} (h : TTt k A B) (q2 : A'.1 83 k = sgd sg (cx g x)) (q3 : ∀ v, v < 3 → A'.1 84 (3 * k + v) = nI (p v)) (o1 : ∀ i, i < k → A'.1 83 i = A.1 83 i) (o2 : ∀ j, j < 3 * k → A'.1 84 j = A.1 84 j) (e1 : B'.1 102 (4 * k) = sgd sg (cx g x)) (e2 : ∀ v, v < 3 → B'.1 102 (4 * k + 1 + v) = nI (p v)) (o3 : ∀ j, j < 4 * k → B'.1 102 j = B.1 102 j) (hx : x ≤ 99) (hp : p 0 + p 1 + p 2 ≤ 4) : TTt (k + 1) A' B' := fun i hi => by
  rcases Nat.lt_or_ge i k with hl | hl
  · exact h.cg o1 o2 o3 i hl
  · obtain rfl : i = k := by omega
    obtain ⟨u, hu, eu⟩ := cx_n g x hx
    have f0 := e2 0 (by omega)
    have f1 := e2 1 (by omega)
    have f2 := e2 2 (by omega)
    refine ⟨⟨q2.trans e1.symm, (q3 0 (by omega)).trans f0.symm, (q3 1 (by omega)).trans f1.symm, (q3 2 (by omega)).trans f2.symm⟩, ?_, p 0, p 1, p 2, hp, f0, f1, f2⟩
    rw [e1]; exact sgd_n sg _ hu eu
def FinT (A B : Mm) : Prop := A.1 80 4 = B.1 95 14 ∧ (A.1 80 4 ≠ 0 → A.1 80 3 = B.1 95 13) ∧ (A.1 80 4 = 0 → ∃ k, k ≤ 10 ∧ A.1 82 0 = nI k ∧ B.1 95 11 = nI k ∧ TTt k A B)
theorem FinT.dead {A B : Mm} {q i : Nat} (hq : 0 < q ∧ q < 5) (a4 : A.1 80 4 = nI q) (a3 : A.1 80 3 = nI i) (b4 : B.1 95 14 = nI q) (b3 : B.1 95 13 = nI i) : FinT A B := ⟨a4.trans b4.symm, fun _ => a3.trans b3.symm, fun h => absurd (a4.symm.trans h) (nzq hq)⟩
def TermT (l n : Nat) (ch : Nat → Int32) (MA MB : Mm) (i k : Nat) : Prop := ∀ A B sg, (sg = 0 ∨ sg = 1) → FA MA A → FB MB B → CSt A k sg 0 0 0 (fun _ => 0) → BSt B k i → TTt k A B → ∃ A' B1 B', Cl n i A A' ∧ fX11_readTerm B sg = some B1 ∧ Ev fX11_readText_L54 (62 - i) B1 B' ∧ FA MA A' ∧ FB MB B' ∧ FinT A' B'
theorem stf_rd (k : Nat) (sg y : Int32) (B : Mm) (c j : Nat) : (stf k sg y B).1 c j = if c = 95 ∧ j = 11 then B.1 95 11 + 1 else if c = 102 ∧ j = 4 * k then sgd sg y else B.1 c j := by
  unfold stf
  rw [stI_rd, stI_rd]
theorem stf_f {MB B : Mm} (f : FB MB B) (k : Nat) (sg y : Int32) : FB MB (stf k sg y B) := (f.st _ (by omega)).st _ (by omega)
theorem stf_s {B : Mm} {k j : Nat} (s : BSt B k j) (hk : k < 10) (sg y : Int32) : BSt (stf k sg y B) (k + 1) j := by
  obtain ⟨s1, s2, s3⟩ := s
  refine ⟨?_, ?_, ?_⟩
  · rw [stf_rd, if_neg (by omega), if_neg (by omega), s1]
  · rw [stf_rd, if_neg (by omega), if_neg (by omega), s2]
  · rw [stf_rd, if_pos ⟨rfl, rfl⟩, s3, nI_1]
def MidT (l n : Nat) (ch : Nat → Int32) (MA MB : Mm) (k : Nat) (sg : Int32) (g x j c : Nat) (A B : Mm) : Prop := ∃ A' B19 B', Cl n j A A' ∧ Ev (fX11_readLetters_L2 (nI k)) (62 - j) (nI c, B) B19 ∧ Ev fX11_readText_L54 (62 - j) (stf k sg (cx g x) B19) B' ∧ FA MA A' ∧ FB MB B' ∧ FinT A' B'
/-- in the midst of a term -/
def InT (l n : Nat) (ch : Nat → Int32) (MA MB : Mm) (k : Nat) (sg : Int32) (g x j c : Nat) (p : Nat → Nat) (A B : Mm) : Prop := FA MA A ∧ FB MB B ∧ CSt A k sg g x c p ∧ BSt B k j ∧ (∀ v, v < 3 → B.1 102 (4 * k + 1 + v) = nI (p v)) ∧ TTt k A B ∧ p 0 + p 1 + p 2 = c ∧ c ≤ 4
theorem midEnd {l n : Nat} {ch : Nat → Int32} {MA MB : Mm} (T : Tx l n ch MA MB) {k : Nat} (hk : k < 10) {sg : Int32} {g x : Nat} (hg : g ≤ 2) (hx : x ≤ 99) {c : Nat} {p : Nat → Nat} {A B : Mm} (I : InT l n ch MA MB k sg g x l c p A B) (h0 : 0 < g ∨ 0 < c) : MidT l n ch MA MB k sg g x l c A B := by
  obtain ⟨fa, fb, sa, sb, rw_, tt, hp, hc⟩ := I
  have l60 := T.1
  obtain ⟨A', e, ⟨q1, q2, q3⟩, o1, o2, a4, fa'⟩ := endX fa sa hk (by omega)
  have fb1 := stf_f fb k sg (cx g x)
  have sb1 := stf_s sb hk sg (cx g x)
  refine ⟨A', B, stf k sg (cx g x) B, ⟨A, Ev.out (outC T fa (by omega) (Or.inl (by omega))) (by omega), ?_⟩, Ev.out (L2_out T fb sb (by omega) (by unfold ltr; rw [if_neg (by omega)]; rfl) _) (by omega), Ev.out (L54_end T fb1 sb1 (by omega) (by omega)) (by omega), fa', fb1, ?_, fun h => absurd a4 h, fun _ => ⟨k + 1, by omega, q1, sb1.2.2, ?_⟩⟩
  · rw [if_pos sa.1.1]
    unfold fX8_scanEnd
    rw [emptyX sa (by omega) (by omega), if_neg (by omega), b1_s, i00, b1_id, e]
  · rw [a4, sb1.1]
  · refine tt.more (sg := sg) (g := g) (x := x) q2 q3 o1 o2 ?_ (fun v hv => ?_) (fun j hj => ?_) hx (by omega)
    · rw [stf_rd, if_neg (by omega), if_pos ⟨rfl, rfl⟩]
    · rw [stf_rd, if_neg (by omega), if_neg (by omega), rw_ v hv]
    · rw [stf_rd, if_neg (by omega), if_neg (by omega)]
theorem midBad {l n : Nat} {ch : Nat → Int32} {MA MB : Mm} (T : Tx l n ch MA MB) {k : Nat} (hk : k < 10) {sg : Int32} {g x j : Nat} {c : Nat} {p : Nat → Nat} {A B : Mm} (I : InT l n ch MA MB k sg g x j c p A B) (hj : j < l) (hl : ltt (ch j) = false) (h : ch j ≠ 43 ∧ ch j ≠ 45) (e : fX8_scanCharacter A (nI j) (ch j) (nI n) = fX8_setFault A (nI j) (nI 1)) : MidT l n ch MA MB k sg g x j c A B := by
  obtain ⟨fa, fb, sa, sb, rw_, tt, hp, hc⟩ := I
  have l60 := T.1
  obtain ⟨A', ec, a3, a4, fa'⟩ := faultC T fa sa.1.1 hj (q := 1) (by omega) e
  have fb1 := stf_f fb k sg (cx g x)
  have sb1 := stf_s sb hk sg (cx g x)
  obtain ⟨B2, eb, b4, b3, bo⟩ := failR sb1.1 1
  exact ⟨A', B, B2, ec, Ev.out (L2_out T fb sb (by omega) (by unfold ltr; rw [if_pos hj]; exact hl) _) (by omega), (Ev.go (L54_bad T fb1 sb1 hj h eb) (Ev.out (m := 1) (L54_dead (by rw [b4]; decide)) (by omega))).le (by omega), fa', fb1.cg bo, FinT.dead (q := 1) (by omega) a4 a3 b4 (b3.trans sb1.2.1)⟩
theorem midSign {l n : Nat} {ch : Nat → Int32} {MA MB : Mm} (T : Tx l n ch MA MB) {k : Nat} (hk : k < 10) {sg : Int32} {g x j : Nat} (hg : g ≤ 2) (hx : x ≤ 99) {c : Nat} {p : Nat → Nat} {A B : Mm} (I : InT l n ch MA MB k sg g x j c p A B) (h0 : 0 < g ∨ 0 < c) (hj : j < l) {s2 : Int32} (h : (ch j = 43 ∧ s2 = 0) ∨ (ch j = 45 ∧ s2 = 1)) (next : k + 1 < 10 → TermT l n ch MA MB (j + 1) (k + 1)) : MidT l n ch MA MB k sg g x j c A B := by
  obtain ⟨fa, fb, sa, sb, rw_, tt, hp, hc⟩ := I
  have l60 := T.1
  have hs2 : s2 = 0 ∨ s2 = 1 := by rcases h with ⟨-, h⟩ | ⟨-, h⟩ <;> simp [h]
  have hsc : fX8_scanCharacter A (nI j) (ch j) (nI n) = fX8_scanSign A (nI j) s2 := by
    rcases h with ⟨h, rfl⟩ | ⟨h, rfl⟩
    · rw [h, sc43]
    · rw [h, sc45]
  have hlt : ltt (ltr l ch j) = false := by
    unfold ltr; rw [if_pos hj]
    rcases h with ⟨h, -⟩ | ⟨h, -⟩ <;> rw [h] <;> rfl
  have fb1 := stf_f fb k sg (cx g x)
  have sb1 := stf_s sb hk sg (cx g x)
  have he := emptyX sa (by omega) (by omega)
  rw [if_neg (by omega)] at he
  by_cases h10 : k + 1 < 10
  · obtain ⟨A1, e, ⟨q1, q2, q3⟩, o1, o2, a4, fa1⟩ := endX fa sa hk (by omega)
    obtain ⟨A2, e2, ⟨r5, r6, r7, r8, r85⟩, o3⟩ := begX A1 hs2
    have fa2 : FA MA A2 := fun c j h => by rw [o3 c j (by omega) (by omega)]; exact fa1 c j h
    have es : fX8_scanCharacter A (nI j) (ch j) (nI n) = some A2 := by
      rw [hsc]; unfold fX8_scanSign
      rw [he, b1_s, i00, sa.1.2.2.2.2.2, nI_1, if_pos (show nI (k + 1) < 10 from ltn (t := 10) (by omega) (by omega) h10), e, b1_s, e2, b1_s]
    have tt2 : TTt (k + 1) A2 (stI (stf k sg (cx g x) B) 95 12 (nI (j + 1))) := by
      refine tt.more (sg := sg) (g := g) (x := x) (p := p) ?_ (fun v hv => ?_) (fun i hi => ?_) (fun i hi => ?_) ?_ (fun v hv => ?_) (fun i hi => ?_) hx (by omega)
      · rw [o3 _ _ (by omega) (by omega), q2]
      · rw [o3 _ _ (by omega) (by omega), q3 v hv]
      · rw [o3 _ _ (by omega) (by omega), o1 i hi]
      · rw [o3 _ _ (by omega) (by omega), o2 i hi]
      · rw [stI_rd, if_neg (by omega), stf_rd, if_neg (by omega), if_pos ⟨rfl, rfl⟩]
      · rw [stI_rd, if_neg (by omega), stf_rd, if_neg (by omega), if_neg (by omega), rw_ v hv]
      · rw [stI_rd, if_neg (by omega), stf_rd, if_neg (by omega), if_neg (by omega)]
    obtain ⟨A', B2, B', ⟨C, ec, ef⟩, er, ev, fa', fb', fin⟩ := next h10 A2 (stI (stf k sg (cx g x) B) 95 12 (nI (j + 1))) s2 hs2 fa2 (fb1.st _ (by omega)) ⟨⟨by rw [o3 _ _ (by omega) (by omega), a4], r5, r6, r7, r8, by rw [o3 _ _ (by omega) (by omega), q1]⟩, fun v hv => r85 v hv⟩ ⟨by rw [stI_rd, if_neg (by omega)]; exact sb1.1, by rw [stI_rd, if_pos ⟨rfl, rfl⟩], by rw [stI_rd, if_neg (by omega)]; exact sb1.2.2⟩ tt2
    exact ⟨A', B, B', ⟨C, (Ev.go (stepC T fa sa.1.1 hj es) ec).le (by omega), ef⟩, Ev.out (L2_out T fb sb (by omega) hlt _) (by omega), (Ev.go (L54_sign T fb1 sb1 h10 hj h er) ev).le (by omega), fa', fb', fin⟩
  · obtain rfl : k = 9 := by omega
    have es : fX8_scanCharacter A (nI j) (ch j) (nI n) = fX8_setFault A (nI j) (nI 4) := by
      rw [hsc]; unfold fX8_scanSign
      rw [he, b1_s, i00, sa.1.2.2.2.2.2, if_neg (by decide), b1_id]
      rfl
    obtain ⟨A', ec, a3, a4, fa'⟩ := faultC T fa sa.1.1 hj (q := 4) (by omega) es
    obtain ⟨B2, eb, b4, b3, bo⟩ := failR sb1.1 4
    exact ⟨A', B, B2, ec, Ev.out (L2_out T fb sb (by omega) hlt _) (by omega), (Ev.go (L54_full T fb1 sb1 hj (by rcases h with ⟨h, -⟩ | ⟨h, -⟩ <;> simp [h]) eb) (Ev.out (m := 1) (L54_dead (by rw [b4]; decide)) (by omega))).le (by omega), fa', fb1.cg bo, FinT.dead (q := 4) (by omega) a4 a3 b4 (b3.trans sb1.2.1)⟩
/-- a letter that faults -/
theorem midFault {l n : Nat} {ch : Nat → Int32} {MA MB : Mm} (T : Tx l n ch MA MB) {k : Nat} (hk : k < 10) {sg : Int32} {g x j : Nat} {c : Nat} {p : Nat → Nat} {A B : Mm} (I : InT l n ch MA MB k sg g x j c p A B) (hj : j < l) {q : Nat} (hq : 0 < q ∧ q < 5) (e : fX8_scanCharacter A (nI j) (ch j) (nI n) = fX8_setFault A (nI j) (nI q)) (e2 : fX11_readLetters_L2 (nI k) (nI c, B) = b1 (fX11_fail B (nI q)) (fun M => some (.inl (nI c, M)))) : MidT l n ch MA MB k sg g x j c A B := by
  obtain ⟨fa, fb, sa, sb, rw_, tt, hp, hc⟩ := I
  have l60 := T.1
  obtain ⟨A', ec, a3, a4, fa'⟩ := faultC T fa sa.1.1 hj hq e
  obtain ⟨B2, eb, b4, b3, bo⟩ := failR sb.1 (nI q)
  rw [eb, b1_s] at e2
  have n4 : B2.1 95 14 ≠ 0 := by rw [b4]; exact nzq hq
  have d4 : (stf k sg (cx g x) B2).1 95 14 = nI q := by rw [stf_rd, if_neg (by omega), if_neg (by omega), b4]
  refine ⟨A', B2, stf k sg (cx g x) B2, ec, (Ev.go e2 (Ev.out (m := 1) (L2_dead _ n4) (by omega))).le (by omega), Ev.out (L54_dead (by rw [d4]; exact nzq hq)) (by omega), fa', stf_f (fb.cg bo) k sg _, FinT.dead hq a4 a3 d4 ?_⟩
  rw [stf_rd, if_neg (by omega), if_neg (by omega), b3, sb.2.1]
theorem dNe : ∀ d, d < 10 → nI (48 + d) ≠ 43 ∧ nI (48 + d) ≠ 45 := by decide +kernel
theorem midX {l n : Nat} {ch : Nat → Int32} {MA MB : Mm} (T : Tx l n ch MA MB) {k : Nat} (hk : k < 10) {sg : Int32} {g x : Nat} (hg : g ≤ 2) (hx : x ≤ 99) (j0 : Nat) (next : ∀ j, j0 ≤ j → j < l → k + 1 < 10 → TermT l n ch MA MB (j + 1) (k + 1)) : ∀ (m j c : Nat) (p : Nat → Nat) (A B : Mm), l - j ≤ m → j0 ≤ j → j ≤ l → InT l n ch MA MB k sg g x j c p A B → (0 < g ∨ 0 < c ∨ (j < l ∧ ltt (ch j) = true)) → (c = 0 → g = 1 → j < l → dgt (ch j) = false) → MidT l n ch MA MB k sg g x j c A B := by
  intro m
  induction m with
  | zero =>
    intro j c p A B h1 h2 h3 I h0 hd
    obtain rfl : j = l := by omega
    exact midEnd T hk hg hx I (by omega)
  | succ m ih =>
    intro j c p A B h1 h2 h3 I h0 hd
    have l60 := T.1
    have hc4 : c ≤ 4 := I.2.2.2.2.2.2.2
    by_cases hl : j < l
    case neg =>
      obtain rfl : j = l := by omega
      exact midEnd T hk hg hx I (by omega)
    rcases chr (ch j) with ⟨v, hv, ev⟩ | ⟨d, hd10, ed⟩ | e43 | e45 | eo
    · have pre := L2_pre T I.2.1 I.2.2.2.1 hl hv ev (nI c)
      have hsl := scV A (nI j) (nI n) hv
      rw [← ev] at hsl
      by_cases hvn : v < n
      · rw [if_pos hvn] at pre
        by_cases h4 : c = 4
        · subst h4
          rw [if_pos (show nI 4 = 4 from rfl)] at pre
          refine midFault T hk I hl (q := 3) (by omega) ?_ pre
          rw [hsl]; unfold fX8_scanLetter
          rw [if_pos (ltn (by omega) (by omega) hvn), I.2.2.1.1.2.2.2.2.1, if_neg (by decide), b1_id]; rfl
        · obtain ⟨fa, fb, sa, sb, rw_, tt, hp, hc⟩ := I
          rw [if_neg (show ¬ nI c = 4 from fun q => h4 ((neq (b := 4) (by omega) (by omega)).mp q)), n4i, nI_1, nI_add, gd_t (inbn (by omega) (by omega)), ixn (by omega), rw_ v hv, nI_1, nI_1, stI_rd, if_neg (by omega), sb.2.1, nI_1] at pre
          obtain ⟨A2, ea, sa2, fa2, oa⟩ := letC fa sa (by omega) hvn (by omega) (nI j)
          obtain ⟨B2, eB2⟩ : ∃ B2, B2 = stI (stI B 102 (4 * k + 1 + v) (nI (p v + 1))) 95 12 (nI (j + 1)) := ⟨_, rfl⟩
          rw [← eB2] at pre
          have rB : ∀ c' j', B2.1 c' j' = if c' = 95 ∧ j' = 12 then nI (j + 1) else if c' = 102 ∧ j' = 4 * k + 1 + v then nI (p v + 1) else B.1 c' j' := fun c' j' => by rw [eB2, stI_rd, stI_rd]
          have I2 : InT l n ch MA MB k sg g x (j + 1) (c + 1) (fun w => if w = v then p w + 1 else p w) A2 B2 := by
            refine ⟨fa2, by rw [eB2]; exact (fb.st _ (by omega)).st _ (by omega), sa2, ⟨?_, ?_, ?_⟩, fun w hw => ?_, tt.cg (fun i _ => oa _ _ (by omega)) (fun i _ => oa _ _ (by omega)) (fun i hi => ?_), ?_, by omega⟩
            · rw [rB, if_neg (by omega), if_neg (by omega), sb.1]
            · rw [rB, if_pos ⟨rfl, rfl⟩]
            · rw [rB, if_neg (by omega), if_neg (by omega), sb.2.2]
            · show _ = nI (if w = v then p w + 1 else p w)
              rw [rB, if_neg (by omega)]
              by_cases q : w = v
              · rw [if_pos ⟨rfl, by rw [q]⟩, if_pos q, q]
              · rw [if_neg (by omega), if_neg q, rw_ w hw]
            · rw [rB, if_neg (by omega), if_neg (by omega)]
            · show (if 0 = v then p 0 + 1 else p 0) + (if 1 = v then p 1 + 1 else p 1) + (if 2 = v then p 2 + 1 else p 2) = c + 1
              rcases (show v = 0 ∨ v = 1 ∨ v = 2 by omega) with rfl | rfl | rfl <;> simp <;> omega
          obtain ⟨A', B19, B', ⟨C, ec, ef⟩, e1, e2, f1, f2, f3⟩ := ih (j + 1) (c + 1) _ A2 B2 (by omega) (by omega) (by omega) I2 (by omega) (fun q => absurd q (by omega))
          exact ⟨A', B19, B', ⟨C, (Ev.go (stepC T fa sa.1.1 hl (hsl.trans ea)) ec).le (by omega), ef⟩, (Ev.go pre e1).le (by omega), e2.le (by omega), f1, f2, f3⟩
      · rw [if_neg hvn] at pre
        refine midFault T hk I hl (q := 2) (by omega) ?_ pre
        rw [hsl]; unfold fX8_scanLetter
        rw [if_neg (nltn (by omega) (by omega) (by omega)), b1_id]; rfl
    · have nl : ltt (ch j) = false := by rw [ed]; exact (dLt d hd10).1
      have h0' : 0 < g ∨ 0 < c := by
        rcases h0 with q | q | ⟨-, q⟩
        · exact Or.inl q
        · exact Or.inr q
        · rw [nl] at q; exact absurd q (by decide)
      refine midBad T hk I hl nl (by rw [ed]; exact dNe d hd10) ?_
      rw [ed, scD _ _ _ hd10]
      unfold fX8_scanDigit
      obtain ⟨-, -, ⟨⟨-, -, s6, -, s8, -⟩, -⟩, -⟩ := I
      rw [s8, s6]
      by_cases c0 : c = 0
      · rcases (show g = 1 ∨ g = 2 by omega) with rfl | rfl
        · have := hd c0 rfl hl
          rw [ed, (dLt d hd10).2.1] at this; exact absurd this (by decide)
        · subst c0
          rw [if_neg (by decide), if_pos (by decide), b1_id]; rfl
      · rw [if_pos (show 0 < nI c from ltn (i := 0) (by omega) (by omega) (by omega)), b1_id]; rfl
    · refine midSign T hk hg hx I ?_ hl (Or.inl ⟨e43, rfl⟩) (next j h2 hl)
      rcases h0 with q | q | ⟨-, q⟩
      · exact Or.inl q
      · exact Or.inr q
      · rw [e43] at q; exact absurd q (by decide)
    · refine midSign T hk hg hx I ?_ hl (Or.inr ⟨e45, rfl⟩) (next j h2 hl)
      rcases h0 with q | q | ⟨-, q⟩
      · exact Or.inl q
      · exact Or.inr q
      · rw [e45] at q; exact absurd q (by decide)
    · exact midBad T hk I hl eo.1 eo.2.2 (scO _ _ _ _ eo)
