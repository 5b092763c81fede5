/-! ===== numbers: base ===== -/
theorem ixn {n : Nat} (h : n < 2147483648) : ix (nI n) = n := nI_clamp h
theorem inbn {n N : Nat} (h : n < N) (hN : N < 2147483648) : inb (nI n) N := vp_in_iff.mp (vp_in_nI h hN)
theorem li (n : Nat) : (OfNat.ofNat n : Int32) = nI n := rfl
theorem tin {n : Nat} (h : n < 2147483648) : (nI n).toInt = (n : Int) := nI_toInt h
theorem n3i (i : Nat) : 3 * nI i = nI (3 * i) := pk_mul 3 i
theorem n4i (i : Nat) : 4 * nI i = nI (4 * i) := pk_mul 4 i
theorem n8i (i : Nat) : 8 * nI i = nI (8 * i) := pk_mul 8 i
theorem nad (a k : Nat) : nI a + (OfNat.ofNat k : Int32) = nI (a + k) := nI_add a k
theorem nda (a k : Nat) : (OfNat.ofNat k : Int32) + nI a = nI (k + a) := nI_add k a
theorem nlt {a b : Nat} (ha : a < 2147483648) (hb : b < 2147483648) : nI a < nI b ↔ a < b := nI_ltI ha hb
theorem nle {a b : Nat} (ha : a < 2147483648) (hb : b < 2147483648) : nI a ≤ nI b ↔ a ≤ b := nI_leI ha hb
theorem neq {a b : Nat} (ha : a < 2147483648) (hb : b < 2147483648) : nI a = nI b ↔ a = b := nI_eq ha hb
theorem n0 : nI 0 = 0 := rfl
theorem n1 : nI 1 = 1 := rfl
theorem stI_rd (M : Mm) (c j : Nat) (v : Int32) (c' j' : Nat) : (stI M c j v).1 c' j' = if c' = c ∧ j' = j then v else M.1 c' j' := by
  unfold stI upd
  by_cases h : c' = c
  · subst h; by_cases h2 : j' = j <;> simp [h2]
  · simp [h]
theorem stI_2 (M : Mm) (c j : Nat) (v : Int32) : (stI M c j v).2 = M.2 := rfl
theorem stL_1 (M : Mm) (c j : Nat) (v : Int64) : (stL M c j v).1 = M.1 := rfl
theorem stL_rd (M : Mm) (c j : Nat) (v : Int64) (c' j' : Nat) : (stL M c j v).2 c' j' = if c' = c ∧ j' = j then v else M.2 c' j' := by
  unfold stL vp_updL
  by_cases h : c' = c
  · subst h; by_cases h2 : j' = j <;> simp [h2]
  · simp [h]
theorem cpI_rd (M : Mm) (s sp d dp n c' j' : Nat) : (cpI M s sp d dp n).1 c' j' = if c' = d ∧ dp ≤ j' ∧ j' < dp + n then M.1 s (sp + (j' - dp)) else M.1 c' j' := by
  unfold cpI va_cpy
  by_cases h : c' = d
  · subst h; by_cases h2 : dp ≤ j' ∧ j' < dp + n <;> simp [h2]
  · simp [h]
theorem cpI_2 (M : Mm) (s sp d dp n : Nat) : (cpI M s sp d dp n).2 = M.2 := rfl
/-- what is left alone: all but the places in S -/
def Off (S : Nat → Nat → Prop) (M M' : Mm) : Prop := ∀ c j, ¬ S c j → M'.1 c j = M.1 c j
theorem Off.rf {S : Nat → Nat → Prop} {M : Mm} : Off S M M := fun _ _ _ => rfl
theorem Off.tr {S : Nat → Nat → Prop} {M M' M'' : Mm} (h : Off S M M') (h2 : Off S M' M'') : Off S M M'' := fun c j hc => (h2 c j hc).trans (h c j hc)
theorem Off.mono {S S' : Nat → Nat → Prop} {M M' : Mm} (h : Off S M M') (hs : ∀ c j, S c j → S' c j) : Off S' M M' := fun c j hc => h c j (fun q => hc (hs c j q))
theorem Off.stI {S : Nat → Nat → Prop} {M M' : Mm} {c j : Nat} {v : Int32} (h : Off S M M') (hs : S c j) : Off S M (stI M' c j v) := fun c' j' hc => by
  rw [stI_rd, if_neg (fun q => hc (by rw [q.1, q.2]; exact hs))]; exact h c' j' hc
theorem Off.stL {S : Nat → Nat → Prop} {M M' : Mm} {c j : Nat} {v : Int64} (h : Off S M M') : Off S M (stL M' c j v) := h
theorem itr_ex {σ ρ : Type} (body : σ → Option (σ ⊕ ρ)) (I : Nat → σ → Prop) (Q : ρ → Prop) (N : Nat)
    (hs : ∀ i s, i ≤ N → I i s → (∃ s', body s = some (.inl s') ∧ i < N ∧ I (i + 1) s') ∨ (∃ r, body s = some (.inr r) ∧ Q r)) :
    ∀ (k i : Nat) (s : σ), i ≤ N → I i s → N - i < k → ∃ r, itr body k s = some r ∧ Q r := by
  intro k
  induction k with
  | zero => intro i s _ _ h; omega
  | succ k ih =>
    intro i s hi h hk
    rcases hs i s hi h with ⟨s', e, hl, h'⟩ | ⟨r, e, hq⟩
    · obtain ⟨r, e2, hq⟩ := ih (i + 1) s' hl h' (by omega)
      exact ⟨r, by simp [itr, e, e2], hq⟩
    · exact ⟨r, by simp [itr, e], hq⟩
/-- a loop from its start: N rounds at most, 1000 are enough -/
theorem itr_0 {σ ρ : Type} {body : σ → Option (σ ⊕ ρ)} (I : Nat → σ → Prop) (Q : ρ → Prop) (N : Nat) {s : σ} (hN : N < 1000) (h0 : I 0 s)
    (hs : ∀ i s, i ≤ N → I i s → (∃ s', body s = some (.inl s') ∧ i < N ∧ I (i + 1) s') ∨ (∃ r, body s = some (.inr r) ∧ Q r)) : ∃ r, itr body 1000 s = some r ∧ Q r :=
  itr_ex body I Q N hs 1000 0 s (Nat.zero_le _) h0 (by omega)
/-! ===== the relation of a state of the class with a row of the reference ===== -/
def blk (M : Mm) (c : Nat) : Nat → Nat → Int32 := fun k j => M.1 (c + k) j
def SRn (n t d e k : Nat) (s : Nat → Nat → Int32) (z : Nat → Int32) : Prop :=
  (1 ≤ n ∧ n ≤ 3 ∧ t ≤ 10 ∧ d ≤ 8 ∧ e ≤ 4 ∧ k ≤ 6) ∧ (s 0 0 = nI n ∧ z 0 = nI n) ∧ (s 1 0 = nI t ∧ z 1 = nI t) ∧ (s 7 0 = nI d ∧ z 2 = nI d) ∧ (s 10 1 = nI (2 ^ e) ∧ z 3 = nI e) ∧ (s 10 6 = nI k ∧ z 10 = nI k)
def SRs (d : Nat) (s : Nat → Nat → Int32) (z : Nat → Int32) : Prop :=
  (s 0 1 = z 4 ∧ s 0 2 = z 5 ∧ s 10 2 = z 6 ∧ s 10 3 = z 7 ∧ s 10 4 = z 8 ∧ s 10 5 = z 9 ∧ s 10 8 = z 11) ∧ (z 4 = 0 ∨ z 4 = 1 ∨ z 4 = 2) ∧ (z 5 = 0 ∨ z 5 = 1) ∧ (z 11 = 0 ∨ z 11 = 1) ∧ (z 9 = -1 ∨ ∃ l, l < d ∧ z 9 = nI l)
def SRb (s : Nat → Nat → Int32) (z : Nat → Int32) : Prop :=
  ∀ v, v < 3 → s 5 v = z (12 + v) ∧ s 6 v = z (15 + v) ∧ s 11 v = z (18 + v) ∧ -50 ≤ (z (12 + v)).toInt ∧ (z (15 + v)).toInt ≤ 50
def tOK (z : Nat → Int32) (i : Nat) : Prop := (-99 ≤ (z (21 + 4 * i)).toInt ∧ (z (21 + 4 * i)).toInt ≤ 99) ∧ ∃ p q r : Nat, p + q + r ≤ 4 ∧ z (21 + 4 * i + 1) = nI p ∧ z (21 + 4 * i + 2) = nI q ∧ z (21 + 4 * i + 3) = nI r
def SRt (t : Nat) (s : Nat → Nat → Int32) (z : Nat → Int32) : Prop :=
  ∀ i, i < t → s 2 i = z (21 + 4 * i) ∧ (s 3 (3 * i) = z (21 + 4 * i + 1) ∧ s 3 (3 * i + 1) = z (21 + 4 * i + 2) ∧ s 3 (3 * i + 2) = z (21 + 4 * i + 3)) ∧ tOK z i
def dOK (n : Nat) (z : Nat → Int32) (i : Nat) : Prop := (∀ v, v < 3 → -3 ≤ (z (61 + 4 * i + v)).toInt ∧ (z (61 + 4 * i + v)).toInt ≤ 3 ∧ (n ≤ v → z (61 + 4 * i + v) = 0)) ∧ ¬ (z (61 + 4 * i) = 0 ∧ z (61 + 4 * i + 1) = 0 ∧ z (61 + 4 * i + 2) = 0)
def SRd (n d : Nat) (s : Nat → Nat → Int32) (z : Nat → Int32) : Prop :=
  ∀ i, i < d → s 9 i = z (61 + 4 * i + 3) ∧ (s 8 (3 * i) = z (61 + 4 * i) ∧ s 8 (3 * i + 1) = z (61 + 4 * i + 1) ∧ s 8 (3 * i + 2) = z (61 + 4 * i + 2)) ∧ dOK n z i
def SRl (k : Nat) (s : Nat → Nat → Int32) (z : Nat → Int32) : Prop := ∀ i, i < 3 * k → s 12 i = z (93 + i)
def SR (s : Nat → Nat → Int32) (z : Nat → Int32) : Prop := ∃ n t d e k : Nat, SRn n t d e k s z ∧ SRs d s z ∧ SRb s z ∧ SRt t s z ∧ SRd n d s z ∧ SRl k s z
/-- the places of a class' state that count -/
def sIn (k j : Nat) : Prop := (k = 0 ∧ j < 3) ∨ (k = 1 ∧ j = 0) ∨ (k = 2 ∧ j < 10) ∨ (k = 3 ∧ j < 30) ∨ (k = 5 ∧ j < 3) ∨ (k = 6 ∧ j < 3) ∨ (k = 7 ∧ j = 0) ∨ (k = 8 ∧ j < 24) ∨ (k = 9 ∧ j < 8) ∨ (k = 10 ∧ 1 ≤ j ∧ j < 9 ∧ j ≠ 7) ∨ (k = 11 ∧ j < 3) ∨ (k = 12 ∧ j < 18)
theorem SR.cong {s s' : Nat → Nat → Int32} {z z' : Nat → Int32} (h : SR s z) (hs : ∀ k j, sIn k j → s' k j = s k j) (hz : ∀ j, j < 111 → z' j = z j) : SR s' z' := by
  obtain ⟨n, t, d, e, k, hn, hsc, hb, ht, hd, hl⟩ := h
  obtain ⟨⟨a1, a2, a3, a4, a5, a6⟩, ⟨b1, b2⟩, ⟨c1, c2⟩, ⟨d1, d2⟩, ⟨e1, e2⟩, ⟨f1, f2⟩⟩ := hn
  have S : ∀ k j, sIn k j → s' k j = s k j := hs
  refine ⟨n, t, d, e, k, ⟨⟨a1, a2, a3, a4, a5, a6⟩, ⟨?_, ?_⟩, ⟨?_, ?_⟩, ⟨?_, ?_⟩, ⟨?_, ?_⟩, ⟨?_, ?_⟩⟩, ?_, ?_, ?_, ?_, ?_⟩
  · rw [S 0 0 (by simp [sIn])]; exact b1
  · rw [hz 0 (by omega)]; exact b2
  · rw [S 1 0 (by simp [sIn])]; exact c1
  · rw [hz 1 (by omega)]; exact c2
  · rw [S 7 0 (by simp [sIn])]; exact d1
  · rw [hz 2 (by omega)]; exact d2
  · rw [S 10 1 (by simp [sIn])]; exact e1
  · rw [hz 3 (by omega)]; exact e2
  · rw [S 10 6 (by simp [sIn])]; exact f1
  · rw [hz 10 (by omega)]; exact f2
  · obtain ⟨⟨q1, q2, q3, q4, q5, q6, q7⟩, q8⟩ := hsc
    refine ⟨⟨?_, ?_, ?_, ?_, ?_, ?_, ?_⟩, ?_⟩
    · rw [S 0 1 (by simp [sIn]), hz 4 (by omega)]; exact q1
    · rw [S 0 2 (by simp [sIn]), hz 5 (by omega)]; exact q2
    · rw [S 10 2 (by simp [sIn]), hz 6 (by omega)]; exact q3
    · rw [S 10 3 (by simp [sIn]), hz 7 (by omega)]; exact q4
    · rw [S 10 4 (by simp [sIn]), hz 8 (by omega)]; exact q5
    · rw [S 10 5 (by simp [sIn]), hz 9 (by omega)]; exact q6
    · rw [S 10 8 (by simp [sIn]), hz 11 (by omega)]; exact q7
    · rw [hz 4 (by omega), hz 5 (by omega), hz 11 (by omega), hz 9 (by omega)]; exact q8
  · intro v hv
    rw [S 5 v (by simp [sIn, hv]), S 6 v (by simp [sIn, hv]), S 11 v (by simp [sIn, hv]), hz (12 + v) (by omega), hz (15 + v) (by omega), hz (18 + v) (by omega)]
    exact hb v hv
  · intro i hi
    have q := ht i hi
    rw [S 2 i (by simp [sIn]; omega), S 3 (3 * i) (by simp [sIn]; omega), S 3 (3 * i + 1) (by simp [sIn]; omega), S 3 (3 * i + 2) (by simp [sIn]; omega), hz (21 + 4 * i) (by omega), hz (21 + 4 * i + 1) (by omega), hz (21 + 4 * i + 2) (by omega), hz (21 + 4 * i + 3) (by omega)]
    refine ⟨q.1, q.2.1, ?_⟩
    unfold tOK at q ⊢
    rw [hz (21 + 4 * i) (by omega), hz (21 + 4 * i + 1) (by omega), hz (21 + 4 * i + 2) (by omega), hz (21 + 4 * i + 3) (by omega)]
    exact q.2.2
  · intro i hi
    have q := hd i hi
    rw [S 9 i (by simp [sIn]; omega), S 8 (3 * i) (by simp [sIn]; omega), S 8 (3 * i + 1) (by simp [sIn]; omega), S 8 (3 * i + 2) (by simp [sIn]; omega), hz (61 + 4 * i) (by omega), hz (61 + 4 * i + 1) (by omega), hz (61 + 4 * i + 2) (by omega), hz (61 + 4 * i + 3) (by omega)]
    refine ⟨q.1, q.2.1, ?_⟩
    unfold dOK at q ⊢
    rw [hz (61 + 4 * i) (by omega), hz (61 + 4 * i + 1) (by omega), hz (61 + 4 * i + 2) (by omega)]
    refine ⟨fun v hv => ?_, q.2.2.2⟩
    rw [hz (61 + 4 * i + v) (by omega)]
    exact q.2.2.1 v hv
  · intro i hi
    rw [S 12 i (by simp [sIn]; omega), hz (93 + i) (by omega)]
    exact hl i hi
/-- the history: the class' latest state is its first one, the reference's is its last one -/
def HR (M : Mm) : Prop := ∃ h : Nat, h ≤ 4 ∧ M.1 14 0 = nI h ∧ M.1 95 3 = nI h ∧ ∀ i, i < h → SR (blk M (15 + 13 * i)) (fun j => M.1 97 (111 * (h - 1 - i) + j))
def KR (M : Mm) : Prop := (M.1 0 3 = M.1 95 4 ∧ (M.1 95 4 = 0 ∨ M.1 95 4 = 1)) ∧ (M.1 95 4 = 1 → SR (blk M 67) (M.1 98))
def TR (M : Mm) : Prop := ∃ l : Nat, l ≤ 60 ∧ M.1 80 0 = nI l ∧ M.1 95 6 = nI l ∧ ∀ i, i < l → M.1 81 i = M.1 99 i ∧ 32 ≤ (M.1 99 i).toInt ∧ (M.1 99 i).toInt ≤ 126
/-- the flags of all states that may be copied are 0 or 1 -/
def ER (M : Mm) : Prop := (∀ i, i < 4 → M.1 (25 + 13 * i) 8 = 0 ∨ M.1 (25 + 13 * i) 8 = 1) ∧ (M.1 77 8 = 0 ∨ M.1 77 8 = 1)
def R (M : Mm) : Prop := SR (blk M 1) (M.1 96) ∧ HR M ∧ KR M ∧ TR M ∧ ER M
/-- the places that pass away: those of trials, of the nearby place, of spans, of the text's scan -/
def tmpP (c j : Nat) : Prop := (c = 80 ∧ j ≠ 0) ∨ (82 ≤ c ∧ c ≤ 94) ∨ (95 ≤ c ∧ c = 95 ∧ j ≠ 3 ∧ j ≠ 4 ∧ j ≠ 6) ∨ (100 ≤ c)
theorem R.off {M M' : Mm} (h : R M) (ho : Off tmpP M M') : R M' := by
  obtain ⟨h1, h2, h3, h4, h5⟩ := h
  have O : ∀ c j, ¬ tmpP c j → M'.1 c j = M.1 c j := ho
  have B : ∀ c, c ≤ 67 → ∀ k j, sIn k j → blk M' c k j = blk M c k j := fun c hc k j hk => O _ _ (by unfold sIn at hk; unfold tmpP; omega)
  refine ⟨h1.cong (B 1 (by omega)) (fun j _ => O 96 j (by unfold tmpP; omega)), ?_, ?_, ?_, ?_⟩
  · obtain ⟨n, q1, q2, q3, q4⟩ := h2
    exact ⟨n, q1, (O 14 0 (by unfold tmpP; omega)).trans q2, (O 95 3 (by unfold tmpP; omega)).trans q3, fun i hi => (q4 i hi).cong (B _ (by omega)) (fun j _ => O 97 _ (by unfold tmpP; omega))⟩
  · obtain ⟨⟨q1, q2⟩, q3⟩ := h3
    have e1 := O 95 4 (by unfold tmpP; omega)
    refine ⟨⟨(O 0 3 (by unfold tmpP; omega)).trans (q1.trans e1.symm), by rw [e1]; exact q2⟩, fun h => (q3 (by rw [← e1]; exact h)).cong (B 67 (by omega)) (fun j _ => O 98 _ (by unfold tmpP; omega))⟩
  · obtain ⟨l, q1, q2, q3, q4⟩ := h4
    refine ⟨l, q1, (O 80 0 (by unfold tmpP; omega)).trans q2, (O 95 6 (by unfold tmpP; omega)).trans q3, fun i hi => ?_⟩
    rw [O 81 i (by unfold tmpP; omega), O 99 i (by unfold tmpP; omega)]
    exact q4 i hi
  · refine ⟨fun i hi => ?_, ?_⟩
    · rw [O (25 + 13 * i) 8 (by unfold tmpP; omega)]; exact h5.1 i hi
    · rw [O 77 8 (by unfold tmpP; omega)]; exact h5.2
