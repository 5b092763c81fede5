/-! ===== the class' own row, and what holds of a state ===== -/
def zM (M : Mm) (j : Nat) : Int32 :=
  if j < 12 then (if j = 4 then M.1 1 1 else if j = 9 then M.1 11 5 else 0)
  else if j < 15 then M.1 6 (j - 12)
  else if j < 18 then M.1 7 (j - 15)
  else if j < 21 then M.1 12 (j - 18)
  else if j < 61 then (if (j - 21) % 4 = 0 then M.1 3 ((j - 21) / 4) else M.1 4 (3 * ((j - 21) / 4) + (j - 21) % 4 - 1))
  else (if (j - 61) % 4 = 3 then M.1 10 ((j - 61) / 4) else M.1 9 (3 * ((j - 61) / 4) + (j - 61) % 4))
theorem zM_4 (M : Mm) : zM M 4 = M.1 1 1 := rfl
theorem zM_9 (M : Mm) : zM M 9 = M.1 11 5 := rfl
theorem zM_lo (M : Mm) {v : Nat} (hv : v < 3) : zM M (12 + v) = M.1 6 v := by
  unfold zM; rw [if_neg (by omega), if_pos (by omega)]; exact congrArg (M.1 6) (by omega)
theorem zM_hi (M : Mm) {v : Nat} (hv : v < 3) : zM M (15 + v) = M.1 7 v := by
  unfold zM; rw [if_neg (by omega), if_neg (by omega), if_pos (by omega)]; exact congrArg (M.1 7) (by omega)
theorem zM_pl (M : Mm) {v : Nat} (hv : v < 3) : zM M (18 + v) = M.1 12 v := by
  unfold zM; rw [if_neg (by omega), if_neg (by omega), if_neg (by omega), if_pos (by omega)]; exact congrArg (M.1 12) (by omega)
theorem zM_f (M : Mm) {i : Nat} (hi : i < 10) : zM M (21 + 4 * i) = M.1 3 i := by
  unfold zM; rw [if_neg (by omega), if_neg (by omega), if_neg (by omega), if_neg (by omega), if_pos (by omega), if_pos (by omega)]; exact congrArg (M.1 3) (by omega)
theorem zM_p (M : Mm) {i u : Nat} (hi : i < 10) (hu : u < 3) : zM M (21 + 4 * i + (u + 1)) = M.1 4 (3 * i + u) := by
  unfold zM; rw [if_neg (by omega), if_neg (by omega), if_neg (by omega), if_neg (by omega), if_pos (by omega), if_neg (by omega)]; exact congrArg (M.1 4) (by omega)
theorem zM_t (M : Mm) (i : Nat) : zM M (61 + 4 * i + 3) = M.1 10 i := by
  unfold zM; rw [if_neg (by omega), if_neg (by omega), if_neg (by omega), if_neg (by omega), if_neg (by omega), if_pos (by omega)]; exact congrArg (M.1 10) (by omega)
theorem zM_d (M : Mm) (i : Nat) {v : Nat} (hv : v < 3) : zM M (61 + 4 * i + v) = M.1 9 (3 * i + v) := by
  unfold zM; rw [if_neg (by omega), if_neg (by omega), if_neg (by omega), if_neg (by omega), if_neg (by omega), if_neg (by omega)]; exact congrArg (M.1 9) (by omega)
def JT (t : Nat) (M : Mm) : Prop := ∀ i, i < t → (-99 ≤ (M.1 3 i).toInt ∧ (M.1 3 i).toInt ≤ 99) ∧ ∃ p q r : Nat, p + q + r ≤ 4 ∧ M.1 4 (3 * i) = nI p ∧ M.1 4 (3 * i + 1) = nI q ∧ M.1 4 (3 * i + 2) = nI r
def JD (n d : Nat) (M : Mm) : Prop := ∀ i, i < d → (∀ v, v < 3 → -3 ≤ (M.1 9 (3 * i + v)).toInt ∧ (M.1 9 (3 * i + v)).toInt ≤ 3 ∧ (n ≤ v → M.1 9 (3 * i + v) = 0)) ∧ ¬ (M.1 9 (3 * i) = 0 ∧ M.1 9 (3 * i + 1) = 0 ∧ M.1 9 (3 * i + 2) = 0)
def JB (n : Nat) (M : Mm) : Prop := ∀ v, v < 3 → -50 ≤ (M.1 6 v).toInt ∧ (M.1 7 v).toInt ≤ 50 ∧ (n ≤ v → M.1 6 v = -50 ∧ M.1 7 v = 50 ∧ M.1 12 v = 0)
def JS (d : Nat) (M : Mm) : Prop := (M.1 1 1 = 0 ∨ M.1 1 1 = 1 ∨ M.1 1 1 = 2) ∧ (M.1 1 2 = 0 ∨ M.1 1 2 = 1) ∧ (M.1 11 8 = 0 ∨ M.1 11 8 = 1) ∧ (M.1 11 5 = -1 ∨ ∃ l, l < d ∧ M.1 11 5 = nI l)
def JN (n t d e k : Nat) (M : Mm) : Prop := (1 ≤ n ∧ n ≤ 3 ∧ t ≤ 10 ∧ d ≤ 8 ∧ e ≤ 4 ∧ k ≤ 6) ∧ M.1 1 0 = nI n ∧ M.1 2 0 = nI t ∧ M.1 8 0 = nI d ∧ M.1 11 1 = nI (2 ^ e) ∧ M.1 11 6 = nI k
/-- a state: n variables, t terms, d directions, a mesh of 2 to the power e, k places kept -/
def JJ (n t d e k : Nat) (M : Mm) : Prop := JN n t d e k M ∧ JS d M ∧ JB n M ∧ JT t M ∧ JD n d M
/-- the history -/
def HI (M : Mm) : Prop := (∃ h : Nat, h ≤ 4 ∧ M.1 14 0 = nI h) ∧ ER M
/-- the place is allowed -/
def PA (M : Mm) : Prop := ∀ v, v < 3 → (M.1 6 v).toInt ≤ (M.1 12 v).toInt ∧ (M.1 12 v).toInt ≤ (M.1 7 v).toInt
/-- the same state -/
def Lo (M M' : Mm) : Prop := ∀ c j, c < 14 → M'.1 c j = M.1 c j
/-- a call that only looks -/
def Vw (M M' : Mm) : Prop := ∀ c j, (c < 80 ∨ c = 95) → M'.1 c j = M.1 c j
theorem Vw.lo {M M' : Mm} (h : Vw M M') : Lo M M' := fun c j q => h c j (by omega)
theorem Vw.rf {M : Mm} : Vw M M := fun _ _ _ => rfl
theorem Vw.tr {M M' M'' : Mm} (h : Vw M M') (h2 : Vw M' M'') : Vw M M'' := fun c j q => (h2 c j q).trans (h c j q)
theorem zM_low {M M' : Mm} (h : Lo M M') : zM M' = zM M := by
  funext j
  unfold zM
  rw [h 1 1 (by omega), h 11 5 (by omega), h 6 _ (by omega), h 7 _ (by omega), h 12 _ (by omega), h 3 _ (by omega), h 4 _ (by omega), h 10 _ (by omega), h 9 _ (by omega)]
theorem JT.c {t : Nat} {M M' : Mm} (h : JT t M) (a : ∀ j, M'.1 3 j = M.1 3 j) (b : ∀ j, M'.1 4 j = M.1 4 j) : JT t M' := fun i hi => by
  rw [a, b, b, b]; exact h i hi
theorem JD.c {n d : Nat} {M M' : Mm} (h : JD n d M) (a : ∀ j, M'.1 9 j = M.1 9 j) : JD n d M' := fun i hi => by
  refine ⟨fun v hv => ?_, ?_⟩
  · rw [a]; exact (h i hi).1 v hv
  · rw [a, a, a]; exact (h i hi).2
theorem JB.c {n : Nat} {M M' : Mm} (h : JB n M) (a : ∀ v, v < 3 → M'.1 6 v = M.1 6 v) (b : ∀ v, v < 3 → M'.1 7 v = M.1 7 v) (c : ∀ v, v < 3 → n ≤ v → M'.1 12 v = M.1 12 v) : JB n M' := fun v hv => by
  rw [a v hv, b v hv]
  refine ⟨(h v hv).1, (h v hv).2.1, fun q => ?_⟩
  rw [c v hv q]; exact (h v hv).2.2 q
theorem JS.c {d : Nat} {M M' : Mm} (h : JS d M) (a : M'.1 1 1 = M.1 1 1) (b : M'.1 1 2 = M.1 1 2) (c : M'.1 11 8 = M.1 11 8) (f : M'.1 11 5 = M.1 11 5) : JS d M' := by
  unfold JS; rw [a, b, c, f]; exact h
theorem JJ.lo {n t d e k : Nat} {M M' : Mm} (h : JJ n t d e k M) (l : Lo M M') : JJ n t d e k M' := by
  obtain ⟨⟨h0, h1, h2, h3, h4, h5⟩, hs, hb, ht, hd⟩ := h
  refine ⟨⟨h0, ?_, ?_, ?_, ?_, ?_⟩, hs.c (l _ _ (by omega)) (l _ _ (by omega)) (l _ _ (by omega)) (l _ _ (by omega)), hb.c (fun v _ => l _ _ (by omega)) (fun v _ => l _ _ (by omega)) (fun v _ _ => l _ _ (by omega)), ht.c (fun j => l _ _ (by omega)) (fun j => l _ _ (by omega)), hd.c (fun j => l _ _ (by omega))⟩
  all_goals rw [l _ _ (by omega)]; assumption
theorem PA.lo {M M' : Mm} (h : PA M) (l : Lo M M') : PA M' := fun v hv => by
  rw [l 6 v (by omega), l 12 v (by omega), l 7 v (by omega)]; exact h v hv
theorem HI.c {M M' : Mm} (h : HI M) (a : ∀ c j, 14 ≤ c → c < 80 → M'.1 c j = M.1 c j) : HI M' := by
  obtain ⟨⟨g, g1, g2⟩, e1, e2⟩ := h
  refine ⟨⟨g, g1, (a 14 0 (by omega) (by omega)).trans g2⟩, fun i hi => ?_, ?_⟩
  · rw [a _ _ (by omega) (by omega)]; exact e1 i hi
  · rw [a _ _ (by omega) (by omega)]; exact e2
theorem HI.vw {M M' : Mm} (h : HI M) (a : Vw M M') : HI M' := h.c (fun c j _ q => a c j (by omega))
theorem JJ.vw {n t d e k : Nat} {M M' : Mm} (h : JJ n t d e k M) (l : Vw M M') : JJ n t d e k M' := h.lo l.lo
theorem PA.vw {M M' : Mm} (h : PA M) (l : Vw M M') : PA M' := h.lo l.lo
theorem JJ.srb {n t d e k : Nat} {M : Mm} (h : JJ n t d e k M) : SRb (blk M 1) (zM M) := fun v hv => by
  have q := h.2.2.1 v hv
  rw [zM_lo M hv, zM_hi M hv, zM_pl M hv]
  exact ⟨rfl, rfl, rfl, q.1, q.2.1⟩
theorem JJ.tok {n t d e k : Nat} {M : Mm} (h : JJ n t d e k M) : ∀ i, i < t → tOK (zM M) i := fun i hi => by
  have lt := h.1.1.2.2.1
  obtain ⟨q, a, b, c, s, e1, e2, e3⟩ := h.2.2.2.1 i hi
  unfold tOK
  rw [zM_f M (by omega), zM_p M (u := 0) (by omega) (by omega), zM_p M (u := 1) (by omega) (by omega), zM_p M (u := 2) (by omega) (by omega)]
  exact ⟨q, a, b, c, s, e1, e2, e3⟩
theorem JJ.dok {n t d e k : Nat} {M : Mm} (h : JJ n t d e k M) : ∀ i, i < d → dOK n (zM M) i := fun i hi => by
  obtain ⟨q1, q2⟩ := h.2.2.2.2 i hi
  unfold dOK
  refine ⟨fun v hv => ?_, ?_⟩
  · rw [zM_d M i hv]; exact q1 v hv
  · rw [show zM M (61 + 4 * i) = M.1 9 (3 * i) from zM_d M i (v := 0) (by omega), zM_d M i (v := 1) (by omega), zM_d M i (v := 2) (by omega)]; exact q2
theorem JJ.srt {n t d e k : Nat} {M : Mm} (h : JJ n t d e k M) : SRt t (blk M 1) (zM M) := fun i hi => by
  have lt := h.1.1.2.2.1
  refine ⟨?_, ⟨?_, ?_, ?_⟩, h.tok i hi⟩
  · exact (zM_f M (by omega)).symm
  · exact (zM_p M (u := 0) (by omega) (by omega)).symm
  · exact (zM_p M (u := 1) (by omega) (by omega)).symm
  · exact (zM_p M (u := 2) (by omega) (by omega)).symm
theorem JJ.srd {n t d e k : Nat} {M : Mm} (h : JJ n t d e k M) : SRd n d (blk M 1) (zM M) := fun i hi => by
  refine ⟨?_, ⟨?_, ?_, ?_⟩, h.dok i hi⟩
  · exact (zM_t M i).symm
  · exact (zM_d M i (v := 0) (by omega)).symm
  · exact (zM_d M i (v := 1) (by omega)).symm
  · exact (zM_d M i (v := 2) (by omega)).symm
theorem JJ.cx {n t d e k : Nat} {M : Mm} (h : JJ n t d e k M) : CX n t d M (zM M) :=
  ⟨⟨h.1.1.2.2.1, h.1.1.2.2.2.1⟩, h.1.2.2.1, h.1.2.2.2.1, rfl, rfl, h.srb, h.srt, h.srd⟩
theorem pa_alw {M : Mm} : PA M ↔ alw (zM M) (zM M 18) (zM M 19) (zM M 20) := by
  have a := zM_lo M (v := 0) (by omega)
  have b := zM_lo M (v := 1) (by omega)
  have c := zM_lo M (v := 2) (by omega)
  have a1 := zM_hi M (v := 0) (by omega)
  have b1 := zM_hi M (v := 1) (by omega)
  have c1 := zM_hi M (v := 2) (by omega)
  have a2 := zM_pl M (v := 0) (by omega)
  have b2 := zM_pl M (v := 1) (by omega)
  have c2 := zM_pl M (v := 2) (by omega)
  simp only [Nat.add_zero, Nat.reduceAdd] at a b c a1 b1 c1 a2 b2 c2
  unfold alw
  rw [a, b, c, a1, b1, c1, a2, b2, c2]
  constructor
  · intro h; exact ⟨h 0 (by omega), h 1 (by omega), h 2 (by omega)⟩
  · intro h v hv
    rcases (show v = 0 ∨ v = 1 ∨ v = 2 by omega) with rfl | rfl | rfl
    · exact h.1
    · exact h.2.1
    · exact h.2.2
theorem hereP {n t d e k : Nat} {M : Mm} (h : JJ n t d e k M) (p : PA M) : fX6_placeIsAllowed M = some 1 := by
  rw [hereX (M' := ((fun _ j => zM M j), M.2)) h.srb, hereM, if_pos (pa_alw.mp p)]
/-! ===== what there is ===== -/
theorem so_v (M : Mm) {v : Nat} (hv : v < 3) : fX10_searchOf M (nI v) = some (M.1 12 v) := by
  rcases (show v = 0 ∨ v = 1 ∨ v = 2 by omega) with rfl | rfl | rfl <;> rfl
theorem so_0 (M : Mm) : fX10_searchOf M 0 = some (M.1 12 0) := so_v M (v := 0) (by omega)
theorem so_1 (M : Mm) : fX10_searchOf M 1 = some (M.1 12 1) := so_v M (v := 1) (by omega)
theorem so_2 (M : Mm) : fX10_searchOf M 2 = some (M.1 12 2) := so_v M (v := 2) (by omega)
theorem so_3 (M : Mm) : fX10_searchOf M 3 = some (M.1 11 1) := rfl
theorem so_4 (M : Mm) : fX10_searchOf M 4 = some (M.1 11 2) := rfl
theorem so_5 (M : Mm) : fX10_searchOf M 5 = some (M.1 11 3) := rfl
theorem so_6 (M : Mm) : fX10_searchOf M 6 = some (M.1 11 4) := rfl
theorem so_7 (M : Mm) : fX10_searchOf M 7 = some (if M.1 11 5 = -1 then -1000004 else M.1 11 5) := by
  show (if M.1 11 5 = -1 then some (-1000004) else some (M.1 11 5)) = _
  by_cases h : M.1 11 5 = -1
  · rw [if_pos h, if_pos h]
  · rw [if_neg h, if_neg h]
theorem so_8 (M : Mm) : fX10_searchOf M 8 = some (M.1 11 6) := rfl
theorem so_9 {d : Nat} {M : Mm} (h : JS d M) : fX10_searchOf M 9 = some (M.1 11 8) := by
  show b1 (fX10_oneIf (M.1 11 8)) _ = _
  rw [oneIf_z h.2.2.1, b1_s]
theorem cnt_0 (M : Mm) : fX10_count M 0 = some (M.1 1 0) := rfl
theorem cnt_1 (M : Mm) : fX10_count M 1 = some (M.1 2 0) := rfl
theorem cnt_2 (M : Mm) : fX10_count M 2 = some (M.1 8 0) := rfl
theorem cnt_3 (M : Mm) : fX10_count M 3 = some (M.1 1 1) := rfl
theorem cnt_4 (M : Mm) : fX10_count M 4 = some (M.1 1 2) := rfl
theorem cnt_bd {M : Mm} {n : Nat} (h : M.1 1 0 = nI n) (hn : n ≤ 3) {v : Nat} (hv : v < n) : fX10_count M (nI (10 + v)) = some (M.1 6 v) ∧ fX10_count M (nI (20 + v)) = some (M.1 7 v) := by
  have key : ∀ x, fX10_boundOf M x = b1 (fX11_in x 10 (9 + nI n)) fun x2 => (if x2 = 0 then b1 (fX11_in x 20 (19 + nI n)) fun x5 => (if x5 = 0 then some (-1000001) else gd (inb (x - 20) 3) <| some (M.1 7 (ix (x - 20)))) else gd (inb (x - 10) 3) <| some (M.1 6 (ix (x - 10)))) := fun x => by
    unfold fX10_boundOf; rw [h]; rfl
  rcases (show (n = 1 ∧ v = 0) ∨ (n = 2 ∧ v = 0) ∨ (n = 2 ∧ v = 1) ∨ (n = 3 ∧ v = 0) ∨ (n = 3 ∧ v = 1) ∨ (n = 3 ∧ v = 2) by omega) with ⟨rfl, rfl⟩ | ⟨rfl, rfl⟩ | ⟨rfl, rfl⟩ | ⟨rfl, rfl⟩ | ⟨rfl, rfl⟩ | ⟨rfl, rfl⟩ <;>
  exact ⟨by show b1 (fX10_boundOf M _) _ = _; rw [key]; rfl, by show b1 (fX10_boundOf M _) _ = _; rw [key]; rfl⟩
theorem in_n1 {v N : Nat} (h : v ≤ N) (hN : N < 2147483648) : fX11_in (nI v) 0 (nI N) = some 1 := by
  have z0 : (0 : Int32).toInt = 0 := rfl
  rw [in_any, tin hN, tin (by omega), if_pos (by constructor <;> omega)]
theorem nneg {i : Nat} (h : i < 2147483648) : ¬ nI i < 0 := nltn (t := 0) h (by omega) (by omega)
theorem di_v {M : Mm} {d i v : Nat} (h : M.1 8 0 = nI d) (ld : d ≤ 8) (hi : i < d) (hv : v < 3) : fX10_directionOf M (nI i) (nI v) = some (M.1 9 (3 * i + v)) := by
  unfold fX10_directionOf
  rw [if_neg (nneg (by omega)), within_in, show (3 : Int32) = nI 3 from rfl, in_n1 (by omega) (by omega), b1_s, if_neg (by decide), h, if_pos ((nlt (by omega) (by omega)).mpr hi), if_neg (fun q => by have := (neq (by omega) (by omega)).mp q; omega), show nI 3 * nI i + nI v = nI (3 * i + v) by rw [pk_mul, nI_add], gd_t (inbn (by omega) (by omega)), ixn (by omega)]
theorem di_3 {M : Mm} {d i : Nat} (h : M.1 8 0 = nI d) (ld : d ≤ 8) (hi : i < d) : fX10_directionOf M (nI i) 3 = some (M.1 10 i) := by
  unfold fX10_directionOf
  rw [if_neg (nneg (by omega)), within_in, show (3 : Int32) = nI 3 from rfl, in_n1 (by omega) (by omega), b1_s, if_neg (by decide), h, if_pos ((nlt (by omega) (by omega)).mpr hi), if_pos (show nI 3 = nI 3 from rfl), gd_t (inbn (by omega) (by omega)), ixn (by omega)]
theorem le_0 {M : Mm} {n k v : Nat} (h : M.1 1 0 = nI n) (hn : n ≤ 3) (h6 : M.1 11 6 = nI k) (hk : 0 < k) (lk : k ≤ 6) (hv : v < n) : fX10_leftAt M 0 (nI v) = some (M.1 13 v) := by
  have hv1 : fX6_hasVariable M (nI v) = some 1 := by
    unfold fX6_hasVariable
    rw [h, within_in, show nI n - 1 = nI (n - 1) from pk_sub (b := 1) (by omega), in_n1 (by omega) (by omega), b1_s, gd_t (Or.inr rfl)]
  unfold fX10_leftAt
  rw [if_neg (show ¬ (0 : Int32) < 0 by decide), hv1, b1_s, if_neg (by decide), h6, if_pos (show (0 : Int32) < nI k from ltn (i := 0) (by omega) (by omega) hk), show (3 * 0 + nI v : Int32) = nI v by rw [show (3 * 0 : Int32) = 0 from rfl, Int32.zero_add], gd_t (inbn (by omega) (by omega)), ixn (by omega)]
