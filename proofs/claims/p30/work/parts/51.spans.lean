/-! ===== the class' spans, by half spaces ===== -/
theorem tm_mul {A B : Nat} {x y : Int32} (ha : sm A x) (hb : sm B y) (h : A * B < 2147483648) : (x * y).toInt = x.toInt * y.toInt := by
  unfold sm at *
  have e : (x.toInt * y.toInt).natAbs ≤ A * B := by rw [Int.natAbs_mul]; exact Nat.mul_le_mul ha hb
  rw [Int32.toInt_mul, Int.bmod_eq_of_le (by omega) (by omega)]
theorem tm_add {A B : Nat} {x y : Int32} (ha : sm A x) (hb : sm B y) (h : A + B < 2147483648) : (x + y).toInt = x.toInt + y.toInt := by
  unfold sm at *
  rw [Int32.toInt_add, Int.bmod_eq_of_le (by omega) (by omega)]
theorem tm_sub {A B : Nat} {x y : Int32} (ha : sm A x) (hb : sm B y) (h : A + B < 2147483648) : (x - y).toInt = x.toInt - y.toInt := by
  unfold sm at *
  rw [Int32.toInt_sub, Int.bmod_eq_of_le (by omega) (by omega)]
/-- a row of numbers, as whole numbers -/
def iv (r : Nat → Int32) : Nat → Int := fun v => (r v).toInt
theorem dt_int {A : Nat} (hA : A ≤ 18) {N r : Nat → Int32} (hN : ∀ v, v < 3 → sm A (N v)) (hr : ∀ v, v < 3 → sm 3 (r v)) : (dt N r).toInt = dti (iv N) (iv r) := by
  have m0 := sm_mul (hN 0 (by omega)) (hr 0 (by omega)) (by omega)
  have m1 := sm_mul (hN 1 (by omega)) (hr 1 (by omega)) (by omega)
  have m2 := sm_mul (hN 2 (by omega)) (hr 2 (by omega)) (by omega)
  have a1 := sm_add m0 m1 (by omega)
  unfold dt dti iv
  rw [tm_add a1 m2 (by omega), tm_add m0 m1 (by omega), tm_mul (hN 0 (by omega)) (hr 0 (by omega)) (by omega), tm_mul (hN 1 (by omega)) (hr 1 (by omega)) (by omega), tm_mul (hN 2 (by omega)) (hr 2 (by omega)) (by omega)]
theorem cr_int {a b : Nat → Int32} (ha : ∀ v, v < 3 → sm 3 (a v)) (hb : ∀ v, v < 3 → sm 3 (b v)) (v : Nat) : (cr a b v).toInt = cri (iv a) (iv b) v := by
  have pr : ∀ i j, i < 3 → j < 3 → sm 9 (a i * b j) ∧ (a i * b j).toInt = (a i).toInt * (b j).toInt := fun i j hi hj => ⟨sm_mul (A := 3) (B := 3) (ha i hi) (hb j hj) (by omega), tm_mul (ha i hi) (hb j hj) (by omega)⟩
  unfold cr cri iv
  by_cases h : v = 0
  · rw [if_pos h, if_pos h, tm_sub (pr 1 2 (by omega) (by omega)).1 (pr 2 1 (by omega) (by omega)).1 (by omega), (pr 1 2 (by omega) (by omega)).2, (pr 2 1 (by omega) (by omega)).2]
  · rw [if_neg h, if_neg h]
    by_cases h1 : v = 1
    · rw [if_pos h1, if_pos h1, tm_sub (pr 2 0 (by omega) (by omega)).1 (pr 0 2 (by omega) (by omega)).1 (by omega), (pr 2 0 (by omega) (by omega)).2, (pr 0 2 (by omega) (by omega)).2]
    · rw [if_neg h1, if_neg h1, tm_sub (pr 0 1 (by omega) (by omega)).1 (pr 1 0 (by omega) (by omega)).1 (by omega), (pr 0 1 (by omega) (by omega)).2, (pr 1 0 (by omega) (by omega)).2]
theorem i0_iff (x : Int32) : x = 0 ↔ x.toInt = 0 := by
  constructor
  · intro h; rw [h]; rfl
  · intro h; exact Int32.toInt_inj.mp (h.trans rfl)
theorem nz_int {a b : Nat → Int32} (ha : ∀ v, v < 3 → sm 3 (a v)) (hb : ∀ v, v < 3 → sm 3 (b v)) : nz (cr a b) ↔ nzi (cri (iv a) (iv b)) := by
  unfold nz nzi
  rw [i0_iff, i0_iff, i0_iff, cr_int ha hb, cr_int ha hb, cr_int ha hb]
/-- all directions on one side of a plane: they don't span -/
theorem barred_not {p : Nat → Nat → Int32} {m : Nat} (hp : ∀ i, i < m → ∀ v, v < 3 → sm 3 (p i v)) {N : Nat → Int32} (hN : ∀ v, v < 3 → sm 3 (N v)) (nN : ¬ (N 0 = 0 ∧ N 1 = 0 ∧ N 2 = 0)) (hle : ∀ i, i < m → ¬ 0 < dt N (p i)) : ¬ Whole p m := by
  rintro ⟨⟨i, j, hij, hj, hz⟩, hb⟩
  have hs : Sided (fun i => iv (p i)) m := halfspace (v := iv N) (fun q => nN ⟨(i0_iff _).mpr q.1, (i0_iff _).mpr q.2.1, (i0_iff _).mpr q.2.2⟩) (fun r hr => by
    have := hle r hr
    rw [Int32.lt_iff_toInt_lt, dt_int (A := 3) (by omega) hN (hp r hr)] at this
    have z0 : (0 : Int32).toInt = 0 := rfl
    omega) ⟨i, j, hij, hj, (nz_int (hp i (by omega)) (hp j hj)).mp hz⟩
  obtain ⟨i, j, hij, hj, h1, h2⟩ := hs
  obtain ⟨⟨r1, w1, q1⟩, r2, w2, q2⟩ := hb i j hij hj ((nz_int (hp i (by omega)) (hp j hj)).mpr h1)
  have ce : iv (cr (p i) (p j)) = cri (iv (p i)) (iv (p j)) := by
    funext v; exact cr_int (hp i (by omega)) (hp j hj) v
  have hcr : ∀ v, v < 3 → sm 18 (cr (p i) (p j) v) := fun v _ => sm_cr (hp i (by omega)) (hp j hj) v
  have z0 : (0 : Int32).toInt = 0 := rfl
  rw [Int32.le_iff_toInt_le, dt_int (A := 18) (by omega) hcr (hp r1 w1), ce] at q1
  rw [Int32.le_iff_toInt_le, dt_int (A := 18) (by omega) hcr (hp r2 w2), ce] at q2
  rcases h2 with h2 | h2
  · have := h2 r1 w1; dsimp only at this; omega
  · have := h2 r2 w2; dsimp only at this; omega
/-- the directions of a state -/
def dr (M : Mm) : Nat → Nat → Int32 := fun i v => M.1 9 (3 * i + v)
theorem dr_z (M : Mm) (i : Nat) {v : Nat} (hv : v < 3) : zM M (61 + 4 * i + v) = dr M i v := zM_d M i hv
/-- they span -/
def Sp (n d : Nat) (M : Mm) : Prop := Whole (rws (zM M) n d) (d + 2 * (3 - n))
theorem JJ.dsm {n t d e k : Nat} {M : Mm} (h : JJ n t d e k M) : ∀ i, i < d → ∀ v, v < 3 → sm 3 (dr M i v) := fun i hi v hv => by
  have q := (h.2.2.2.2 i hi).1 v hv
  unfold sm dr; omega
theorem rws_d {M : Mm} {n d i v : Nat} (hi : i < d) (hv : v < 3) : rws (zM M) n d i v = dr M i v := by
  unfold rws; rw [if_pos hi]; exact dr_z M i hv
theorem rws_e {M : Mm} {n d k v : Nat} : rws (zM M) n d (d + k) v = un (2 * n + k) v := by
  unfold rws; rw [if_neg (by omega), Nat.add_sub_cancel_left]
theorem spansX {n t d e k : Nat} {M : Mm} (h : JJ n t d e k M) : ∃ r M', fX10_spans M = some (r, M') ∧ bq r (Sp n d M) ∧ Vw M M' := by
  obtain ⟨⟨⟨l1, l3, lt, ld, -⟩, a10, -, a80, -⟩, -⟩ := id h
  obtain ⟨M1, f1, c1, r1, o1⟩ := fillX (n := n) (z := zM M) ⟨l1, l3⟩ ld a80 (fun i _ v hv => (dr_z M i hv).symm)
  obtain ⟨q, M2, f2, hq2, o2⟩ := wholeX (M := M1) (m := d + 2 * (3 - n)) (by omega) c1 (p := fun i v => M1.1 93 (3 * i + v)) (fun _ _ => rfl)
  have wc := Whole.c (p := rws (zM M) n d) (p' := fun i v => M1.1 93 (3 * i + v)) (m := d + 2 * (3 - n)) (fun i hi v hv => r1 i hi v hv)
  have vw : Vw M M2 := fun c j w => (o2 c j (by omega)).trans (o1 c j (by omega) (by omega))
  unfold fX10_spans fX5_isWhole
  rw [a10, f1, b1_s, f2]
  rcases hq2 with ⟨rfl, w⟩ | ⟨x, rfl, w⟩
  · rw [bs_l, b2_s, oneIf_z (Or.inl rfl), b1_s]
    exact ⟨0, M2, rfl, bq0 (fun w' => w (wc.mpr w')), vw⟩
  · rw [bs_r]
    unfold u2
    dsimp only
    rw [gd_t w.o, b2_s, oneIf_z w.o, b1_s]
    exact ⟨x, M2, rfl, w.c wc, vw⟩
/-- numbers for the variables that no direction is above -/
def Bar (n d : Nat) (M : Mm) (a b c : Int32) : Prop := ¬ (a = 0 ∧ b = 0 ∧ c = 0) ∧ barr (dr M) d (vec3 a b c)
theorem bar_no {n t d e k : Nat} {M : Mm} (h : JJ n t d e k M) {a b c : Int32} (ha : sm 3 a) (hb : sm 3 b) (hc : sm 3 c) (ho : ofn n b c) (hB : Bar n d M a b c) : ¬ Sp n d M := by
  obtain ⟨l1, l3, -⟩ := h.1.1
  refine barred_not (N := vec3 a b c) (fun i hi v hv => ?_) (fun v hv => ?_) hB.1 (fun i hi => ?_)
  · rcases Nat.lt_or_ge i d with q | q
    · rw [rws_d q hv]; exact h.dsm i q v hv
    · obtain ⟨k, rfl⟩ : ∃ k, i = d + k := ⟨i - d, by omega⟩
      rw [rws_e]; exact sm_un _ _
  · rcases (show v = 0 ∨ v = 1 ∨ v = 2 by omega) with rfl | rfl | rfl
    · exact ha
    · exact hb
    · exact hc
  · rcases Nat.lt_or_ge i d with q | q
    · have e : dt (vec3 a b c) (rws (zM M) n d i) = dt (vec3 a b c) (dr M i) := by
        unfold dt
        rw [rws_d q (by omega), rws_d q (by omega), rws_d q (by omega)]
      rw [e]; exact hB.2 i q
    · obtain ⟨k, rfl⟩ : ∃ k, i = d + k := ⟨i - d, by omega⟩
      have e : dt (vec3 a b c) (rws (zM M) n d (d + k)) = a * un (2 * n + k) 0 + b * un (2 * n + k) 1 + c * un (2 * n + k) 2 := by
        unfold dt
        rw [rws_e, rws_e, rws_e]; rfl
      rw [e]
      have u0 : un (2 * n + k) 0 = 0 := by unfold un; rw [if_neg (by omega)]
      rw [u0, Int32.mul_zero]
      rcases (show n = 1 ∨ n = 2 ∨ n = 3 by omega) with rfl | rfl | rfl
      · rw [ho.1 (by omega), ho.2 (by omega), Int32.zero_mul, Int32.zero_mul]; decide
      · have u1 : un (2 * 2 + k) 1 = 0 := by unfold un; rw [if_neg (by omega)]
        rw [u1, ho.2 (by omega), Int32.mul_zero, Int32.zero_mul]; decide
      · omega
/-- in at most two variables a plane along a direction bars, if one does -/
theorem nobar_yes {n t d e k : Nat} {M : Mm} (h : JJ n t d e k M) (hn : n ≤ 2) (hB : ∀ a b c, sm 3 a → sm 3 b → sm 3 c → ofn n b c → ¬ Bar n d M a b c) : Sp n d M := by
  obtain ⟨l1, l3, -⟩ := h.1.1
  have hA : ∀ i, i < d → ∀ v, v < 3 → rws (zM M) n d i v = dr M i v := fun i hi v hv => rws_d hi hv
  have dd := h.2.2.2.2
  have s0 : sm 3 (0 : Int32) := by unfold sm; decide
  have s1 : sm 3 (1 : Int32) := by unfold sm; decide
  have s1' : sm 3 (-1 : Int32) := by unfold sm; decide
  have sneg : ∀ x : Int32, sm 3 x → sm 3 (-x) := fun x hx => by
    have := sm_neg hx (by omega)
    unfold sm at *; omega
  rcases (show n = 1 ∨ n = 2 by omega) with rfl | rfl
  · refine (bridge1 (p := rws (zM M) 1 d) (q := dr M) (d := d) h.dsm hA (fun k hk v hv => rws_e) (fun i hi => ((dd i hi).1 1 (by omega)).2.2 (by omega)) (fun i hi => ((dd i hi).1 2 (by omega)).2.2 (by omega))).mpr ?_
    rintro (q | q)
    · exact hB 1 0 0 s1 s0 s0 ⟨fun _ => rfl, fun _ => rfl⟩ ⟨fun w => absurd w.1 (by decide), q⟩
    · exact hB (-1) (-0) (-0) s1' (sneg 0 s0) (sneg 0 s0) ⟨fun _ => by decide, fun _ => by decide⟩ ⟨fun w => absurd w.1 (by decide), q⟩
  · refine (bridge2 (p := rws (zM M) 2 d) (q := dr M) (d := d) h.dsm hA (fun k hk v hv => rws_e) (fun i hi => ((dd i hi).1 2 (by omega)).2.2 (by omega)) (fun i hi w => (dd i hi).2 ⟨w.1, w.2, ((dd i hi).1 2 (by omega)).2.2 (by omega)⟩)).mpr ⟨fun w => ?_, fun i hi q => ?_⟩
    · subst w
      exact hB 1 0 0 s1 s0 s0 ⟨fun w => absurd w (by omega), fun _ => rfl⟩ ⟨fun w => absurd w.1 (by decide), fun i hi => absurd hi (by omega)⟩
    · have a := h.dsm i hi 0 (by omega)
      have b := h.dsm i hi 1 (by omega)
      have nz0 : ∀ x y : Int32, ¬ (dr M i 0 = 0 ∧ dr M i 1 = 0) := fun x y w => (dd i hi).2 ⟨w.1, w.2, ((dd i hi).1 2 (by omega)).2.2 (by omega)⟩
      rcases q with q | q
      · exact hB (-(dr M i 1)) (dr M i 0) 0 (sneg _ b) a s0 ⟨fun w => absurd w (by omega), fun _ => rfl⟩ ⟨fun w => nz0 0 0 ⟨w.2.1, (ng0 _).mp w.1⟩, q⟩
      · exact hB (-(-(dr M i 1))) (-(dr M i 0)) (-0) (sneg _ (sneg _ b)) (sneg _ a) (sneg 0 s0) ⟨fun w => absurd w (by omega), fun _ => by decide⟩ ⟨fun w => nz0 0 0 ⟨(ng0 _).mp w.2.1, (ng0 _).mp ((ng0 _).mp w.1)⟩, q⟩
