/-! ===== the law: its answer is 1 ===== -/
theorem runOne {n t d k : Nat} {M : Mm} (h : JJ n t d 0 k M) (hh : HI M) (p : PA M) (hd : 0 < d) (nb : NB t d 0 M) : ∃ M' e' k', fX10_run M 7 = some (1, M') ∧ JJ n t d e' k' M' ∧ HI M' ∧ PA M' := by
  obtain ⟨M1, f1, o1, h1⟩ := pushH hh h.2.1.2.2.1
  have l1 : Lo M M1 := fun c j q => o1 c j (by omega)
  have J1 := h.lo l1
  obtain ⟨m, g, L⟩ := TL.ex J1 0
  obtain ⟨all, hw⟩ := way_ex J1.2.1
  obtain ⟨M', f, r, o⟩ := pollPR J1 L hw
  obtain ⟨e', k', hJ', hP', -⟩ := r.st (p.lo l1)
  have nb1 : NB t d 0 M1 := by unfold NB at nb ⊢; rw [zM_low l1, vh_lo l1]; exact nb
  have e8 : M'.1 11 8 = 1 := by
    obtain ⟨-, -, c⟩ := r
    rcases c with ⟨-, -, -, -, -, c6⟩ | ⟨i, -, c2, s1, s2, -⟩
    · rw [c6]; rfl
    · exact absurd (nb1 i s1 s2) c2
  refine ⟨M', e', k', ?_, hJ', h1.c (fun c j q1 q2 => o c j q1 (by omega)), hP'⟩
  have fl : itr (fX10_run_L39 7) 1000 (0, M1) = some (1, M') := by
    refine itr_r (f := 999) ?_
    unfold fX10_run_L39 u2
    dsimp only
    rw [f, b2_s, bd_s, if_neg (show ¬ (7 : Int32) ≤ 0 + 1 by decide), e8, if_neg (show ¬ (1 : Int32) = 0 by decide)]
    rfl
  unfold fX10_run
  rw [within_in, show fX11_in 7 1 60 = some 1 from rfl, b1_s, i10, canP h p hd, b1_s, i10, f1, b1_s, fl, b2_s]
theorem pw0 : ∀ p, sl 1 (pw 0 p) := by
  intro p
  cases p with
  | zero => unfold pw sl; decide
  | succ p =>
    unfold pw
    rw [show (0 : Int32).toInt64 = 0 from rfl, Int64.mul_zero]
    unfold sl; decide
theorem vs0 {z : Nat → Int32} {t : Nat} (ht : ∀ i, i < t → tOK z i) (lt : t ≤ 10) (s : Bool) : ∀ u, u ≤ t → sl (u * 99) (vs z s 0 0 0 u) := by
  intro u
  induction u with
  | zero => intro _; unfold vs sl; decide
  | succ u ih =>
    intro hu
    unfold vs
    rw [Nat.succ_mul]
    by_cases c : s = true ∧ 2 < ix (z (21 + 4 * u + 1)) + ix (z (21 + 4 * u + 2)) + ix (z (21 + 4 * u + 3))
    · rw [if_pos c]
      exact sl_add (ih (by omega)) (show sl 99 (0 : Int64) by unfold sl; decide) (by omega)
    · rw [if_neg c]
      refine sl_add (ih (by omega)) ?_ (by omega)
      have a : sl 99 (z (21 + 4 * u)).toInt64 := sl_ext (by have := (ht u (by omega)).1; unfold sm; omega)
      unfold tv
      exact sl_mul (A := 99) (B := 1) (sl_mul (A := 99) (B := 1) (sl_mul (A := 99) (B := 1) a (pw0 _) (by omega)) (pw0 _) (by omega)) (pw0 _) (by omega)
theorem law0 {n t d e k : Nat} {M : Mm} (h : JJ n t d e k M) : fX10_value M 0 0 0 1 = some (up (vs (zM M) true 0 0 0 t)) ∧ ¬ lg_cmp (up (vs (zM M) true 0 0 0 t)) 19999999000 < 0 := by
  have v : fX10_value M 0 0 0 1 = _ := valX h true (sm_0 50) (sm_0 50) (sm_0 50) ⟨fun _ => rfl, fun _ => rfl⟩
  have lt := h.1.1.2.2.1
  have b := vs0 (z := zM M) h.tok lt true t (Nat.le_refl _)
  have ok : vok (vs (zM M) true 0 0 0 t) := Nat.le_trans b (by omega)
  refine ⟨v, fun q => ?_⟩
  have q := Int64.lt_iff_toInt_lt.mp ((lg_cmp_lt _ _).mp q)
  rw [up_int ok, show (19999999000 : Int64).toInt = 19999999000 by decide] at q
  unfold sl at b
  omega
theorem ten {n t d : Nat} (hd : 0 < d) {M : Mm} {e k : Nat} (h : JJ n t d e k M) (hh : HI M) (p : PA M) : ∃ M' e' k', itr fL_law_L140 1000 (0, M) = some (.inr M') ∧ JJ n t d e' k' M' ∧ HI M' ∧ PA M' := by
  obtain ⟨r, f, M', e', k', rfl, q⟩ := itr_0 (body := fL_law_L140) (s := ((0 : Int32), M)) (fun i s => s.1 = nI i ∧ ∃ e k, JJ n t d e k s.2 ∧ HI s.2 ∧ PA s.2) (fun r => ∃ M' e' k', r = .inr M' ∧ JJ n t d e' k' M' ∧ HI M' ∧ PA M') 10 (by omega) ⟨rfl, e, k, h, hh, p⟩ (by
    rintro i ⟨a, A⟩ hi ⟨ha, e, k, hA, hH, hP⟩
    obtain rfl : a = nI i := ha
    rcases Nat.lt_or_ge i 10 with hl | hl
    · left
      obtain ⟨A', e', k', f, h1, h2, h3⟩ := pollLaw hA hH hP hd
      refine ⟨(nI (i + 1), A'), ?_, hl, rfl, e', k', h1, h2, h3⟩
      unfold fL_law_L140 u2
      dsimp only
      rw [if_neg (show ¬ (10 : Int32) ≤ nI i from ngen (t := 10) (by omega) (by omega) hl), f, b2_s, if_neg (show ¬ (1 : Int32) = 0 by decide), nI_1, bd_s]
    · right
      refine ⟨.inr A, ?_, A, e, k, rfl, hA, hH, hP⟩
      unfold fL_law_L140 u2
      dsimp only
      rw [if_pos (show (10 : Int32) ≤ nI i from gen (t := 10) (by omega) (by omega) hl)])
  exact ⟨M', e', k', f, q⟩
theorem lawN {L : Nat} (hL : L ≤ 260) (xs : Nat → Int32) {M : Mm} (hh : HI M) (hf : M.1 11 8 = 0 ∨ M.1 11 8 = 1) (h2 : M.1 1 0 = nI 2) : ∃ q, fL_law L xs M = some q ∧ q.1 = 1 := by
  obtain ⟨c0, e0⟩ := cellL hL xs (k := 0) (by omega)
  have e0 : fL_cell L xs 0 = some c0 := e0
  obtain ⟨r, hr, er⟩ := lowL c0 (m := 3) (by omega) (by omega)
  have er : fL_low c0 3 = some (nI r) := er
  obtain ⟨M8, t, d, e, f8, J8, H8, P8, l8⟩ := buildL hL xs hh hf h2 (n := 1 + r) (by omega) (by omega)
  obtain ⟨M12, f12, v12⟩ := spansL J8
  obtain ⟨c21, e21⟩ := cellL hL xs (k := 21) (by omega)
  have e21 : fL_cell L xs 21 = some c21 := e21
  obtain ⟨w, hw, ew⟩ := lowL c21 (m := 3) (by omega) (by omega)
  have ew : fL_low c21 3 = some (nI w) := ew
  obtain ⟨M20, f20, v20⟩ := aroundL (J8.vw v12) (P8.vw v12) (w := w) (by omega)
  have vw := v12.tr v20
  have J20 := J8.vw vw
  have P20 := P8.vw vw
  have H20 := H8.vw vw
  have l20 : M20.1 11 5 = -1 := (vw 11 5 (by omega)).trans l8
  have n10 : ¬ (1 : Int32) = 0 := by decide
  unfold fL_law
  rw [e0, b1_s, er, b1_s, show (1 : Int32) + nI r = nI (1 + r) from nI_add 1 r, bd_s, f8, b2_s, if_neg n10, f12, b2_s, if_neg n10, e21, b1_s, ew, b1_s, f20, b2_s, if_neg n10, cnt_2, b1_s, J20.1.2.2.2.1]
  rcases Nat.eq_zero_or_pos d with rfl | hd
  · rw [if_pos (show nI 0 = 0 from rfl), (poll0 J20 P20).1, b2_s, if_pos rfl, (poll0 J20 P20).2, b2_s, if_pos rfl]
    obtain ⟨x, M5, f5, hx, v5⟩ := stuckL J20 P20 (s := 0) (by omega)
    have f5 : fX10_stuck M20 0 = some (x, M5) := f5
    have x1 : x = 1 := hx.elim (fun q => q.1) (fun q => absurd (show NB t 0 0 M20 from fun y hy => absurd hy (by omega)) q.2)
    obtain ⟨y, M6, f6, hy, v6⟩ := spansX (J20.vw v5)
    have ns : ¬ Sp (1 + r) 0 M5 := bar_no (J20.vw v5) (a := 1) (b := 0) (c := 0) (by unfold sm; decide) (sm_0 3) (sm_0 3) ⟨fun _ => rfl, fun _ => rfl⟩ ⟨fun q => absurd q.1 (by decide), fun i hi => absurd hi (by omega)⟩
    rw [f5, b2_s, if_pos x1, f6, b2_s, if_pos (hy.z.mpr ns)]
    exact ⟨_, rfl, rfl⟩
  · have ld := J20.1.1.2.2.2.1
    rw [if_neg (fun q => by have := (neq (b := 0) (by omega) (by omega)).mp q; omega), (law0 J20).1, b1_s, if_neg (law0 J20).2, so_7, b1_s, l20, if_pos (show (-1 : Int32) = -1 from rfl), if_pos rfl]
    obtain ⟨M41, e41, k41, f41, J41, H41, P41⟩ := ten hd J20 H20 P20
    obtain ⟨c22, e22⟩ := cellL hL xs (k := 22) (by omega)
    have e22 : fL_cell L xs 22 = some c22 := e22
    obtain ⟨v, hv, ev⟩ := lowL c22 (m := 60) (by omega) (by omega)
    have ev : fL_low c22 60 = some (nI v) := ev
    obtain ⟨c, M51, e51, k51, f51, g1, g2, g3, J51, H51, P51, g6, g7, -⟩ := runC J41 H41 P41 hd (w := 1 + v) (by omega) (by omega)
    obtain ⟨c23, e23⟩ := cellL hL xs (k := 23) (by omega)
    have e23 : fL_cell L xs 23 = some c23 := e23
    obtain ⟨u, hu, eu⟩ := lowL c23 (m := 3) (by omega) (by omega)
    have eu : fL_low c23 3 = some (nI u) := eu
    rw [f41, bs_r, so_4, b1_s, e22, b1_s, ev, b1_s, show (1 : Int32) + nI v = nI (1 + v) from nI_add 1 v, bd_s, f51, b2_s, if_neg (show ¬ nI c < 1 from nltn (t := 1) (by omega) (by omega) g1), if_neg (nltn (by omega) (by omega) g2), so_4, b1_s, if_pos g3]
    -- the end, with any state
    have fin : ∀ M63 : Mm, (∃ e k, JJ (1 + r) t d e k M63) → PA M63 → ∃ q, (b1 (fL_cell L xs 23) fun x67 => b1 (fL_low x67 3) fun x69 => b2 (fL_around M63 x69) fun x71 M72 => (if x71 = 0 then some ((0 : Int32), M72) else some (1, M72))) = some q ∧ q.1 = 1 := by
      rintro M63 ⟨e, k, hJ⟩ hP
      obtain ⟨M72, f72, -⟩ := aroundL hJ hP (w := u) (by omega)
      rw [e23, b1_s, eu, b1_s, f72, b2_s, if_neg n10]
      exact ⟨_, rfl, rfl⟩
    have K : ∃ q, (b1 (fX10_searchOf M51 9) fun x60 => bd (fun (M63 : Mm) (x64 : Int32) => (if x64 = 0 then some ((0 : Int32), M63) else b1 (fL_cell L xs 23) fun x67 => b1 (fL_low x67 3) fun x69 => b2 (fL_around M63 x69) fun x71 M72 => (if x71 = 0 then some (0, M72) else some (1, M72)))) fun k61 => bd (fun (M76 : Mm) => k61 M76 1) fun k74 => (if x60 = 0 then k74 M51 else b1 (fX10_searchOf M51 3) fun x79 => bd (fun (M82 : Mm) => k61 M82 0) fun k80 => (if x79 = 1 then b2 (fX10_stuck M51 0) fun x85 M86 => (if x85 = 1 then b2 (fX10_run M86 7) fun x89 M90 => (if x89 = 1 then k74 M90 else k80 M90) else k80 M86) else k80 M51))) = some q ∧ q.1 = 1 := by
      rw [so_9 J51.2.1, b1_s, bd_s, bd_s]
      rcases J51.2.1.2.2.1 with q | q
      · rw [if_pos q]
        dsimp only
        rw [if_neg n10]
        exact fin M51 ⟨_, _, J51⟩ P51
      · obtain ⟨e0', nb⟩ := g7 q
        subst e0'
        rw [if_neg (by rw [q]; decide), so_3, b1_s, bd_s, if_pos (show M51.1 11 1 = 1 from J51.1.2.2.2.2.1)]
        obtain ⟨x, M86, f86, hx, v86⟩ := stuckL J51 P51 (s := 0) (by omega)
        have f86 : fX10_stuck M51 0 = some (x, M86) := f86
        have x1 : x = 1 := hx.elim (fun q => q.1) (fun q => absurd nb q.2)
        have nb86 : NB t d 0 M86 := by unfold NB at nb ⊢; rw [zM_low v86.lo, vh_lo v86.lo]; exact nb
        obtain ⟨M90, e90, k90, f90, J90, H90, P90⟩ := runOne (J51.vw v86) (H51.vw v86) (P51.vw v86) hd nb86
        rw [f86, b2_s, if_pos x1, f90, b2_s, if_pos rfl]
        dsimp only
        rw [if_neg n10]
        exact fin M90 ⟨_, _, J90⟩ P90
    rw [bd_s]
    by_cases q : nI (1 + v) ≤ nI c
    · rw [if_pos q]; exact K
    · have hc : c < 1 + v := by
        rcases Nat.lt_or_ge c (1 + v) with z | z
        · exact z
        · exact absurd (gen (by omega) (by omega) z) q
      rw [if_neg q, so_9 J51.2.1, b1_s, if_pos (g6 hc)]
      have K' := K
      rw [so_9 J51.2.1, b1_s] at K'
      exact K'
