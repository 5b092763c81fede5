/-! ===== the law: its loop ===== -/
theorem law_body {X : XT} {ad : Nat → Nat} {b L : Nat} {xs : Nat → Int32} (hX : XOK X 4 ad csA cL_law RL 9 352) (hZ : SZ X b L xs) (hL : L ≤ 2560) {i : Nat} {M : Mm} (hi : i + 5 ≤ L) (hR : R M) (next : ∀ M', R M' → VV X 4 ad csA M' 898 (LV b ad i) []) : VV X 4 ad csA M 26 (LV b ad i) [] := by
  refine v_aload_n (pc := 26) 0 hX dL_law_26 rfl ?_
  refine v_iload_n (pc := 27) 3 hX dL_law_27 rfl ?_
  refine v_sld (pc := 28) hX hZ (by omega) hL dL_law_28 ?_
  refine v_bipush (pc := 29) hX dL_law_29 bp_31 ?_
  refine v_iand (pc := 31) hX dL_law_31 ?_
  rcases law_sw (xs i &&& 31) with h | ⟨k, hk, e⟩
  · exact v_tableOut (pc := 32) (tgt := 898) hX dL_law_32 h (by decide) (next M hR)
  · rw [e]
    rcases (show k = 0 ∨ k = 1 ∨ k = 2 ∨ k = 3 ∨ k = 4 ∨ k = 5 ∨ k = 6 ∨ k = 7 ∨ k = 8 ∨ k = 9 ∨ k = 10 ∨ k = 11 ∨ k = 12 ∨ k = 13 ∨ k = 14 ∨ k = 15 ∨ k = 16 ∨ k = 17 ∨ k = 18 ∨ k = 19 ∨ k = 20 ∨ k = 21 ∨ k = 22 ∨ k = 23 ∨ k = 24 ∨ k = 25 ∨ k = 26 by omega) with rfl | rfl | rfl | rfl | rfl | rfl | rfl | rfl | rfl | rfl | rfl | rfl | rfl | rfl | rfl | rfl | rfl | rfl | rfl | rfl | rfl | rfl | rfl | rfl | rfl | rfl | rfl
    · exact v_tableIn (pc := 32) (tgt := 156) (off := 124) hX dL_law_32 (by decide +kernel) (by decide +kernel) (by decide +kernel) (by decide) (law_0 hX hZ hL hi hR next)
    · exact v_tableIn (pc := 32) (tgt := 179) (off := 147) hX dL_law_32 (by decide +kernel) (by decide +kernel) (by decide +kernel) (by decide) (law_1 hX hZ hL hi hR next)
    · exact v_tableIn (pc := 32) (tgt := 232) (off := 200) hX dL_law_32 (by decide +kernel) (by decide +kernel) (by decide +kernel) (by decide) (law_2 hX hZ hL hi hR next)
    · exact v_tableIn (pc := 32) (tgt := 255) (off := 223) hX dL_law_32 (by decide +kernel) (by decide +kernel) (by decide +kernel) (by decide) (law_3 hX hZ hL hi hR next)
    · exact v_tableIn (pc := 32) (tgt := 298) (off := 266) hX dL_law_32 (by decide +kernel) (by decide +kernel) (by decide +kernel) (by decide) (law_4 hX hZ hL hi hR next)
    · exact v_tableIn (pc := 32) (tgt := 341) (off := 309) hX dL_law_32 (by decide +kernel) (by decide +kernel) (by decide +kernel) (by decide) (law_5 hX hZ hL hi hR next)
    · exact v_tableIn (pc := 32) (tgt := 364) (off := 332) hX dL_law_32 (by decide +kernel) (by decide +kernel) (by decide +kernel) (by decide) (law_6 hX hZ hL hi hR next)
    · exact v_tableIn (pc := 32) (tgt := 417) (off := 385) hX dL_law_32 (by decide +kernel) (by decide +kernel) (by decide +kernel) (by decide) (law_7 hX hZ hL hi hR next)
    · exact v_tableIn (pc := 32) (tgt := 450) (off := 418) hX dL_law_32 (by decide +kernel) (by decide +kernel) (by decide +kernel) (by decide) (law_8 hX hZ hL hi hR next)
    · exact v_tableIn (pc := 32) (tgt := 463) (off := 431) hX dL_law_32 (by decide +kernel) (by decide +kernel) (by decide +kernel) (by decide) (law_9 hX hZ hL hi hR next)
    · exact v_tableIn (pc := 32) (tgt := 486) (off := 454) hX dL_law_32 (by decide +kernel) (by decide +kernel) (by decide +kernel) (by decide) (law_10 hX hZ hL hi hR next)
    · exact v_tableIn (pc := 32) (tgt := 540) (off := 508) hX dL_law_32 (by decide +kernel) (by decide +kernel) (by decide +kernel) (by decide) (law_11 hX hZ hL hi hR next)
    · exact v_tableIn (pc := 32) (tgt := 573) (off := 541) hX dL_law_32 (by decide +kernel) (by decide +kernel) (by decide +kernel) (by decide) (law_12 hX hZ hL hi hR next)
    · exact v_tableIn (pc := 32) (tgt := 606) (off := 574) hX dL_law_32 (by decide +kernel) (by decide +kernel) (by decide +kernel) (by decide) (law_13 hX hZ hL hi hR next)
    · exact v_tableIn (pc := 32) (tgt := 629) (off := 597) hX dL_law_32 (by decide +kernel) (by decide +kernel) (by decide +kernel) (by decide) (law_14 hX hZ hL hi hR next)
    · exact v_tableIn (pc := 32) (tgt := 662) (off := 630) hX dL_law_32 (by decide +kernel) (by decide +kernel) (by decide +kernel) (by decide) (law_15 hX hZ hL hi hR next)
    · exact v_tableIn (pc := 32) (tgt := 685) (off := 653) hX dL_law_32 (by decide +kernel) (by decide +kernel) (by decide +kernel) (by decide) (law_16 hX hZ hL hi hR next)
    · exact v_tableIn (pc := 32) (tgt := 718) (off := 686) hX dL_law_32 (by decide +kernel) (by decide +kernel) (by decide +kernel) (by decide) (law_17 hX hZ hL hi hR next)
    · exact v_tableIn (pc := 32) (tgt := 731) (off := 699) hX dL_law_32 (by decide +kernel) (by decide +kernel) (by decide +kernel) (by decide) (law_18 hX hZ hL hi hR next)
    · exact v_tableIn (pc := 32) (tgt := 754) (off := 722) hX dL_law_32 (by decide +kernel) (by decide +kernel) (by decide +kernel) (by decide) (law_19 hX hZ hL hi hR next)
    · exact v_tableIn (pc := 32) (tgt := 787) (off := 755) hX dL_law_32 (by decide +kernel) (by decide +kernel) (by decide +kernel) (by decide) (law_20 hX hZ hL hi hR next)
    · exact v_tableIn (pc := 32) (tgt := 800) (off := 768) hX dL_law_32 (by decide +kernel) (by decide +kernel) (by decide +kernel) (by decide) (law_21 hX hZ hL hi hR next)
    · exact v_tableIn (pc := 32) (tgt := 813) (off := 781) hX dL_law_32 (by decide +kernel) (by decide +kernel) (by decide +kernel) (by decide) (law_22 hX hZ hL hi hR next)
    · exact v_tableIn (pc := 32) (tgt := 826) (off := 794) hX dL_law_32 (by decide +kernel) (by decide +kernel) (by decide +kernel) (by decide) (law_23 hX hZ hL hi hR next)
    · exact v_tableIn (pc := 32) (tgt := 849) (off := 817) hX dL_law_32 (by decide +kernel) (by decide +kernel) (by decide +kernel) (by decide) (law_24 hX hZ hL hi hR next)
    · exact v_tableIn (pc := 32) (tgt := 862) (off := 830) hX dL_law_32 (by decide +kernel) (by decide +kernel) (by decide +kernel) (by decide) (law_25 hX hZ hL hi hR next)
    · exact v_tableIn (pc := 32) (tgt := 885) (off := 853) hX dL_law_32 (by decide +kernel) (by decide +kernel) (by decide +kernel) (by decide) (law_26 hX hZ hL hi hR next)
theorem law_loop {X : XT} {ad : Nat → Nat} {b L : Nat} {xs : Nat → Int32} (hX : XOK X 4 ad csA cL_law RL 9 352) (hZ : SZ X b L xs) (hL : L ≤ 2560) (fin : ∀ i M, VV X 4 ad csA M 904 (LV b ad i) []) : ∀ (n i : Nat) (M : Mm), L < i + n → i ≤ L → R M → VV X 4 ad csA M 18 (LV b ad i) [] := by
  intro n
  induction n with
  | zero => intro i M h1 h2 _; omega
  | succ n ih =>
    intro i M h1 h2 hR
    refine v_iload_n (pc := 18) 3 hX dL_law_18 rfl ?_
    refine v_aload_n (pc := 19) 0 hX dL_law_19 rfl ?_
    refine v_slen (pc := 20) hX hZ dL_law_20 ?_
    refine v_iconst (pc := 21) hX dL_law_21 ic_5 ?_
    refine v_isub (pc := 22) hX dL_law_22 ?_
    refine v_icmp_gt (pc := 23) (tgt := 904) hX dL_law_23 (by decide) (fun _ => fin i M) (fun h => ?_)
    have hi : i + 5 ≤ L := by
      have := mt (lawlt hL (by omega)).mpr h
      omega
    refine law_body hX hZ hL hi hR (fun M' hR' => ?_)
    refine v_iinc (pc := 898) (v := nI (i + 5)) 3 [(3, .int (nI (i + 5))), (0, .ref b), (1, .ref (ad 0)), (2, .ref (ad 95))] hX dL_law_898 rfl (nI_add i 5).symm (by decide) rfl ?_
    refine v_goto (pc := 901) (tgt := 18) hX dL_law_901 (by decide) ?_
    refine v_sub (lv' := LV b ad (i + 5)) [1, 2, 3, 0] rfl ?_
    exact ih (i + 5) M' (by omega) (by omega) hR'
/-- the start of both sides -/
def Mal (M1 Mb : Mm) : Mm := (fun c j => if c < 95 then (Mz M1).1 c j else Mb.1 c j, fun _ _ => 0)
theorem startR {M1 Mb : Mm} (rs : RS 2 M1) (hz : ∀ j, j < 111 → Mb.1 96 j = zb 2 j) (h0 : ∀ c j, c ≠ 96 → Mb.1 c j = 0) : R (Mal M1 Mb) := by
  have lo : ∀ c j, 14 ≤ c → c < 95 → (Mal M1 Mb).1 c j = 0 := fun c j h1 h2 => by
    show (if c < 95 then (if c = 0 then 0 else if c < 14 then M1.1 c j else 0) else Mb.1 c j) = 0
    rw [if_pos h2, if_neg (by omega), if_neg (by omega)]
  have up : ∀ c j, 95 ≤ c → (Mal M1 Mb).1 c j = Mb.1 c j := fun c j h1 => by
    show (if c < 95 then (if c = 0 then 0 else if c < 14 then M1.1 c j else 0) else Mb.1 c j) = Mb.1 c j
    rw [if_neg (by omega)]
  have e95 : ∀ j, (Mal M1 Mb).1 95 j = 0 := fun j => (up 95 j (by omega)).trans (h0 95 j (by omega))
  refine ⟨resetSR (n := 2) (by omega) (by omega) (show RS 2 (Mal M1 Mb) from rs) (fun j hj => (up 96 j (by omega)).trans (hz j hj)), ⟨0, by omega, (lo 14 0 (by omega) (by omega)).trans rfl, (e95 3).trans rfl, fun i hi => absurd hi (by omega)⟩, ⟨⟨?_, Or.inl (e95 4)⟩, fun h => ?_⟩, ⟨0, by omega, (lo 80 0 (by omega) (by omega)).trans rfl, (e95 6).trans rfl, fun i hi => absurd hi (by omega)⟩, ⟨fun i hi => Or.inl (lo _ _ (by omega) (by omega)), Or.inl (lo _ _ (by omega) (by omega))⟩⟩
  · rw [e95 4]; rfl
  · rw [e95 4] at h; exact absurd h (by decide)
theorem nst_all : ∀ q ∈ nestL, Cond.methodLinkNest q.1 q.2.1 q.2.2.1 q.2.2.2 ∈ lw_tbl := List.forall_mem_cons.mpr ⟨nw_0, List.forall_mem_cons.mpr ⟨nw_1, List.forall_mem_cons.mpr ⟨nw_2, List.forall_mem_cons.mpr ⟨nw_3, List.forall_mem_cons.mpr ⟨nw_4, List.forall_mem_cons.mpr ⟨nw_5, List.forall_mem_cons.mpr ⟨nw_6, List.forall_mem_cons.mpr ⟨nw_7, List.forall_mem_cons.mpr ⟨nw_8, List.forall_mem_cons.mpr ⟨nw_9, List.forall_mem_cons.mpr ⟨nw_10, List.forall_mem_cons.mpr ⟨nw_11, List.forall_mem_cons.mpr ⟨nw_12, List.forall_mem_cons.mpr ⟨nw_13, List.forall_mem_cons.mpr ⟨nw_14, List.forall_mem_cons.mpr ⟨nw_15, List.forall_mem_cons.mpr ⟨nw_16, (fun _ h => absurd h List.not_mem_nil)⟩⟩⟩⟩⟩⟩⟩⟩⟩⟩⟩⟩⟩⟩⟩⟩⟩
