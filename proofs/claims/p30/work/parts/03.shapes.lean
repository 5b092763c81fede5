def tb : List Cond := lw_tbl.filter goodWord
theorem mw {w : Cond} (i : Nat) (h : lw_tbl[i]? = some w) (g : goodWord w = true) : w ∈ tb := List.mem_filter.mpr ⟨List.mem_of_getElem? h, g⟩
abbrev Mm : Type := (Nat → Nat → Int32) × (Nat → Nat → Int64)
/-- a field: a whole number (none), a long one (some none), a reference to a cell (some (some cell)) -/
abbrev Fs : Type := Option (Option Nat)
/-- a cell: an object (its class' kind, its fields), or a row (of ints 0, longs 1, chars 2; its length) -/
abbrev Sh : Type := (Nat × List Fs) ⊕ (Nat × Nat)
def nestL : List (String × Nat × MethodName × String) := [(RX10, 9, yX6_init, "PollMeshes"), (RX6, 11, yX7_init, "PollMeshes"), (RX6, 20, yX0_init, "PollMeshes"), (RX6, 27, yX1_init, "PollMeshes"), (RX6, 34, yX4_init, "PollMeshes"), (RX10, 22, yX2_init, "PollMeshes"), (RX2, 11, yX6_init, "PollMeshes"), (RX10, 36, yX8_init, "PollMeshes"), (RX8, 17, yX7_init, "PollMeshes"), (RX10, 43, yX9_init, "PollMeshes"), (RX10, 50, yX3_init, "PollMeshes"), (RX10, 57, yX5_init, "PollMeshes"), (RX0, 24, yX10_within, "PollMeshes"), (RX6, 75, yX10_within, "PollMeshes"), (RX1, 36, yX10_closeGap, "PollMeshes")]
theorem nw_0 : Cond.methodLinkNest RX10 9 yX6_init "PollMeshes" ∈ lw_tbl := List.mem_of_getElem? (i := 33) (by decide +kernel)
theorem nw_1 : Cond.methodLinkNest RX6 11 yX7_init "PollMeshes" ∈ lw_tbl := List.mem_of_getElem? (i := 39) (by decide +kernel)
theorem nw_2 : Cond.methodLinkNest RX6 20 yX0_init "PollMeshes" ∈ lw_tbl := List.mem_of_getElem? (i := 58) (by decide +kernel)
theorem nw_3 : Cond.methodLinkNest RX6 27 yX1_init "PollMeshes" ∈ lw_tbl := List.mem_of_getElem? (i := 73) (by decide +kernel)
theorem nw_4 : Cond.methodLinkNest RX6 34 yX4_init "PollMeshes" ∈ lw_tbl := List.mem_of_getElem? (i := 98) (by decide +kernel)
theorem nw_5 : Cond.methodLinkNest RX10 22 yX2_init "PollMeshes" ∈ lw_tbl := List.mem_of_getElem? (i := 212) (by decide +kernel)
theorem nw_6 : Cond.methodLinkNest RX2 11 yX6_init "PollMeshes" ∈ lw_tbl := List.mem_of_getElem? (i := 217) (by decide +kernel)
theorem nw_7 : Cond.methodLinkNest RX10 36 yX8_init "PollMeshes" ∈ lw_tbl := List.mem_of_getElem? (i := 237) (by decide +kernel)
theorem nw_8 : Cond.methodLinkNest RX8 17 yX7_init "PollMeshes" ∈ lw_tbl := List.mem_of_getElem? (i := 242) (by decide +kernel)
theorem nw_9 : Cond.methodLinkNest RX10 43 yX9_init "PollMeshes" ∈ lw_tbl := List.mem_of_getElem? (i := 270) (by decide +kernel)
theorem nw_10 : Cond.methodLinkNest RX10 50 yX3_init "PollMeshes" ∈ lw_tbl := List.mem_of_getElem? (i := 299) (by decide +kernel)
theorem nw_11 : Cond.methodLinkNest RX10 57 yX5_init "PollMeshes" ∈ lw_tbl := List.mem_of_getElem? (i := 313) (by decide +kernel)
theorem nw_12 : Cond.methodLinkNest RX0 24 yX10_within "PollMeshes" ∈ lw_tbl := List.mem_of_getElem? (i := 368) (by decide +kernel)
theorem nw_13 : Cond.methodLinkNest RX6 75 yX10_within "PollMeshes" ∈ lw_tbl := List.mem_of_getElem? (i := 469) (by decide +kernel)
theorem nw_14 : Cond.methodLinkNest RX1 36 yX10_closeGap "PollMeshes" ∈ lw_tbl := List.mem_of_getElem? (i := 561) (by decide +kernel)
def shTab : List Sh := [.inl (10, [some (some 1), some (some 14), some (some 67), none, some (some 80), some (some 86), some (some 90), some (some 92)]), .inl (6, [none, none, none, some (some 2), some (some 5), some (some 8), some (some 11)]), .inl (7, [none, some (some 3), some (some 4)]), .inr (0, 10), .inr (0, 30), .inl (0, [some (some 6), some (some 7)]), .inr (0, 3), .inr (0, 3), .inl (1, [none, some (some 9), some (some 10)]), .inr (0, 24), .inr (0, 8), .inl (4, [some (some 12), none, none, none, none, none, none, some (some 13), none]), .inr (0, 3), .inr (0, 18), .inl (2, [none, some (some 15), some (some 28), some (some 41), some (some 54)]), .inl (6, [none, none, none, some (some 16), some (some 19), some (some 22), some (some 25)]), .inl (7, [none, some (some 17), some (some 18)]), .inr (0, 10), .inr (0, 30), .inl (0, [some (some 20), some (some 21)]), .inr (0, 3), .inr (0, 3), .inl (1, [none, some (some 23), some (some 24)]), .inr (0, 24), .inr (0, 8), .inl (4, [some (some 26), none, none, none, none, none, none, some (some 27), none]), .inr (0, 3), .inr (0, 18), .inl (6, [none, none, none, some (some 29), some (some 32), some (some 35), some (some 38)]), .inl (7, [none, some (some 30), some (some 31)]), .inr (0, 10), .inr (0, 30), .inl (0, [some (some 33), some (some 34)]), .inr (0, 3), .inr (0, 3), .inl (1, [none, some (some 36), some (some 37)]), .inr (0, 24), .inr (0, 8), .inl (4, [some (some 39), none, none, none, none, none, none, some (some 40), none]), .inr (0, 3), .inr (0, 18), .inl (6, [none, none, none, some (some 42), some (some 45), some (some 48), some (some 51)]), .inl (7, [none, some (some 43), some (some 44)]), .inr (0, 10), .inr (0, 30), .inl (0, [some (some 46), some (some 47)]), .inr (0, 3), .inr (0, 3), .inl (1, [none, some (some 49), some (some 50)]), .inr (0, 24), .inr (0, 8), .inl (4, [some (some 52), none, none, none, none, none, none, some (some 53), none]), .inr (0, 3), .inr (0, 18), .inl (6, [none, none, none, some (some 55), some (some 58), some (some 61), some (some 64)]), .inl (7, [none, some (some 56), some (some 57)]), .inr (0, 10), .inr (0, 30), .inl (0, [some (some 59), some (some 60)]), .inr (0, 3), .inr (0, 3), .inl (1, [none, some (some 62), some (some 63)]), .inr (0, 24), .inr (0, 8), .inl (4, [some (some 65), none, none, none, none, none, none, some (some 66), none]), .inr (0, 3), .inr (0, 18), .inl (6, [none, none, none, some (some 68), some (some 71), some (some 74), some (some 77)]), .inl (7, [none, some (some 69), some (some 70)]), .inr (0, 10), .inr (0, 30), .inl (0, [some (some 72), some (some 73)]), .inr (0, 3), .inr (0, 3), .inl (1, [none, some (some 75), some (some 76)]), .inr (0, 24), .inr (0, 8), .inl (4, [some (some 78), none, none, none, none, none, none, some (some 79), none]), .inr (0, 3), .inr (0, 18), .inl (8, [none, some (some 81), some (some 82), none, none, none, none, none, none, some (some 85)]), .inr (0, 60), .inl (7, [none, some (some 83), some (some 84)]), .inr (0, 10), .inr (0, 30), .inr (0, 3), .inl (9, [none, some (some 87), some (some 88), some (some 89), some none, none]), .inr (0, 8), .inr (1, 8), .inr (1, 8), .inl (3, [some (some 91), some none]), .inr (0, 3), .inl (5, [none, some (some 93), some (some 94)]), .inr (0, 42), .inr (0, 3), .inr (0, 8)]
def shp (c : Nat) : Sh := shTab.getD c (.inr (0, 0))
theorem sh_0 : shp 0 = .inl (10, [some (some 1), some (some 14), some (some 67), none, some (some 80), some (some 86), some (some 90), some (some 92)]) := rfl
theorem sh_1 : shp 1 = .inl (6, [none, none, none, some (some 2), some (some 5), some (some 8), some (some 11)]) := rfl
theorem sh_2 : shp 2 = .inl (7, [none, some (some 3), some (some 4)]) := rfl
theorem sh_3 : shp 3 = .inr (0, 10) := rfl
theorem sh_4 : shp 4 = .inr (0, 30) := rfl
theorem sh_5 : shp 5 = .inl (0, [some (some 6), some (some 7)]) := rfl
theorem sh_6 : shp 6 = .inr (0, 3) := rfl
theorem sh_7 : shp 7 = .inr (0, 3) := rfl
theorem sh_8 : shp 8 = .inl (1, [none, some (some 9), some (some 10)]) := rfl
theorem sh_9 : shp 9 = .inr (0, 24) := rfl
theorem sh_10 : shp 10 = .inr (0, 8) := rfl
theorem sh_11 : shp 11 = .inl (4, [some (some 12), none, none, none, none, none, none, some (some 13), none]) := rfl
theorem sh_12 : shp 12 = .inr (0, 3) := rfl
theorem sh_13 : shp 13 = .inr (0, 18) := rfl
theorem sh_14 : shp 14 = .inl (2, [none, some (some 15), some (some 28), some (some 41), some (some 54)]) := rfl
theorem sh_15 : shp 15 = .inl (6, [none, none, none, some (some 16), some (some 19), some (some 22), some (some 25)]) := rfl
theorem sh_16 : shp 16 = .inl (7, [none, some (some 17), some (some 18)]) := rfl
theorem sh_17 : shp 17 = .inr (0, 10) := rfl
theorem sh_18 : shp 18 = .inr (0, 30) := rfl
theorem sh_19 : shp 19 = .inl (0, [some (some 20), some (some 21)]) := rfl
theorem sh_20 : shp 20 = .inr (0, 3) := rfl
theorem sh_21 : shp 21 = .inr (0, 3) := rfl
theorem sh_22 : shp 22 = .inl (1, [none, some (some 23), some (some 24)]) := rfl
theorem sh_23 : shp 23 = .inr (0, 24) := rfl
theorem sh_24 : shp 24 = .inr (0, 8) := rfl
theorem sh_25 : shp 25 = .inl (4, [some (some 26), none, none, none, none, none, none, some (some 27), none]) := rfl
theorem sh_26 : shp 26 = .inr (0, 3) := rfl
theorem sh_27 : shp 27 = .inr (0, 18) := rfl
theorem sh_28 : shp 28 = .inl (6, [none, none, none, some (some 29), some (some 32), some (some 35), some (some 38)]) := rfl
theorem sh_29 : shp 29 = .inl (7, [none, some (some 30), some (some 31)]) := rfl
theorem sh_30 : shp 30 = .inr (0, 10) := rfl
theorem sh_31 : shp 31 = .inr (0, 30) := rfl
theorem sh_32 : shp 32 = .inl (0, [some (some 33), some (some 34)]) := rfl
theorem sh_33 : shp 33 = .inr (0, 3) := rfl
theorem sh_34 : shp 34 = .inr (0, 3) := rfl
theorem sh_35 : shp 35 = .inl (1, [none, some (some 36), some (some 37)]) := rfl
theorem sh_36 : shp 36 = .inr (0, 24) := rfl
theorem sh_37 : shp 37 = .inr (0, 8) := rfl
theorem sh_38 : shp 38 = .inl (4, [some (some 39), none, none, none, none, none, none, some (some 40), none]) := rfl
theorem sh_39 : shp 39 = .inr (0, 3) := rfl
theorem sh_40 : shp 40 = .inr (0, 18) := rfl
theorem sh_41 : shp 41 = .inl (6, [none, none, none, some (some 42), some (some 45), some (some 48), some (some 51)]) := rfl
theorem sh_42 : shp 42 = .inl (7, [none, some (some 43), some (some 44)]) := rfl
theorem sh_43 : shp 43 = .inr (0, 10) := rfl
theorem sh_44 : shp 44 = .inr (0, 30) := rfl
theorem sh_45 : shp 45 = .inl (0, [some (some 46), some (some 47)]) := rfl
theorem sh_46 : shp 46 = .inr (0, 3) := rfl
theorem sh_47 : shp 47 = .inr (0, 3) := rfl
theorem sh_48 : shp 48 = .inl (1, [none, some (some 49), some (some 50)]) := rfl
theorem sh_49 : shp 49 = .inr (0, 24) := rfl
theorem sh_50 : shp 50 = .inr (0, 8) := rfl
theorem sh_51 : shp 51 = .inl (4, [some (some 52), none, none, none, none, none, none, some (some 53), none]) := rfl
theorem sh_52 : shp 52 = .inr (0, 3) := rfl
theorem sh_53 : shp 53 = .inr (0, 18) := rfl
theorem sh_54 : shp 54 = .inl (6, [none, none, none, some (some 55), some (some 58), some (some 61), some (some 64)]) := rfl
theorem sh_55 : shp 55 = .inl (7, [none, some (some 56), some (some 57)]) := rfl
theorem sh_56 : shp 56 = .inr (0, 10) := rfl
theorem sh_57 : shp 57 = .inr (0, 30) := rfl
theorem sh_58 : shp 58 = .inl (0, [some (some 59), some (some 60)]) := rfl
theorem sh_59 : shp 59 = .inr (0, 3) := rfl
theorem sh_60 : shp 60 = .inr (0, 3) := rfl
theorem sh_61 : shp 61 = .inl (1, [none, some (some 62), some (some 63)]) := rfl
theorem sh_62 : shp 62 = .inr (0, 24) := rfl
theorem sh_63 : shp 63 = .inr (0, 8) := rfl
theorem sh_64 : shp 64 = .inl (4, [some (some 65), none, none, none, none, none, none, some (some 66), none]) := rfl
theorem sh_65 : shp 65 = .inr (0, 3) := rfl
theorem sh_66 : shp 66 = .inr (0, 18) := rfl
theorem sh_67 : shp 67 = .inl (6, [none, none, none, some (some 68), some (some 71), some (some 74), some (some 77)]) := rfl
theorem sh_68 : shp 68 = .inl (7, [none, some (some 69), some (some 70)]) := rfl
theorem sh_69 : shp 69 = .inr (0, 10) := rfl
theorem sh_70 : shp 70 = .inr (0, 30) := rfl
theorem sh_71 : shp 71 = .inl (0, [some (some 72), some (some 73)]) := rfl
theorem sh_72 : shp 72 = .inr (0, 3) := rfl
theorem sh_73 : shp 73 = .inr (0, 3) := rfl
theorem sh_74 : shp 74 = .inl (1, [none, some (some 75), some (some 76)]) := rfl
theorem sh_75 : shp 75 = .inr (0, 24) := rfl
theorem sh_76 : shp 76 = .inr (0, 8) := rfl
theorem sh_77 : shp 77 = .inl (4, [some (some 78), none, none, none, none, none, none, some (some 79), none]) := rfl
theorem sh_78 : shp 78 = .inr (0, 3) := rfl
theorem sh_79 : shp 79 = .inr (0, 18) := rfl
theorem sh_80 : shp 80 = .inl (8, [none, some (some 81), some (some 82), none, none, none, none, none, none, some (some 85)]) := rfl
theorem sh_81 : shp 81 = .inr (0, 60) := rfl
theorem sh_82 : shp 82 = .inl (7, [none, some (some 83), some (some 84)]) := rfl
theorem sh_83 : shp 83 = .inr (0, 10) := rfl
theorem sh_84 : shp 84 = .inr (0, 30) := rfl
theorem sh_85 : shp 85 = .inr (0, 3) := rfl
theorem sh_86 : shp 86 = .inl (9, [none, some (some 87), some (some 88), some (some 89), some none, none]) := rfl
theorem sh_87 : shp 87 = .inr (0, 8) := rfl
theorem sh_88 : shp 88 = .inr (1, 8) := rfl
theorem sh_89 : shp 89 = .inr (1, 8) := rfl
theorem sh_90 : shp 90 = .inl (3, [some (some 91), some none]) := rfl
theorem sh_91 : shp 91 = .inr (0, 3) := rfl
theorem sh_92 : shp 92 = .inl (5, [none, some (some 93), some (some 94)]) := rfl
theorem sh_93 : shp 93 = .inr (0, 42) := rfl
theorem sh_94 : shp 94 = .inr (0, 3) := rfl
theorem sh_95 : shp 95 = .inr (0, 8) := rfl
def ly7 (c : Nat) : Prop := shp c = .inl (7, [none, some (some (c + 1)), some (some (c + 2))]) ∧ shp (c + 1) = .inr (0, 10) ∧ shp (c + 2) = .inr (0, 30)
def ly0 (c : Nat) : Prop := shp c = .inl (0, [some (some (c + 1)), some (some (c + 2))]) ∧ shp (c + 1) = .inr (0, 3) ∧ shp (c + 2) = .inr (0, 3)
def ly1 (c : Nat) : Prop := shp c = .inl (1, [none, some (some (c + 1)), some (some (c + 2))]) ∧ shp (c + 1) = .inr (0, 24) ∧ shp (c + 2) = .inr (0, 8)
def ly4 (c : Nat) : Prop := shp c = .inl (4, [some (some (c + 1)), none, none, none, none, none, none, some (some (c + 2)), none]) ∧ shp (c + 1) = .inr (0, 3) ∧ shp (c + 2) = .inr (0, 18)
def ly6 (c : Nat) : Prop := shp c = .inl (6, [none, none, none, some (some (c + 1)), some (some (c + 4)), some (some (c + 7)), some (some (c + 10))]) ∧ ly7 (c + 1) ∧ ly0 (c + 4) ∧ ly1 (c + 7) ∧ ly4 (c + 10)
theorem lyat_82 : ly7 82 := ⟨sh_82, sh_83, sh_84⟩
theorem lyat_77 : ly4 77 := ⟨sh_77, sh_78, sh_79⟩
theorem lyat_74 : ly1 74 := ⟨sh_74, sh_75, sh_76⟩
theorem lyat_71 : ly0 71 := ⟨sh_71, sh_72, sh_73⟩
theorem lyat_68 : ly7 68 := ⟨sh_68, sh_69, sh_70⟩
theorem lyat_67 : ly6 67 := ⟨sh_67, lyat_68, lyat_71, lyat_74, lyat_77⟩
theorem lyat_64 : ly4 64 := ⟨sh_64, sh_65, sh_66⟩
theorem lyat_61 : ly1 61 := ⟨sh_61, sh_62, sh_63⟩
theorem lyat_58 : ly0 58 := ⟨sh_58, sh_59, sh_60⟩
theorem lyat_55 : ly7 55 := ⟨sh_55, sh_56, sh_57⟩
theorem lyat_54 : ly6 54 := ⟨sh_54, lyat_55, lyat_58, lyat_61, lyat_64⟩
theorem lyat_51 : ly4 51 := ⟨sh_51, sh_52, sh_53⟩
theorem lyat_48 : ly1 48 := ⟨sh_48, sh_49, sh_50⟩
theorem lyat_45 : ly0 45 := ⟨sh_45, sh_46, sh_47⟩
theorem lyat_42 : ly7 42 := ⟨sh_42, sh_43, sh_44⟩
theorem lyat_41 : ly6 41 := ⟨sh_41, lyat_42, lyat_45, lyat_48, lyat_51⟩
theorem lyat_38 : ly4 38 := ⟨sh_38, sh_39, sh_40⟩
theorem lyat_35 : ly1 35 := ⟨sh_35, sh_36, sh_37⟩
theorem lyat_32 : ly0 32 := ⟨sh_32, sh_33, sh_34⟩
theorem lyat_29 : ly7 29 := ⟨sh_29, sh_30, sh_31⟩
theorem lyat_28 : ly6 28 := ⟨sh_28, lyat_29, lyat_32, lyat_35, lyat_38⟩
theorem lyat_25 : ly4 25 := ⟨sh_25, sh_26, sh_27⟩
theorem lyat_22 : ly1 22 := ⟨sh_22, sh_23, sh_24⟩
theorem lyat_19 : ly0 19 := ⟨sh_19, sh_20, sh_21⟩
theorem lyat_16 : ly7 16 := ⟨sh_16, sh_17, sh_18⟩
theorem lyat_15 : ly6 15 := ⟨sh_15, lyat_16, lyat_19, lyat_22, lyat_25⟩
theorem lyat_11 : ly4 11 := ⟨sh_11, sh_12, sh_13⟩
theorem lyat_8 : ly1 8 := ⟨sh_8, sh_9, sh_10⟩
theorem lyat_5 : ly0 5 := ⟨sh_5, sh_6, sh_7⟩
theorem lyat_2 : ly7 2 := ⟨sh_2, sh_3, sh_4⟩
theorem lyat_1 : ly6 1 := ⟨sh_1, lyat_2, lyat_5, lyat_8, lyat_11⟩
theorem uw_0 : ∀ w ∈ u_ws RX0 TX0 2, w ∈ tb := (List.forall_mem_cons.mpr ⟨(mw 66 (by decide +kernel) (by decide +kernel)), (List.forall_mem_cons.mpr ⟨(mw 68 (by decide +kernel) (by decide +kernel)), (fun _ h => absurd h List.not_mem_nil)⟩)⟩)
theorem uw_1 : ∀ w ∈ u_ws RX1 TX1 3, w ∈ tb := (List.forall_mem_cons.mpr ⟨(mw 89 (by decide +kernel) (by decide +kernel)), (List.forall_mem_cons.mpr ⟨(mw 91 (by decide +kernel) (by decide +kernel)), (List.forall_mem_cons.mpr ⟨(mw 93 (by decide +kernel) (by decide +kernel)), (fun _ h => absurd h List.not_mem_nil)⟩)⟩)⟩)
theorem uw_2 : ∀ w ∈ u_ws RX2 TX2 5, w ∈ tb := (List.forall_mem_cons.mpr ⟨(mw 224 (by decide +kernel) (by decide +kernel)), (List.forall_mem_cons.mpr ⟨(mw 226 (by decide +kernel) (by decide +kernel)), (List.forall_mem_cons.mpr ⟨(mw 228 (by decide +kernel) (by decide +kernel)), (List.forall_mem_cons.mpr ⟨(mw 230 (by decide +kernel) (by decide +kernel)), (List.forall_mem_cons.mpr ⟨(mw 232 (by decide +kernel) (by decide +kernel)), (fun _ h => absurd h List.not_mem_nil)⟩)⟩)⟩)⟩)⟩)
theorem uw_3 : ∀ w ∈ u_ws RX3 TX3 2, w ∈ tb := (List.forall_mem_cons.mpr ⟨(mw 306 (by decide +kernel) (by decide +kernel)), (List.forall_mem_cons.mpr ⟨(mw 308 (by decide +kernel) (by decide +kernel)), (fun _ h => absurd h List.not_mem_nil)⟩)⟩)
theorem uw_4 : ∀ w ∈ u_ws RX4 TX4 9, w ∈ tb := (List.forall_mem_cons.mpr ⟨(mw 127 (by decide +kernel) (by decide +kernel)), (List.forall_mem_cons.mpr ⟨(mw 129 (by decide +kernel) (by decide +kernel)), (List.forall_mem_cons.mpr ⟨(mw 131 (by decide +kernel) (by decide +kernel)), (List.forall_mem_cons.mpr ⟨(mw 133 (by decide +kernel) (by decide +kernel)), (List.forall_mem_cons.mpr ⟨(mw 135 (by decide +kernel) (by decide +kernel)), (List.forall_mem_cons.mpr ⟨(mw 137 (by decide +kernel) (by decide +kernel)), (List.forall_mem_cons.mpr ⟨(mw 139 (by decide +kernel) (by decide +kernel)), (List.forall_mem_cons.mpr ⟨(mw 141 (by decide +kernel) (by decide +kernel)), (List.forall_mem_cons.mpr ⟨(mw 143 (by decide +kernel) (by decide +kernel)), (fun _ h => absurd h List.not_mem_nil)⟩)⟩)⟩)⟩)⟩)⟩)⟩)⟩)⟩)
theorem uw_5 : ∀ w ∈ u_ws RX5 TX5 3, w ∈ tb := (List.forall_mem_cons.mpr ⟨(mw 320 (by decide +kernel) (by decide +kernel)), (List.forall_mem_cons.mpr ⟨(mw 322 (by decide +kernel) (by decide +kernel)), (List.forall_mem_cons.mpr ⟨(mw 324 (by decide +kernel) (by decide +kernel)), (fun _ h => absurd h List.not_mem_nil)⟩)⟩)⟩)
theorem uw_6 : ∀ w ∈ u_ws RX6 TX6 7, w ∈ tb := (List.forall_mem_cons.mpr ⟨(mw 167 (by decide +kernel) (by decide +kernel)), (List.forall_mem_cons.mpr ⟨(mw 169 (by decide +kernel) (by decide +kernel)), (List.forall_mem_cons.mpr ⟨(mw 171 (by decide +kernel) (by decide +kernel)), (List.forall_mem_cons.mpr ⟨(mw 173 (by decide +kernel) (by decide +kernel)), (List.forall_mem_cons.mpr ⟨(mw 175 (by decide +kernel) (by decide +kernel)), (List.forall_mem_cons.mpr ⟨(mw 177 (by decide +kernel) (by decide +kernel)), (List.forall_mem_cons.mpr ⟨(mw 179 (by decide +kernel) (by decide +kernel)), (fun _ h => absurd h List.not_mem_nil)⟩)⟩)⟩)⟩)⟩)⟩)⟩)
theorem uw_7 : ∀ w ∈ u_ws RX7 TX7 3, w ∈ tb := (List.forall_mem_cons.mpr ⟨(mw 48 (by decide +kernel) (by decide +kernel)), (List.forall_mem_cons.mpr ⟨(mw 50 (by decide +kernel) (by decide +kernel)), (List.forall_mem_cons.mpr ⟨(mw 52 (by decide +kernel) (by decide +kernel)), (fun _ h => absurd h List.not_mem_nil)⟩)⟩)⟩)
theorem uw_8 : ∀ w ∈ u_ws RX8 TX8 10, w ∈ tb := (List.forall_mem_cons.mpr ⟨(mw 247 (by decide +kernel) (by decide +kernel)), (List.forall_mem_cons.mpr ⟨(mw 249 (by decide +kernel) (by decide +kernel)), (List.forall_mem_cons.mpr ⟨(mw 251 (by decide +kernel) (by decide +kernel)), (List.forall_mem_cons.mpr ⟨(mw 253 (by decide +kernel) (by decide +kernel)), (List.forall_mem_cons.mpr ⟨(mw 255 (by decide +kernel) (by decide +kernel)), (List.forall_mem_cons.mpr ⟨(mw 257 (by decide +kernel) (by decide +kernel)), (List.forall_mem_cons.mpr ⟨(mw 259 (by decide +kernel) (by decide +kernel)), (List.forall_mem_cons.mpr ⟨(mw 261 (by decide +kernel) (by decide +kernel)), (List.forall_mem_cons.mpr ⟨(mw 263 (by decide +kernel) (by decide +kernel)), (List.forall_mem_cons.mpr ⟨(mw 265 (by decide +kernel) (by decide +kernel)), (fun _ h => absurd h List.not_mem_nil)⟩)⟩)⟩)⟩)⟩)⟩)⟩)⟩)⟩)⟩)
theorem uw_9 : ∀ w ∈ u_ws RX9 TX9 6, w ∈ tb := (List.forall_mem_cons.mpr ⟨(mw 283 (by decide +kernel) (by decide +kernel)), (List.forall_mem_cons.mpr ⟨(mw 285 (by decide +kernel) (by decide +kernel)), (List.forall_mem_cons.mpr ⟨(mw 287 (by decide +kernel) (by decide +kernel)), (List.forall_mem_cons.mpr ⟨(mw 289 (by decide +kernel) (by decide +kernel)), (List.forall_mem_cons.mpr ⟨(mw 291 (by decide +kernel) (by decide +kernel)), (List.forall_mem_cons.mpr ⟨(mw 293 (by decide +kernel) (by decide +kernel)), (fun _ h => absurd h List.not_mem_nil)⟩)⟩)⟩)⟩)⟩)⟩)
theorem uw_10 : ∀ w ∈ u_ws RX10 TX10 8, w ∈ tb := (List.forall_mem_cons.mpr ⟨(mw 335 (by decide +kernel) (by decide +kernel)), (List.forall_mem_cons.mpr ⟨(mw 337 (by decide +kernel) (by decide +kernel)), (List.forall_mem_cons.mpr ⟨(mw 339 (by decide +kernel) (by decide +kernel)), (List.forall_mem_cons.mpr ⟨(mw 341 (by decide +kernel) (by decide +kernel)), (List.forall_mem_cons.mpr ⟨(mw 343 (by decide +kernel) (by decide +kernel)), (List.forall_mem_cons.mpr ⟨(mw 345 (by decide +kernel) (by decide +kernel)), (List.forall_mem_cons.mpr ⟨(mw 347 (by decide +kernel) (by decide +kernel)), (List.forall_mem_cons.mpr ⟨(mw 349 (by decide +kernel) (by decide +kernel)), (fun _ h => absurd h List.not_mem_nil)⟩)⟩)⟩)⟩)⟩)⟩)⟩)⟩)
