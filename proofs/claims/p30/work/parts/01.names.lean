-- ===== PART A: goes FIRST, ahead of the names: the tables' words, and 'selects' of the private methods out of them =====
/-- a private method of a class that the tables say can be made, by its rows of tables_1 -/
def lw_okq (q : MethodName × Nat) : Prop := (q.1.cls ≠ "java/lang/invoke/MethodHandle" ∧ q.1.cls ≠ "java/lang/invoke/VarHandle") ∧ Cond.instantiable q.1.cls q.2 ∈ tables_1 ∧ Cond.privateMethod q.1 ∈ tables_1 ∧ Cond.instanceMethod q.1 ∈ tables_1
theorem lw_p0 : lw_okq (⟨"PollMeshes$Directions", "addAlong", "(II)V"⟩, 3) := ⟨⟨by decide +kernel, by decide +kernel⟩, List.mem_of_getElem? (i := 63) (by decide +kernel), List.mem_of_getElem? (i := 186) (by decide +kernel), List.mem_of_getElem? (i := 187) (by decide +kernel)⟩
theorem lw_p1 : lw_okq (⟨"PollMeshes$Search", "moveTo", "(III)V"⟩, 9) := ⟨⟨by decide +kernel, by decide +kernel⟩, List.mem_of_getElem? (i := 88) (by decide +kernel), List.mem_of_getElem? (i := 198) (by decide +kernel), List.mem_of_getElem? (i := 199) (by decide +kernel)⟩
theorem lw_p2 : lw_okq (⟨"PollMeshes$Trials", "insert", "(IJJ)V"⟩, 6) := ⟨⟨by decide +kernel, by decide +kernel⟩, List.mem_of_getElem? (i := 260) (by decide +kernel), List.mem_of_getElem? (i := 426) (by decide +kernel), List.mem_of_getElem? (i := 427) (by decide +kernel)⟩
theorem lw_p3 : lw_okq (⟨"PollMeshes", "boundOf", "(I)I"⟩, 8) := ⟨⟨by decide +kernel, by decide +kernel⟩, List.mem_of_getElem? (i := 15) (by decide +kernel), List.mem_of_getElem? (i := 477) (by decide +kernel), List.mem_of_getElem? (i := 478) (by decide +kernel)⟩
theorem lw_p4 : lw_okq (⟨"PollMeshes$Span", "fill", "(LPollMeshes$Directions;I)V"⟩, 3) := ⟨⟨by decide +kernel, by decide +kernel⟩, List.mem_of_getElem? (i := 303) (by decide +kernel), List.mem_of_getElem? (i := 489) (by decide +kernel), List.mem_of_getElem? (i := 490) (by decide +kernel)⟩
theorem lw_p5 : lw_okq (⟨"PollMeshes$Span", "addAlong", "(II)V"⟩, 3) := ⟨⟨by decide +kernel, by decide +kernel⟩, List.mem_of_getElem? (i := 303) (by decide +kernel), List.mem_of_getElem? (i := 494) (by decide +kernel), List.mem_of_getElem? (i := 495) (by decide +kernel)⟩
theorem lw_p6 : lw_okq (⟨"PollMeshes$Span", "findNormal", "(II)Z"⟩, 3) := ⟨⟨by decide +kernel, by decide +kernel⟩, List.mem_of_getElem? (i := 303) (by decide +kernel), List.mem_of_getElem? (i := 498) (by decide +kernel), List.mem_of_getElem? (i := 499) (by decide +kernel)⟩
theorem lw_p7 : lw_okq (⟨"PollMeshes$Span", "hasRowsOnBothSides", "()Z"⟩, 3) := ⟨⟨by decide +kernel, by decide +kernel⟩, List.mem_of_getElem? (i := 303) (by decide +kernel), List.mem_of_getElem? (i := 502) (by decide +kernel), List.mem_of_getElem? (i := 503) (by decide +kernel)⟩
theorem lw_p8 : lw_okq (⟨"PollMeshes$Nearby", "consider", "(LPollMeshes$State;III)V"⟩, 2) := ⟨⟨by decide +kernel, by decide +kernel⟩, List.mem_of_getElem? (i := 289) (by decide +kernel), List.mem_of_getElem? (i := 639) (by decide +kernel), List.mem_of_getElem? (i := 640) (by decide +kernel)⟩
def lw_privs_1 : List (MethodName × Nat) := [(⟨"PollMeshes$Directions", "addAlong", "(II)V"⟩, 3), (⟨"PollMeshes$Search", "moveTo", "(III)V"⟩, 9), (⟨"PollMeshes$Trials", "insert", "(IJJ)V"⟩, 6), (⟨"PollMeshes", "boundOf", "(I)I"⟩, 8), (⟨"PollMeshes$Span", "fill", "(LPollMeshes$Directions;I)V"⟩, 3), (⟨"PollMeshes$Span", "addAlong", "(II)V"⟩, 3), (⟨"PollMeshes$Span", "findNormal", "(II)Z"⟩, 3), (⟨"PollMeshes$Span", "hasRowsOnBothSides", "()Z"⟩, 3), (⟨"PollMeshes$Nearby", "consider", "(LPollMeshes$State;III)V"⟩, 2)]
theorem lw_r1 : ∀ q ∈ lw_privs_1, lw_okq q := List.forall_mem_cons.mpr ⟨lw_p0, List.forall_mem_cons.mpr ⟨lw_p1, List.forall_mem_cons.mpr ⟨lw_p2, List.forall_mem_cons.mpr ⟨lw_p3, List.forall_mem_cons.mpr ⟨lw_p4, List.forall_mem_cons.mpr ⟨lw_p5, List.forall_mem_cons.mpr ⟨lw_p6, List.forall_mem_cons.mpr ⟨lw_p7, List.forall_mem_cons.mpr ⟨lw_p8, fun _ h => absurd h List.not_mem_nil⟩⟩⟩⟩⟩⟩⟩⟩⟩
def lw_privs : List (MethodName × Nat) := lw_privs_1
def lw_tbl : List Cond := k2_sels lw_privs ++ tables_1
theorem lw_privs_ok : ∀ q ∈ lw_privs, lw_okq q := lw_r1
/-! ===== BEGIN words of one list among another's, by their places ===== -/
theorem goodIn_r {big : List Cond} (ws : List Cond) (ps : List Nat) (hp : ws = ps.filterMap (fun i => big[i]?)) (h : ws.all goodWord = true) : GoodIn big ws := by
  intro w hw
  have h1 := List.all_eq_true.mp h w hw
  rw [hp] at hw
  obtain ⟨i, -, hi⟩ := List.mem_filterMap.mp hw
  have hm : w ∈ big := by first | exact List.mem_of_getElem? hi | exact List.getElem?_mem hi
  exact ⟨hm, good_of_word h1⟩
theorem goodIn_app {big a b : List Cond} (ha : GoodIn big a) (hb : GoodIn big b) : GoodIn big (a ++ b) := fun w h => (List.mem_append.mp h).elim (ha w) (hb w)
theorem goodIn_ca {big a b : List Cond} {c : Cond} (ha : GoodIn big (c :: a)) (hb : GoodIn big b) : GoodIn big (c :: (a ++ b)) := fun w h => (List.mem_cons.mp h).elim (fun e => ha w (List.mem_cons.mpr (Or.inl e))) (fun h => (List.mem_append.mp h).elim (fun h => ha w (List.mem_cons.mpr (Or.inr h))) (hb w))
theorem goodIn_sub {big ws : List Cond} (hm : ∀ w ∈ ws, w ∈ big) (h : ws.all goodWord = true) : GoodIn big ws := fun w hw => ⟨hm w hw, good_of_word (List.all_eq_true.mp h w hw)⟩
/-! ===== END ===== -/

/-! ===== BEGIN printed: names, fields, word lists, decode rows ===== -/
def RX0 : String := "PollMeshes$Bounds"
def TX0 : u_T := fun k => match k with
  | 0 => ("PollMeshes$Bounds", "low", "[I", true)
  | _ => ("PollMeshes$Bounds", "high", "[I", true)
def tyX0 : Nat → FieldType := fun k => match k with
  | 0 => .array .int
  | _ => .array .int
abbrev wsX00 : List Cond := u_ws RX0 TX0 2
theorem nmX0 : ∀ a, a < 2 → ∀ b, b < 2 → a ≠ b → (TX0 a).2.1 ≠ (TX0 b).2.1 := by decide +kernel
theorem tyX0_ok : ∀ k, k < 2 → parseFieldDescriptor (TX0 k).2.2.1 = some (tyX0 k) := by decide +kernel
abbrev cX0_init : ByteArray := prog_2_method_1_code
def yX0_init : MethodName := ⟨RX0, "<init>", "()V"⟩
abbrev cX0_reset : ByteArray := prog_2_method_2_code
def yX0_reset : MethodName := ⟨RX0, "reset", "()V"⟩
abbrev cX0_copyFrom : ByteArray := prog_2_method_3_code
def yX0_copyFrom : MethodName := ⟨RX0, "copyFrom", "(LPollMeshes$Bounds;)V"⟩
abbrev cX0_allow : ByteArray := prog_2_method_4_code
def yX0_allow : MethodName := ⟨RX0, "allow", "(III)Z"⟩
def RX1 : String := "PollMeshes$Directions"
def TX1 : u_T := fun k => match k with
  | 0 => ("PollMeshes$Directions", "held", "I", false)
  | 1 => ("PollMeshes$Directions", "steps", "[I", true)
  | _ => ("PollMeshes$Directions", "taken", "[I", true)
def tyX1 : Nat → FieldType := fun k => match k with
  | 0 => .int
  | 1 => .array .int
  | _ => .array .int
abbrev wsX10 : List Cond := u_ws RX1 TX1 3
theorem nmX1 : ∀ a, a < 3 → ∀ b, b < 3 → a ≠ b → (TX1 a).2.1 ≠ (TX1 b).2.1 := by decide +kernel
theorem tyX1_ok : ∀ k, k < 3 → parseFieldDescriptor (TX1 k).2.2.1 = some (tyX1 k) := by decide +kernel
abbrev cX1_init : ByteArray := prog_3_method_1_code
def yX1_init : MethodName := ⟨RX1, "<init>", "()V"⟩
abbrev cX1_reset : ByteArray := prog_3_method_2_code
def yX1_reset : MethodName := ⟨RX1, "reset", "(I)V"⟩
abbrev cX1_addAlong : ByteArray := prog_3_method_3_code
def yX1_addAlong : MethodName := ⟨RX1, "addAlong", "(II)V"⟩
abbrev cX1_copyFrom : ByteArray := prog_3_method_4_code
def yX1_copyFrom : MethodName := ⟨RX1, "copyFrom", "(LPollMeshes$Directions;)V"⟩
abbrev cX1_has : ByteArray := prog_3_method_5_code
def yX1_has : MethodName := ⟨RX1, "has", "(III)Z"⟩
abbrev cX1_add : ByteArray := prog_3_method_6_code
def yX1_add : MethodName := ⟨RX1, "add", "(III)V"⟩
abbrev cX1_remove : ByteArray := prog_3_method_7_code
def yX1_remove : MethodName := ⟨RX1, "remove", "(I)V"⟩
abbrev cX1_forgetTaken : ByteArray := prog_3_method_8_code
def yX1_forgetTaken : MethodName := ⟨RX1, "forgetTaken", "()V"⟩
def RX2 : String := "PollMeshes$History"
def TX2 : u_T := fun k => match k with
  | 0 => ("PollMeshes$History", "held", "I", false)
  | 1 => ("PollMeshes$History", "first", "LPollMeshes$State;", true)
  | 2 => ("PollMeshes$History", "second", "LPollMeshes$State;", true)
  | 3 => ("PollMeshes$History", "third", "LPollMeshes$State;", true)
  | _ => ("PollMeshes$History", "fourth", "LPollMeshes$State;", true)
def tyX2 : Nat → FieldType := fun k => match k with
  | 0 => .int
  | 1 => .object "PollMeshes$State"
  | 2 => .object "PollMeshes$State"
  | 3 => .object "PollMeshes$State"
  | _ => .object "PollMeshes$State"
abbrev wsX20 : List Cond := u_ws RX2 TX2 5
theorem nmX2 : ∀ a, a < 5 → ∀ b, b < 5 → a ≠ b → (TX2 a).2.1 ≠ (TX2 b).2.1 := by decide +kernel
theorem tyX2_ok : ∀ k, k < 5 → parseFieldDescriptor (TX2 k).2.2.1 = some (tyX2 k) := by decide +kernel
abbrev cX2_init : ByteArray := prog_4_method_1_code
def yX2_init : MethodName := ⟨RX2, "<init>", "()V"⟩
abbrev cX2_push : ByteArray := prog_4_method_2_code
def yX2_push : MethodName := ⟨RX2, "push", "(LPollMeshes$State;)V"⟩
def RX3 : String := "PollMeshes$Nearby"
def TX3 : u_T := fun k => match k with
  | 0 => ("PollMeshes$Nearby", "best", "[I", true)
  | _ => ("PollMeshes$Nearby", "least", "J", false)
def tyX3 : Nat → FieldType := fun k => match k with
  | 0 => .array .int
  | _ => .long
abbrev wsX30 : List Cond := u_ws RX3 TX3 2
theorem nmX3 : ∀ a, a < 2 → ∀ b, b < 2 → a ≠ b → (TX3 a).2.1 ≠ (TX3 b).2.1 := by decide +kernel
theorem tyX3_ok : ∀ k, k < 2 → parseFieldDescriptor (TX3 k).2.2.1 = some (tyX3 k) := by decide +kernel
abbrev cX3_init : ByteArray := prog_5_method_1_code
def yX3_init : MethodName := ⟨RX3, "<init>", "()V"⟩
abbrev cX3_findBest : ByteArray := prog_5_method_2_code
def yX3_findBest : MethodName := ⟨RX3, "findBest", "(LPollMeshes$State;I)V"⟩
abbrev cX3_consider : ByteArray := prog_5_method_3_code
def yX3_consider : MethodName := ⟨RX3, "consider", "(LPollMeshes$State;III)V"⟩
def RX4 : String := "PollMeshes$Search"
def TX4 : u_T := fun k => match k with
  | 0 => ("PollMeshes$Search", "place", "[I", true)
  | 1 => ("PollMeshes$Search", "size", "I", false)
  | 2 => ("PollMeshes$Search", "polls", "I", false)
  | 3 => ("PollMeshes$Search", "successes", "I", false)
  | 4 => ("PollMeshes$Search", "looked", "I", false)
  | 5 => ("PollMeshes$Search", "latest", "I", false)
  | 6 => ("PollMeshes$Search", "leftHeld", "I", false)
  | 7 => ("PollMeshes$Search", "left", "[I", true)
  | _ => ("PollMeshes$Search", "ended", "Z", false)
def tyX4 : Nat → FieldType := fun k => match k with
  | 0 => .array .int
  | 1 => .int
  | 2 => .int
  | 3 => .int
  | 4 => .int
  | 5 => .int
  | 6 => .int
  | 7 => .array .int
  | _ => .boolean
abbrev wsX40 : List Cond := u_ws RX4 TX4 9
theorem nmX4 : ∀ a, a < 9 → ∀ b, b < 9 → a ≠ b → (TX4 a).2.1 ≠ (TX4 b).2.1 := by decide +kernel
theorem tyX4_ok : ∀ k, k < 9 → parseFieldDescriptor (TX4 k).2.2.1 = some (tyX4 k) := by decide +kernel
abbrev cX4_init : ByteArray := prog_6_method_1_code
def yX4_init : MethodName := ⟨RX4, "<init>", "()V"⟩
abbrev cX4_begin : ByteArray := prog_6_method_2_code
def yX4_begin : MethodName := ⟨RX4, "begin", "(IIII)V"⟩
abbrev cX4_copyFrom : ByteArray := prog_6_method_3_code
def yX4_copyFrom : MethodName := ⟨RX4, "copyFrom", "(LPollMeshes$Search;)V"⟩
abbrev cX4_moveTo : ByteArray := prog_6_method_4_code
def yX4_moveTo : MethodName := ⟨RX4, "moveTo", "(III)V"⟩
abbrev cX4_forgetDirection : ByteArray := prog_6_method_5_code
def yX4_forgetDirection : MethodName := ⟨RX4, "forgetDirection", "(I)V"⟩
abbrev cX4_succeed : ByteArray := prog_6_method_6_code
def yX4_succeed : MethodName := ⟨RX4, "succeed", "(IIII)V"⟩
abbrev cX4_fail : ByteArray := prog_6_method_7_code
def yX4_fail : MethodName := ⟨RX4, "fail", "()V"⟩
def RX5 : String := "PollMeshes$Span"
def TX5 : u_T := fun k => match k with
  | 0 => ("PollMeshes$Span", "held", "I", false)
  | 1 => ("PollMeshes$Span", "rows", "[I", true)
  | _ => ("PollMeshes$Span", "normal", "[I", true)
def tyX5 : Nat → FieldType := fun k => match k with
  | 0 => .int
  | 1 => .array .int
  | _ => .array .int
abbrev wsX50 : List Cond := u_ws RX5 TX5 3
theorem nmX5 : ∀ a, a < 3 → ∀ b, b < 3 → a ≠ b → (TX5 a).2.1 ≠ (TX5 b).2.1 := by decide +kernel
theorem tyX5_ok : ∀ k, k < 3 → parseFieldDescriptor (TX5 k).2.2.1 = some (tyX5 k) := by decide +kernel
abbrev cX5_init : ByteArray := prog_7_method_1_code
def yX5_init : MethodName := ⟨RX5, "<init>", "()V"⟩
abbrev cX5_isWhole : ByteArray := prog_7_method_2_code
def yX5_isWhole : MethodName := ⟨RX5, "isWhole", "(LPollMeshes$Directions;I)Z"⟩
abbrev cX5_fill : ByteArray := prog_7_method_3_code
def yX5_fill : MethodName := ⟨RX5, "fill", "(LPollMeshes$Directions;I)V"⟩
abbrev cX5_addAlong : ByteArray := prog_7_method_4_code
def yX5_addAlong : MethodName := ⟨RX5, "addAlong", "(II)V"⟩
abbrev cX5_findNormal : ByteArray := prog_7_method_5_code
def yX5_findNormal : MethodName := ⟨RX5, "findNormal", "(II)Z"⟩
abbrev cX5_hasRowsOnBothSides : ByteArray := prog_7_method_6_code
def yX5_hasRowsOnBothSides : MethodName := ⟨RX5, "hasRowsOnBothSides", "()Z"⟩
def RX6 : String := "PollMeshes$State"
def TX6 : u_T := fun k => match k with
  | 0 => ("PollMeshes$State", "dimensions", "I", false)
  | 1 => ("PollMeshes$State", "order", "I", false)
  | 2 => ("PollMeshes$State", "way", "I", false)
  | 3 => ("PollMeshes$State", "terms", "LPollMeshes$Terms;", true)
  | 4 => ("PollMeshes$State", "bounds", "LPollMeshes$Bounds;", true)
  | 5 => ("PollMeshes$State", "directions", "LPollMeshes$Directions;", true)
  | _ => ("PollMeshes$State", "search", "LPollMeshes$Search;", true)
def tyX6 : Nat → FieldType := fun k => match k with
  | 0 => .int
  | 1 => .int
  | 2 => .int
  | 3 => .object "PollMeshes$Terms"
  | 4 => .object "PollMeshes$Bounds"
  | 5 => .object "PollMeshes$Directions"
  | _ => .object "PollMeshes$Search"
abbrev wsX60 : List Cond := u_ws RX6 TX6 7
theorem nmX6 : ∀ a, a < 7 → ∀ b, b < 7 → a ≠ b → (TX6 a).2.1 ≠ (TX6 b).2.1 := by decide +kernel
theorem tyX6_ok : ∀ k, k < 7 → parseFieldDescriptor (TX6 k).2.2.1 = some (tyX6 k) := by decide +kernel
abbrev cX6_init : ByteArray := prog_8_method_1_code
def yX6_init : MethodName := ⟨RX6, "<init>", "()V"⟩
abbrev cX6_reset : ByteArray := prog_8_method_2_code
def yX6_reset : MethodName := ⟨RX6, "reset", "(I)V"⟩
abbrev cX6_copyFrom : ByteArray := prog_8_method_3_code
def yX6_copyFrom : MethodName := ⟨RX6, "copyFrom", "(LPollMeshes$State;)V"⟩
abbrev cX6_hasVariable : ByteArray := prog_8_method_4_code
def yX6_hasVariable : MethodName := ⟨RX6, "hasVariable", "(I)Z"⟩
abbrev cX6_fit : ByteArray := prog_8_method_5_code
def yX6_fit : MethodName := ⟨RX6, "fit", "(IIIII)Z"⟩
abbrev cX6_placeIsAllowed : ByteArray := prog_8_method_6_code
def yX6_placeIsAllowed : MethodName := ⟨RX6, "placeIsAllowed", "()Z"⟩
abbrev cX6_canPoll : ByteArray := prog_8_method_7_code
def yX6_canPoll : MethodName := ⟨RX6, "canPoll", "()Z"⟩
abbrev cX6_valueHere : ByteArray := prog_8_method_8_code
def yX6_valueHere : MethodName := ⟨RX6, "valueHere", "()J"⟩
abbrev cX6_trialNumber : ByteArray := prog_8_method_9_code
def yX6_trialNumber : MethodName := ⟨RX6, "trialNumber", "(III)I"⟩
abbrev cX6_rankOf : ByteArray := prog_8_method_10_code
def yX6_rankOf : MethodName := ⟨RX6, "rankOf", "(IIII)J"⟩
abbrev cX6_pollOnce : ByteArray := prog_8_method_11_code
def yX6_pollOnce : MethodName := ⟨RX6, "pollOnce", "(LPollMeshes$Trials;)I"⟩
def RX7 : String := "PollMeshes$Terms"
def TX7 : u_T := fun k => match k with
  | 0 => ("PollMeshes$Terms", "held", "I", false)
  | 1 => ("PollMeshes$Terms", "factors", "[I", true)
  | _ => ("PollMeshes$Terms", "powers", "[I", true)
def tyX7 : Nat → FieldType := fun k => match k with
  | 0 => .int
  | 1 => .array .int
  | _ => .array .int
abbrev wsX70 : List Cond := u_ws RX7 TX7 3
theorem nmX7 : ∀ a, a < 3 → ∀ b, b < 3 → a ≠ b → (TX7 a).2.1 ≠ (TX7 b).2.1 := by decide +kernel
theorem tyX7_ok : ∀ k, k < 3 → parseFieldDescriptor (TX7 k).2.2.1 = some (tyX7 k) := by decide +kernel
abbrev cX7_init : ByteArray := prog_9_method_1_code
def yX7_init : MethodName := ⟨RX7, "<init>", "()V"⟩
abbrev cX7_copyFrom : ByteArray := prog_9_method_2_code
def yX7_copyFrom : MethodName := ⟨RX7, "copyFrom", "(LPollMeshes$Terms;)V"⟩
abbrev cX7_add : ByteArray := prog_9_method_3_code
def yX7_add : MethodName := ⟨RX7, "add", "(IIII)V"⟩
abbrev cX7_sumAt : ByteArray := prog_9_method_5_code
def yX7_sumAt : MethodName := ⟨RX7, "sumAt", "(IIII)J"⟩
abbrev cX7_raised : ByteArray := prog_9_method_6_code
def yX7_raised : MethodName := ⟨RX7, "raised", "(II)J"⟩
def RX8 : String := "PollMeshes$Text"
def TX8 : u_T := fun k => match k with
  | 0 => ("PollMeshes$Text", "length", "I", false)
  | 1 => ("PollMeshes$Text", "characters", "[I", true)
  | 2 => ("PollMeshes$Text", "found", "LPollMeshes$Terms;", true)
  | 3 => ("PollMeshes$Text", "faultPlace", "I", false)
  | 4 => ("PollMeshes$Text", "faultReason", "I", false)
  | 5 => ("PollMeshes$Text", "negative", "Z", false)
  | 6 => ("PollMeshes$Text", "digits", "I", false)
  | 7 => ("PollMeshes$Text", "number", "I", false)
  | 8 => ("PollMeshes$Text", "letters", "I", false)
  | _ => ("PollMeshes$Text", "powers", "[I", true)
def tyX8 : Nat → FieldType := fun k => match k with
  | 0 => .int
  | 1 => .array .int
  | 2 => .object "PollMeshes$Terms"
  | 3 => .int
  | 4 => .int
  | 5 => .boolean
  | 6 => .int
  | 7 => .int
  | 8 => .int
  | _ => .array .int
abbrev wsX80 : List Cond := u_ws RX8 TX8 10
theorem nmX8 : ∀ a, a < 10 → ∀ b, b < 10 → a ≠ b → (TX8 a).2.1 ≠ (TX8 b).2.1 := by decide +kernel
theorem tyX8_ok : ∀ k, k < 10 → parseFieldDescriptor (TX8 k).2.2.1 = some (tyX8 k) := by decide +kernel
abbrev cX8_init : ByteArray := prog_10_method_1_code
def yX8_init : MethodName := ⟨RX8, "<init>", "()V"⟩
def RX9 : String := "PollMeshes$Trials"
def TX9 : u_T := fun k => match k with
  | 0 => ("PollMeshes$Trials", "held", "I", false)
  | 1 => ("PollMeshes$Trials", "directions", "[I", true)
  | 2 => ("PollMeshes$Trials", "ranks", "[J", true)
  | 3 => ("PollMeshes$Trials", "values", "[J", true)
  | 4 => ("PollMeshes$Trials", "valueHere", "J", false)
  | _ => ("PollMeshes$Trials", "looked", "I", false)
def tyX9 : Nat → FieldType := fun k => match k with
  | 0 => .int
  | 1 => .array .int
  | 2 => .array .long
  | 3 => .array .long
  | 4 => .long
  | _ => .int
abbrev wsX90 : List Cond := u_ws RX9 TX9 6
theorem nmX9 : ∀ a, a < 6 → ∀ b, b < 6 → a ≠ b → (TX9 a).2.1 ≠ (TX9 b).2.1 := by decide +kernel
theorem tyX9_ok : ∀ k, k < 6 → parseFieldDescriptor (TX9 k).2.2.1 = some (tyX9 k) := by decide +kernel
abbrev cX9_init : ByteArray := prog_11_method_1_code
def yX9_init : MethodName := ⟨RX9, "<init>", "()V"⟩
abbrev cX9_gather : ByteArray := prog_11_method_2_code
def yX9_gather : MethodName := ⟨RX9, "gather", "(LPollMeshes$State;I)V"⟩
abbrev cX9_insert : ByteArray := prog_11_method_3_code
def yX9_insert : MethodName := ⟨RX9, "insert", "(IJJ)V"⟩
abbrev cX9_isBetter : ByteArray := prog_11_method_4_code
def yX9_isBetter : MethodName := ⟨RX9, "isBetter", "(I)Z"⟩
abbrev cX9_noneIsBetter : ByteArray := prog_11_method_5_code
def yX9_noneIsBetter : MethodName := ⟨RX9, "noneIsBetter", "()Z"⟩
abbrev cX9_chooseBetter : ByteArray := prog_11_method_6_code
def yX9_chooseBetter : MethodName := ⟨RX9, "chooseBetter", "(I)I"⟩
def RX10 : String := "PollMeshes"
def TX10 : u_T := fun k => match k with
  | 0 => ("PollMeshes", "now", "LPollMeshes$State;", true)
  | 1 => ("PollMeshes", "history", "LPollMeshes$History;", true)
  | 2 => ("PollMeshes", "snapshot", "LPollMeshes$State;", true)
  | 3 => ("PollMeshes", "hasSnapshot", "Z", false)
  | 4 => ("PollMeshes", "text", "LPollMeshes$Text;", true)
  | 5 => ("PollMeshes", "trials", "LPollMeshes$Trials;", true)
  | 6 => ("PollMeshes", "nearby", "LPollMeshes$Nearby;", true)
  | _ => ("PollMeshes", "span", "LPollMeshes$Span;", true)
def tyX10 : Nat → FieldType := fun k => match k with
  | 0 => .object "PollMeshes$State"
  | 1 => .object "PollMeshes$History"
  | 2 => .object "PollMeshes$State"
  | 3 => .boolean
  | 4 => .object "PollMeshes$Text"
  | 5 => .object "PollMeshes$Trials"
  | 6 => .object "PollMeshes$Nearby"
  | _ => .object "PollMeshes$Span"
abbrev wsX100 : List Cond := u_ws RX10 TX10 8
theorem nmX10 : ∀ a, a < 8 → ∀ b, b < 8 → a ≠ b → (TX10 a).2.1 ≠ (TX10 b).2.1 := by decide +kernel
theorem tyX10_ok : ∀ k, k < 8 → parseFieldDescriptor (TX10 k).2.2.1 = some (tyX10 k) := by decide +kernel
abbrev cX10_init : ByteArray := prog_1_method_1_code
def yX10_init : MethodName := ⟨RX10, "<init>", "()V"⟩
abbrev cX10_variables : ByteArray := prog_1_method_2_code
def yX10_variables : MethodName := ⟨RX10, "variables", "(I)I"⟩
abbrev cX10_term : ByteArray := prog_1_method_3_code
def yX10_term : MethodName := ⟨RX10, "term", "(IIII)I"⟩
abbrev cX10_bound : ByteArray := prog_1_method_5_code
def yX10_bound : MethodName := ⟨RX10, "bound", "(III)I"⟩
abbrev cX10_direction : ByteArray := prog_1_method_6_code
def yX10_direction : MethodName := ⟨RX10, "direction", "(III)I"⟩
abbrev cX10_dropDirection : ByteArray := prog_1_method_7_code
def yX10_dropDirection : MethodName := ⟨RX10, "dropDirection", "(I)I"⟩
abbrev cX10_start : ByteArray := prog_1_method_8_code
def yX10_start : MethodName := ⟨RX10, "start", "(IIII)I"⟩
abbrev cX10_order : ByteArray := prog_1_method_9_code
def yX10_order : MethodName := ⟨RX10, "order", "(II)I"⟩
abbrev cX10_poll : ByteArray := prog_1_method_10_code
def yX10_poll : MethodName := ⟨RX10, "poll", "()I"⟩
abbrev cX10_run : ByteArray := prog_1_method_11_code
def yX10_run : MethodName := ⟨RX10, "run", "(I)I"⟩
abbrev cX10_value : ByteArray := prog_1_method_12_code
def yX10_value : MethodName := ⟨RX10, "value", "(IIII)J"⟩
abbrev cX10_directionOf : ByteArray := prog_1_method_14_code
def yX10_directionOf : MethodName := ⟨RX10, "directionOf", "(II)I"⟩
abbrev cX10_searchOf : ByteArray := prog_1_method_15_code
def yX10_searchOf : MethodName := ⟨RX10, "searchOf", "(I)I"⟩
abbrev cX10_leftAt : ByteArray := prog_1_method_16_code
def yX10_leftAt : MethodName := ⟨RX10, "leftAt", "(II)I"⟩
abbrev cX10_count : ByteArray := prog_1_method_17_code
def yX10_count : MethodName := ⟨RX10, "count", "(I)I"⟩
abbrev cX10_boundOf : ByteArray := prog_1_method_18_code
def yX10_boundOf : MethodName := ⟨RX10, "boundOf", "(I)I"⟩
abbrev cX10_trialOf : ByteArray := prog_1_method_19_code
def yX10_trialOf : MethodName := ⟨RX10, "trialOf", "(II)I"⟩
abbrev cX10_spans : ByteArray := prog_1_method_20_code
def yX10_spans : MethodName := ⟨RX10, "spans", "()I"⟩
abbrev cX10_stuck : ByteArray := prog_1_method_21_code
def yX10_stuck : MethodName := ⟨RX10, "stuck", "(I)I"⟩
abbrev cX10_around : ByteArray := prog_1_method_22_code
def yX10_around : MethodName := ⟨RX10, "around", "(II)I"⟩
abbrev cX10_within : ByteArray := prog_1_method_30_code
def yX10_within : MethodName := ⟨RX10, "within", "(III)Z"⟩
abbrev cX10_oneIf : ByteArray := prog_1_method_31_code
def yX10_oneIf : MethodName := ⟨RX10, "oneIf", "(Z)I"⟩
abbrev cX10_closeGap : ByteArray := prog_1_method_32_code
def yX10_closeGap : MethodName := ⟨RX10, "closeGap", "([IIII)V"⟩
def RX11 : String := "PollMeshesModel"
def TX11 : u_T := fun k => match k with
  | _ => ("", "", "", false)
def tyX11 : Nat → FieldType := fun k => match k with
  | _ => .int
abbrev wsX110 : List Cond := u_ws RX11 TX11 0
theorem nmX11 : ∀ a, a < 0 → ∀ b, b < 0 → a ≠ b → (TX11 a).2.1 ≠ (TX11 b).2.1 := by decide +kernel
theorem tyX11_ok : ∀ k, k < 0 → parseFieldDescriptor (TX11 k).2.2.1 = some (tyX11 k) := by decide +kernel
def RJ9 : String := "java/lang/Math"
def TJ9 : u_T := fun k => match k with
  | _ => ("", "", "", false)
def tyJ9 : Nat → FieldType := fun k => match k with
  | _ => .int
abbrev wsJ90 : List Cond := u_ws RJ9 TJ9 0
theorem nmJ9 : ∀ a, a < 0 → ∀ b, b < 0 → a ≠ b → (TJ9 a).2.1 ≠ (TJ9 b).2.1 := by decide +kernel
theorem tyJ9_ok : ∀ k, k < 0 → parseFieldDescriptor (TJ9 k).2.2.1 = some (tyJ9 k) := by decide +kernel
abbrev cJ9_max_7cf53 : ByteArray := prog_14_method_65_code
def yJ9_max_7cf53 : MethodName := ⟨RJ9, "max", "(II)I"⟩
abbrev cJ9_min_7cf53 : ByteArray := prog_14_method_69_code
def yJ9_min_7cf53 : MethodName := ⟨RJ9, "min", "(II)I"⟩
def RJ10 : String := "java/lang/System"
def TJ10 : u_T := fun k => match k with
  | _ => ("", "", "", false)
def tyJ10 : Nat → FieldType := fun k => match k with
  | _ => .int
abbrev wsJ100 : List Cond := u_ws RJ10 TJ10 0
theorem nmJ10 : ∀ a, a < 0 → ∀ b, b < 0 → a ≠ b → (TJ10 a).2.1 ≠ (TJ10 b).2.1 := by decide +kernel
theorem tyJ10_ok : ∀ k, k < 0 → parseFieldDescriptor (TJ10 k).2.2.1 = some (tyJ10 k) := by decide +kernel
def RL : String := "PollMeshesLaw"
abbrev cL_cell : ByteArray := method_2_code
def yL_cell : MethodName := ⟨RL, "cell", "([II)I"⟩
abbrev cL_low : ByteArray := method_3_code
def yL_low : MethodName := ⟨RL, "low", "(II)I"⟩
abbrev cL_build : ByteArray := method_4_code
def yL_build : MethodName := ⟨RL, "build", "(LPollMeshes;[II)Z"⟩
abbrev cL_at : ByteArray := method_5_code
def yL_at : MethodName := ⟨RL, "at", "(LPollMeshes;II)I"⟩
abbrev cL_isAllowed : ByteArray := method_6_code
def yL_isAllowed : MethodName := ⟨RL, "isAllowed", "(LPollMeshes;III)Z"⟩
abbrev cL_canTry : ByteArray := method_7_code
def yL_canTry : MethodName := ⟨RL, "canTry", "(LPollMeshes;I)Z"⟩
abbrev cL_here : ByteArray := method_8_code
def yL_here : MethodName := ⟨RL, "here", "(LPollMeshes;)J"⟩
abbrev cL_there : ByteArray := method_9_code
def yL_there : MethodName := ⟨RL, "there", "(LPollMeshes;II)J"⟩
abbrev cL_trials : ByteArray := method_10_code
def yL_trials : MethodName := ⟨RL, "trials", "(LPollMeshes;[I)I"⟩
abbrev cL_poll : ByteArray := method_11_code
def yL_poll : MethodName := ⟨RL, "poll", "(LPollMeshes;[I)Z"⟩
abbrev cL_around : ByteArray := method_12_code
def yL_around : MethodName := ⟨RL, "around", "(LPollMeshes;I)Z"⟩
abbrev cL_spans : ByteArray := method_13_code
def yL_spans : MethodName := ⟨RL, "spans", "(LPollMeshes;)Z"⟩
abbrev cL_law : ByteArray := code
def yL_law : MethodName := ⟨RL, "law", "([I)Z"⟩
def wsL_cell : List Cond := .code yL_cell cL_cell 2 (some .int) :: ([.constant RL 7 (32452867), .constant RL 8 (49979687)])
def wsL_low : List Cond := .code yL_low cL_low 2 (some .int) :: ([.constant RL 9 (2147483647)])
def wsL_build_r1 : List Cond := [Cond.constant RL 44 (-1000002), Cond.constant RL 45 (-1000003), Cond.methodLink RL 10 yX10_variables, Cond.instanceMethod yX10_variables, Cond.selects RX10 yX10_variables yX10_variables, Cond.initialized RX10, Cond.code yX10_variables cX10_variables 3 (some .int), Cond.constant RX10 66 (-1000001), Cond.fieldLink RX10 10 "PollMeshes" "now" "LPollMeshes$State;", Cond.fieldLink RX10 67 "PollMeshes$State" "dimensions" "I", Cond.fieldLink RX10 23 "PollMeshes" "history" "LPollMeshes$History;", Cond.methodLink RX10 62 yX10_within, Cond.static yX10_within, Cond.code yX10_within cX10_within 3 (some .boolean), Cond.methodLink RX10 71 yX2_push, Cond.instanceMethod yX2_push, Cond.selects RX2 yX2_push yX2_push, Cond.initialized RX2, Cond.code yX2_push cX2_push 2 none, Cond.fieldLink RX2 24 "PollMeshes$History" "fourth" "LPollMeshes$State;", Cond.fieldLink RX2 21 "PollMeshes$History" "third" "LPollMeshes$State;", Cond.fieldLink RX2 18 "PollMeshes$History" "second" "LPollMeshes$State;", Cond.fieldLink RX2 12 "PollMeshes$History" "first" "LPollMeshes$State;", Cond.fieldLink RX2 31 "PollMeshes$History" "held" "I"]
def wsL_build_r2 : List Cond := [Cond.methodLink RX2 35 Lib.Math.min.name, Cond.static Lib.Math.min.name, Cond.initialized "java/lang/Math", Cond.code Lib.Math.min.name Lib.Math.min.code 2 (some .int), Cond.methodLink RX2 27 yX6_copyFrom, Cond.instanceMethod yX6_copyFrom, Cond.selects RX6 yX6_copyFrom yX6_copyFrom, Cond.initialized RX6, Cond.code yX6_copyFrom cX6_copyFrom 2 none, Cond.fieldLink RX6 39 "PollMeshes$State" "dimensions" "I", Cond.fieldLink RX6 43 "PollMeshes$State" "order" "I", Cond.fieldLink RX6 46 "PollMeshes$State" "way" "I", Cond.fieldLink RX6 12 "PollMeshes$State" "terms" "LPollMeshes$Terms;", Cond.fieldLink RX6 21 "PollMeshes$State" "bounds" "LPollMeshes$Bounds;", Cond.fieldLink RX6 28 "PollMeshes$State" "directions" "LPollMeshes$Directions;", Cond.fieldLink RX6 35 "PollMeshes$State" "search" "LPollMeshes$Search;", Cond.methodLink RX6 62 yX7_copyFrom, Cond.instanceMethod yX7_copyFrom, Cond.selects RX7 yX7_copyFrom yX7_copyFrom, Cond.initialized RX7, Cond.code yX7_copyFrom cX7_copyFrom 2 none, Cond.fieldLink RX7 18 "PollMeshes$Terms" "held" "I", Cond.fieldLink RX7 9 "PollMeshes$Terms" "factors" "[I", Cond.methodLink RX7 22 arraycopyName]
def wsL_build_r3 : List Cond := [Cond.native arraycopyName, Cond.static arraycopyName, Cond.initialized "java/lang/System", Cond.fieldLink RX7 15 "PollMeshes$Terms" "powers" "[I", Cond.methodLink RX6 66 yX0_copyFrom, Cond.instanceMethod yX0_copyFrom, Cond.selects RX0 yX0_copyFrom yX0_copyFrom, Cond.initialized RX0, Cond.code yX0_copyFrom cX0_copyFrom 2 none, Cond.fieldLink RX0 9 "PollMeshes$Bounds" "low" "[I", Cond.methodLink RX0 18 arraycopyName, Cond.fieldLink RX0 15 "PollMeshes$Bounds" "high" "[I", Cond.methodLink RX6 69 yX1_copyFrom, Cond.instanceMethod yX1_copyFrom, Cond.selects RX1 yX1_copyFrom yX1_copyFrom, Cond.initialized RX1, Cond.code yX1_copyFrom cX1_copyFrom 2 none, Cond.fieldLink RX1 18 "PollMeshes$Directions" "held" "I", Cond.fieldLink RX1 9 "PollMeshes$Directions" "steps" "[I", Cond.methodLink RX1 30 arraycopyName, Cond.fieldLink RX1 15 "PollMeshes$Directions" "taken" "[I", Cond.methodLink RX6 72 yX4_copyFrom, Cond.instanceMethod yX4_copyFrom, Cond.selects RX4 yX4_copyFrom yX4_copyFrom]
def wsL_build_r4 : List Cond := [Cond.initialized RX4, Cond.code yX4_copyFrom cX4_copyFrom 2 none, Cond.fieldLink RX4 9 "PollMeshes$Search" "place" "[I", Cond.methodLink RX4 45 arraycopyName, Cond.fieldLink RX4 22 "PollMeshes$Search" "size" "I", Cond.fieldLink RX4 26 "PollMeshes$Search" "polls" "I", Cond.fieldLink RX4 29 "PollMeshes$Search" "successes" "I", Cond.fieldLink RX4 32 "PollMeshes$Search" "looked" "I", Cond.fieldLink RX4 35 "PollMeshes$Search" "latest" "I", Cond.fieldLink RX4 38 "PollMeshes$Search" "leftHeld" "I", Cond.fieldLink RX4 15 "PollMeshes$Search" "left" "[I", Cond.fieldLink RX4 41 "PollMeshes$Search" "ended" "Z", Cond.methodLink RX10 16 yX6_reset, Cond.instanceMethod yX6_reset, Cond.selects RX6 yX6_reset yX6_reset, Cond.code yX6_reset cX6_reset 2 none, Cond.fieldLink RX6 49 "PollMeshes$Terms" "held" "I", Cond.methodLink RX6 52 yX0_reset, Cond.instanceMethod yX0_reset, Cond.selects RX0 yX0_reset yX0_reset, Cond.code yX0_reset cX0_reset 2 none, Cond.methodLink RX6 55 yX1_reset, Cond.instanceMethod yX1_reset, Cond.selects RX1 yX1_reset yX1_reset]
def wsL_build_r5 : List Cond := [Cond.code yX1_reset cX1_reset 3 none, Cond.methodLink RX1 22 yX1_addAlong, Cond.instanceMethod yX1_addAlong, Cond.selects RX1 yX1_addAlong yX1_addAlong, Cond.code yX1_addAlong cX1_addAlong 3 none, Cond.methodLink RX1 26 yX1_add, Cond.instanceMethod yX1_add, Cond.selects RX1 yX1_add yX1_add, Cond.code yX1_add cX1_add 4 none, Cond.methodLink RX6 58 yX4_begin, Cond.instanceMethod yX4_begin, Cond.selects RX4 yX4_begin yX4_begin, Cond.code yX4_begin cX4_begin 5 none, Cond.methodLink RX4 18 yX4_moveTo, Cond.instanceMethod yX4_moveTo, Cond.selects RX4 yX4_moveTo yX4_moveTo, Cond.code yX4_moveTo cX4_moveTo 4 none, Cond.methodLink RL 16 yX10_count, Cond.instanceMethod yX10_count, Cond.selects RX10 yX10_count yX10_count, Cond.code yX10_count cX10_count 2 (some .int), Cond.fieldLink RX10 79 "PollMeshes$State" "terms" "LPollMeshes$Terms;", Cond.fieldLink RX10 83 "PollMeshes$Terms" "held" "I", Cond.fieldLink RX10 125 "PollMeshes$State" "directions" "LPollMeshes$Directions;"]
def wsL_build_r6 : List Cond := [Cond.fieldLink RX10 134 "PollMeshes$Directions" "held" "I", Cond.fieldLink RX10 154 "PollMeshes$State" "order" "I", Cond.fieldLink RX10 157 "PollMeshes$State" "way" "I", Cond.fieldLink RX10 212 "PollMeshes$History" "held" "I", Cond.fieldLink RX10 37 "PollMeshes" "text" "LPollMeshes$Text;", Cond.fieldLink RX10 213 "PollMeshes$Text" "length" "I", Cond.fieldLink RX10 30 "PollMeshes" "hasSnapshot" "Z", Cond.methodLink RX10 121 yX10_oneIf, Cond.static yX10_oneIf, Cond.code yX10_oneIf cX10_oneIf 1 (some .int), Cond.methodLink RX10 216 yX10_boundOf, Cond.instanceMethod yX10_boundOf, Cond.selects RX10 yX10_boundOf yX10_boundOf, Cond.code yX10_boundOf cX10_boundOf 2 (some .int), Cond.fieldLink RX10 105 "PollMeshes$State" "bounds" "LPollMeshes$Bounds;", Cond.fieldLink RX10 109 "PollMeshes$Bounds" "low" "[I", Cond.fieldLink RX10 114 "PollMeshes$Bounds" "high" "[I", Cond.methodLink RL 19 yX10_spans, Cond.instanceMethod yX10_spans, Cond.selects RX10 yX10_spans yX10_spans, Cond.code yX10_spans cX10_spans 1 (some .int), Cond.fieldLink RX10 58 "PollMeshes" "span" "LPollMeshes$Span;", Cond.methodLink RX10 230 yX5_isWhole, Cond.instanceMethod yX5_isWhole]
def wsL_build_r7 : List Cond := [Cond.selects RX5 yX5_isWhole yX5_isWhole, Cond.initialized RX5, Cond.code yX5_isWhole cX5_isWhole 6 (some .boolean), Cond.fieldLink RX5 22 "PollMeshes$Span" "held" "I", Cond.methodLink RX5 18 yX5_fill, Cond.instanceMethod yX5_fill, Cond.selects RX5 yX5_fill yX5_fill, Cond.code yX5_fill cX5_fill 4 none, Cond.fieldLink RX5 34 "PollMeshes$Directions" "held" "I", Cond.fieldLink RX5 37 "PollMeshes$Directions" "steps" "[I", Cond.fieldLink RX5 9 "PollMeshes$Span" "rows" "[I", Cond.methodLink RX5 40 arraycopyName, Cond.methodLink RX5 46 yX5_addAlong, Cond.instanceMethod yX5_addAlong, Cond.selects RX5 yX5_addAlong yX5_addAlong, Cond.code yX5_addAlong cX5_addAlong 4 none, Cond.methodLink RX5 26 yX5_findNormal, Cond.instanceMethod yX5_findNormal, Cond.selects RX5 yX5_findNormal yX5_findNormal, Cond.code yX5_findNormal cX5_findNormal 3 (some .boolean), Cond.fieldLink RX5 15 "PollMeshes$Span" "normal" "[I", Cond.methodLink RX5 30 yX5_hasRowsOnBothSides, Cond.instanceMethod yX5_hasRowsOnBothSides, Cond.selects RX5 yX5_hasRowsOnBothSides yX5_hasRowsOnBothSides]
def wsL_build_r8 : List Cond := [Cond.code yX5_hasRowsOnBothSides cX5_hasRowsOnBothSides 6 (some .boolean), Cond.methodLink RL 23 yL_cell, Cond.static yL_cell, Cond.initialized RL, Cond.code yL_cell cL_cell 2 (some .int), Cond.constant RL 7 (32452867), Cond.constant RL 8 (49979687), Cond.methodLink RL 29 yL_low, Cond.static yL_low, Cond.code yL_low cL_low 2 (some .int), Cond.constant RL 9 (2147483647), Cond.methodLink RL 33 yX10_term, Cond.instanceMethod yX10_term, Cond.selects RX10 yX10_term yX10_term, Cond.code yX10_term cX10_term 5 (some .int), Cond.constant RX10 88 (-1000003), Cond.methodLink RX10 75 yX6_fit, Cond.instanceMethod yX6_fit, Cond.selects RX6 yX6_fit yX6_fit, Cond.code yX6_fit cX6_fit 6 (some .boolean), Cond.methodLink RX10 89 yX7_add, Cond.instanceMethod yX7_add, Cond.selects RX7 yX7_add yX7_add, Cond.code yX7_add cX7_add 5 none]
def wsL_build_r9 : List Cond := [Cond.methodLink RL 37 yX10_dropDirection, Cond.instanceMethod yX10_dropDirection, Cond.selects RX10 yX10_dropDirection yX10_dropDirection, Cond.code yX10_dropDirection cX10_dropDirection 2 (some .int), Cond.constant RX10 93 (-1000002), Cond.fieldLink RX10 139 "PollMeshes$State" "search" "LPollMeshes$Search;", Cond.methodLink RX10 138 yX1_remove, Cond.instanceMethod yX1_remove, Cond.selects RX1 yX1_remove yX1_remove, Cond.code yX1_remove cX1_remove 2 none, Cond.static yX10_closeGap, Cond.code yX10_closeGap cX10_closeGap 5 none, Cond.methodLink RX10 143 yX4_forgetDirection, Cond.instanceMethod yX4_forgetDirection, Cond.selects RX4 yX4_forgetDirection yX4_forgetDirection, Cond.code yX4_forgetDirection cX4_forgetDirection 2 none, Cond.methodLink RL 40 yX10_direction, Cond.instanceMethod yX10_direction, Cond.selects RX10 yX10_direction yX10_direction, Cond.code yX10_direction cX10_direction 4 (some .int), Cond.methodLink RX10 129 yX1_has, Cond.instanceMethod yX1_has, Cond.selects RX1 yX1_has yX1_has, Cond.code yX1_has cX1_has 6 (some .boolean)]
def wsL_build_r10 : List Cond := [Cond.methodLink RX10 135 yX1_add, Cond.methodLink RL 46 yX10_bound, Cond.instanceMethod yX10_bound, Cond.selects RX10 yX10_bound yX10_bound, Cond.code yX10_bound cX10_bound 4 (some .int), Cond.methodLink RX10 101 yX6_hasVariable, Cond.instanceMethod yX6_hasVariable, Cond.selects RX6 yX6_hasVariable yX6_hasVariable, Cond.code yX6_hasVariable cX6_hasVariable 2 (some .boolean), Cond.methodLink RX10 117 yX6_placeIsAllowed, Cond.instanceMethod yX6_placeIsAllowed, Cond.selects RX6 yX6_placeIsAllowed yX6_placeIsAllowed, Cond.code yX6_placeIsAllowed cX6_placeIsAllowed 1 (some .boolean), Cond.fieldLink RX6 79 "PollMeshes$Search" "place" "[I", Cond.methodLink RX6 83 yX0_allow, Cond.instanceMethod yX0_allow, Cond.selects RX0 yX0_allow yX0_allow, Cond.code yX0_allow cX0_allow 4 (some .boolean), Cond.methodLink RL 49 yX10_order, Cond.instanceMethod yX10_order, Cond.selects RX10 yX10_order yX10_order, Cond.code yX10_order cX10_order 4 (some .int), Cond.methodLink RL 52 yX10_start, Cond.instanceMethod yX10_start]
def wsL_build_r11 : List Cond := [Cond.selects RX10 yX10_start yX10_start, Cond.code yX10_start cX10_start 5 (some .int), Cond.methodLink RX10 148 yX4_begin, Cond.methodLink RX10 151 yX1_forgetTaken, Cond.instanceMethod yX1_forgetTaken, Cond.selects RX1 yX1_forgetTaken yX1_forgetTaken, Cond.code yX1_forgetTaken cX1_forgetTaken 2 none]
def wsL_build : List Cond := .code yL_build cL_build 12 (some .boolean) :: ((wsL_build_r1 ++ (wsL_build_r2 ++ (wsL_build_r3 ++ (wsL_build_r4 ++ (wsL_build_r5 ++ (wsL_build_r6 ++ (wsL_build_r7 ++ (wsL_build_r8 ++ (wsL_build_r9 ++ (wsL_build_r10 ++ wsL_build_r11)))))))))) ++ wsX100 ++ wsX60 ++ wsX20 ++ wsX70 ++ wsX00 ++ wsX10 ++ wsX40 ++ wsX80 ++ wsX50)
def wsL_at_r1 : List Cond := [Cond.methodLink RL 55 yX10_searchOf, Cond.instanceMethod yX10_searchOf, Cond.selects RX10 yX10_searchOf yX10_searchOf, Cond.initialized RX10, Cond.code yX10_searchOf cX10_searchOf 2 (some .int), Cond.fieldLink RX10 10 "PollMeshes" "now" "LPollMeshes$State;", Cond.fieldLink RX10 139 "PollMeshes$State" "search" "LPollMeshes$Search;", Cond.fieldLink RX10 188 "PollMeshes$Search" "place" "[I", Cond.fieldLink RX10 191 "PollMeshes$Search" "size" "I", Cond.fieldLink RX10 194 "PollMeshes$Search" "polls" "I", Cond.fieldLink RX10 197 "PollMeshes$Search" "successes" "I", Cond.fieldLink RX10 200 "PollMeshes$Search" "looked" "I", Cond.fieldLink RX10 203 "PollMeshes$Search" "latest" "I", Cond.constant RX10 178 (-1000004), Cond.fieldLink RX10 206 "PollMeshes$Search" "leftHeld" "I", Cond.fieldLink RX10 167 "PollMeshes$Search" "ended" "Z", Cond.constant RX10 66 (-1000001), Cond.methodLink RX10 121 yX10_oneIf, Cond.static yX10_oneIf, Cond.code yX10_oneIf cX10_oneIf 1 (some .int), Cond.methodLink RL 58 yX10_directionOf, Cond.instanceMethod yX10_directionOf, Cond.selects RX10 yX10_directionOf yX10_directionOf, Cond.code yX10_directionOf cX10_directionOf 3 (some .int)]
def wsL_at_r2 : List Cond := [Cond.fieldLink RX10 125 "PollMeshes$State" "directions" "LPollMeshes$Directions;", Cond.fieldLink RX10 134 "PollMeshes$Directions" "held" "I", Cond.fieldLink RX10 182 "PollMeshes$Directions" "taken" "[I", Cond.fieldLink RX10 185 "PollMeshes$Directions" "steps" "[I", Cond.methodLink RX10 62 yX10_within, Cond.static yX10_within, Cond.code yX10_within cX10_within 3 (some .boolean)]
def wsL_at : List Cond := .code yL_at cL_at 3 (some .int) :: ((wsL_at_r1 ++ wsL_at_r2) ++ wsX100 ++ wsX60 ++ wsX40 ++ wsX10)
def wsL_isAllowed_r1 : List Cond := [Cond.methodLink RL 16 yX10_count, Cond.instanceMethod yX10_count, Cond.selects RX10 yX10_count yX10_count, Cond.initialized RX10, Cond.code yX10_count cX10_count 2 (some .int), Cond.fieldLink RX10 10 "PollMeshes" "now" "LPollMeshes$State;", Cond.fieldLink RX10 67 "PollMeshes$State" "dimensions" "I", Cond.fieldLink RX10 79 "PollMeshes$State" "terms" "LPollMeshes$Terms;", Cond.fieldLink RX10 83 "PollMeshes$Terms" "held" "I", Cond.fieldLink RX10 125 "PollMeshes$State" "directions" "LPollMeshes$Directions;", Cond.fieldLink RX10 134 "PollMeshes$Directions" "held" "I", Cond.fieldLink RX10 154 "PollMeshes$State" "order" "I", Cond.fieldLink RX10 157 "PollMeshes$State" "way" "I", Cond.fieldLink RX10 23 "PollMeshes" "history" "LPollMeshes$History;", Cond.fieldLink RX10 212 "PollMeshes$History" "held" "I", Cond.fieldLink RX10 37 "PollMeshes" "text" "LPollMeshes$Text;", Cond.fieldLink RX10 213 "PollMeshes$Text" "length" "I", Cond.fieldLink RX10 30 "PollMeshes" "hasSnapshot" "Z", Cond.methodLink RX10 121 yX10_oneIf, Cond.static yX10_oneIf, Cond.code yX10_oneIf cX10_oneIf 1 (some .int), Cond.methodLink RX10 216 yX10_boundOf, Cond.instanceMethod yX10_boundOf, Cond.selects RX10 yX10_boundOf yX10_boundOf]
def wsL_isAllowed_r2 : List Cond := [Cond.code yX10_boundOf cX10_boundOf 2 (some .int), Cond.fieldLink RX10 105 "PollMeshes$State" "bounds" "LPollMeshes$Bounds;", Cond.fieldLink RX10 109 "PollMeshes$Bounds" "low" "[I", Cond.fieldLink RX10 114 "PollMeshes$Bounds" "high" "[I", Cond.constant RX10 66 (-1000001), Cond.methodLink RX10 62 yX10_within, Cond.static yX10_within, Cond.code yX10_within cX10_within 3 (some .boolean)]
def wsL_isAllowed : List Cond := .code yL_isAllowed cL_isAllowed 6 (some .boolean) :: ((wsL_isAllowed_r1 ++ wsL_isAllowed_r2) ++ wsX100 ++ wsX60 ++ wsX70 ++ wsX10 ++ wsX20 ++ wsX80 ++ wsX00)
def wsL_canTry_r1 : List Cond := [Cond.methodLink RL 61 yL_at, Cond.static yL_at, Cond.initialized RL, Cond.code yL_at cL_at 3 (some .int), Cond.methodLink RL 55 yX10_searchOf, Cond.instanceMethod yX10_searchOf, Cond.selects RX10 yX10_searchOf yX10_searchOf, Cond.initialized RX10, Cond.code yX10_searchOf cX10_searchOf 2 (some .int), Cond.fieldLink RX10 10 "PollMeshes" "now" "LPollMeshes$State;", Cond.fieldLink RX10 139 "PollMeshes$State" "search" "LPollMeshes$Search;", Cond.fieldLink RX10 188 "PollMeshes$Search" "place" "[I", Cond.fieldLink RX10 191 "PollMeshes$Search" "size" "I", Cond.fieldLink RX10 194 "PollMeshes$Search" "polls" "I", Cond.fieldLink RX10 197 "PollMeshes$Search" "successes" "I", Cond.fieldLink RX10 200 "PollMeshes$Search" "looked" "I", Cond.fieldLink RX10 203 "PollMeshes$Search" "latest" "I", Cond.constant RX10 178 (-1000004), Cond.fieldLink RX10 206 "PollMeshes$Search" "leftHeld" "I", Cond.fieldLink RX10 167 "PollMeshes$Search" "ended" "Z", Cond.constant RX10 66 (-1000001), Cond.methodLink RX10 121 yX10_oneIf, Cond.static yX10_oneIf, Cond.code yX10_oneIf cX10_oneIf 1 (some .int)]
def wsL_canTry_r2 : List Cond := [Cond.methodLink RL 58 yX10_directionOf, Cond.instanceMethod yX10_directionOf, Cond.selects RX10 yX10_directionOf yX10_directionOf, Cond.code yX10_directionOf cX10_directionOf 3 (some .int), Cond.fieldLink RX10 125 "PollMeshes$State" "directions" "LPollMeshes$Directions;", Cond.fieldLink RX10 134 "PollMeshes$Directions" "held" "I", Cond.fieldLink RX10 182 "PollMeshes$Directions" "taken" "[I", Cond.fieldLink RX10 185 "PollMeshes$Directions" "steps" "[I", Cond.methodLink RX10 62 yX10_within, Cond.static yX10_within, Cond.code yX10_within cX10_within 3 (some .boolean), Cond.methodLink RL 65 yL_isAllowed, Cond.static yL_isAllowed, Cond.code yL_isAllowed cL_isAllowed 6 (some .boolean), Cond.methodLink RL 16 yX10_count, Cond.instanceMethod yX10_count, Cond.selects RX10 yX10_count yX10_count, Cond.code yX10_count cX10_count 2 (some .int), Cond.fieldLink RX10 67 "PollMeshes$State" "dimensions" "I", Cond.fieldLink RX10 79 "PollMeshes$State" "terms" "LPollMeshes$Terms;", Cond.fieldLink RX10 83 "PollMeshes$Terms" "held" "I", Cond.fieldLink RX10 154 "PollMeshes$State" "order" "I", Cond.fieldLink RX10 157 "PollMeshes$State" "way" "I", Cond.fieldLink RX10 23 "PollMeshes" "history" "LPollMeshes$History;"]
def wsL_canTry_r3 : List Cond := [Cond.fieldLink RX10 212 "PollMeshes$History" "held" "I", Cond.fieldLink RX10 37 "PollMeshes" "text" "LPollMeshes$Text;", Cond.fieldLink RX10 213 "PollMeshes$Text" "length" "I", Cond.fieldLink RX10 30 "PollMeshes" "hasSnapshot" "Z", Cond.methodLink RX10 216 yX10_boundOf, Cond.instanceMethod yX10_boundOf, Cond.selects RX10 yX10_boundOf yX10_boundOf, Cond.code yX10_boundOf cX10_boundOf 2 (some .int), Cond.fieldLink RX10 105 "PollMeshes$State" "bounds" "LPollMeshes$Bounds;", Cond.fieldLink RX10 109 "PollMeshes$Bounds" "low" "[I", Cond.fieldLink RX10 114 "PollMeshes$Bounds" "high" "[I"]
def wsL_canTry : List Cond := .code yL_canTry cL_canTry 2 (some .boolean) :: ((wsL_canTry_r1 ++ (wsL_canTry_r2 ++ wsL_canTry_r3)) ++ wsX100 ++ wsX60 ++ wsX40 ++ wsX10 ++ wsX70 ++ wsX20 ++ wsX80 ++ wsX00)
def wsL_here_r1 : List Cond := [Cond.methodLink RL 55 yX10_searchOf, Cond.instanceMethod yX10_searchOf, Cond.selects RX10 yX10_searchOf yX10_searchOf, Cond.initialized RX10, Cond.code yX10_searchOf cX10_searchOf 2 (some .int), Cond.fieldLink RX10 10 "PollMeshes" "now" "LPollMeshes$State;", Cond.fieldLink RX10 139 "PollMeshes$State" "search" "LPollMeshes$Search;", Cond.fieldLink RX10 188 "PollMeshes$Search" "place" "[I", Cond.fieldLink RX10 191 "PollMeshes$Search" "size" "I", Cond.fieldLink RX10 194 "PollMeshes$Search" "polls" "I", Cond.fieldLink RX10 197 "PollMeshes$Search" "successes" "I", Cond.fieldLink RX10 200 "PollMeshes$Search" "looked" "I", Cond.fieldLink RX10 203 "PollMeshes$Search" "latest" "I", Cond.constant RX10 178 (-1000004), Cond.fieldLink RX10 206 "PollMeshes$Search" "leftHeld" "I", Cond.fieldLink RX10 167 "PollMeshes$Search" "ended" "Z", Cond.constant RX10 66 (-1000001), Cond.methodLink RX10 121 yX10_oneIf, Cond.static yX10_oneIf, Cond.code yX10_oneIf cX10_oneIf 1 (some .int), Cond.methodLink RL 69 yX10_value, Cond.instanceMethod yX10_value, Cond.selects RX10 yX10_value yX10_value, Cond.code yX10_value cX10_value 6 (some .long)]
def wsL_here_r2 : List Cond := [Cond.constantLong RX10 170 (-1000001), Cond.constantLong RX10 172 (20000000000), Cond.fieldLink RX10 79 "PollMeshes$State" "terms" "LPollMeshes$Terms;", Cond.methodLink RX10 75 yX6_fit, Cond.instanceMethod yX6_fit, Cond.selects RX6 yX6_fit yX6_fit, Cond.initialized RX6, Cond.code yX6_fit cX6_fit 6 (some .boolean), Cond.fieldLink RX6 39 "PollMeshes$State" "dimensions" "I", Cond.static yX10_within, Cond.code yX10_within cX10_within 3 (some .boolean), Cond.methodLink RX10 62 yX10_within, Cond.methodLink RX10 174 yX7_sumAt, Cond.instanceMethod yX7_sumAt, Cond.selects RX7 yX7_sumAt yX7_sumAt, Cond.initialized RX7, Cond.code yX7_sumAt cX7_sumAt 10 (some .long), Cond.fieldLink RX7 18 "PollMeshes$Terms" "held" "I", Cond.fieldLink RX7 15 "PollMeshes$Terms" "powers" "[I", Cond.fieldLink RX7 9 "PollMeshes$Terms" "factors" "[I", Cond.methodLink RX7 32 yX7_raised, Cond.static yX7_raised, Cond.code yX7_raised cX7_raised 5 (some .long)]
def wsL_here : List Cond := .code yL_here cL_here 1 (some .long) :: ((wsL_here_r1 ++ wsL_here_r2) ++ wsX100 ++ wsX60 ++ wsX40 ++ wsX70)
def wsL_there_r1 : List Cond := [Cond.methodLink RL 61 yL_at, Cond.static yL_at, Cond.initialized RL, Cond.code yL_at cL_at 3 (some .int), Cond.methodLink RL 55 yX10_searchOf, Cond.instanceMethod yX10_searchOf, Cond.selects RX10 yX10_searchOf yX10_searchOf, Cond.initialized RX10, Cond.code yX10_searchOf cX10_searchOf 2 (some .int), Cond.fieldLink RX10 10 "PollMeshes" "now" "LPollMeshes$State;", Cond.fieldLink RX10 139 "PollMeshes$State" "search" "LPollMeshes$Search;", Cond.fieldLink RX10 188 "PollMeshes$Search" "place" "[I", Cond.fieldLink RX10 191 "PollMeshes$Search" "size" "I", Cond.fieldLink RX10 194 "PollMeshes$Search" "polls" "I", Cond.fieldLink RX10 197 "PollMeshes$Search" "successes" "I", Cond.fieldLink RX10 200 "PollMeshes$Search" "looked" "I", Cond.fieldLink RX10 203 "PollMeshes$Search" "latest" "I", Cond.constant RX10 178 (-1000004), Cond.fieldLink RX10 206 "PollMeshes$Search" "leftHeld" "I", Cond.fieldLink RX10 167 "PollMeshes$Search" "ended" "Z", Cond.constant RX10 66 (-1000001), Cond.methodLink RX10 121 yX10_oneIf, Cond.static yX10_oneIf, Cond.code yX10_oneIf cX10_oneIf 1 (some .int)]
def wsL_there_r2 : List Cond := [Cond.methodLink RL 58 yX10_directionOf, Cond.instanceMethod yX10_directionOf, Cond.selects RX10 yX10_directionOf yX10_directionOf, Cond.code yX10_directionOf cX10_directionOf 3 (some .int), Cond.fieldLink RX10 125 "PollMeshes$State" "directions" "LPollMeshes$Directions;", Cond.fieldLink RX10 134 "PollMeshes$Directions" "held" "I", Cond.fieldLink RX10 182 "PollMeshes$Directions" "taken" "[I", Cond.fieldLink RX10 185 "PollMeshes$Directions" "steps" "[I", Cond.methodLink RX10 62 yX10_within, Cond.static yX10_within, Cond.code yX10_within cX10_within 3 (some .boolean), Cond.methodLink RL 69 yX10_value, Cond.instanceMethod yX10_value, Cond.selects RX10 yX10_value yX10_value, Cond.code yX10_value cX10_value 6 (some .long), Cond.constantLong RX10 170 (-1000001), Cond.constantLong RX10 172 (20000000000), Cond.fieldLink RX10 79 "PollMeshes$State" "terms" "LPollMeshes$Terms;", Cond.methodLink RX10 75 yX6_fit, Cond.instanceMethod yX6_fit, Cond.selects RX6 yX6_fit yX6_fit, Cond.initialized RX6, Cond.code yX6_fit cX6_fit 6 (some .boolean), Cond.fieldLink RX6 39 "PollMeshes$State" "dimensions" "I"]
def wsL_there_r3 : List Cond := [Cond.methodLink RX10 174 yX7_sumAt, Cond.instanceMethod yX7_sumAt, Cond.selects RX7 yX7_sumAt yX7_sumAt, Cond.initialized RX7, Cond.code yX7_sumAt cX7_sumAt 10 (some .long), Cond.fieldLink RX7 18 "PollMeshes$Terms" "held" "I", Cond.fieldLink RX7 15 "PollMeshes$Terms" "powers" "[I", Cond.fieldLink RX7 9 "PollMeshes$Terms" "factors" "[I", Cond.methodLink RX7 32 yX7_raised, Cond.static yX7_raised, Cond.code yX7_raised cX7_raised 5 (some .long)]
def wsL_there : List Cond := .code yL_there cL_there 3 (some .long) :: ((wsL_there_r1 ++ (wsL_there_r2 ++ wsL_there_r3)) ++ wsX100 ++ wsX60 ++ wsX40 ++ wsX10 ++ wsX70)
def wsL_trials_r1 : List Cond := [Cond.methodLink RL 73 yL_here, Cond.static yL_here, Cond.initialized RL, Cond.code yL_here cL_here 1 (some .long), Cond.methodLink RL 55 yX10_searchOf, Cond.instanceMethod yX10_searchOf, Cond.selects RX10 yX10_searchOf yX10_searchOf, Cond.initialized RX10, Cond.code yX10_searchOf cX10_searchOf 2 (some .int), Cond.fieldLink RX10 10 "PollMeshes" "now" "LPollMeshes$State;", Cond.fieldLink RX10 139 "PollMeshes$State" "search" "LPollMeshes$Search;", Cond.fieldLink RX10 188 "PollMeshes$Search" "place" "[I", Cond.fieldLink RX10 191 "PollMeshes$Search" "size" "I", Cond.fieldLink RX10 194 "PollMeshes$Search" "polls" "I", Cond.fieldLink RX10 197 "PollMeshes$Search" "successes" "I", Cond.fieldLink RX10 200 "PollMeshes$Search" "looked" "I", Cond.fieldLink RX10 203 "PollMeshes$Search" "latest" "I", Cond.constant RX10 178 (-1000004), Cond.fieldLink RX10 206 "PollMeshes$Search" "leftHeld" "I", Cond.fieldLink RX10 167 "PollMeshes$Search" "ended" "Z", Cond.constant RX10 66 (-1000001), Cond.methodLink RX10 121 yX10_oneIf, Cond.static yX10_oneIf, Cond.code yX10_oneIf cX10_oneIf 1 (some .int)]
def wsL_trials_r2 : List Cond := [Cond.methodLink RL 69 yX10_value, Cond.instanceMethod yX10_value, Cond.selects RX10 yX10_value yX10_value, Cond.code yX10_value cX10_value 6 (some .long), Cond.constantLong RX10 170 (-1000001), Cond.constantLong RX10 172 (20000000000), Cond.fieldLink RX10 79 "PollMeshes$State" "terms" "LPollMeshes$Terms;", Cond.methodLink RX10 75 yX6_fit, Cond.instanceMethod yX6_fit, Cond.selects RX6 yX6_fit yX6_fit, Cond.initialized RX6, Cond.code yX6_fit cX6_fit 6 (some .boolean), Cond.fieldLink RX6 39 "PollMeshes$State" "dimensions" "I", Cond.static yX10_within, Cond.code yX10_within cX10_within 3 (some .boolean), Cond.methodLink RX10 62 yX10_within, Cond.methodLink RX10 174 yX7_sumAt, Cond.instanceMethod yX7_sumAt, Cond.selects RX7 yX7_sumAt yX7_sumAt, Cond.initialized RX7, Cond.code yX7_sumAt cX7_sumAt 10 (some .long), Cond.fieldLink RX7 18 "PollMeshes$Terms" "held" "I", Cond.fieldLink RX7 15 "PollMeshes$Terms" "powers" "[I", Cond.fieldLink RX7 9 "PollMeshes$Terms" "factors" "[I"]
def wsL_trials_r3 : List Cond := [Cond.methodLink RX7 32 yX7_raised, Cond.static yX7_raised, Cond.code yX7_raised cX7_raised 5 (some .long), Cond.methodLink RL 77 yX10_trialOf, Cond.instanceMethod yX10_trialOf, Cond.selects RX10 yX10_trialOf yX10_trialOf, Cond.code yX10_trialOf cX10_trialOf 3 (some .int), Cond.fieldLink RX10 44 "PollMeshes" "trials" "LPollMeshes$Trials;", Cond.fieldLink RX10 224 "PollMeshes$Trials" "held" "I", Cond.fieldLink RX10 225 "PollMeshes$Trials" "directions" "[I", Cond.methodLink RX10 220 yX9_gather, Cond.instanceMethod yX9_gather, Cond.selects RX9 yX9_gather yX9_gather, Cond.initialized RX9, Cond.code yX9_gather cX9_gather 7 none, Cond.fieldLink RX9 22 "PollMeshes$Trials" "held" "I", Cond.fieldLink RX9 32 "PollMeshes$Trials" "valueHere" "J", Cond.fieldLink RX9 35 "PollMeshes$State" "directions" "LPollMeshes$Directions;", Cond.fieldLink RX9 38 "PollMeshes$Directions" "held" "I", Cond.fieldLink RX9 45 "PollMeshes$State" "bounds" "LPollMeshes$Bounds;", Cond.fieldLink RX9 59 "PollMeshes$State" "terms" "LPollMeshes$Terms;", Cond.methodLink RX9 26 yX6_valueHere, Cond.instanceMethod yX6_valueHere, Cond.selects RX6 yX6_valueHere yX6_valueHere]
def wsL_trials_r4 : List Cond := [Cond.code yX6_valueHere cX6_valueHere 1 (some .long), Cond.fieldLink RX6 12 "PollMeshes$State" "terms" "LPollMeshes$Terms;", Cond.fieldLink RX6 35 "PollMeshes$State" "search" "LPollMeshes$Search;", Cond.fieldLink RX6 79 "PollMeshes$Search" "place" "[I", Cond.methodLink RX6 91 yX7_sumAt, Cond.methodLink RX9 41 yX6_trialNumber, Cond.instanceMethod yX6_trialNumber, Cond.selects RX6 yX6_trialNumber yX6_trialNumber, Cond.code yX6_trialNumber cX6_trialNumber 4 (some .int), Cond.fieldLink RX6 28 "PollMeshes$State" "directions" "LPollMeshes$Directions;", Cond.fieldLink RX6 95 "PollMeshes$Directions" "steps" "[I", Cond.methodLink RX9 49 yX0_allow, Cond.instanceMethod yX0_allow, Cond.selects RX0 yX0_allow yX0_allow, Cond.initialized RX0, Cond.code yX0_allow cX0_allow 4 (some .boolean), Cond.fieldLink RX0 9 "PollMeshes$Bounds" "low" "[I", Cond.fieldLink RX0 15 "PollMeshes$Bounds" "high" "[I", Cond.methodLink RX9 55 yX6_rankOf, Cond.instanceMethod yX6_rankOf, Cond.selects RX6 yX6_rankOf yX6_rankOf, Cond.code yX6_rankOf cX6_rankOf 5 (some .long), Cond.fieldLink RX6 43 "PollMeshes$State" "order" "I", Cond.fieldLink RX6 98 "PollMeshes$Search" "latest" "I"]
def wsL_trials_r5 : List Cond := [Cond.methodLink RX9 63 yX7_sumAt, Cond.methodLink RX9 68 yX9_insert, Cond.instanceMethod yX9_insert, Cond.selects RX9 yX9_insert yX9_insert, Cond.code yX9_insert cX9_insert 7 none, Cond.fieldLink RX9 15 "PollMeshes$Trials" "ranks" "[J", Cond.fieldLink RX9 9 "PollMeshes$Trials" "directions" "[I", Cond.fieldLink RX9 19 "PollMeshes$Trials" "values" "[J", Cond.methodLink RX10 227 yX9_isBetter, Cond.instanceMethod yX9_isBetter, Cond.selects RX9 yX9_isBetter yX9_isBetter, Cond.code yX9_isBetter cX9_isBetter 2 (some .boolean), Cond.methodLink RL 80 yL_there, Cond.static yL_there, Cond.code yL_there cL_there 3 (some .long), Cond.methodLink RL 61 yL_at, Cond.static yL_at, Cond.code yL_at cL_at 3 (some .int), Cond.methodLink RL 58 yX10_directionOf, Cond.instanceMethod yX10_directionOf, Cond.selects RX10 yX10_directionOf yX10_directionOf, Cond.code yX10_directionOf cX10_directionOf 3 (some .int), Cond.fieldLink RX10 125 "PollMeshes$State" "directions" "LPollMeshes$Directions;", Cond.fieldLink RX10 134 "PollMeshes$Directions" "held" "I"]
def wsL_trials_r6 : List Cond := [Cond.fieldLink RX10 182 "PollMeshes$Directions" "taken" "[I", Cond.fieldLink RX10 185 "PollMeshes$Directions" "steps" "[I", Cond.methodLink RL 84 yL_canTry, Cond.static yL_canTry, Cond.code yL_canTry cL_canTry 2 (some .boolean), Cond.methodLink RL 65 yL_isAllowed, Cond.static yL_isAllowed, Cond.code yL_isAllowed cL_isAllowed 6 (some .boolean), Cond.methodLink RL 16 yX10_count, Cond.instanceMethod yX10_count, Cond.selects RX10 yX10_count yX10_count, Cond.code yX10_count cX10_count 2 (some .int), Cond.fieldLink RX10 67 "PollMeshes$State" "dimensions" "I", Cond.fieldLink RX10 83 "PollMeshes$Terms" "held" "I", Cond.fieldLink RX10 154 "PollMeshes$State" "order" "I", Cond.fieldLink RX10 157 "PollMeshes$State" "way" "I", Cond.fieldLink RX10 23 "PollMeshes" "history" "LPollMeshes$History;", Cond.fieldLink RX10 212 "PollMeshes$History" "held" "I", Cond.fieldLink RX10 37 "PollMeshes" "text" "LPollMeshes$Text;", Cond.fieldLink RX10 213 "PollMeshes$Text" "length" "I", Cond.fieldLink RX10 30 "PollMeshes" "hasSnapshot" "Z", Cond.methodLink RX10 216 yX10_boundOf, Cond.instanceMethod yX10_boundOf, Cond.selects RX10 yX10_boundOf yX10_boundOf]
def wsL_trials_r7 : List Cond := [Cond.code yX10_boundOf cX10_boundOf 2 (some .int), Cond.fieldLink RX10 105 "PollMeshes$State" "bounds" "LPollMeshes$Bounds;", Cond.fieldLink RX10 109 "PollMeshes$Bounds" "low" "[I", Cond.fieldLink RX10 114 "PollMeshes$Bounds" "high" "[I"]
def wsL_trials : List Cond := .code yL_trials cL_trials 13 (some .int) :: ((wsL_trials_r1 ++ (wsL_trials_r2 ++ (wsL_trials_r3 ++ (wsL_trials_r4 ++ (wsL_trials_r5 ++ (wsL_trials_r6 ++ wsL_trials_r7)))))) ++ wsX100 ++ wsX60 ++ wsX40 ++ wsX70 ++ wsX90 ++ wsX10 ++ wsX00 ++ wsX20 ++ wsX80)
def wsL_poll_r1 : List Cond := [Cond.methodLink RL 88 yL_trials, Cond.static yL_trials, Cond.initialized RL, Cond.code yL_trials cL_trials 13 (some .int), Cond.methodLink RL 73 yL_here, Cond.static yL_here, Cond.code yL_here cL_here 1 (some .long), Cond.methodLink RL 55 yX10_searchOf, Cond.instanceMethod yX10_searchOf, Cond.selects RX10 yX10_searchOf yX10_searchOf, Cond.initialized RX10, Cond.code yX10_searchOf cX10_searchOf 2 (some .int), Cond.fieldLink RX10 10 "PollMeshes" "now" "LPollMeshes$State;", Cond.fieldLink RX10 139 "PollMeshes$State" "search" "LPollMeshes$Search;", Cond.fieldLink RX10 188 "PollMeshes$Search" "place" "[I", Cond.fieldLink RX10 191 "PollMeshes$Search" "size" "I", Cond.fieldLink RX10 194 "PollMeshes$Search" "polls" "I", Cond.fieldLink RX10 197 "PollMeshes$Search" "successes" "I", Cond.fieldLink RX10 200 "PollMeshes$Search" "looked" "I", Cond.fieldLink RX10 203 "PollMeshes$Search" "latest" "I", Cond.constant RX10 178 (-1000004), Cond.fieldLink RX10 206 "PollMeshes$Search" "leftHeld" "I", Cond.fieldLink RX10 167 "PollMeshes$Search" "ended" "Z", Cond.constant RX10 66 (-1000001)]
def wsL_poll_r2 : List Cond := [Cond.methodLink RX10 121 yX10_oneIf, Cond.static yX10_oneIf, Cond.code yX10_oneIf cX10_oneIf 1 (some .int), Cond.methodLink RL 69 yX10_value, Cond.instanceMethod yX10_value, Cond.selects RX10 yX10_value yX10_value, Cond.code yX10_value cX10_value 6 (some .long), Cond.constantLong RX10 170 (-1000001), Cond.constantLong RX10 172 (20000000000), Cond.fieldLink RX10 79 "PollMeshes$State" "terms" "LPollMeshes$Terms;", Cond.methodLink RX10 75 yX6_fit, Cond.instanceMethod yX6_fit, Cond.selects RX6 yX6_fit yX6_fit, Cond.initialized RX6, Cond.code yX6_fit cX6_fit 6 (some .boolean), Cond.fieldLink RX6 39 "PollMeshes$State" "dimensions" "I", Cond.static yX10_within, Cond.code yX10_within cX10_within 3 (some .boolean), Cond.methodLink RX10 62 yX10_within, Cond.methodLink RX10 174 yX7_sumAt, Cond.instanceMethod yX7_sumAt, Cond.selects RX7 yX7_sumAt yX7_sumAt, Cond.initialized RX7, Cond.code yX7_sumAt cX7_sumAt 10 (some .long)]
def wsL_poll_r3 : List Cond := [Cond.fieldLink RX7 18 "PollMeshes$Terms" "held" "I", Cond.fieldLink RX7 15 "PollMeshes$Terms" "powers" "[I", Cond.fieldLink RX7 9 "PollMeshes$Terms" "factors" "[I", Cond.methodLink RX7 32 yX7_raised, Cond.static yX7_raised, Cond.code yX7_raised cX7_raised 5 (some .long), Cond.methodLink RL 77 yX10_trialOf, Cond.instanceMethod yX10_trialOf, Cond.selects RX10 yX10_trialOf yX10_trialOf, Cond.code yX10_trialOf cX10_trialOf 3 (some .int), Cond.fieldLink RX10 44 "PollMeshes" "trials" "LPollMeshes$Trials;", Cond.fieldLink RX10 224 "PollMeshes$Trials" "held" "I", Cond.fieldLink RX10 225 "PollMeshes$Trials" "directions" "[I", Cond.methodLink RX10 220 yX9_gather, Cond.instanceMethod yX9_gather, Cond.selects RX9 yX9_gather yX9_gather, Cond.initialized RX9, Cond.code yX9_gather cX9_gather 7 none, Cond.fieldLink RX9 22 "PollMeshes$Trials" "held" "I", Cond.fieldLink RX9 32 "PollMeshes$Trials" "valueHere" "J", Cond.fieldLink RX9 35 "PollMeshes$State" "directions" "LPollMeshes$Directions;", Cond.fieldLink RX9 38 "PollMeshes$Directions" "held" "I", Cond.fieldLink RX9 45 "PollMeshes$State" "bounds" "LPollMeshes$Bounds;", Cond.fieldLink RX9 59 "PollMeshes$State" "terms" "LPollMeshes$Terms;"]
def wsL_poll_r4 : List Cond := [Cond.methodLink RX9 26 yX6_valueHere, Cond.instanceMethod yX6_valueHere, Cond.selects RX6 yX6_valueHere yX6_valueHere, Cond.code yX6_valueHere cX6_valueHere 1 (some .long), Cond.fieldLink RX6 12 "PollMeshes$State" "terms" "LPollMeshes$Terms;", Cond.fieldLink RX6 35 "PollMeshes$State" "search" "LPollMeshes$Search;", Cond.fieldLink RX6 79 "PollMeshes$Search" "place" "[I", Cond.methodLink RX6 91 yX7_sumAt, Cond.methodLink RX9 41 yX6_trialNumber, Cond.instanceMethod yX6_trialNumber, Cond.selects RX6 yX6_trialNumber yX6_trialNumber, Cond.code yX6_trialNumber cX6_trialNumber 4 (some .int), Cond.fieldLink RX6 28 "PollMeshes$State" "directions" "LPollMeshes$Directions;", Cond.fieldLink RX6 95 "PollMeshes$Directions" "steps" "[I", Cond.methodLink RX9 49 yX0_allow, Cond.instanceMethod yX0_allow, Cond.selects RX0 yX0_allow yX0_allow, Cond.initialized RX0, Cond.code yX0_allow cX0_allow 4 (some .boolean), Cond.fieldLink RX0 9 "PollMeshes$Bounds" "low" "[I", Cond.fieldLink RX0 15 "PollMeshes$Bounds" "high" "[I", Cond.methodLink RX9 55 yX6_rankOf, Cond.instanceMethod yX6_rankOf, Cond.selects RX6 yX6_rankOf yX6_rankOf]
def wsL_poll_r5 : List Cond := [Cond.code yX6_rankOf cX6_rankOf 5 (some .long), Cond.fieldLink RX6 43 "PollMeshes$State" "order" "I", Cond.fieldLink RX6 98 "PollMeshes$Search" "latest" "I", Cond.methodLink RX9 63 yX7_sumAt, Cond.methodLink RX9 68 yX9_insert, Cond.instanceMethod yX9_insert, Cond.selects RX9 yX9_insert yX9_insert, Cond.code yX9_insert cX9_insert 7 none, Cond.fieldLink RX9 15 "PollMeshes$Trials" "ranks" "[J", Cond.fieldLink RX9 9 "PollMeshes$Trials" "directions" "[I", Cond.fieldLink RX9 19 "PollMeshes$Trials" "values" "[J", Cond.methodLink RX10 227 yX9_isBetter, Cond.instanceMethod yX9_isBetter, Cond.selects RX9 yX9_isBetter yX9_isBetter, Cond.code yX9_isBetter cX9_isBetter 2 (some .boolean), Cond.methodLink RL 80 yL_there, Cond.static yL_there, Cond.code yL_there cL_there 3 (some .long), Cond.methodLink RL 61 yL_at, Cond.static yL_at, Cond.code yL_at cL_at 3 (some .int), Cond.methodLink RL 58 yX10_directionOf, Cond.instanceMethod yX10_directionOf, Cond.selects RX10 yX10_directionOf yX10_directionOf]
def wsL_poll_r6 : List Cond := [Cond.code yX10_directionOf cX10_directionOf 3 (some .int), Cond.fieldLink RX10 125 "PollMeshes$State" "directions" "LPollMeshes$Directions;", Cond.fieldLink RX10 134 "PollMeshes$Directions" "held" "I", Cond.fieldLink RX10 182 "PollMeshes$Directions" "taken" "[I", Cond.fieldLink RX10 185 "PollMeshes$Directions" "steps" "[I", Cond.methodLink RL 84 yL_canTry, Cond.static yL_canTry, Cond.code yL_canTry cL_canTry 2 (some .boolean), Cond.methodLink RL 65 yL_isAllowed, Cond.static yL_isAllowed, Cond.code yL_isAllowed cL_isAllowed 6 (some .boolean), Cond.methodLink RL 16 yX10_count, Cond.instanceMethod yX10_count, Cond.selects RX10 yX10_count yX10_count, Cond.code yX10_count cX10_count 2 (some .int), Cond.fieldLink RX10 67 "PollMeshes$State" "dimensions" "I", Cond.fieldLink RX10 83 "PollMeshes$Terms" "held" "I", Cond.fieldLink RX10 154 "PollMeshes$State" "order" "I", Cond.fieldLink RX10 157 "PollMeshes$State" "way" "I", Cond.fieldLink RX10 23 "PollMeshes" "history" "LPollMeshes$History;", Cond.fieldLink RX10 212 "PollMeshes$History" "held" "I", Cond.fieldLink RX10 37 "PollMeshes" "text" "LPollMeshes$Text;", Cond.fieldLink RX10 213 "PollMeshes$Text" "length" "I", Cond.fieldLink RX10 30 "PollMeshes" "hasSnapshot" "Z"]
def wsL_poll_r7 : List Cond := [Cond.methodLink RX10 216 yX10_boundOf, Cond.instanceMethod yX10_boundOf, Cond.selects RX10 yX10_boundOf yX10_boundOf, Cond.code yX10_boundOf cX10_boundOf 2 (some .int), Cond.fieldLink RX10 105 "PollMeshes$State" "bounds" "LPollMeshes$Bounds;", Cond.fieldLink RX10 109 "PollMeshes$Bounds" "low" "[I", Cond.fieldLink RX10 114 "PollMeshes$Bounds" "high" "[I", Cond.methodLink RL 92 yX10_stuck, Cond.instanceMethod yX10_stuck, Cond.selects RX10 yX10_stuck yX10_stuck, Cond.code yX10_stuck cX10_stuck 2 (some .int), Cond.constant RX10 93 (-1000002), Cond.methodLink RX10 117 yX6_placeIsAllowed, Cond.instanceMethod yX6_placeIsAllowed, Cond.selects RX6 yX6_placeIsAllowed yX6_placeIsAllowed, Cond.code yX6_placeIsAllowed cX6_placeIsAllowed 1 (some .boolean), Cond.fieldLink RX6 21 "PollMeshes$State" "bounds" "LPollMeshes$Bounds;", Cond.methodLink RX6 83 yX0_allow, Cond.methodLink RX10 234 yX9_noneIsBetter, Cond.instanceMethod yX9_noneIsBetter, Cond.selects RX9 yX9_noneIsBetter yX9_noneIsBetter, Cond.code yX9_noneIsBetter cX9_noneIsBetter 2 (some .boolean), Cond.methodLink RX9 72 yX9_isBetter, Cond.methodLink RL 95 yX10_poll]
def wsL_poll_r8 : List Cond := [Cond.instanceMethod yX10_poll, Cond.selects RX10 yX10_poll yX10_poll, Cond.code yX10_poll cX10_poll 1 (some .int), Cond.methodLink RX10 160 yX6_canPoll, Cond.instanceMethod yX6_canPoll, Cond.selects RX6 yX6_canPoll yX6_canPoll, Cond.code yX6_canPoll cX6_canPoll 1 (some .boolean), Cond.fieldLink RX6 90 "PollMeshes$Directions" "held" "I", Cond.methodLink RX6 86 yX6_placeIsAllowed, Cond.methodLink RX10 71 yX2_push, Cond.instanceMethod yX2_push, Cond.selects RX2 yX2_push yX2_push, Cond.initialized RX2, Cond.code yX2_push cX2_push 2 none, Cond.fieldLink RX2 24 "PollMeshes$History" "fourth" "LPollMeshes$State;", Cond.fieldLink RX2 21 "PollMeshes$History" "third" "LPollMeshes$State;", Cond.fieldLink RX2 18 "PollMeshes$History" "second" "LPollMeshes$State;", Cond.fieldLink RX2 12 "PollMeshes$History" "first" "LPollMeshes$State;", Cond.fieldLink RX2 31 "PollMeshes$History" "held" "I", Cond.methodLink RX2 35 Lib.Math.min.name, Cond.static Lib.Math.min.name, Cond.initialized "java/lang/Math", Cond.code Lib.Math.min.name Lib.Math.min.code 2 (some .int), Cond.methodLink RX2 27 yX6_copyFrom]
def wsL_poll_r9 : List Cond := [Cond.instanceMethod yX6_copyFrom, Cond.selects RX6 yX6_copyFrom yX6_copyFrom, Cond.code yX6_copyFrom cX6_copyFrom 2 none, Cond.fieldLink RX6 46 "PollMeshes$State" "way" "I", Cond.methodLink RX6 62 yX7_copyFrom, Cond.instanceMethod yX7_copyFrom, Cond.selects RX7 yX7_copyFrom yX7_copyFrom, Cond.code yX7_copyFrom cX7_copyFrom 2 none, Cond.methodLink RX7 22 arraycopyName, Cond.native arraycopyName, Cond.static arraycopyName, Cond.initialized "java/lang/System", Cond.methodLink RX6 66 yX0_copyFrom, Cond.instanceMethod yX0_copyFrom, Cond.selects RX0 yX0_copyFrom yX0_copyFrom, Cond.code yX0_copyFrom cX0_copyFrom 2 none, Cond.methodLink RX0 18 arraycopyName, Cond.methodLink RX6 69 yX1_copyFrom, Cond.instanceMethod yX1_copyFrom, Cond.selects RX1 yX1_copyFrom yX1_copyFrom, Cond.initialized RX1, Cond.code yX1_copyFrom cX1_copyFrom 2 none, Cond.fieldLink RX1 18 "PollMeshes$Directions" "held" "I", Cond.fieldLink RX1 9 "PollMeshes$Directions" "steps" "[I"]
def wsL_poll_r10 : List Cond := [Cond.methodLink RX1 30 arraycopyName, Cond.fieldLink RX1 15 "PollMeshes$Directions" "taken" "[I", Cond.methodLink RX6 72 yX4_copyFrom, Cond.instanceMethod yX4_copyFrom, Cond.selects RX4 yX4_copyFrom yX4_copyFrom, Cond.initialized RX4, Cond.code yX4_copyFrom cX4_copyFrom 2 none, Cond.fieldLink RX4 9 "PollMeshes$Search" "place" "[I", Cond.methodLink RX4 45 arraycopyName, Cond.fieldLink RX4 22 "PollMeshes$Search" "size" "I", Cond.fieldLink RX4 26 "PollMeshes$Search" "polls" "I", Cond.fieldLink RX4 29 "PollMeshes$Search" "successes" "I", Cond.fieldLink RX4 32 "PollMeshes$Search" "looked" "I", Cond.fieldLink RX4 35 "PollMeshes$Search" "latest" "I", Cond.fieldLink RX4 38 "PollMeshes$Search" "leftHeld" "I", Cond.fieldLink RX4 15 "PollMeshes$Search" "left" "[I", Cond.fieldLink RX4 41 "PollMeshes$Search" "ended" "Z", Cond.methodLink RX10 163 yX6_pollOnce, Cond.instanceMethod yX6_pollOnce, Cond.selects RX6 yX6_pollOnce yX6_pollOnce, Cond.code yX6_pollOnce cX6_pollOnce 4 (some .int), Cond.fieldLink RX6 101 "PollMeshes$Search" "size" "I", Cond.fieldLink RX6 114 "PollMeshes$Search" "polls" "I", Cond.fieldLink RX6 117 "PollMeshes$Search" "looked" "I"]
def wsL_poll_r11 : List Cond := [Cond.fieldLink RX6 120 "PollMeshes$Trials" "looked" "I", Cond.fieldLink RX6 124 "PollMeshes$Directions" "taken" "[I", Cond.methodLink RX6 104 yX9_gather, Cond.methodLink RX6 110 yX9_chooseBetter, Cond.instanceMethod yX9_chooseBetter, Cond.selects RX9 yX9_chooseBetter yX9_chooseBetter, Cond.code yX9_chooseBetter cX9_chooseBetter 6 (some .int), Cond.fieldLink RX9 76 "PollMeshes$Trials" "looked" "I", Cond.methodLink RX6 121 yX4_fail, Cond.instanceMethod yX4_fail, Cond.selects RX4 yX4_fail yX4_fail, Cond.code yX4_fail cX4_fail 1 none, Cond.methodLink RX4 57 Lib.Math.max.name, Cond.static Lib.Math.max.name, Cond.code Lib.Math.max.name Lib.Math.max.code 2 (some .int), Cond.methodLink RX6 127 yX6_trialNumber, Cond.methodLink RX6 131 yX4_succeed, Cond.instanceMethod yX4_succeed, Cond.selects RX4 yX4_succeed yX4_succeed, Cond.code yX4_succeed cX4_succeed 5 none, Cond.methodLink RX4 51 Lib.Math.min.name, Cond.methodLink RX4 18 yX4_moveTo, Cond.instanceMethod yX4_moveTo, Cond.selects RX4 yX4_moveTo yX4_moveTo]
def wsL_poll_r12 : List Cond := [Cond.code yX4_moveTo cX4_moveTo 4 none, Cond.methodLink RL 98 yX10_leftAt, Cond.instanceMethod yX10_leftAt, Cond.selects RX10 yX10_leftAt yX10_leftAt, Cond.code yX10_leftAt cX10_leftAt 3 (some .int), Cond.fieldLink RX10 209 "PollMeshes$Search" "left" "[I", Cond.methodLink RX10 101 yX6_hasVariable, Cond.instanceMethod yX6_hasVariable, Cond.selects RX6 yX6_hasVariable yX6_hasVariable, Cond.code yX6_hasVariable cX6_hasVariable 2 (some .boolean)]
def wsL_poll : List Cond := .code yL_poll cL_poll 21 (some .boolean) :: ((wsL_poll_r1 ++ (wsL_poll_r2 ++ (wsL_poll_r3 ++ (wsL_poll_r4 ++ (wsL_poll_r5 ++ (wsL_poll_r6 ++ (wsL_poll_r7 ++ (wsL_poll_r8 ++ (wsL_poll_r9 ++ (wsL_poll_r10 ++ (wsL_poll_r11 ++ wsL_poll_r12))))))))))) ++ wsX100 ++ wsX60 ++ wsX40 ++ wsX70 ++ wsX90 ++ wsX10 ++ wsX00 ++ wsX20 ++ wsX80)
def wsL_around_r1 : List Cond := [Cond.constantLong RL 101 (40000000000), Cond.methodLink RL 55 yX10_searchOf, Cond.instanceMethod yX10_searchOf, Cond.selects RX10 yX10_searchOf yX10_searchOf, Cond.initialized RX10, Cond.code yX10_searchOf cX10_searchOf 2 (some .int), Cond.fieldLink RX10 10 "PollMeshes" "now" "LPollMeshes$State;", Cond.fieldLink RX10 139 "PollMeshes$State" "search" "LPollMeshes$Search;", Cond.fieldLink RX10 188 "PollMeshes$Search" "place" "[I", Cond.fieldLink RX10 191 "PollMeshes$Search" "size" "I", Cond.fieldLink RX10 194 "PollMeshes$Search" "polls" "I", Cond.fieldLink RX10 197 "PollMeshes$Search" "successes" "I", Cond.fieldLink RX10 200 "PollMeshes$Search" "looked" "I", Cond.fieldLink RX10 203 "PollMeshes$Search" "latest" "I", Cond.constant RX10 178 (-1000004), Cond.fieldLink RX10 206 "PollMeshes$Search" "leftHeld" "I", Cond.fieldLink RX10 167 "PollMeshes$Search" "ended" "Z", Cond.constant RX10 66 (-1000001), Cond.methodLink RX10 121 yX10_oneIf, Cond.static yX10_oneIf, Cond.code yX10_oneIf cX10_oneIf 1 (some .int), Cond.methodLink RL 16 yX10_count, Cond.instanceMethod yX10_count, Cond.selects RX10 yX10_count yX10_count]
def wsL_around_r2 : List Cond := [Cond.code yX10_count cX10_count 2 (some .int), Cond.fieldLink RX10 67 "PollMeshes$State" "dimensions" "I", Cond.fieldLink RX10 79 "PollMeshes$State" "terms" "LPollMeshes$Terms;", Cond.fieldLink RX10 83 "PollMeshes$Terms" "held" "I", Cond.fieldLink RX10 125 "PollMeshes$State" "directions" "LPollMeshes$Directions;", Cond.fieldLink RX10 134 "PollMeshes$Directions" "held" "I", Cond.fieldLink RX10 154 "PollMeshes$State" "order" "I", Cond.fieldLink RX10 157 "PollMeshes$State" "way" "I", Cond.fieldLink RX10 23 "PollMeshes" "history" "LPollMeshes$History;", Cond.fieldLink RX10 212 "PollMeshes$History" "held" "I", Cond.fieldLink RX10 37 "PollMeshes" "text" "LPollMeshes$Text;", Cond.fieldLink RX10 213 "PollMeshes$Text" "length" "I", Cond.fieldLink RX10 30 "PollMeshes" "hasSnapshot" "Z", Cond.methodLink RX10 216 yX10_boundOf, Cond.instanceMethod yX10_boundOf, Cond.selects RX10 yX10_boundOf yX10_boundOf, Cond.code yX10_boundOf cX10_boundOf 2 (some .int), Cond.fieldLink RX10 105 "PollMeshes$State" "bounds" "LPollMeshes$Bounds;", Cond.fieldLink RX10 109 "PollMeshes$Bounds" "low" "[I", Cond.fieldLink RX10 114 "PollMeshes$Bounds" "high" "[I", Cond.methodLink RX10 62 yX10_within, Cond.static yX10_within, Cond.code yX10_within cX10_within 3 (some .boolean), Cond.methodLink RL 65 yL_isAllowed]
def wsL_around_r3 : List Cond := [Cond.static yL_isAllowed, Cond.initialized RL, Cond.code yL_isAllowed cL_isAllowed 6 (some .boolean), Cond.methodLink RL 69 yX10_value, Cond.instanceMethod yX10_value, Cond.selects RX10 yX10_value yX10_value, Cond.code yX10_value cX10_value 6 (some .long), Cond.constantLong RX10 170 (-1000001), Cond.constantLong RX10 172 (20000000000), Cond.methodLink RX10 75 yX6_fit, Cond.instanceMethod yX6_fit, Cond.selects RX6 yX6_fit yX6_fit, Cond.initialized RX6, Cond.code yX6_fit cX6_fit 6 (some .boolean), Cond.fieldLink RX6 39 "PollMeshes$State" "dimensions" "I", Cond.methodLink RX10 174 yX7_sumAt, Cond.instanceMethod yX7_sumAt, Cond.selects RX7 yX7_sumAt yX7_sumAt, Cond.initialized RX7, Cond.code yX7_sumAt cX7_sumAt 10 (some .long), Cond.fieldLink RX7 18 "PollMeshes$Terms" "held" "I", Cond.fieldLink RX7 15 "PollMeshes$Terms" "powers" "[I", Cond.fieldLink RX7 9 "PollMeshes$Terms" "factors" "[I", Cond.methodLink RX7 32 yX7_raised]
def wsL_around_r4 : List Cond := [Cond.static yX7_raised, Cond.code yX7_raised cX7_raised 5 (some .long), Cond.methodLink RL 103 yX10_around, Cond.instanceMethod yX10_around, Cond.selects RX10 yX10_around yX10_around, Cond.code yX10_around cX10_around 3 (some .int), Cond.constant RX10 93 (-1000002), Cond.fieldLink RX10 51 "PollMeshes" "nearby" "LPollMeshes$Nearby;", Cond.fieldLink RX10 240 "PollMeshes$Nearby" "best" "[I", Cond.methodLink RX10 117 yX6_placeIsAllowed, Cond.instanceMethod yX6_placeIsAllowed, Cond.selects RX6 yX6_placeIsAllowed yX6_placeIsAllowed, Cond.code yX6_placeIsAllowed cX6_placeIsAllowed 1 (some .boolean), Cond.fieldLink RX6 21 "PollMeshes$State" "bounds" "LPollMeshes$Bounds;", Cond.fieldLink RX6 35 "PollMeshes$State" "search" "LPollMeshes$Search;", Cond.fieldLink RX6 79 "PollMeshes$Search" "place" "[I", Cond.methodLink RX6 83 yX0_allow, Cond.instanceMethod yX0_allow, Cond.selects RX0 yX0_allow yX0_allow, Cond.initialized RX0, Cond.code yX0_allow cX0_allow 4 (some .boolean), Cond.fieldLink RX0 9 "PollMeshes$Bounds" "low" "[I", Cond.fieldLink RX0 15 "PollMeshes$Bounds" "high" "[I", Cond.methodLink RX10 237 yX3_findBest]
def wsL_around_r5 : List Cond := [Cond.instanceMethod yX3_findBest, Cond.selects RX3 yX3_findBest yX3_findBest, Cond.initialized RX3, Cond.code yX3_findBest cX3_findBest 8 none, Cond.fieldLink RX3 15 "PollMeshes$State" "dimensions" "I", Cond.constantLong RX3 21 (20000000000), Cond.fieldLink RX3 23 "PollMeshes$Nearby" "least" "J", Cond.methodLink RX3 27 yX3_consider, Cond.instanceMethod yX3_consider, Cond.selects RX3 yX3_consider yX3_consider, Cond.code yX3_consider cX3_consider 11 none, Cond.fieldLink RX3 31 "PollMeshes$State" "search" "LPollMeshes$Search;", Cond.fieldLink RX3 35 "PollMeshes$Search" "place" "[I", Cond.fieldLink RX3 40 "PollMeshes$Search" "size" "I", Cond.fieldLink RX3 43 "PollMeshes$State" "bounds" "LPollMeshes$Bounds;", Cond.fieldLink RX3 53 "PollMeshes$State" "terms" "LPollMeshes$Terms;", Cond.fieldLink RX3 9 "PollMeshes$Nearby" "best" "[I", Cond.methodLink RX3 47 yX0_allow, Cond.methodLink RX3 57 yX7_sumAt]
def wsL_around : List Cond := .code yL_around cL_around 16 (some .boolean) :: ((wsL_around_r1 ++ (wsL_around_r2 ++ (wsL_around_r3 ++ (wsL_around_r4 ++ wsL_around_r5)))) ++ wsX100 ++ wsX60 ++ wsX40 ++ wsX70 ++ wsX10 ++ wsX20 ++ wsX80 ++ wsX00 ++ wsX30)
def wsL_spans_r1 : List Cond := [Cond.methodLink RL 16 yX10_count, Cond.instanceMethod yX10_count, Cond.selects RX10 yX10_count yX10_count, Cond.initialized RX10, Cond.code yX10_count cX10_count 2 (some .int), Cond.fieldLink RX10 10 "PollMeshes" "now" "LPollMeshes$State;", Cond.fieldLink RX10 67 "PollMeshes$State" "dimensions" "I", Cond.fieldLink RX10 79 "PollMeshes$State" "terms" "LPollMeshes$Terms;", Cond.fieldLink RX10 83 "PollMeshes$Terms" "held" "I", Cond.fieldLink RX10 125 "PollMeshes$State" "directions" "LPollMeshes$Directions;", Cond.fieldLink RX10 134 "PollMeshes$Directions" "held" "I", Cond.fieldLink RX10 154 "PollMeshes$State" "order" "I", Cond.fieldLink RX10 157 "PollMeshes$State" "way" "I", Cond.fieldLink RX10 23 "PollMeshes" "history" "LPollMeshes$History;", Cond.fieldLink RX10 212 "PollMeshes$History" "held" "I", Cond.fieldLink RX10 37 "PollMeshes" "text" "LPollMeshes$Text;", Cond.fieldLink RX10 213 "PollMeshes$Text" "length" "I", Cond.fieldLink RX10 30 "PollMeshes" "hasSnapshot" "Z", Cond.methodLink RX10 121 yX10_oneIf, Cond.static yX10_oneIf, Cond.code yX10_oneIf cX10_oneIf 1 (some .int), Cond.methodLink RX10 216 yX10_boundOf, Cond.instanceMethod yX10_boundOf, Cond.selects RX10 yX10_boundOf yX10_boundOf]
def wsL_spans_r2 : List Cond := [Cond.code yX10_boundOf cX10_boundOf 2 (some .int), Cond.fieldLink RX10 105 "PollMeshes$State" "bounds" "LPollMeshes$Bounds;", Cond.fieldLink RX10 109 "PollMeshes$Bounds" "low" "[I", Cond.fieldLink RX10 114 "PollMeshes$Bounds" "high" "[I", Cond.constant RX10 66 (-1000001), Cond.methodLink RX10 62 yX10_within, Cond.static yX10_within, Cond.code yX10_within cX10_within 3 (some .boolean), Cond.methodLink RL 58 yX10_directionOf, Cond.instanceMethod yX10_directionOf, Cond.selects RX10 yX10_directionOf yX10_directionOf, Cond.code yX10_directionOf cX10_directionOf 3 (some .int), Cond.constant RX10 178 (-1000004), Cond.fieldLink RX10 182 "PollMeshes$Directions" "taken" "[I", Cond.fieldLink RX10 185 "PollMeshes$Directions" "steps" "[I", Cond.methodLink RL 19 yX10_spans, Cond.instanceMethod yX10_spans, Cond.selects RX10 yX10_spans yX10_spans, Cond.code yX10_spans cX10_spans 1 (some .int), Cond.fieldLink RX10 58 "PollMeshes" "span" "LPollMeshes$Span;", Cond.methodLink RX10 230 yX5_isWhole, Cond.instanceMethod yX5_isWhole, Cond.selects RX5 yX5_isWhole yX5_isWhole, Cond.initialized RX5]
def wsL_spans_r3 : List Cond := [Cond.code yX5_isWhole cX5_isWhole 6 (some .boolean), Cond.fieldLink RX5 22 "PollMeshes$Span" "held" "I", Cond.methodLink RX5 18 yX5_fill, Cond.instanceMethod yX5_fill, Cond.selects RX5 yX5_fill yX5_fill, Cond.code yX5_fill cX5_fill 4 none, Cond.fieldLink RX5 34 "PollMeshes$Directions" "held" "I", Cond.fieldLink RX5 37 "PollMeshes$Directions" "steps" "[I", Cond.fieldLink RX5 9 "PollMeshes$Span" "rows" "[I", Cond.methodLink RX5 40 arraycopyName, Cond.native arraycopyName, Cond.static arraycopyName, Cond.initialized "java/lang/System", Cond.methodLink RX5 46 yX5_addAlong, Cond.instanceMethod yX5_addAlong, Cond.selects RX5 yX5_addAlong yX5_addAlong, Cond.code yX5_addAlong cX5_addAlong 4 none, Cond.methodLink RX5 26 yX5_findNormal, Cond.instanceMethod yX5_findNormal, Cond.selects RX5 yX5_findNormal yX5_findNormal, Cond.code yX5_findNormal cX5_findNormal 3 (some .boolean), Cond.fieldLink RX5 15 "PollMeshes$Span" "normal" "[I", Cond.methodLink RX5 30 yX5_hasRowsOnBothSides, Cond.instanceMethod yX5_hasRowsOnBothSides]
def wsL_spans_r4 : List Cond := [Cond.selects RX5 yX5_hasRowsOnBothSides yX5_hasRowsOnBothSides, Cond.code yX5_hasRowsOnBothSides cX5_hasRowsOnBothSides 6 (some .boolean)]
def wsL_spans : List Cond := .code yL_spans cL_spans 8 (some .boolean) :: ((wsL_spans_r1 ++ (wsL_spans_r2 ++ (wsL_spans_r3 ++ wsL_spans_r4))) ++ wsX100 ++ wsX60 ++ wsX70 ++ wsX10 ++ wsX20 ++ wsX80 ++ wsX00 ++ wsX50)
abbrev vwCl : List vw_C := [(RX0, TX0, 2), (RX1, TX1, 3), (RX2, TX2, 5), (RX3, TX3, 2), (RX4, TX4, 9), (RX5, TX5, 3), (RX6, TX6, 7), (RX7, TX7, 3), (RX8, TX8, 10), (RX9, TX9, 6), (RX10, TX10, 8)]
