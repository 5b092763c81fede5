/-! THE CLAIM OUT OF ONE WALK OF THE LAW'S BODY. Your part is whole_start (and what it stands on); all else here is the same for every law, but numbers. -/
def R_law : String := "PollMeshesLaw"
def lw_P (b : Addr) (xs : List Int32) (args : Array Value) (s : State) : Prop := args = #[.ref b] ∧ s.IntsAt b xs ∧ xs.length ≤ 260 ∧ (Jvm.Cond.and given_1 narrow_1).before args s = true
def lw_Q (_ : Array Value) (s : State) (o : Outcome) (t : State) : Prop := o = .returned (some (.int 1)) ∧ Framed s o t [] 96 958
def lw_Z (below : List Frame) (a : Array Value) (s : State) : State → Prop := fun t => ∃ o, t.status = .running ∧ Ended t below o ∧ lw_Q a s o t
/-- the law's own end, with 1 on the stack, nothing written that was there before, its room as the claim has it -/
theorem lw_ret {p : Program} {l : Launch} {e : Env} {s : State} {m : MethodId} {below : List Frame} {meth : Method} {c : Code} {b : Nat} (hx : p.tables.exec = Jvm.exec) (hb : c.code = code) (hr : meth.sig.returnType = ret) (hlocks : meth.locks = false) {pc : Nat} {H : Heap} {ls : Array Slot} (hdg : decode code pc = .ok (.ireturn, 1)) : W p l e room_1 s m #[Value.ref b] below meth c H [] 96 958 (lw_Z below #[Value.ref b] s) (F0 m pc ls [.int 1]) := by
  intro T hT X
  obtain ⟨fs, hret, hrun, hended, hW, hframe⟩ := X.leave (v := some (.int 1)) (hlocks := hlocks) (fun h => by rw [hr] at h; cases h)
  have hmeth' : T.vm.method? m = some meth := X.method'
  refine ⟨T.setFrames fs, ?_, .returned (some (.int 1)), hrun, hended, rfl, ⟨_, rfl⟩, hW, hframe⟩
  jvm_step X.here [X.here.top, hx, hb, hdg, hmeth', hr, ret, narrow_b1]
  (try refine ⟨rfl, ?_⟩); (try refine ⟨rfl, ?_⟩)
  first | (intro acts; rw [hret _ acts rfl rfl rfl]) | rw [hret _ _ rfl rfl rfl]
  exact Steps.refl _
/-- what holds at the law's entry: the machine, the code, the tables' words (any of lw_tbl by 'hts w (by decide +kernel)'), the script of L ints xs at the cell b, what the Statement gives of the start (any of its parts by flat_of_before) -/
def lw_At (p : Program) (s : State) (m : MethodId) (meth : Method) (c : Code) (b L : Nat) (xs : Nat → Int32) : Prop :=
  p.tables.exec = Jvm.exec ∧ c.code = code ∧ meth.sig.returnType = ret ∧ c.maxLocals = 8 ∧ s.vm.findClass R_law = some m.cls ∧ (∀ w ∈ lw_tbl, w.before #[Value.ref b] s = true) ∧ va_X b L xs s s.heap ∧ b < s.heap.size ∧ meth.locks = false ∧ (Jvm.Cond.and given_1 narrow_1).before #[Value.ref b] s = true
def csA : List Nat := List.range 96
theorem in_A {k : Nat} (h : k < 96) : k ∈ csA := List.mem_range.mpr h
/-- the start: a new object, and the law's row -/
def Mal (M1 : Mm) : Mm := (fun c j => if c < 95 then (Mz M1).1 c j else 0, fun _ _ => 0)
theorem startN {M1 : Mm} (rs : RS 2 M1) : HI (Mal M1) ∧ ((Mal M1).1 11 8 = 0 ∨ (Mal M1).1 11 8 = 1) ∧ (Mal M1).1 1 0 = nI 2 := by
  have lo : ∀ c j, 14 ≤ c → (Mal M1).1 c j = 0 := fun c j h1 => by
    show (if c < 95 then (if c = 0 then 0 else if c < 14 then M1.1 c j else 0) else 0) = 0
    by_cases h2 : c < 95
    · rw [if_pos h2, if_neg (by omega), if_neg (by omega)]
    · rw [if_neg h2]
  have up : ∀ c j, 1 ≤ c → c < 14 → (Mal M1).1 c j = M1.1 c j := fun c j h1 h2 => by
    show (if c < 95 then (if c = 0 then 0 else if c < 14 then M1.1 c j else 0) else 0) = M1.1 c j
    rw [if_pos (by omega), if_neg (by omega), if_pos h2]
  refine ⟨⟨⟨0, by omega, (lo 14 0 (by omega)).trans rfl⟩, fun i hi => Or.inl (lo _ _ (by omega)), Or.inl (lo _ _ (by omega))⟩, Or.inl ?_, ?_⟩
  · rw [up 11 8 (by omega) (by omega)]; exact rs.2.2.2.2.2.2.2.2.2
  · rw [up 1 0 (by omega) (by omega)]; exact rs.1.1
theorem nst_all : ∀ q ∈ nestL, Cond.methodLinkNest q.1 q.2.1 q.2.2.1 q.2.2.2 ∈ lw_tbl := List.forall_mem_cons.mpr ⟨nw_0, List.forall_mem_cons.mpr ⟨nw_1, List.forall_mem_cons.mpr ⟨nw_2, List.forall_mem_cons.mpr ⟨nw_3, List.forall_mem_cons.mpr ⟨nw_4, List.forall_mem_cons.mpr ⟨nw_5, List.forall_mem_cons.mpr ⟨nw_6, List.forall_mem_cons.mpr ⟨nw_7, List.forall_mem_cons.mpr ⟨nw_8, List.forall_mem_cons.mpr ⟨nw_9, List.forall_mem_cons.mpr ⟨nw_10, List.forall_mem_cons.mpr ⟨nw_11, List.forall_mem_cons.mpr ⟨nw_12, List.forall_mem_cons.mpr ⟨nw_13, List.forall_mem_cons.mpr ⟨nw_14, (fun _ h => absurd h List.not_mem_nil)⟩⟩⟩⟩⟩⟩⟩⟩⟩⟩⟩⟩⟩⟩⟩
set_option maxHeartbeats 4000000 in
set_option maxRecDepth 100000 in
/-- from the entry to the end -/
theorem whole_start {p : Program} {e : Env} {s : State} {m : MethodId} {below : List Frame} {meth : Method} {c : Code} (l : Launch) (hflags : l.flags = flags0) {b L : Nat} {xs : Nat → Int32} (hL : L ≤ 260) (C0 : lw_At p s m meth c b L xs) : W p l e room_1 s m #[Value.ref b] below meth c s.heap [] 0 0 (lw_Z below #[Value.ref b] s) (entryFrame m ([Value.ref b] : List Value).toArray 8) := by
  obtain ⟨hx, hb, hr, hml, hown, hts0, hXs, hbl, hlocks, hgv⟩ := id C0
  have hts : ∀ w ∈ tb, w.before #[Value.ref b] s = true := fun w h => hts0 w (List.mem_filter.mp h).1
  obtain ⟨c0, iS0, hKn0⟩ := u_known (C := RX0) (T := TX0) (N := 2) (n := 2) hts uw_0 (hts0 (.instantiable RX0 2) (List.mem_of_getElem? (i := 57) (by decide +kernel)))
  obtain ⟨c1, iS1, hKn1⟩ := u_known (C := RX1) (T := TX1) (N := 3) (n := 3) hts uw_1 (hts0 (.instantiable RX1 3) (List.mem_of_getElem? (i := 72) (by decide +kernel)))
  obtain ⟨c2, iS2, hKn2⟩ := u_known (C := RX2) (T := TX2) (N := 5) (n := 5) hts uw_2 (hts0 (.instantiable RX2 5) (List.mem_of_getElem? (i := 211) (by decide +kernel)))
  obtain ⟨c3, iS3, hKn3⟩ := u_known (C := RX3) (T := TX3) (N := 2) (n := 2) hts uw_3 (hts0 (.instantiable RX3 2) (List.mem_of_getElem? (i := 298) (by decide +kernel)))
  obtain ⟨c4, iS4, hKn4⟩ := u_known (C := RX4) (T := TX4) (N := 9) (n := 9) hts uw_4 (hts0 (.instantiable RX4 9) (List.mem_of_getElem? (i := 97) (by decide +kernel)))
  obtain ⟨c5, iS5, hKn5⟩ := u_known (C := RX5) (T := TX5) (N := 3) (n := 3) hts uw_5 (hts0 (.instantiable RX5 3) (List.mem_of_getElem? (i := 312) (by decide +kernel)))
  obtain ⟨c6, iS6, hKn6⟩ := u_known (C := RX6) (T := TX6) (N := 7) (n := 7) hts uw_6 (hts0 (.instantiable RX6 7) (List.mem_of_getElem? (i := 32) (by decide +kernel)))
  obtain ⟨c7, iS7, hKn7⟩ := u_known (C := RX7) (T := TX7) (N := 3) (n := 3) hts uw_7 (hts0 (.instantiable RX7 3) (List.mem_of_getElem? (i := 38) (by decide +kernel)))
  obtain ⟨c8, iS8, hKn8⟩ := u_known (C := RX8) (T := TX8) (N := 10) (n := 10) hts uw_8 (hts0 (.instantiable RX8 10) (List.mem_of_getElem? (i := 236) (by decide +kernel)))
  obtain ⟨c9, iS9, hKn9⟩ := u_known (C := RX9) (T := TX9) (N := 6) (n := 6) hts uw_9 (hts0 (.instantiable RX9 6) (List.mem_of_getElem? (i := 269) (by decide +kernel)))
  obtain ⟨c10, iS10, hKn10⟩ := u_known (C := RX10) (T := TX10) (N := 8) (n := 8) hts uw_10 (hts0 (.instantiable RX10 8) (List.mem_of_getElem? (i := 24) (by decide +kernel)))
  obtain ⟨dC, dI, hKc⟩ : ∃ (dC : Nat → ClassId) (dI : Nat → Nat → Nat), ∀ (k : Nat) (q : vw_C), vwCl[k]? = some q → u_Kn s q.1 q.2.1 q.2.2 (dC k) (dI k) := by
    refine ⟨fun k => if k = 0 then c0 else if k = 1 then c1 else if k = 2 then c2 else if k = 3 then c3 else if k = 4 then c4 else if k = 5 then c5 else if k = 6 then c6 else if k = 7 then c7 else if k = 8 then c8 else if k = 9 then c9 else c10, fun k => if k = 0 then iS0 else if k = 1 then iS1 else if k = 2 then iS2 else if k = 3 then iS3 else if k = 4 then iS4 else if k = 5 then iS5 else if k = 6 then iS6 else if k = 7 then iS7 else if k = 8 then iS8 else if k = 9 then iS9 else iS10, ?_⟩
    intro k q hq
    match k, hq with
    | 0, hq => cases hq; exact hKn0
    | 1, hq => cases hq; exact hKn1
    | 2, hq => cases hq; exact hKn2
    | 3, hq => cases hq; exact hKn3
    | 4, hq => cases hq; exact hKn4
    | 5, hq => cases hq; exact hKn5
    | 6, hq => cases hq; exact hKn6
    | 7, hq => cases hq; exact hKn7
    | 8, hq => cases hq; exact hKn8
    | 9, hq => cases hq; exact hKn9
    | 10, hq => cases hq; exact hKn10
    | k + 11, hq => simp [vwCl] at hq
  obtain ⟨cA1, kA1, comp1, f1, k1, h1⟩ := Cond.arrayClass_spec (hts _ ac_int)
  obtain ⟨cA2, kA2, comp2, f2, k2, h2⟩ := Cond.arrayClass_spec (hts _ ac_long)
  obtain ⟨cy, ecy⟩ : ∃ cy : ClassId × ClassId × ClassId, cy = (cA1, cA2, cA1) := ⟨_, rfl⟩
  have hKK : KK (dC, dI) cy s := by
    refine ⟨⟨hKc, fun k q hk => ?_⟩, fun q hq => va_Nw.of rfl (hts0 _ (nst_all q hq))⟩
    subst ecy
    match k, hk with
    | 0, hk => cases hk; exact ⟨fun n z => ⟨fun k h => (by cases h), kA1, k1, comp1, h1⟩, f1⟩
    | 1, hk => cases hk; exact ⟨fun n z => ⟨fun k h => (by cases h), kA2, k2, comp2, h2⟩, f2⟩
    | k + 2, hk => simp at hk
  obtain ⟨M1, hM1, rs, -⟩ := resetX MM0 (n := 2) (by omega)
  obtain ⟨s1, s2, s3⟩ := startN rs
  obtain ⟨ql, hq, hq1⟩ := lawN hL xs s1 s2 s3
  obtain ⟨X, eX⟩ : ∃ X : XT, X = (p, l, e, room_1, s, m, #[Value.ref b], below, meth, c, (dC, dI), cy, (fun q => s.heap.size ≤ q), 96, 958, lw_Z below #[Value.ref b] s) := ⟨_, rfl⟩
  have hX : NOK X cy 8 cL_law RL 9 396 96 958 := by subst eX; exact ⟨hx, hb, hml, hown, hts, hKK, rfl, fun _ h => h, Nat.le_of_ble_eq_true rfl, Nat.le_of_ble_eq_true rfl, Nat.le_of_ble_eq_true rfl, Nat.le_of_ble_eq_true rfl⟩
  have hZ : SZ X b L xs := by subst eX; exact ⟨hXs, hbl, Nat.not_le.mpr hbl⟩
  have body : NN X 8 [] 0 0 0 [(0, .ref b)] [] := by
    refine n_new (pc := 0) hX cw_L_11 ⟨Nat.le_of_ble_eq_true rfl, Nat.le_of_ble_eq_true rfl⟩ dL_law_0 (fun q1 => ?_)
    refine n_dup (pc := 3) hX dL_law_3 rfl ?_
    refine n_initS (pc := 4) (kc := 1) (ks := 8) (w := []) hX ci_L_106 (c_X10_init M1 hM1) ⟨Nat.le_of_ble_eq_true rfl, Nat.le_of_ble_eq_true rfl⟩ ⟨Nat.le_of_ble_eq_true rfl, Nat.le_of_ble_eq_true rfl⟩ (Nat.le_of_ble_eq_true rfl) dL_law_4 (fun a1 e1 => ?_)
    subst e1
    show NN X 8 (wl cy a1 [0, 1, 2, 3, 4, 5, 6, 7, 8, 9, 10, 11, 12, 13, 14, 15, 16, 17, 18, 19, 20, 21, 22, 23, 24, 25, 26, 27, 28, 29, 30, 31, 32, 33, 34, 35, 36, 37, 38, 39, 40, 41, 42, 43, 44, 45, 46, 47, 48, 49, 50, 51, 52, 53, 54, 55, 56, 57, 58, 59, 60, 61, 62, 63, 64, 65, 66, 67, 68, 69, 70, 71, 72, 73, 74, 75, 76, 77, 78, 79, 80, 81, 82, 83, 84, 85, 86, 87, 88, 89, 90, 91, 92, 93, 94] (Mz M1)) 95 950 7 [(0, .ref b)] [.ref (a1 0)]
    refine n_astore_n (pc := 7) [(1, .ref (a1 0)), (0, .ref b)] hX dL_law_7 (by decide) rfl ?_
    refine n_bipush (pc := 8) hX dL_law_8 bp_8 ?_
    refine n_newI (pc := 10) (N := 8) hX ac_int nn_8 ix_8 (Nat.le_of_ble_eq_true rfl) ⟨Nat.le_of_ble_eq_true rfl, Nat.le_of_ble_eq_true rfl⟩ dL_law_10 (fun q2 => ?_)
    show NN X 8 (wl cy a1 [0, 1, 2, 3, 4, 5, 6, 7, 8, 9, 10, 11, 12, 13, 14, 15, 16, 17, 18, 19, 20, 21, 22, 23, 24, 25, 26, 27, 28, 29, 30, 31, 32, 33, 34, 35, 36, 37, 38, 39, 40, 41, 42, 43, 44, 45, 46, 47, 48, 49, 50, 51, 52, 53, 54, 55, 56, 57, 58, 59, 60, 61, 62, 63, 64, 65, 66, 67, 68, 69, 70, 71, 72, 73, 74, 75, 76, 77, 78, 79, 80, 81, 82, 83, 84, 85, 86, 87, 88, 89, 90, 91, 92, 93, 94] (Mz M1) ++ [(q2, .inl (cy.1, 8, .inl (fun _ => 0)))]) 96 958 12 [(1, .ref (a1 0)), (0, .ref b)] [.ref q2]
    refine n_astore_n (pc := 12) [(2, .ref q2), (1, .ref (a1 0)), (0, .ref b)] hX dL_law_12 (by decide) rfl ?_
    have ew : wl cy a1 [0, 1, 2, 3, 4, 5, 6, 7, 8, 9, 10, 11, 12, 13, 14, 15, 16, 17, 18, 19, 20, 21, 22, 23, 24, 25, 26, 27, 28, 29, 30, 31, 32, 33, 34, 35, 36, 37, 38, 39, 40, 41, 42, 43, 44, 45, 46, 47, 48, 49, 50, 51, 52, 53, 54, 55, 56, 57, 58, 59, 60, 61, 62, 63, 64, 65, 66, 67, 68, 69, 70, 71, 72, 73, 74, 75, 76, 77, 78, 79, 80, 81, 82, 83, 84, 85, 86, 87, 88, 89, 90, 91, 92, 93, 94] (Mz M1) ++ [(q2, .inl (cy.1, 8, .inl (fun _ => 0)))] = wl cy (fun c => if c < 95 then a1 c else q2) csA (Mal M1) := rfl
    rw [ew]
    obtain ⟨ad, ead⟩ : ∃ ad : Nat → Nat, ad = fun c => if c < 95 then a1 c else q2 := ⟨_, rfl⟩
    have r0 : a1 0 = ad 0 := by rw [ead]; rfl
    have r95 : q2 = ad 95 := by rw [ead]; rfl
    rw [← ead, r0, r95]
    subst eX
    intro H locs ls hP hD hS hl
    have hX2 : XOK (p, l, e, room_1, s, m, #[Value.ref b], below, meth, c, (dC, dI), cy, (fun q => s.heap.size ≤ q), 96, 958, lw_Z below #[Value.ref b] s) 8 ad csA cL_law RL 9 396 := ⟨hx, hb, hml, hown, hts, hKK, dj_of hD, Nat.le_of_ble_eq_true rfl, Nat.le_of_ble_eq_true rfl, Nat.le_of_ble_eq_true rfl, Nat.le_of_ble_eq_true rfl⟩
    have main : VV (p, l, e, room_1, s, m, #[Value.ref b], below, meth, c, (dC, dI), cy, (fun q => s.heap.size ≤ q), 96, 958, lw_Z below #[Value.ref b] s) 8 ad csA (Mal M1) 13 [(2, .ref (ad 95)), (1, .ref (ad 0)), (0, .ref b)] [] := by
      refine v_sub (lv' := [(0, .ref b), (1, .ref (ad 0)), (2, .ref (ad 95))]) [2, 1, 0] rfl ?_
      refine v_law (fun k _ h => in_A h) b L xs (Mal M1) ql hq hq1 hX2 hZ (fun pc M lv d => ?_)
      intro H locs ls hP hS hl
      exact va_forget (fun q hq => hS.2.2 q hq) (lw_ret hx hb hr hlocks d)
    exact main H locs ls hP hS hl
  subst eX
  have hl := lv_entry ([.ref b]) (n := 8) (Nat.le_of_ble_eq_true rfl)
  rw [lg_entry_eq]
  generalize (lg_sl ([.ref b]) ++ List.replicate (8 - (lg_sl ([.ref b])).length) Slot.unset).toArray = ls at hl ⊢
  have hl : lv_has ls 8 [(0, .ref b)] := hl
  exact body s.heap [] ls (fun k q h => by simp at h) ⟨fun i j p q h => by simp at h, fun k q h => by simp at h⟩ va_S.rf hl
