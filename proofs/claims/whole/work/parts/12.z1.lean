/-! THE CLAIM OUT OF ONE WALK OF THE LAW'S BODY. Your part is whole_start (and what it stands on); all else here is the same for every law, but numbers. -/
def R_law : String := "SecretStepsLaw"
def lw_P (b : Addr) (xs : List Int32) (args : Array Value) (s : State) : Prop := args = #[.ref b] ∧ s.IntsAt b xs ∧ xs.length ≤ 2560 ∧ (Jvm.Cond.and given_1 narrow_1).before args s = true
def lw_Q (_ : Array Value) (s : State) (o : Outcome) (t : State) : Prop := o = .returned (some (.int 1)) ∧ Framed s o t [] 600000 7302249
def lw_Z (below : List Frame) (a : Array Value) (s : State) : State → Prop := fun t => ∃ o, t.status = .running ∧ Ended t below o ∧ lw_Q a s o t
/-- the law's own end, with 1 on the stack, nothing written that was there before, its room as the claim has it -/
theorem lw_ret {p : Program} {l : Launch} {e : Env} {s : State} {m : MethodId} {below : List Frame} {meth : Method} {c : Code} {b : Nat} (hx : p.tables.exec = Jvm.exec) (hb : c.code = code) (hr : meth.sig.returnType = ret) (hlocks : meth.locks = false) {pc : Nat} {H : Heap} {ls : Array Slot} (hdg : decode code pc = .ok (.ireturn, 1)) : W p l e room_1 s m #[Value.ref b] below meth c H [] 600000 7302249 (lw_Z below #[Value.ref b] s) (F0 m pc ls [.int 1]) := by
  intro T hT X
  obtain ⟨fs, hret, hrun, hended, hW, hframe⟩ := X.leave (v := some (.int 1)) (hlocks := hlocks) (fun h => by rw [hr] at h; cases h)
  have hmeth' : T.vm.method? m = some meth := X.method'
  refine ⟨T.setFrames fs, ?_, .returned (some (.int 1)), hrun, hended, rfl, ⟨_, rfl⟩, hW, hframe⟩
  jvm_step X.here [X.here.top, hx, hb, hdg, hmeth', hr, ret, narrow_b1]
  (try refine ⟨rfl, ?_⟩); (try refine ⟨rfl, ?_⟩)
  first | (intro acts; rw [hret _ acts rfl rfl rfl]) | rw [hret _ _ rfl rfl rfl]
  exact Steps.refl _
/-- what holds at the law's entry: the machine, the code, the tables' words (any of lw_tbl by 'hts w (by decide +kernel)'), the script of L ints xs at the cell b, what the Statement gives of the start (any of its parts by flat_of_before) -/
def lw_At (p : Program) (s : State) (m : MethodId) (meth : Method) (c : Code) (b L : Nat) (xs : Nat → Int32) : Prop :=
  p.tables.exec = Jvm.exec ∧ c.code = code ∧ meth.sig.returnType = ret ∧ c.maxLocals = 4 ∧ s.vm.findClass R_law = some m.cls ∧ (∀ w ∈ lw_tbl, w.before #[Value.ref b] s = true) ∧ va_X b L xs s s.heap ∧ b < s.heap.size ∧ meth.locks = false ∧ (Jvm.Cond.and given_1 narrow_1).before #[Value.ref b] s = true
theorem inlX6 : ∀ w ∈ wsX60, w ∈ wsL_law := fun _ h => List.mem_append_left _ (List.mem_append_left _ (List.mem_append_left _ (List.mem_append_left _ (List.mem_append_left _ (List.mem_append_left _ (List.mem_append_left _ (List.mem_append_left _ (List.mem_append_right _ h))))))))
theorem inlX7 : ∀ w ∈ wsX70, w ∈ wsL_law := fun _ h => List.mem_append_left _ (List.mem_append_left _ (List.mem_append_left _ (List.mem_append_left _ (List.mem_append_left _ (List.mem_append_left _ (List.mem_append_left _ (List.mem_append_right _ h)))))))
theorem lm_i0 : Cond.instantiable RX0 6 ∈ lw_tbl := List.mem_of_getElem? (i := 204) (by decide +kernel)
theorem lm_i1 : Cond.instantiable RX1 3 ∈ lw_tbl := List.mem_of_getElem? (i := 127) (by decide +kernel)
theorem lm_i2 : Cond.instantiable RX2 5 ∈ lw_tbl := List.mem_of_getElem? (i := 95) (by decide +kernel)
theorem lm_i3 : Cond.instantiable RX3 5 ∈ lw_tbl := List.mem_of_getElem? (i := 180) (by decide +kernel)
theorem lm_i4 : Cond.instantiable RX4 3 ∈ lw_tbl := List.mem_of_getElem? (i := 230) (by decide +kernel)
theorem lm_i5 : Cond.instantiable RX5 8 ∈ lw_tbl := List.mem_of_getElem? (i := 147) (by decide +kernel)
theorem lm_i6 : Cond.instantiable RX6 13 ∈ lw_tbl := List.mem_of_getElem? (i := 87) (by decide +kernel)
theorem lm_i7 : Cond.instantiable RX7 24 ∈ lw_tbl := List.mem_of_getElem? (i := 661) (by decide +kernel)
theorem lm_ai : Cond.arrayClass .int ∈ lw_tbl := List.mem_of_getElem? (i := 125) (by decide +kernel)
theorem lm_az : Cond.arrayClass .boolean ∈ lw_tbl := List.mem_of_getElem? (i := 228) (by decide +kernel)
theorem lm_al : Cond.arrayClass .long ∈ lw_tbl := List.mem_of_getElem? (i := 247) (by decide +kernel)
theorem lm_ao : Cond.arrayOver (.object "SecretSteps$Program") ∈ lw_tbl := List.mem_of_getElem? (i := 133) (by decide +kernel)
set_option maxRecDepth 20000 in
theorem lm_nest : ∀ w ∈ gNest, w ∈ lw_tbl := fm_in [101, 103, 104, 106, 107, 108, 110, 111, 113, 138, 154, 158, 187, 189, 237, 239, 148, 181, 205, 231, 310, 407, 422, 522] (by decide +kernel)
set_option maxRecDepth 20000 in
theorem ll_1 : Cond.classLink RL 7 RX6 ∈ wsL_law := by decide +kernel
set_option maxRecDepth 20000 in
theorem ll_2 : Cond.instantiable RX6 13 ∈ wsL_law := by decide +kernel
set_option maxRecDepth 20000 in
theorem ll_3 : Cond.initialized RX6 ∈ wsL_law := by decide +kernel
set_option maxRecDepth 20000 in
theorem ll_4 : Cond.classLink RL 10 RX7 ∈ wsL_law := by decide +kernel
set_option maxRecDepth 20000 in
theorem ll_5 : Cond.instantiable RX7 24 ∈ wsL_law := by decide +kernel
set_option maxRecDepth 20000 in
theorem ll_6 : Cond.initialized RX7 ∈ wsL_law := by decide +kernel
set_option maxRecDepth 20000 in
theorem ll_7 : Cond.methodLink RL 9 yX6_init ∈ wsL_law := by decide +kernel
set_option maxRecDepth 20000 in
theorem ll_8 : Cond.instanceMethod yX6_init ∈ wsL_law := by decide +kernel
set_option maxRecDepth 20000 in
theorem ll_9 : Cond.methodLink RL 12 yX7_init ∈ wsL_law := by decide +kernel
set_option maxRecDepth 20000 in
theorem ll_10 : Cond.instanceMethod yX7_init ∈ wsL_law := by decide +kernel
theorem arr_of {A : Array Value} {s : State} {ty : FieldType} (h : (Cond.arrayClass ty).before A s = true) : ∃ cA : ClassId, ArrOfT s cA ty ∧ s.vm.findClass ("[" ++ ty.toString) = some cA := by
  obtain ⟨cA, kA, comp, h1, h2, h3⟩ := Cond.arrayClass_spec h
  exact ⟨cA, fun n z => ⟨fun k h => (by cases h), kA, h2, comp, h3⟩, h1⟩
theorem arr_ofq {A : Array Value} {s : State} {C : String} (h : (Cond.arrayOver (.object C)).before A s = true) : ∃ cA : ClassId, ArrOfT s cA (.object C) ∧ va_RA s cA (.object C) := by
  obtain ⟨comp, cA, kA, h1, h2, h3, h4, h5⟩ := Cond.arrayOver_spec h
  exact ⟨cA, fun n z => ⟨fun k h => (by cases h), kA, h3, comp, h4⟩, kA, comp, h3, h4, h1, h5⟩
set_option maxHeartbeats 4000000 in
set_option maxRecDepth 100000 in
theorem whole_start {p : Program} {e : Env} {s : State} {m : MethodId} {below : List Frame} {meth : Method} {c : Code} (l : Launch) (hflags : l.flags = flags0) {b L : Nat} {xs : Nat → Int32} (hL : L ≤ 2560) (C0 : lw_At p s m meth c b L xs) : W p l e room_1 s m #[Value.ref b] below meth c s.heap [] 0 0 (lw_Z below #[Value.ref b] s) (entryFrame m ([Value.ref b] : List Value).toArray 4) := by
  obtain ⟨hx, hb, hr, hml, hown, hts, hX, hbl, hlocks, hgv⟩ := id C0
  obtain ⟨c0, iS0, hKn0⟩ := u_known (C := RX0) (T := TX0) (N := 6) (n := 6) hts inX0 (hts _ lm_i0)
  obtain ⟨c1, iS1, hKn1⟩ := u_known (C := RX1) (T := TX1) (N := 3) (n := 3) hts inX1 (hts _ lm_i1)
  obtain ⟨c2, iS2, hKn2⟩ := u_known (C := RX2) (T := TX2) (N := 5) (n := 5) hts inX2 (hts _ lm_i2)
  obtain ⟨c3, iS3, hKn3⟩ := u_known (C := RX3) (T := TX3) (N := 5) (n := 5) hts inX3 (hts _ lm_i3)
  obtain ⟨c4, iS4, hKn4⟩ := u_known (C := RX4) (T := TX4) (N := 3) (n := 3) hts inX4 (hts _ lm_i4)
  obtain ⟨c5, iS5, hKn5⟩ := u_known (C := RX5) (T := TX5) (N := 8) (n := 8) hts inX5 (hts _ lm_i5)
  obtain ⟨c6, iS6, hKn6⟩ := u_known (C := RX6) (T := TX6) (N := 13) (n := 13) hts inX6 (hts _ lm_i6)
  obtain ⟨c7, iS7, hKn7⟩ := u_known (C := RX7) (T := TX7) (N := 24) (n := 24) hts inX7 (hts _ lm_i7)
  obtain ⟨a0, hA0, hB0⟩ := arr_of (hts _ lm_ai)
  obtain ⟨a1, hA1, hB1⟩ := arr_of (hts _ lm_az)
  obtain ⟨a2, hA2, hB2⟩ := arr_of (hts _ lm_al)
  obtain ⟨a3, hA3, hB3⟩ := arr_ofq (hts _ lm_ao)
  obtain ⟨G, hG⟩ : ∃ G : gG, gK G s := by
    refine ⟨((fun k => ([c0, c1, c2, c3, c4, c5, c6, c7] : List ClassId).getD k c0, fun k => ([iS0, iS1, iS2, iS3, iS4, iS5, iS6, iS7] : List (Nat → Nat)).getD k iS0), fun k => ([a0, a1, a2, a3] : List ClassId).getD k a0), ⟨?_, ?_⟩, ?_⟩
    · intro k q hq
      match k, hq with
      | 0, hq => cases hq; exact hKn0
      | 1, hq => cases hq; exact hKn1
      | 2, hq => cases hq; exact hKn2
      | 3, hq => cases hq; exact hKn3
      | 4, hq => cases hq; exact hKn4
      | 5, hq => cases hq; exact hKn5
      | 6, hq => cases hq; exact hKn6
      | 7, hq => cases hq; exact hKn7
      | k + 8, hq => simp [vwCl] at hq
    · intro k q hq
      match k, hq with
      | 0, hq => cases hq; exact ⟨hA0, hB0⟩
      | 1, hq => cases hq; exact ⟨hA1, hB1⟩
      | 2, hq => cases hq; exact ⟨hA2, hB2⟩
      | 3, hq => cases hq; exact ⟨hA3, hB3⟩
      | k + 4, hq => simp [gTy] at hq
    · exact fun w hw => va_Nw.of (gNest_tab w hw) (hts w (lm_nest w hw))
  have hao : va_AO "SecretSteps$Program" s := va_AO.of (hts _ lm_ao)
  have C : CX p s m #[Value.ref b] meth c G (fun q : Nat => s.heap.size ≤ q) cL_law 4 RL wsL_law := ⟨⟨hx, hb, hml, hown, fun w hw => hts w (wsL_law_in w hw)⟩, hG, fun _ h => h, hlocks⟩
  have X : SX s (fun q : Nat => s.heap.size ≤ q) b L xs := ⟨hX, hbl, Nat.not_le.mpr hbl⟩
  have hP : va_P G.1 vwCl [] s.heap := fun k q h => by simp at h
  have hD : va_D (fun q : Nat => s.heap.size ≤ q) [] := ⟨fun i j p q h => by simp at h, fun k q h => by simp at h⟩
  have hl := lv_entry ([.ref b]) (n := 4) (Nat.le_of_ble_eq_true rfl)
  rw [lg_entry_eq]
  generalize (lg_sl ([.ref b]) ++ List.replicate (4 - (lg_sl ([.ref b])).length) Slot.unset).toArray = ls at hl ⊢
  have hl : lv_has ls 4 [(0, .ref b)] := hl
  have K : GG p l e room_1 s m #[Value.ref b] below meth c G (fun q : Nat => s.heap.size ≤ q) 4 0 0 (lw_Z below #[Value.ref b] s) [] [(0, .ref b)] 0 [] := by
    refine g_new (C0 := RX6) (T := TX6) (N := 13) (ci := 6) (fs := [.null, .null, .null, .null, .null, .null, .null, .null, .int 0, .int 0, .int 0, .int 0, .int 0]) C inlX6 tyX6 tyX6_ok ll_1 ll_2 ll_3 rfl (fun j hj => by rcases (show j = 0 ∨ j = 1 ∨ j = 2 ∨ j = 3 ∨ j = 4 ∨ j = 5 ∨ j = 6 ∨ j = 7 ∨ j = 8 ∨ j = 9 ∨ j = 10 ∨ j = 11 ∨ j = 12 by omega) with rfl | rfl | rfl | rfl | rfl | rfl | rfl | rfl | rfl | rfl | rfl | rfl | rfl <;> rfl) (Nat.le_of_ble_eq_true rfl) (Nat.le_of_ble_eq_true rfl) dL_law_0 (cells' := 1) (slots' := 13) rfl rfl (fun q => ?_)
    refine g_dup C dL_law_3 rfl ?_
    refine g_callI (wr := []) (WS' := fun a => wC G (cns q a) SS0) C hao (n6_init (h := q)) gL_law_X6_init ll_3 ll_7 ll_8 rfl (by decide +kernel) rfl rfl rfl ⟨(Nat.le_of_ble_eq_true rfl), (Nat.le_of_ble_eq_true rfl)⟩ [0] [] [0, 1, 2, 3, 4, 5, 6, 7, 8, 9, 10, 11, 12, 13, 14, 15, 16, 17, 18, 19, 20, 21, 22, 23, 24, 25, 26, 27, 28, 29, 30, 31, 32, 33, 34, 35, 36, 37, 38, 39, 40, 41, 42, 43, 44, 45, 46, 47] rfl rfl rfl rfl (by decide) (fun _ => rfl) rfl (Nat.le_of_ble_eq_true rfl) ⟨(Nat.le_of_ble_eq_true rfl), (Nat.le_of_ble_eq_true rfl)⟩ dL_law_4 (cells' := 48) (slots' := 4241) rfl rfl (fun a => ?_)
    refine g_astore_n C dL_law_7 rfl (by decide) [1, 0] rfl ?_
    refine g_new (C0 := RX7) (T := TX7) (N := 24) (ci := 7) (fs := [.null, .null, .null, .int 0, .null, .null, .int 0, .null, .null, .int 0, .int 0, .int 0, .null, .null, .null, .int 0, .null, .int 0, .int 0, .int 0, .int 0, .null, .null, .long 0]) C inlX7 tyX7 tyX7_ok ll_4 ll_5 ll_6 rfl (fun j hj => by rcases (show j = 0 ∨ j = 1 ∨ j = 2 ∨ j = 3 ∨ j = 4 ∨ j = 5 ∨ j = 6 ∨ j = 7 ∨ j = 8 ∨ j = 9 ∨ j = 10 ∨ j = 11 ∨ j = 12 ∨ j = 13 ∨ j = 14 ∨ j = 15 ∨ j = 16 ∨ j = 17 ∨ j = 18 ∨ j = 19 ∨ j = 20 ∨ j = 21 ∨ j = 22 ∨ j = 23 by omega) with rfl | rfl | rfl | rfl | rfl | rfl | rfl | rfl | rfl | rfl | rfl | rfl | rfl | rfl | rfl | rfl | rfl | rfl | rfl | rfl | rfl | rfl | rfl | rfl <;> rfl) (Nat.le_of_ble_eq_true rfl) (Nat.le_of_ble_eq_true rfl) dL_law_8 (cells' := 49) (slots' := 4265) rfl rfl (fun q2 => ?_)
    refine g_dup C dL_law_11 rfl ?_
    refine g_callI (wr := wC G (cns q a) SS0) (WS' := fun a2 => wC G (cns q a) SS0 ++ wM G (cns q2 a2) MM0) C hao (n7_init (h := q2)) gL_law_X7_init ll_6 ll_9 ll_10 rfl (by decide +kernel) rfl rfl rfl ⟨(Nat.le_of_ble_eq_true rfl), (Nat.le_of_ble_eq_true rfl)⟩ [48] [0, 1, 2, 3, 4, 5, 6, 7, 8, 9, 10, 11, 12, 13, 14, 15, 16, 17, 18, 19, 20, 21, 22, 23, 24, 25, 26, 27, 28, 29, 30, 31, 32, 33, 34, 35, 36, 37, 38, 39, 40, 41, 42, 43, 44, 45, 46, 47] [0, 1, 2, 3, 4, 5, 6, 7, 8, 9, 10, 11, 12, 13, 14, 15, 16, 17, 18, 19, 20, 21, 22, 23, 24, 25, 26, 27, 28, 29, 30, 31, 32, 33, 34, 35, 36, 37, 38, 39, 40, 41, 42, 43, 44, 45, 46, 47, 48, 49, 50, 51, 52, 53, 54, 55, 56, 57, 58, 59, 60, 61] rfl rfl rfl rfl (by decide) (fun _ => rfl) rfl (Nat.le_of_ble_eq_true rfl) ⟨(Nat.le_of_ble_eq_true rfl), (Nat.le_of_ble_eq_true rfl)⟩ dL_law_12 (cells' := 62) (slots' := 21117) rfl rfl (fun a2 => ?_)
    refine g_astore_n C dL_law_15 rfl (by decide) [1, 2, 0] rfl ?_
    refine g_iconst (v := nI 0) C dL_law_16 (by decide +kernel) ?_
    refine g_istore_n C dL_law_17 rfl (by decide) [1, 2, 3, 0] rfl ?_
    refine law_loop C (ac := cns q a) (am := cns q2 a2) X hL ?_ L 0 SS0 MM0 (by omega) (by omega) RR0
    intro i S M
    refine g_iconst (v := (1 : Int32)) C dL_law_699 (by decide +kernel) ?_
    intro H locs ls hP hD hS hl
    exact va_forget (fun q hq => hS.2.2 q hq) (W.widen (Nat.le_of_ble_eq_true rfl) (Nat.le_of_ble_eq_true rfl) (lw_ret hx hb hr hlocks dL_law_700))
  exact K s.heap [] ls hP hD va_S.rf hl
