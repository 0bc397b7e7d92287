/-! constructors -/
theorem g_wsE {p : Program} {l : Launch} {e : Env} {R : Room} {s : State} {m : MethodId} {args : Array Value} {below : List Frame} {meth : Method} {c : Code} {G : gG} {A : Nat → Prop} {nL cells slots : Nat} {Q : State → Prop} {WS WS' : va_W} {lv : List (Nat × Value)} {pc : Nat} {st : List Value} (h : WS = WS') (k : GG p l e R s m args below meth c G A nL cells slots Q WS' lv pc st) : GG p l e R s m args below meth c G A nL cells slots Q WS lv pc st := by rw [h]; exact k
def gk (k : Nat) : Nat → Int32 := fun j => if 8 ≤ j ∧ j < 8 + k then nI (j - 8) else 0
theorem gk_0 : gk 0 = fun _ => 0 := by
  funext j
  exact if_neg (by omega)
theorem gk_0c : (fun j => gk 0 (8 + j)) = fun _ => (0 : Int32) := by
  funext j
  exact if_neg (by omega)
theorem gk_s {k : Nat} : upd (gk k) (8 + k) (nI k) = gk (k + 1) := by
  funext j
  unfold upd gk
  by_cases h : j = 8 + k
  · rw [if_pos h, if_pos (by omega), h, Nat.add_sub_cancel_left]
  · rw [if_neg h]
    by_cases h2 : 8 ≤ j ∧ j < 8 + k
    · rw [if_pos h2, if_pos (by omega)]
    · rw [if_neg h2, if_neg (by omega)]
theorem gk_c {k : Nat} : upd (fun j => gk k (8 + j)) k (nI k) = fun j => gk (k + 1) (8 + j) := by
  funext j
  unfold upd gk
  by_cases h : j = k
  · rw [if_pos h, if_pos (by omega), h, Nat.add_sub_cancel_left]
  · rw [if_neg h]
    dsimp only
    by_cases h2 : 8 ≤ 8 + j ∧ 8 + j < 8 + k
    · rw [if_pos h2, if_pos (by omega)]
    · rw [if_neg h2, if_neg (by omega)]
abbrev N0 : Nat → Int32 := gk 16
theorem N0_l (j : Nat) : N0 (24 + j) = 0 := if_neg (by omega)
theorem N0_s {j : Nat} (h : j < 6) : N0 (2 + j) = 0 := if_neg (by omega)
theorem up5 (a b c d e : Nat) : va_up (va_up (va_up (va_up (va_up (fun _ => none) 0 (some a)) 1 (some b)) 2 (some c)) 3 (some d)) 4 (some e) = fun j => ([some a, some b, some c, some d, some e] : List (Option Nat)).getD j none := by
  funext j
  unfold va_up
  have h : j = 0 ∨ j = 1 ∨ j = 2 ∨ j = 3 ∨ j = 4 ∨ 5 ≤ j := by omega
  rcases h with rfl | rfl | rfl | rfl | rfl | h
  · rfl
  · rfl
  · rfl
  · rfl
  · rfl
  · obtain ⟨k, rfl⟩ : ∃ k, j = k + 5 := ⟨j - 5, by omega⟩
    rw [if_neg (by omega), if_neg (by omega), if_neg (by omega), if_neg (by omega), if_neg (by omega)]
    rfl
-- X2_init
theorem hq2_0 : Cond.methodLink RX2 3 objectInit ∈ wsX2_init := by decide +kernel
theorem hq2_1 : Cond.instanceMethod objectInit ∈ wsX2_init := by decide +kernel
theorem hq2_2 : Cond.code objectInit ⟨#[0xb1]⟩ 1 none ∈ wsX2_init := by decide +kernel
theorem hq2_3 : Cond.arrayClass .int ∈ wsX2_init := by decide +kernel
theorem hq2_4 : ∀ w ∈ u_ws RX2 TX2 5, w ∈ wsX2_init := by decide +kernel
theorem hq2_5 : Cond.fieldLink RX2 9 "SecretSteps$Program" "lines" "[I" ∈ wsX2_init := by decide +kernel
theorem hq2_6 : Cond.fieldLink RX2 15 "SecretSteps$Program" "cells" "[I" ∈ wsX2_init := by decide +kernel
theorem hq2_7 : Cond.fieldLink RX2 18 "SecretSteps$Program" "starts" "[I" ∈ wsX2_init := by decide +kernel
def rm2_init : Room := { frames := 1, cells := 3, slots := 102, locals := 12 }
set_option maxHeartbeats 4000000 in
set_option maxRecDepth 100000 in
theorem n2_lp {p : Program} {l : Launch} {e : Env} {s : State} {m : MethodId} {args : Array Value} {below : List Frame} {meth : Method} {c : Code} {G : gG} {A : Nat → Prop} {Q : State → Prop} {h q0 q1 q2 : Nat} (C : CX p s m args meth c G A cX2_init 2 RX2 wsX2_init) (kk : GG p l e rm2_init s m args below meth c G A 2 3 102 Q [(h, oB 2 [.ref q0, .ref q1, .ref q2, .int 0, .int 0]), (q0, aI G 80 (fun _ => 0)), (q1, aI G 16 (fun j => gk (16) (8 + j))), (q2, aI G 6 (fun _ => 0))] [(0, .ref h), (1, .int (nI (16)))] 49 []) : ∀ (d k : Nat), k + d = 16 → GG p l e rm2_init s m args below meth c G A 2 3 102 Q [(h, oB 2 [.ref q0, .ref q1, .ref q2, .int 0, .int 0]), (q0, aI G 80 (fun _ => 0)), (q1, aI G 16 (fun j => gk (k) (8 + j))), (q2, aI G 6 (fun _ => 0))] [(0, .ref h), (1, .int (nI (k)))] 30 [] := by
  intro d
  induction d with
  | zero =>
    intro k hk
    refine g_iload_n C dX2_init_30 rfl 1 rfl ?_
    refine g_bipush (v := (16 : Int32)) C dX2_init_31 (by decide +kernel) ?_
    have e : k = 16 := by omega
    subst e
    refine g_icmp_ge (tgt := 49) C dX2_init_33 (by decide) (fun _ => kk) (fun z => absurd (by decide +kernel) z)
  | succ d ih =>
    intro k hk
    refine g_iload_n C dX2_init_30 rfl 1 rfl ?_
    refine g_bipush (v := (16 : Int32)) C dX2_init_31 (by decide +kernel) ?_
    refine g_icmp_ge (tgt := 49) C dX2_init_33 (by decide) (fun z => absurd ((nI_leI (a := 16) (by decide) (by omega)).mp z) (by omega)) (fun _ => ?_)
    refine g_aload_n C dX2_init_36 rfl 0 rfl ?_
    refine g_get (C0 := RX2) (T := TX2) (N := 5) (ci := 2) (v := .ref q1) C hq2_4 0 rfl rfl 1 (by decide) hq2_6 rfl dX2_init_37 ?_
    refine g_iload_n C dX2_init_40 rfl 1 rfl ?_
    refine g_iload_n C dX2_init_41 rfl 1 rfl ?_
    refine g_iast (WS' := [(h, oB 2 [.ref q0, .ref q1, .ref q2, .int 0, .int 0]), (q0, aI G 80 (fun _ => 0)), (q1, aI G 16 (fun j => gk (k + 1) (8 + j))), (q2, aI G 6 (fun _ => 0))]) C 2 rfl (inb_nI (show k < 16 by omega) (by decide)) (nI_clamp (show k < 2 ^ 31 by omega)) dX2_init_42 (by rw [← gk_c]; rfl) ?_
    refine g_iinc (v := nI (k + 1)) C dX2_init_43 1 rfl (nI_add k 1) (by decide) [1, 0] rfl ?_
    refine g_goto (tgt := 30) C dX2_init_46 (by decide) ?_
    exact ih (k + 1) (by omega)
set_option maxHeartbeats 4000000 in
set_option maxRecDepth 100000 in
theorem n2_init {l : Launch} {G : gG} {h : Nat} : MN l yX2_init wsX2_init rm2_init G [.ref h] [(h, oB 2 [.null, .null, .null, .int 0, .int 0])] 3 102 (fun a => [(h, oB 2 [.ref (a 0), .ref (a 1), .ref (a 2), .int (N0 0), .int (N0 1)]), ((a 0), aI G 80 (fun j => N0 (24 + j))), ((a 1), aI G 16 (fun j => N0 (8 + j))), ((a 2), aI G 6 (fun j => N0 (2 + j)))]) := by
  refine MN_of (cc := cX2_init) (nL := 2) (lv := [(0, .ref h)]) (by decide +kernel) rfl rfl (Nat.le_of_ble_eq_true rfl) rfl ?_
  intro p e s m args below meth c A Q C hin2 hao hR
  refine g_aload_n C dX2_init_0 rfl 0 rfl ?_
  refine g_oinit C hq2_0 hq2_1 hq2_2 (Nat.le_of_ble_eq_true rfl) (Nat.le_of_ble_eq_true rfl) dX2_init_1 ?_
  refine g_aload_n C dX2_init_4 rfl 0 rfl ?_
  refine g_bipush (v := (80 : Int32)) C dX2_init_5 (by decide +kernel) ?_
  refine g_newi C hq2_3 80 (by decide +kernel) (by decide +kernel) (Nat.le_of_ble_eq_true rfl) (Nat.le_of_ble_eq_true rfl) (Nat.le_of_ble_eq_true rfl) dX2_init_7 (cells' := 1) (slots' := 80) rfl rfl (fun q0 => ?_)
  refine g_wsE (WS' := [(h, oB 2 [.null, .null, .null, .int 0, .int 0]), (q0, aI G 80 (fun _ => 0))]) rfl ?_
  refine g_putF (C0 := RX2) (T := TX2) (N := 5) (ci := 2) (ty := .array .int) (WS' := [(h, oB 2 [.ref q0, .null, .null, .int 0, .int 0]), (q0, aI G 80 (fun _ => 0))]) C hin2 hq2_4 tyX2 tyX2_ok nmX2 0 rfl rfl 0 (by decide) hq2_5 rfl rfl (by decide +kernel) rfl rfl (Nat.le_of_ble_eq_true rfl) dX2_init_9 rfl ?_
  refine g_aload_n C dX2_init_12 rfl 0 rfl ?_
  refine g_bipush (v := (16 : Int32)) C dX2_init_13 (by decide +kernel) ?_
  refine g_newi C hq2_3 16 (by decide +kernel) (by decide +kernel) (Nat.le_of_ble_eq_true rfl) (Nat.le_of_ble_eq_true rfl) (Nat.le_of_ble_eq_true rfl) dX2_init_15 (cells' := 2) (slots' := 96) rfl rfl (fun q1 => ?_)
  refine g_wsE (WS' := [(h, oB 2 [.ref q0, .null, .null, .int 0, .int 0]), (q0, aI G 80 (fun _ => 0)), (q1, aI G 16 (fun _ => 0))]) rfl ?_
  refine g_putF (C0 := RX2) (T := TX2) (N := 5) (ci := 2) (ty := .array .int) (WS' := [(h, oB 2 [.ref q0, .ref q1, .null, .int 0, .int 0]), (q0, aI G 80 (fun _ => 0)), (q1, aI G 16 (fun _ => 0))]) C hin2 hq2_4 tyX2 tyX2_ok nmX2 0 rfl rfl 1 (by decide) hq2_6 rfl rfl (by decide +kernel) rfl rfl (Nat.le_of_ble_eq_true rfl) dX2_init_17 rfl ?_
  refine g_aload_n C dX2_init_20 rfl 0 rfl ?_
  refine g_bipush (v := (6 : Int32)) C dX2_init_21 (by decide +kernel) ?_
  refine g_newi C hq2_3 6 (by decide +kernel) (by decide +kernel) (Nat.le_of_ble_eq_true rfl) (Nat.le_of_ble_eq_true rfl) (Nat.le_of_ble_eq_true rfl) dX2_init_23 (cells' := 3) (slots' := 102) rfl rfl (fun q2 => ?_)
  refine g_wsE (WS' := [(h, oB 2 [.ref q0, .ref q1, .null, .int 0, .int 0]), (q0, aI G 80 (fun _ => 0)), (q1, aI G 16 (fun _ => 0)), (q2, aI G 6 (fun _ => 0))]) rfl ?_
  refine g_putF (C0 := RX2) (T := TX2) (N := 5) (ci := 2) (ty := .array .int) (WS' := [(h, oB 2 [.ref q0, .ref q1, .ref q2, .int 0, .int 0]), (q0, aI G 80 (fun _ => 0)), (q1, aI G 16 (fun _ => 0)), (q2, aI G 6 (fun _ => 0))]) C hin2 hq2_4 tyX2 tyX2_ok nmX2 0 rfl rfl 2 (by decide) hq2_7 rfl rfl (by decide +kernel) rfl rfl (Nat.le_of_ble_eq_true rfl) dX2_init_25 rfl ?_
  refine g_iconst (v := (0 : Int32)) C dX2_init_28 (by decide +kernel) ?_
  refine g_istore_n C dX2_init_29 rfl (by decide) [1, 0] rfl ?_
  refine g_wsE (WS' := [(h, oB 2 [.ref q0, .ref q1, .ref q2, .int 0, .int 0]), (q0, aI G 80 (fun _ => 0)), (q1, aI G 16 (fun j => gk (0) (8 + j))), (q2, aI G 6 (fun _ => 0))]) (by rw [gk_0c]) ?_
  refine n2_lp C ?_ 16 0 rfl
  refine g_conv (WS' := [(h, oB 2 [.ref q0, .ref q1, .ref q2, .int (N0 0), .int (N0 1)]), (q0, aI G 80 (fun j => N0 (24 + j))), (q1, aI G 16 (fun j => N0 (8 + j))), (q2, aI G 6 (fun j => N0 (2 + j)))]) (wl_cons cEq_rf (wl_cons (cEq_i fun j hj => (N0_l j).symm) (wl_cons cEq_rf (wl_cons (cEq_i fun j hj => (N0_s hj).symm) wl_nil)))) ?_
  exact hR (fun k => ([q0, q1, q2] : List Nat).getD k 0) _ _ dX2_init_49
-- X0_init
theorem hq0_0 : Cond.methodLink RX0 5 objectInit ∈ wsX0_init := by decide +kernel
theorem hq0_1 : Cond.instanceMethod objectInit ∈ wsX0_init := by decide +kernel
theorem hq0_2 : Cond.code objectInit ⟨#[0xb1]⟩ 1 none ∈ wsX0_init := by decide +kernel
theorem hq0_3 : Cond.arrayClass .boolean ∈ wsX0_init := by decide +kernel
theorem hq0_4 : ∀ w ∈ u_ws RX0 TX0 6, w ∈ wsX0_init := by decide +kernel
theorem hq0_5 : Cond.fieldLink RX0 11 "SecretSteps$Flow" "come" "[Z" ∈ wsX0_init := by decide +kernel
theorem hq0_6 : Cond.arrayClass .int ∈ wsX0_init := by decide +kernel
theorem hq0_7 : Cond.fieldLink RX0 15 "SecretSteps$Flow" "taints" "[I" ∈ wsX0_init := by decide +kernel
theorem hq0_8 : Cond.fieldLink RX0 19 "SecretSteps$Flow" "knowns" "[I" ∈ wsX0_init := by decide +kernel
theorem hq0_9 : Cond.fieldLink RX0 22 "SecretSteps$Flow" "outKnowns" "[I" ∈ wsX0_init := by decide +kernel
def rm0_init : Room := { frames := 1, cells := 4, slots := 174, locals := 12 }
set_option maxHeartbeats 4000000 in
set_option maxRecDepth 100000 in
theorem n0_init {l : Launch} {G : gG} {h : Nat} : MN l yX0_init wsX0_init rm0_init G [.ref h] [(h, oB 0 [.null, .null, .null, .null, .int 0, .int 0])] 4 174 (fun a => [(h, oB 0 [.ref (a 0), .ref (a 1), .ref (a 2), .ref (a 3), .int 0, .int 0]), ((a 0), aZ G 21 (fun _ => 0)), ((a 1), aI G 21 (fun _ => 0)), ((a 2), aI G 126 (fun _ => 0)), ((a 3), aI G 6 (fun _ => 0))]) := by
  refine MN_of (cc := cX0_init) (nL := 1) (lv := [(0, .ref h)]) (by decide +kernel) rfl rfl (Nat.le_of_ble_eq_true rfl) rfl ?_
  intro p e s m args below meth c A Q C hin2 hao hR
  refine g_aload_n C dX0_init_0 rfl 0 rfl ?_
  refine g_oinit C hq0_0 hq0_1 hq0_2 (Nat.le_of_ble_eq_true rfl) (Nat.le_of_ble_eq_true rfl) dX0_init_1 ?_
  refine g_aload_n C dX0_init_4 rfl 0 rfl ?_
  refine g_bipush (v := (21 : Int32)) C dX0_init_5 (by decide +kernel) ?_
  refine g_newz C hq0_3 21 (by decide +kernel) (by decide +kernel) (Nat.le_of_ble_eq_true rfl) (Nat.le_of_ble_eq_true rfl) (Nat.le_of_ble_eq_true rfl) dX0_init_7 (cells' := 1) (slots' := 21) rfl rfl (fun q0 => ?_)
  refine g_wsE (WS' := [(h, oB 0 [.null, .null, .null, .null, .int 0, .int 0]), (q0, aZ G 21 (fun _ => 0))]) rfl ?_
  refine g_putF (C0 := RX0) (T := TX0) (N := 6) (ci := 0) (ty := .array .boolean) (WS' := [(h, oB 0 [.ref q0, .null, .null, .null, .int 0, .int 0]), (q0, aZ G 21 (fun _ => 0))]) C hin2 hq0_4 tyX0 tyX0_ok nmX0 0 rfl rfl 0 (by decide) hq0_5 rfl rfl (by decide +kernel) rfl rfl (Nat.le_of_ble_eq_true rfl) dX0_init_9 rfl ?_
  refine g_aload_n C dX0_init_12 rfl 0 rfl ?_
  refine g_bipush (v := (21 : Int32)) C dX0_init_13 (by decide +kernel) ?_
  refine g_newi C hq0_6 21 (by decide +kernel) (by decide +kernel) (Nat.le_of_ble_eq_true rfl) (Nat.le_of_ble_eq_true rfl) (Nat.le_of_ble_eq_true rfl) dX0_init_15 (cells' := 2) (slots' := 42) rfl rfl (fun q1 => ?_)
  refine g_wsE (WS' := [(h, oB 0 [.ref q0, .null, .null, .null, .int 0, .int 0]), (q0, aZ G 21 (fun _ => 0)), (q1, aI G 21 (fun _ => 0))]) rfl ?_
  refine g_putF (C0 := RX0) (T := TX0) (N := 6) (ci := 0) (ty := .array .int) (WS' := [(h, oB 0 [.ref q0, .ref q1, .null, .null, .int 0, .int 0]), (q0, aZ G 21 (fun _ => 0)), (q1, aI G 21 (fun _ => 0))]) C hin2 hq0_4 tyX0 tyX0_ok nmX0 0 rfl rfl 1 (by decide) hq0_7 rfl rfl (by decide +kernel) rfl rfl (Nat.le_of_ble_eq_true rfl) dX0_init_17 rfl ?_
  refine g_aload_n C dX0_init_20 rfl 0 rfl ?_
  refine g_bipush (v := (126 : Int32)) C dX0_init_21 (by decide +kernel) ?_
  refine g_newi C hq0_6 126 (by decide +kernel) (by decide +kernel) (Nat.le_of_ble_eq_true rfl) (Nat.le_of_ble_eq_true rfl) (Nat.le_of_ble_eq_true rfl) dX0_init_23 (cells' := 3) (slots' := 168) rfl rfl (fun q2 => ?_)
  refine g_wsE (WS' := [(h, oB 0 [.ref q0, .ref q1, .null, .null, .int 0, .int 0]), (q0, aZ G 21 (fun _ => 0)), (q1, aI G 21 (fun _ => 0)), (q2, aI G 126 (fun _ => 0))]) rfl ?_
  refine g_putF (C0 := RX0) (T := TX0) (N := 6) (ci := 0) (ty := .array .int) (WS' := [(h, oB 0 [.ref q0, .ref q1, .ref q2, .null, .int 0, .int 0]), (q0, aZ G 21 (fun _ => 0)), (q1, aI G 21 (fun _ => 0)), (q2, aI G 126 (fun _ => 0))]) C hin2 hq0_4 tyX0 tyX0_ok nmX0 0 rfl rfl 2 (by decide) hq0_8 rfl rfl (by decide +kernel) rfl rfl (Nat.le_of_ble_eq_true rfl) dX0_init_25 rfl ?_
  refine g_aload_n C dX0_init_28 rfl 0 rfl ?_
  refine g_bipush (v := (6 : Int32)) C dX0_init_29 (by decide +kernel) ?_
  refine g_newi C hq0_6 6 (by decide +kernel) (by decide +kernel) (Nat.le_of_ble_eq_true rfl) (Nat.le_of_ble_eq_true rfl) (Nat.le_of_ble_eq_true rfl) dX0_init_31 (cells' := 4) (slots' := 174) rfl rfl (fun q3 => ?_)
  refine g_wsE (WS' := [(h, oB 0 [.ref q0, .ref q1, .ref q2, .null, .int 0, .int 0]), (q0, aZ G 21 (fun _ => 0)), (q1, aI G 21 (fun _ => 0)), (q2, aI G 126 (fun _ => 0)), (q3, aI G 6 (fun _ => 0))]) rfl ?_
  refine g_putF (C0 := RX0) (T := TX0) (N := 6) (ci := 0) (ty := .array .int) (WS' := [(h, oB 0 [.ref q0, .ref q1, .ref q2, .ref q3, .int 0, .int 0]), (q0, aZ G 21 (fun _ => 0)), (q1, aI G 21 (fun _ => 0)), (q2, aI G 126 (fun _ => 0)), (q3, aI G 6 (fun _ => 0))]) C hin2 hq0_4 tyX0 tyX0_ok nmX0 0 rfl rfl 3 (by decide) hq0_9 rfl rfl (by decide +kernel) rfl rfl (Nat.le_of_ble_eq_true rfl) dX0_init_33 rfl ?_
  exact hR (fun k => ([q0, q1, q2, q3] : List Nat).getD k 0) _ _ dX0_init_36
-- X3_init
theorem hq3_0 : Cond.methodLink RX3 3 objectInit ∈ wsX3_init := by decide +kernel
theorem hq3_1 : Cond.instanceMethod objectInit ∈ wsX3_init := by decide +kernel
theorem hq3_2 : Cond.code objectInit ⟨#[0xb1]⟩ 1 none ∈ wsX3_init := by decide +kernel
theorem hq3_3 : Cond.arrayClass .int ∈ wsX3_init := by decide +kernel
theorem hq3_4 : ∀ w ∈ u_ws RX3 TX3 5, w ∈ wsX3_init := by decide +kernel
theorem hq3_5 : Cond.fieldLink RX3 9 "SecretSteps$Run" "values" "[I" ∈ wsX3_init := by decide +kernel
theorem hq3_6 : Cond.fieldLink RX3 15 "SecretSteps$Run" "sights" "[I" ∈ wsX3_init := by decide +kernel
def rm3_init : Room := { frames := 1, cells := 2, slots := 67, locals := 12 }
set_option maxHeartbeats 4000000 in
set_option maxRecDepth 100000 in
theorem n3_init {l : Launch} {G : gG} {h : Nat} : MN l yX3_init wsX3_init rm3_init G [.ref h] [(h, oB 3 [.null, .null, .int 0, .int 0, .int 0])] 2 67 (fun a => [(h, oB 3 [.ref (a 0), .ref (a 1), .int 0, .int 0, .int 0]), ((a 0), aI G 6 (fun _ => 0)), ((a 1), aI G 61 (fun _ => 0))]) := by
  refine MN_of (cc := cX3_init) (nL := 1) (lv := [(0, .ref h)]) (by decide +kernel) rfl rfl (Nat.le_of_ble_eq_true rfl) rfl ?_
  intro p e s m args below meth c A Q C hin2 hao hR
  refine g_aload_n C dX3_init_0 rfl 0 rfl ?_
  refine g_oinit C hq3_0 hq3_1 hq3_2 (Nat.le_of_ble_eq_true rfl) (Nat.le_of_ble_eq_true rfl) dX3_init_1 ?_
  refine g_aload_n C dX3_init_4 rfl 0 rfl ?_
  refine g_bipush (v := (6 : Int32)) C dX3_init_5 (by decide +kernel) ?_
  refine g_newi C hq3_3 6 (by decide +kernel) (by decide +kernel) (Nat.le_of_ble_eq_true rfl) (Nat.le_of_ble_eq_true rfl) (Nat.le_of_ble_eq_true rfl) dX3_init_7 (cells' := 1) (slots' := 6) rfl rfl (fun q0 => ?_)
  refine g_wsE (WS' := [(h, oB 3 [.null, .null, .int 0, .int 0, .int 0]), (q0, aI G 6 (fun _ => 0))]) rfl ?_
  refine g_putF (C0 := RX3) (T := TX3) (N := 5) (ci := 3) (ty := .array .int) (WS' := [(h, oB 3 [.ref q0, .null, .int 0, .int 0, .int 0]), (q0, aI G 6 (fun _ => 0))]) C hin2 hq3_4 tyX3 tyX3_ok nmX3 0 rfl rfl 0 (by decide) hq3_5 rfl rfl (by decide +kernel) rfl rfl (Nat.le_of_ble_eq_true rfl) dX3_init_9 rfl ?_
  refine g_aload_n C dX3_init_12 rfl 0 rfl ?_
  refine g_bipush (v := (61 : Int32)) C dX3_init_13 (by decide +kernel) ?_
  refine g_newi C hq3_3 61 (by decide +kernel) (by decide +kernel) (Nat.le_of_ble_eq_true rfl) (Nat.le_of_ble_eq_true rfl) (Nat.le_of_ble_eq_true rfl) dX3_init_15 (cells' := 2) (slots' := 67) rfl rfl (fun q1 => ?_)
  refine g_wsE (WS' := [(h, oB 3 [.ref q0, .null, .int 0, .int 0, .int 0]), (q0, aI G 6 (fun _ => 0)), (q1, aI G 61 (fun _ => 0))]) rfl ?_
  refine g_putF (C0 := RX3) (T := TX3) (N := 5) (ci := 3) (ty := .array .int) (WS' := [(h, oB 3 [.ref q0, .ref q1, .int 0, .int 0, .int 0]), (q0, aI G 6 (fun _ => 0)), (q1, aI G 61 (fun _ => 0))]) C hin2 hq3_4 tyX3 tyX3_ok nmX3 0 rfl rfl 1 (by decide) hq3_6 rfl rfl (by decide +kernel) rfl rfl (Nat.le_of_ble_eq_true rfl) dX3_init_17 rfl ?_
  exact hR (fun k => ([q0, q1] : List Nat).getD k 0) _ _ dX3_init_20
-- X4_init
theorem hq4_0 : Cond.methodLink RX4 5 objectInit ∈ wsX4_init := by decide +kernel
theorem hq4_1 : Cond.instanceMethod objectInit ∈ wsX4_init := by decide +kernel
theorem hq4_2 : Cond.code objectInit ⟨#[0xb1]⟩ 1 none ∈ wsX4_init := by decide +kernel
theorem hq4_3 : Cond.arrayClass .long ∈ wsX4_init := by decide +kernel
theorem hq4_4 : ∀ w ∈ u_ws RX4 TX4 3, w ∈ wsX4_init := by decide +kernel
theorem hq4_5 : Cond.fieldLink RX4 11 "SecretSteps$Survey" "packed" "[J" ∈ wsX4_init := by decide +kernel
def rm4_init : Room := { frames := 1, cells := 1, slots := 2816, locals := 12 }
set_option maxHeartbeats 4000000 in
set_option maxRecDepth 100000 in
theorem n4_init {l : Launch} {G : gG} {h : Nat} : MN l yX4_init wsX4_init rm4_init G [.ref h] [(h, oB 4 [.null, .int 0, .int 0])] 1 2816 (fun a => [(h, oB 4 [.ref (a 0), .int 0, .int 0]), ((a 0), aJ G 2816 (fun _ => 0))]) := by
  refine MN_of (cc := cX4_init) (nL := 1) (lv := [(0, .ref h)]) (by decide +kernel) rfl rfl (Nat.le_of_ble_eq_true rfl) rfl ?_
  intro p e s m args below meth c A Q C hin2 hao hR
  refine g_aload_n C dX4_init_0 rfl 0 rfl ?_
  refine g_oinit C hq4_0 hq4_1 hq4_2 (Nat.le_of_ble_eq_true rfl) (Nat.le_of_ble_eq_true rfl) dX4_init_1 ?_
  refine g_aload_n C dX4_init_4 rfl 0 rfl ?_
  refine g_sipush (v := (2816 : Int32)) C dX4_init_5 (by decide +kernel) ?_
  refine g_newl C hq4_3 2816 (by decide +kernel) (by decide +kernel) (Nat.le_of_ble_eq_true rfl) (Nat.le_of_ble_eq_true rfl) (Nat.le_of_ble_eq_true rfl) dX4_init_8 (cells' := 1) (slots' := 2816) rfl rfl (fun q0 => ?_)
  refine g_wsE (WS' := [(h, oB 4 [.null, .int 0, .int 0]), (q0, aJ G 2816 (fun _ => 0))]) rfl ?_
  refine g_putF (C0 := RX4) (T := TX4) (N := 3) (ci := 4) (ty := .array .long) (WS' := [(h, oB 4 [.ref q0, .int 0, .int 0]), (q0, aJ G 2816 (fun _ => 0))]) C hin2 hq4_4 tyX4 tyX4_ok nmX4 0 rfl rfl 0 (by decide) hq4_5 rfl rfl (by decide +kernel) rfl rfl (Nat.le_of_ble_eq_true rfl) dX4_init_10 rfl ?_
  exact hR (fun k => ([q0] : List Nat).getD k 0) _ _ dX4_init_13
-- X5_init
theorem hq5_0 : Cond.methodLink RX5 3 objectInit ∈ wsX5_init := by decide +kernel
theorem hq5_1 : Cond.instanceMethod objectInit ∈ wsX5_init := by decide +kernel
theorem hq5_2 : Cond.code objectInit ⟨#[0xb1]⟩ 1 none ∈ wsX5_init := by decide +kernel
theorem hq5_3 : Cond.arrayClass .int ∈ wsX5_init := by decide +kernel
theorem hq5_4 : ∀ w ∈ u_ws RX5 TX5 8, w ∈ wsX5_init := by decide +kernel
theorem hq5_5 : Cond.fieldLink RX5 9 "SecretSteps$Text" "bytes" "[I" ∈ wsX5_init := by decide +kernel
theorem hq5_6 : Cond.fieldLink RX5 15 "SecretSteps$Text" "letters" "[I" ∈ wsX5_init := by decide +kernel
theorem hq5_7 : Cond.fieldLink RX5 18 "SecretSteps$Text" "arguments" "[I" ∈ wsX5_init := by decide +kernel
def rm5_init : Room := { frames := 1, cells := 3, slots := 320, locals := 12 }
set_option maxHeartbeats 4000000 in
set_option maxRecDepth 100000 in
theorem n5_init {l : Launch} {G : gG} {h : Nat} : MN l yX5_init wsX5_init rm5_init G [.ref h] [(h, oB 5 [.null, .int 0, .null, .null, .int 0, .int 0, .int 0, .int 0])] 3 320 (fun a => [(h, oB 5 [.ref (a 0), .int 0, .ref (a 1), .ref (a 2), .int 0, .int 0, .int 0, .int 0]), ((a 0), aI G 120 (fun _ => 0)), ((a 1), aI G 40 (fun _ => 0)), ((a 2), aI G 160 (fun _ => 0))]) := by
  refine MN_of (cc := cX5_init) (nL := 1) (lv := [(0, .ref h)]) (by decide +kernel) rfl rfl (Nat.le_of_ble_eq_true rfl) rfl ?_
  intro p e s m args below meth c A Q C hin2 hao hR
  refine g_aload_n C dX5_init_0 rfl 0 rfl ?_
  refine g_oinit C hq5_0 hq5_1 hq5_2 (Nat.le_of_ble_eq_true rfl) (Nat.le_of_ble_eq_true rfl) dX5_init_1 ?_
  refine g_aload_n C dX5_init_4 rfl 0 rfl ?_
  refine g_bipush (v := (120 : Int32)) C dX5_init_5 (by decide +kernel) ?_
  refine g_newi C hq5_3 120 (by decide +kernel) (by decide +kernel) (Nat.le_of_ble_eq_true rfl) (Nat.le_of_ble_eq_true rfl) (Nat.le_of_ble_eq_true rfl) dX5_init_7 (cells' := 1) (slots' := 120) rfl rfl (fun q0 => ?_)
  refine g_wsE (WS' := [(h, oB 5 [.null, .int 0, .null, .null, .int 0, .int 0, .int 0, .int 0]), (q0, aI G 120 (fun _ => 0))]) rfl ?_
  refine g_putF (C0 := RX5) (T := TX5) (N := 8) (ci := 5) (ty := .array .int) (WS' := [(h, oB 5 [.ref q0, .int 0, .null, .null, .int 0, .int 0, .int 0, .int 0]), (q0, aI G 120 (fun _ => 0))]) C hin2 hq5_4 tyX5 tyX5_ok nmX5 0 rfl rfl 0 (by decide) hq5_5 rfl rfl (by decide +kernel) rfl rfl (Nat.le_of_ble_eq_true rfl) dX5_init_9 rfl ?_
  refine g_aload_n C dX5_init_12 rfl 0 rfl ?_
  refine g_bipush (v := (40 : Int32)) C dX5_init_13 (by decide +kernel) ?_
  refine g_newi C hq5_3 40 (by decide +kernel) (by decide +kernel) (Nat.le_of_ble_eq_true rfl) (Nat.le_of_ble_eq_true rfl) (Nat.le_of_ble_eq_true rfl) dX5_init_15 (cells' := 2) (slots' := 160) rfl rfl (fun q1 => ?_)
  refine g_wsE (WS' := [(h, oB 5 [.ref q0, .int 0, .null, .null, .int 0, .int 0, .int 0, .int 0]), (q0, aI G 120 (fun _ => 0)), (q1, aI G 40 (fun _ => 0))]) rfl ?_
  refine g_putF (C0 := RX5) (T := TX5) (N := 8) (ci := 5) (ty := .array .int) (WS' := [(h, oB 5 [.ref q0, .int 0, .ref q1, .null, .int 0, .int 0, .int 0, .int 0]), (q0, aI G 120 (fun _ => 0)), (q1, aI G 40 (fun _ => 0))]) C hin2 hq5_4 tyX5 tyX5_ok nmX5 0 rfl rfl 2 (by decide) hq5_6 rfl rfl (by decide +kernel) rfl rfl (Nat.le_of_ble_eq_true rfl) dX5_init_17 rfl ?_
  refine g_aload_n C dX5_init_20 rfl 0 rfl ?_
  refine g_sipush (v := (160 : Int32)) C dX5_init_21 (by decide +kernel) ?_
  refine g_newi C hq5_3 160 (by decide +kernel) (by decide +kernel) (Nat.le_of_ble_eq_true rfl) (Nat.le_of_ble_eq_true rfl) (Nat.le_of_ble_eq_true rfl) dX5_init_24 (cells' := 3) (slots' := 320) rfl rfl (fun q2 => ?_)
  refine g_wsE (WS' := [(h, oB 5 [.ref q0, .int 0, .ref q1, .null, .int 0, .int 0, .int 0, .int 0]), (q0, aI G 120 (fun _ => 0)), (q1, aI G 40 (fun _ => 0)), (q2, aI G 160 (fun _ => 0))]) rfl ?_
  refine g_putF (C0 := RX5) (T := TX5) (N := 8) (ci := 5) (ty := .array .int) (WS' := [(h, oB 5 [.ref q0, .int 0, .ref q1, .ref q2, .int 0, .int 0, .int 0, .int 0]), (q0, aI G 120 (fun _ => 0)), (q1, aI G 40 (fun _ => 0)), (q2, aI G 160 (fun _ => 0))]) C hin2 hq5_4 tyX5 tyX5_ok nmX5 0 rfl rfl 3 (by decide) hq5_7 rfl rfl (by decide +kernel) rfl rfl (Nat.le_of_ble_eq_true rfl) dX5_init_26 rfl ?_
  exact hR (fun k => ([q0, q1, q2] : List Nat).getD k 0) _ _ dX5_init_29
-- X1_init
theorem hq1_0 : Cond.methodLink RX1 3 objectInit ∈ wsX1_init := by decide +kernel
theorem hq1_1 : Cond.instanceMethod objectInit ∈ wsX1_init := by decide +kernel
theorem hq1_2 : Cond.code objectInit ⟨#[0xb1]⟩ 1 none ∈ wsX1_init := by decide +kernel
theorem hq1_3 : Cond.classLink RX1 9 RX2 ∈ wsX1_init := by decide +kernel
theorem hq1_4 : ∀ w ∈ u_ws RX1 TX1 3, w ∈ wsX1_init := by decide +kernel
theorem hq1_5 : Cond.fieldLink RX1 11 "SecretSteps$History" "states" "[LSecretSteps$Program;" ∈ wsX1_init := by decide +kernel
theorem hq1_6 : ∀ w ∈ u_ws RX2 TX2 5, w ∈ wsX1_init := by decide +kernel
theorem hq1_7 : Cond.instantiable RX2 5 ∈ wsX1_init := by decide +kernel
theorem hq1_8 : Cond.initialized RX2 ∈ wsX1_init := by decide +kernel
theorem hq1_9 : Cond.methodLink RX1 17 yX2_init ∈ wsX1_init := by decide +kernel
theorem hq1_10 : Cond.instanceMethod yX2_init ∈ wsX1_init := by decide +kernel
def rm1_init : Room := { frames := 2, cells := 21, slots := 540, locals := 33 }
set_option maxHeartbeats 4000000 in
set_option maxRecDepth 100000 in
theorem n1_init {l : Launch} {G : gG} {h : Nat} : MN l yX1_init wsX1_init rm1_init G [.ref h] [(h, oB 1 [.null, .int 0, .int 0])] 21 540 (fun a => [(h, oB 1 [.ref (a 0), .int 0, .int 0]), ((a 0), aP G 5 (fun j => ([some (a 1), some (a 5), some (a 9), some (a 13), some (a 17)] : List (Option Nat)).getD j none)), ((a 1), oB 2 [.ref (a 2), .ref (a 3), .ref (a 4), .int (N0 0), .int (N0 1)]), ((a 2), aI G 80 (fun j => N0 (24 + j))), ((a 3), aI G 16 (fun j => N0 (8 + j))), ((a 4), aI G 6 (fun j => N0 (2 + j))), ((a 5), oB 2 [.ref (a 6), .ref (a 7), .ref (a 8), .int (N0 0), .int (N0 1)]), ((a 6), aI G 80 (fun j => N0 (24 + j))), ((a 7), aI G 16 (fun j => N0 (8 + j))), ((a 8), aI G 6 (fun j => N0 (2 + j))), ((a 9), oB 2 [.ref (a 10), .ref (a 11), .ref (a 12), .int (N0 0), .int (N0 1)]), ((a 10), aI G 80 (fun j => N0 (24 + j))), ((a 11), aI G 16 (fun j => N0 (8 + j))), ((a 12), aI G 6 (fun j => N0 (2 + j))), ((a 13), oB 2 [.ref (a 14), .ref (a 15), .ref (a 16), .int (N0 0), .int (N0 1)]), ((a 14), aI G 80 (fun j => N0 (24 + j))), ((a 15), aI G 16 (fun j => N0 (8 + j))), ((a 16), aI G 6 (fun j => N0 (2 + j))), ((a 17), oB 2 [.ref (a 18), .ref (a 19), .ref (a 20), .int (N0 0), .int (N0 1)]), ((a 18), aI G 80 (fun j => N0 (24 + j))), ((a 19), aI G 16 (fun j => N0 (8 + j))), ((a 20), aI G 6 (fun j => N0 (2 + j)))]) := by
  refine MN_of (cc := cX1_init) (nL := 2) (lv := [(0, .ref h)]) (by decide +kernel) rfl rfl (Nat.le_of_ble_eq_true rfl) rfl ?_
  intro p e s m args below meth c A Q C hin2 hao hR
  refine g_aload_n C dX1_init_0 rfl 0 rfl ?_
  refine g_oinit C hq1_0 hq1_1 hq1_2 (Nat.le_of_ble_eq_true rfl) (Nat.le_of_ble_eq_true rfl) dX1_init_1 ?_
  refine g_aload_n C dX1_init_4 rfl 0 rfl ?_
  refine g_iconst (v := (5 : Int32)) C dX1_init_5 (by decide +kernel) ?_
  refine g_newq C hao hq1_3 5 (by decide +kernel) (by decide +kernel) (Nat.le_of_ble_eq_true rfl) (Nat.le_of_ble_eq_true rfl) (Nat.le_of_ble_eq_true rfl) dX1_init_6 (cells' := 1) (slots' := 5) rfl rfl (fun q0 => ?_)
  refine g_wsE (WS' := [(h, oB 1 [.null, .int 0, .int 0]), (q0, aP G 5 (fun _ => none))]) rfl ?_
  refine g_putF (C0 := RX1) (T := TX1) (N := 3) (ci := 1) (ty := .array (.object "SecretSteps$Program")) (WS' := [(h, oB 1 [.ref q0, .int 0, .int 0]), (q0, aP G 5 (fun _ => none))]) C hin2 hq1_4 tyX1 tyX1_ok nmX1 0 rfl rfl 0 (by decide) hq1_5 rfl rfl (by decide +kernel) rfl rfl (Nat.le_of_ble_eq_true rfl) dX1_init_9 rfl ?_
  refine g_iconst (v := (0 : Int32)) C dX1_init_12 (by decide +kernel) ?_
  refine g_istore_n C dX1_init_13 rfl (by decide) [1, 0] rfl ?_
  refine g_iload_n C dX1_init_14 rfl 1 rfl ?_
  refine g_iconst (v := (5 : Int32)) C dX1_init_15 (by decide +kernel) ?_
  refine g_icmp_ge (tgt := 38) C dX1_init_16 (by decide) (fun z => absurd z (by decide +kernel)) (fun _ => ?_)
  refine g_aload_n C dX1_init_19 rfl 0 rfl ?_
  refine g_get (C0 := RX1) (T := TX1) (N := 3) (ci := 1) (v := .ref q0) C hq1_4 0 rfl rfl 0 (by decide) hq1_5 rfl dX1_init_20 ?_
  refine g_iload_n C dX1_init_23 rfl 1 rfl ?_
  refine g_new (C0 := RX2) (T := TX2) (N := 5) (ci := 2) (fs := [.null, .null, .null, .int 0, .int 0]) C hq1_6 tyX2 tyX2_ok hq1_3 hq1_7 hq1_8 rfl (fun j hj => by rcases (show j = 0 ∨ j = 1 ∨ j = 2 ∨ j = 3 ∨ j = 4 by omega) with rfl | rfl | rfl | rfl | rfl <;> rfl) (Nat.le_of_ble_eq_true rfl) (Nat.le_of_ble_eq_true rfl) dX1_init_24 (cells' := 2) (slots' := 10) rfl rfl (fun q1 => ?_)
  refine g_wsE (WS' := [(h, oB 1 [.ref q0, .int 0, .int 0]), (q0, aP G 5 (fun _ => none)), (q1, oB 2 [.null, .null, .null, .int 0, .int 0])]) rfl ?_
  refine g_dup C dX1_init_27 rfl ?_
  refine g_callI (wr := [(h, oB 1 [.ref q0, .int 0, .int 0]), (q0, aP G 5 (fun _ => none))]) (WS' := fun a2 => [(h, oB 1 [.ref q0, .int 0, .int 0]), (q0, aP G 5 (fun _ => none)), (q1, oB 2 [.ref (a2 0), .ref (a2 1), .ref (a2 2), .int (N0 0), .int (N0 1)]), ((a2 0), aI G 80 (fun j => N0 (24 + j))), ((a2 1), aI G 16 (fun j => N0 (8 + j))), ((a2 2), aI G 6 (fun j => N0 (2 + j)))]) C hao (n2_init (h := q1)) gX1_init_X2_init hq1_8 hq1_9 hq1_10 rfl (by decide +kernel) rfl rfl rfl ⟨(Nat.le_of_ble_eq_true rfl), (Nat.le_of_ble_eq_true rfl)⟩ [2] [0, 1] [0, 1, 2, 3, 4, 5] rfl rfl rfl rfl (by decide) (fun _ => rfl) rfl (Nat.le_of_ble_eq_true rfl) ⟨(Nat.le_of_ble_eq_true rfl), (Nat.le_of_ble_eq_true rfl)⟩ dX1_init_28 (cells' := 5) (slots' := 112) rfl rfl (fun a2 => ?_)
  refine g_astq (WS' := [(h, oB 1 [.ref q0, .int 0, .int 0]), (q0, aP G 5 (va_up (fun _ => none) 0 (some q1))), (q1, oB 2 [.ref (a2 0), .ref (a2 1), .ref (a2 2), .int (N0 0), .int (N0 1)]), ((a2 0), aI G 80 (fun j => N0 (24 + j))), ((a2 1), aI G 16 (fun j => N0 (8 + j))), ((a2 2), aI G 6 (fun j => N0 (2 + j)))]) C 1 2 rfl rfl (by decide +kernel) (j := 0) (by decide +kernel) dX1_init_31 rfl ?_
  refine g_iinc (v := (1 : Int32)) C dX1_init_32 1 rfl (by decide +kernel) (by decide) [1, 0] rfl ?_
  refine g_goto (tgt := 14) C dX1_init_35 (by decide) ?_
  refine g_iload_n C dX1_init_14 rfl 1 rfl ?_
  refine g_iconst (v := (5 : Int32)) C dX1_init_15 (by decide +kernel) ?_
  refine g_icmp_ge (tgt := 38) C dX1_init_16 (by decide) (fun z => absurd z (by decide +kernel)) (fun _ => ?_)
  refine g_aload_n C dX1_init_19 rfl 0 rfl ?_
  refine g_get (C0 := RX1) (T := TX1) (N := 3) (ci := 1) (v := .ref q0) C hq1_4 0 rfl rfl 0 (by decide) hq1_5 rfl dX1_init_20 ?_
  refine g_iload_n C dX1_init_23 rfl 1 rfl ?_
  refine g_new (C0 := RX2) (T := TX2) (N := 5) (ci := 2) (fs := [.null, .null, .null, .int 0, .int 0]) C hq1_6 tyX2 tyX2_ok hq1_3 hq1_7 hq1_8 rfl (fun j hj => by rcases (show j = 0 ∨ j = 1 ∨ j = 2 ∨ j = 3 ∨ j = 4 by omega) with rfl | rfl | rfl | rfl | rfl <;> rfl) (Nat.le_of_ble_eq_true rfl) (Nat.le_of_ble_eq_true rfl) dX1_init_24 (cells' := 6) (slots' := 117) rfl rfl (fun q3 => ?_)
  refine g_wsE (WS' := [(h, oB 1 [.ref q0, .int 0, .int 0]), (q0, aP G 5 (va_up (fun _ => none) 0 (some q1))), (q1, oB 2 [.ref (a2 0), .ref (a2 1), .ref (a2 2), .int (N0 0), .int (N0 1)]), ((a2 0), aI G 80 (fun j => N0 (24 + j))), ((a2 1), aI G 16 (fun j => N0 (8 + j))), ((a2 2), aI G 6 (fun j => N0 (2 + j))), (q3, oB 2 [.null, .null, .null, .int 0, .int 0])]) rfl ?_
  refine g_dup C dX1_init_27 rfl ?_
  refine g_callI (wr := [(h, oB 1 [.ref q0, .int 0, .int 0]), (q0, aP G 5 (va_up (fun _ => none) 0 (some q1))), (q1, oB 2 [.ref (a2 0), .ref (a2 1), .ref (a2 2), .int (N0 0), .int (N0 1)]), ((a2 0), aI G 80 (fun j => N0 (24 + j))), ((a2 1), aI G 16 (fun j => N0 (8 + j))), ((a2 2), aI G 6 (fun j => N0 (2 + j)))]) (WS' := fun a4 => [(h, oB 1 [.ref q0, .int 0, .int 0]), (q0, aP G 5 (va_up (fun _ => none) 0 (some q1))), (q1, oB 2 [.ref (a2 0), .ref (a2 1), .ref (a2 2), .int (N0 0), .int (N0 1)]), ((a2 0), aI G 80 (fun j => N0 (24 + j))), ((a2 1), aI G 16 (fun j => N0 (8 + j))), ((a2 2), aI G 6 (fun j => N0 (2 + j))), (q3, oB 2 [.ref (a4 0), .ref (a4 1), .ref (a4 2), .int (N0 0), .int (N0 1)]), ((a4 0), aI G 80 (fun j => N0 (24 + j))), ((a4 1), aI G 16 (fun j => N0 (8 + j))), ((a4 2), aI G 6 (fun j => N0 (2 + j)))]) C hao (n2_init (h := q3)) gX1_init_X2_init hq1_8 hq1_9 hq1_10 rfl (by decide +kernel) rfl rfl rfl ⟨(Nat.le_of_ble_eq_true rfl), (Nat.le_of_ble_eq_true rfl)⟩ [6] [0, 1, 2, 3, 4, 5] [0, 1, 2, 3, 4, 5, 6, 7, 8, 9] rfl rfl rfl rfl (by decide) (fun _ => rfl) rfl (Nat.le_of_ble_eq_true rfl) ⟨(Nat.le_of_ble_eq_true rfl), (Nat.le_of_ble_eq_true rfl)⟩ dX1_init_28 (cells' := 9) (slots' := 219) rfl rfl (fun a4 => ?_)
  refine g_astq (WS' := [(h, oB 1 [.ref q0, .int 0, .int 0]), (q0, aP G 5 (va_up (va_up (fun _ => none) 0 (some q1)) 1 (some q3))), (q1, oB 2 [.ref (a2 0), .ref (a2 1), .ref (a2 2), .int (N0 0), .int (N0 1)]), ((a2 0), aI G 80 (fun j => N0 (24 + j))), ((a2 1), aI G 16 (fun j => N0 (8 + j))), ((a2 2), aI G 6 (fun j => N0 (2 + j))), (q3, oB 2 [.ref (a4 0), .ref (a4 1), .ref (a4 2), .int (N0 0), .int (N0 1)]), ((a4 0), aI G 80 (fun j => N0 (24 + j))), ((a4 1), aI G 16 (fun j => N0 (8 + j))), ((a4 2), aI G 6 (fun j => N0 (2 + j)))]) C 1 6 rfl rfl (by decide +kernel) (j := 1) (by decide +kernel) dX1_init_31 rfl ?_
  refine g_iinc (v := (2 : Int32)) C dX1_init_32 1 rfl (by decide +kernel) (by decide) [1, 0] rfl ?_
  refine g_goto (tgt := 14) C dX1_init_35 (by decide) ?_
  refine g_iload_n C dX1_init_14 rfl 1 rfl ?_
  refine g_iconst (v := (5 : Int32)) C dX1_init_15 (by decide +kernel) ?_
  refine g_icmp_ge (tgt := 38) C dX1_init_16 (by decide) (fun z => absurd z (by decide +kernel)) (fun _ => ?_)
  refine g_aload_n C dX1_init_19 rfl 0 rfl ?_
  refine g_get (C0 := RX1) (T := TX1) (N := 3) (ci := 1) (v := .ref q0) C hq1_4 0 rfl rfl 0 (by decide) hq1_5 rfl dX1_init_20 ?_
  refine g_iload_n C dX1_init_23 rfl 1 rfl ?_
  refine g_new (C0 := RX2) (T := TX2) (N := 5) (ci := 2) (fs := [.null, .null, .null, .int 0, .int 0]) C hq1_6 tyX2 tyX2_ok hq1_3 hq1_7 hq1_8 rfl (fun j hj => by rcases (show j = 0 ∨ j = 1 ∨ j = 2 ∨ j = 3 ∨ j = 4 by omega) with rfl | rfl | rfl | rfl | rfl <;> rfl) (Nat.le_of_ble_eq_true rfl) (Nat.le_of_ble_eq_true rfl) dX1_init_24 (cells' := 10) (slots' := 224) rfl rfl (fun q5 => ?_)
  refine g_wsE (WS' := [(h, oB 1 [.ref q0, .int 0, .int 0]), (q0, aP G 5 (va_up (va_up (fun _ => none) 0 (some q1)) 1 (some q3))), (q1, oB 2 [.ref (a2 0), .ref (a2 1), .ref (a2 2), .int (N0 0), .int (N0 1)]), ((a2 0), aI G 80 (fun j => N0 (24 + j))), ((a2 1), aI G 16 (fun j => N0 (8 + j))), ((a2 2), aI G 6 (fun j => N0 (2 + j))), (q3, oB 2 [.ref (a4 0), .ref (a4 1), .ref (a4 2), .int (N0 0), .int (N0 1)]), ((a4 0), aI G 80 (fun j => N0 (24 + j))), ((a4 1), aI G 16 (fun j => N0 (8 + j))), ((a4 2), aI G 6 (fun j => N0 (2 + j))), (q5, oB 2 [.null, .null, .null, .int 0, .int 0])]) rfl ?_
  refine g_dup C dX1_init_27 rfl ?_
  refine g_callI (wr := [(h, oB 1 [.ref q0, .int 0, .int 0]), (q0, aP G 5 (va_up (va_up (fun _ => none) 0 (some q1)) 1 (some q3))), (q1, oB 2 [.ref (a2 0), .ref (a2 1), .ref (a2 2), .int (N0 0), .int (N0 1)]), ((a2 0), aI G 80 (fun j => N0 (24 + j))), ((a2 1), aI G 16 (fun j => N0 (8 + j))), ((a2 2), aI G 6 (fun j => N0 (2 + j))), (q3, oB 2 [.ref (a4 0), .ref (a4 1), .ref (a4 2), .int (N0 0), .int (N0 1)]), ((a4 0), aI G 80 (fun j => N0 (24 + j))), ((a4 1), aI G 16 (fun j => N0 (8 + j))), ((a4 2), aI G 6 (fun j => N0 (2 + j)))]) (WS' := fun a6 => [(h, oB 1 [.ref q0, .int 0, .int 0]), (q0, aP G 5 (va_up (va_up (fun _ => none) 0 (some q1)) 1 (some q3))), (q1, oB 2 [.ref (a2 0), .ref (a2 1), .ref (a2 2), .int (N0 0), .int (N0 1)]), ((a2 0), aI G 80 (fun j => N0 (24 + j))), ((a2 1), aI G 16 (fun j => N0 (8 + j))), ((a2 2), aI G 6 (fun j => N0 (2 + j))), (q3, oB 2 [.ref (a4 0), .ref (a4 1), .ref (a4 2), .int (N0 0), .int (N0 1)]), ((a4 0), aI G 80 (fun j => N0 (24 + j))), ((a4 1), aI G 16 (fun j => N0 (8 + j))), ((a4 2), aI G 6 (fun j => N0 (2 + j))), (q5, oB 2 [.ref (a6 0), .ref (a6 1), .ref (a6 2), .int (N0 0), .int (N0 1)]), ((a6 0), aI G 80 (fun j => N0 (24 + j))), ((a6 1), aI G 16 (fun j => N0 (8 + j))), ((a6 2), aI G 6 (fun j => N0 (2 + j)))]) C hao (n2_init (h := q5)) gX1_init_X2_init hq1_8 hq1_9 hq1_10 rfl (by decide +kernel) rfl rfl rfl ⟨(Nat.le_of_ble_eq_true rfl), (Nat.le_of_ble_eq_true rfl)⟩ [10] [0, 1, 2, 3, 4, 5, 6, 7, 8, 9] [0, 1, 2, 3, 4, 5, 6, 7, 8, 9, 10, 11, 12, 13] rfl rfl rfl rfl (by decide) (fun _ => rfl) rfl (Nat.le_of_ble_eq_true rfl) ⟨(Nat.le_of_ble_eq_true rfl), (Nat.le_of_ble_eq_true rfl)⟩ dX1_init_28 (cells' := 13) (slots' := 326) rfl rfl (fun a6 => ?_)
  refine g_astq (WS' := [(h, oB 1 [.ref q0, .int 0, .int 0]), (q0, aP G 5 (va_up (va_up (va_up (fun _ => none) 0 (some q1)) 1 (some q3)) 2 (some q5))), (q1, oB 2 [.ref (a2 0), .ref (a2 1), .ref (a2 2), .int (N0 0), .int (N0 1)]), ((a2 0), aI G 80 (fun j => N0 (24 + j))), ((a2 1), aI G 16 (fun j => N0 (8 + j))), ((a2 2), aI G 6 (fun j => N0 (2 + j))), (q3, oB 2 [.ref (a4 0), .ref (a4 1), .ref (a4 2), .int (N0 0), .int (N0 1)]), ((a4 0), aI G 80 (fun j => N0 (24 + j))), ((a4 1), aI G 16 (fun j => N0 (8 + j))), ((a4 2), aI G 6 (fun j => N0 (2 + j))), (q5, oB 2 [.ref (a6 0), .ref (a6 1), .ref (a6 2), .int (N0 0), .int (N0 1)]), ((a6 0), aI G 80 (fun j => N0 (24 + j))), ((a6 1), aI G 16 (fun j => N0 (8 + j))), ((a6 2), aI G 6 (fun j => N0 (2 + j)))]) C 1 10 rfl rfl (by decide +kernel) (j := 2) (by decide +kernel) dX1_init_31 rfl ?_
  refine g_iinc (v := (3 : Int32)) C dX1_init_32 1 rfl (by decide +kernel) (by decide) [1, 0] rfl ?_
  refine g_goto (tgt := 14) C dX1_init_35 (by decide) ?_
  refine g_iload_n C dX1_init_14 rfl 1 rfl ?_
  refine g_iconst (v := (5 : Int32)) C dX1_init_15 (by decide +kernel) ?_
  refine g_icmp_ge (tgt := 38) C dX1_init_16 (by decide) (fun z => absurd z (by decide +kernel)) (fun _ => ?_)
  refine g_aload_n C dX1_init_19 rfl 0 rfl ?_
  refine g_get (C0 := RX1) (T := TX1) (N := 3) (ci := 1) (v := .ref q0) C hq1_4 0 rfl rfl 0 (by decide) hq1_5 rfl dX1_init_20 ?_
  refine g_iload_n C dX1_init_23 rfl 1 rfl ?_
  refine g_new (C0 := RX2) (T := TX2) (N := 5) (ci := 2) (fs := [.null, .null, .null, .int 0, .int 0]) C hq1_6 tyX2 tyX2_ok hq1_3 hq1_7 hq1_8 rfl (fun j hj => by rcases (show j = 0 ∨ j = 1 ∨ j = 2 ∨ j = 3 ∨ j = 4 by omega) with rfl | rfl | rfl | rfl | rfl <;> rfl) (Nat.le_of_ble_eq_true rfl) (Nat.le_of_ble_eq_true rfl) dX1_init_24 (cells' := 14) (slots' := 331) rfl rfl (fun q7 => ?_)
  refine g_wsE (WS' := [(h, oB 1 [.ref q0, .int 0, .int 0]), (q0, aP G 5 (va_up (va_up (va_up (fun _ => none) 0 (some q1)) 1 (some q3)) 2 (some q5))), (q1, oB 2 [.ref (a2 0), .ref (a2 1), .ref (a2 2), .int (N0 0), .int (N0 1)]), ((a2 0), aI G 80 (fun j => N0 (24 + j))), ((a2 1), aI G 16 (fun j => N0 (8 + j))), ((a2 2), aI G 6 (fun j => N0 (2 + j))), (q3, oB 2 [.ref (a4 0), .ref (a4 1), .ref (a4 2), .int (N0 0), .int (N0 1)]), ((a4 0), aI G 80 (fun j => N0 (24 + j))), ((a4 1), aI G 16 (fun j => N0 (8 + j))), ((a4 2), aI G 6 (fun j => N0 (2 + j))), (q5, oB 2 [.ref (a6 0), .ref (a6 1), .ref (a6 2), .int (N0 0), .int (N0 1)]), ((a6 0), aI G 80 (fun j => N0 (24 + j))), ((a6 1), aI G 16 (fun j => N0 (8 + j))), ((a6 2), aI G 6 (fun j => N0 (2 + j))), (q7, oB 2 [.null, .null, .null, .int 0, .int 0])]) rfl ?_
  refine g_dup C dX1_init_27 rfl ?_
  refine g_callI (wr := [(h, oB 1 [.ref q0, .int 0, .int 0]), (q0, aP G 5 (va_up (va_up (va_up (fun _ => none) 0 (some q1)) 1 (some q3)) 2 (some q5))), (q1, oB 2 [.ref (a2 0), .ref (a2 1), .ref (a2 2), .int (N0 0), .int (N0 1)]), ((a2 0), aI G 80 (fun j => N0 (24 + j))), ((a2 1), aI G 16 (fun j => N0 (8 + j))), ((a2 2), aI G 6 (fun j => N0 (2 + j))), (q3, oB 2 [.ref (a4 0), .ref (a4 1), .ref (a4 2), .int (N0 0), .int (N0 1)]), ((a4 0), aI G 80 (fun j => N0 (24 + j))), ((a4 1), aI G 16 (fun j => N0 (8 + j))), ((a4 2), aI G 6 (fun j => N0 (2 + j))), (q5, oB 2 [.ref (a6 0), .ref (a6 1), .ref (a6 2), .int (N0 0), .int (N0 1)]), ((a6 0), aI G 80 (fun j => N0 (24 + j))), ((a6 1), aI G 16 (fun j => N0 (8 + j))), ((a6 2), aI G 6 (fun j => N0 (2 + j)))]) (WS' := fun a8 => [(h, oB 1 [.ref q0, .int 0, .int 0]), (q0, aP G 5 (va_up (va_up (va_up (fun _ => none) 0 (some q1)) 1 (some q3)) 2 (some q5))), (q1, oB 2 [.ref (a2 0), .ref (a2 1), .ref (a2 2), .int (N0 0), .int (N0 1)]), ((a2 0), aI G 80 (fun j => N0 (24 + j))), ((a2 1), aI G 16 (fun j => N0 (8 + j))), ((a2 2), aI G 6 (fun j => N0 (2 + j))), (q3, oB 2 [.ref (a4 0), .ref (a4 1), .ref (a4 2), .int (N0 0), .int (N0 1)]), ((a4 0), aI G 80 (fun j => N0 (24 + j))), ((a4 1), aI G 16 (fun j => N0 (8 + j))), ((a4 2), aI G 6 (fun j => N0 (2 + j))), (q5, oB 2 [.ref (a6 0), .ref (a6 1), .ref (a6 2), .int (N0 0), .int (N0 1)]), ((a6 0), aI G 80 (fun j => N0 (24 + j))), ((a6 1), aI G 16 (fun j => N0 (8 + j))), ((a6 2), aI G 6 (fun j => N0 (2 + j))), (q7, oB 2 [.ref (a8 0), .ref (a8 1), .ref (a8 2), .int (N0 0), .int (N0 1)]), ((a8 0), aI G 80 (fun j => N0 (24 + j))), ((a8 1), aI G 16 (fun j => N0 (8 + j))), ((a8 2), aI G 6 (fun j => N0 (2 + j)))]) C hao (n2_init (h := q7)) gX1_init_X2_init hq1_8 hq1_9 hq1_10 rfl (by decide +kernel) rfl rfl rfl ⟨(Nat.le_of_ble_eq_true rfl), (Nat.le_of_ble_eq_true rfl)⟩ [14] [0, 1, 2, 3, 4, 5, 6, 7, 8, 9, 10, 11, 12, 13] [0, 1, 2, 3, 4, 5, 6, 7, 8, 9, 10, 11, 12, 13, 14, 15, 16, 17] rfl rfl rfl rfl (by decide) (fun _ => rfl) rfl (Nat.le_of_ble_eq_true rfl) ⟨(Nat.le_of_ble_eq_true rfl), (Nat.le_of_ble_eq_true rfl)⟩ dX1_init_28 (cells' := 17) (slots' := 433) rfl rfl (fun a8 => ?_)
  refine g_astq (WS' := [(h, oB 1 [.ref q0, .int 0, .int 0]), (q0, aP G 5 (va_up (va_up (va_up (va_up (fun _ => none) 0 (some q1)) 1 (some q3)) 2 (some q5)) 3 (some q7))), (q1, oB 2 [.ref (a2 0), .ref (a2 1), .ref (a2 2), .int (N0 0), .int (N0 1)]), ((a2 0), aI G 80 (fun j => N0 (24 + j))), ((a2 1), aI G 16 (fun j => N0 (8 + j))), ((a2 2), aI G 6 (fun j => N0 (2 + j))), (q3, oB 2 [.ref (a4 0), .ref (a4 1), .ref (a4 2), .int (N0 0), .int (N0 1)]), ((a4 0), aI G 80 (fun j => N0 (24 + j))), ((a4 1), aI G 16 (fun j => N0 (8 + j))), ((a4 2), aI G 6 (fun j => N0 (2 + j))), (q5, oB 2 [.ref (a6 0), .ref (a6 1), .ref (a6 2), .int (N0 0), .int (N0 1)]), ((a6 0), aI G 80 (fun j => N0 (24 + j))), ((a6 1), aI G 16 (fun j => N0 (8 + j))), ((a6 2), aI G 6 (fun j => N0 (2 + j))), (q7, oB 2 [.ref (a8 0), .ref (a8 1), .ref (a8 2), .int (N0 0), .int (N0 1)]), ((a8 0), aI G 80 (fun j => N0 (24 + j))), ((a8 1), aI G 16 (fun j => N0 (8 + j))), ((a8 2), aI G 6 (fun j => N0 (2 + j)))]) C 1 14 rfl rfl (by decide +kernel) (j := 3) (by decide +kernel) dX1_init_31 rfl ?_
  refine g_iinc (v := (4 : Int32)) C dX1_init_32 1 rfl (by decide +kernel) (by decide) [1, 0] rfl ?_
  refine g_goto (tgt := 14) C dX1_init_35 (by decide) ?_
  refine g_iload_n C dX1_init_14 rfl 1 rfl ?_
  refine g_iconst (v := (5 : Int32)) C dX1_init_15 (by decide +kernel) ?_
  refine g_icmp_ge (tgt := 38) C dX1_init_16 (by decide) (fun z => absurd z (by decide +kernel)) (fun _ => ?_)
  refine g_aload_n C dX1_init_19 rfl 0 rfl ?_
  refine g_get (C0 := RX1) (T := TX1) (N := 3) (ci := 1) (v := .ref q0) C hq1_4 0 rfl rfl 0 (by decide) hq1_5 rfl dX1_init_20 ?_
  refine g_iload_n C dX1_init_23 rfl 1 rfl ?_
  refine g_new (C0 := RX2) (T := TX2) (N := 5) (ci := 2) (fs := [.null, .null, .null, .int 0, .int 0]) C hq1_6 tyX2 tyX2_ok hq1_3 hq1_7 hq1_8 rfl (fun j hj => by rcases (show j = 0 ∨ j = 1 ∨ j = 2 ∨ j = 3 ∨ j = 4 by omega) with rfl | rfl | rfl | rfl | rfl <;> rfl) (Nat.le_of_ble_eq_true rfl) (Nat.le_of_ble_eq_true rfl) dX1_init_24 (cells' := 18) (slots' := 438) rfl rfl (fun q9 => ?_)
  refine g_wsE (WS' := [(h, oB 1 [.ref q0, .int 0, .int 0]), (q0, aP G 5 (va_up (va_up (va_up (va_up (fun _ => none) 0 (some q1)) 1 (some q3)) 2 (some q5)) 3 (some q7))), (q1, oB 2 [.ref (a2 0), .ref (a2 1), .ref (a2 2), .int (N0 0), .int (N0 1)]), ((a2 0), aI G 80 (fun j => N0 (24 + j))), ((a2 1), aI G 16 (fun j => N0 (8 + j))), ((a2 2), aI G 6 (fun j => N0 (2 + j))), (q3, oB 2 [.ref (a4 0), .ref (a4 1), .ref (a4 2), .int (N0 0), .int (N0 1)]), ((a4 0), aI G 80 (fun j => N0 (24 + j))), ((a4 1), aI G 16 (fun j => N0 (8 + j))), ((a4 2), aI G 6 (fun j => N0 (2 + j))), (q5, oB 2 [.ref (a6 0), .ref (a6 1), .ref (a6 2), .int (N0 0), .int (N0 1)]), ((a6 0), aI G 80 (fun j => N0 (24 + j))), ((a6 1), aI G 16 (fun j => N0 (8 + j))), ((a6 2), aI G 6 (fun j => N0 (2 + j))), (q7, oB 2 [.ref (a8 0), .ref (a8 1), .ref (a8 2), .int (N0 0), .int (N0 1)]), ((a8 0), aI G 80 (fun j => N0 (24 + j))), ((a8 1), aI G 16 (fun j => N0 (8 + j))), ((a8 2), aI G 6 (fun j => N0 (2 + j))), (q9, oB 2 [.null, .null, .null, .int 0, .int 0])]) rfl ?_
  refine g_dup C dX1_init_27 rfl ?_
  refine g_callI (wr := [(h, oB 1 [.ref q0, .int 0, .int 0]), (q0, aP G 5 (va_up (va_up (va_up (va_up (fun _ => none) 0 (some q1)) 1 (some q3)) 2 (some q5)) 3 (some q7))), (q1, oB 2 [.ref (a2 0), .ref (a2 1), .ref (a2 2), .int (N0 0), .int (N0 1)]), ((a2 0), aI G 80 (fun j => N0 (24 + j))), ((a2 1), aI G 16 (fun j => N0 (8 + j))), ((a2 2), aI G 6 (fun j => N0 (2 + j))), (q3, oB 2 [.ref (a4 0), .ref (a4 1), .ref (a4 2), .int (N0 0), .int (N0 1)]), ((a4 0), aI G 80 (fun j => N0 (24 + j))), ((a4 1), aI G 16 (fun j => N0 (8 + j))), ((a4 2), aI G 6 (fun j => N0 (2 + j))), (q5, oB 2 [.ref (a6 0), .ref (a6 1), .ref (a6 2), .int (N0 0), .int (N0 1)]), ((a6 0), aI G 80 (fun j => N0 (24 + j))), ((a6 1), aI G 16 (fun j => N0 (8 + j))), ((a6 2), aI G 6 (fun j => N0 (2 + j))), (q7, oB 2 [.ref (a8 0), .ref (a8 1), .ref (a8 2), .int (N0 0), .int (N0 1)]), ((a8 0), aI G 80 (fun j => N0 (24 + j))), ((a8 1), aI G 16 (fun j => N0 (8 + j))), ((a8 2), aI G 6 (fun j => N0 (2 + j)))]) (WS' := fun a10 => [(h, oB 1 [.ref q0, .int 0, .int 0]), (q0, aP G 5 (va_up (va_up (va_up (va_up (fun _ => none) 0 (some q1)) 1 (some q3)) 2 (some q5)) 3 (some q7))), (q1, oB 2 [.ref (a2 0), .ref (a2 1), .ref (a2 2), .int (N0 0), .int (N0 1)]), ((a2 0), aI G 80 (fun j => N0 (24 + j))), ((a2 1), aI G 16 (fun j => N0 (8 + j))), ((a2 2), aI G 6 (fun j => N0 (2 + j))), (q3, oB 2 [.ref (a4 0), .ref (a4 1), .ref (a4 2), .int (N0 0), .int (N0 1)]), ((a4 0), aI G 80 (fun j => N0 (24 + j))), ((a4 1), aI G 16 (fun j => N0 (8 + j))), ((a4 2), aI G 6 (fun j => N0 (2 + j))), (q5, oB 2 [.ref (a6 0), .ref (a6 1), .ref (a6 2), .int (N0 0), .int (N0 1)]), ((a6 0), aI G 80 (fun j => N0 (24 + j))), ((a6 1), aI G 16 (fun j => N0 (8 + j))), ((a6 2), aI G 6 (fun j => N0 (2 + j))), (q7, oB 2 [.ref (a8 0), .ref (a8 1), .ref (a8 2), .int (N0 0), .int (N0 1)]), ((a8 0), aI G 80 (fun j => N0 (24 + j))), ((a8 1), aI G 16 (fun j => N0 (8 + j))), ((a8 2), aI G 6 (fun j => N0 (2 + j))), (q9, oB 2 [.ref (a10 0), .ref (a10 1), .ref (a10 2), .int (N0 0), .int (N0 1)]), ((a10 0), aI G 80 (fun j => N0 (24 + j))), ((a10 1), aI G 16 (fun j => N0 (8 + j))), ((a10 2), aI G 6 (fun j => N0 (2 + j)))]) C hao (n2_init (h := q9)) gX1_init_X2_init hq1_8 hq1_9 hq1_10 rfl (by decide +kernel) rfl rfl rfl ⟨(Nat.le_of_ble_eq_true rfl), (Nat.le_of_ble_eq_true rfl)⟩ [18] [0, 1, 2, 3, 4, 5, 6, 7, 8, 9, 10, 11, 12, 13, 14, 15, 16, 17] [0, 1, 2, 3, 4, 5, 6, 7, 8, 9, 10, 11, 12, 13, 14, 15, 16, 17, 18, 19, 20, 21] rfl rfl rfl rfl (by decide) (fun _ => rfl) rfl (Nat.le_of_ble_eq_true rfl) ⟨(Nat.le_of_ble_eq_true rfl), (Nat.le_of_ble_eq_true rfl)⟩ dX1_init_28 (cells' := 21) (slots' := 540) rfl rfl (fun a10 => ?_)
  refine g_astq (WS' := [(h, oB 1 [.ref q0, .int 0, .int 0]), (q0, aP G 5 (va_up (va_up (va_up (va_up (va_up (fun _ => none) 0 (some q1)) 1 (some q3)) 2 (some q5)) 3 (some q7)) 4 (some q9))), (q1, oB 2 [.ref (a2 0), .ref (a2 1), .ref (a2 2), .int (N0 0), .int (N0 1)]), ((a2 0), aI G 80 (fun j => N0 (24 + j))), ((a2 1), aI G 16 (fun j => N0 (8 + j))), ((a2 2), aI G 6 (fun j => N0 (2 + j))), (q3, oB 2 [.ref (a4 0), .ref (a4 1), .ref (a4 2), .int (N0 0), .int (N0 1)]), ((a4 0), aI G 80 (fun j => N0 (24 + j))), ((a4 1), aI G 16 (fun j => N0 (8 + j))), ((a4 2), aI G 6 (fun j => N0 (2 + j))), (q5, oB 2 [.ref (a6 0), .ref (a6 1), .ref (a6 2), .int (N0 0), .int (N0 1)]), ((a6 0), aI G 80 (fun j => N0 (24 + j))), ((a6 1), aI G 16 (fun j => N0 (8 + j))), ((a6 2), aI G 6 (fun j => N0 (2 + j))), (q7, oB 2 [.ref (a8 0), .ref (a8 1), .ref (a8 2), .int (N0 0), .int (N0 1)]), ((a8 0), aI G 80 (fun j => N0 (24 + j))), ((a8 1), aI G 16 (fun j => N0 (8 + j))), ((a8 2), aI G 6 (fun j => N0 (2 + j))), (q9, oB 2 [.ref (a10 0), .ref (a10 1), .ref (a10 2), .int (N0 0), .int (N0 1)]), ((a10 0), aI G 80 (fun j => N0 (24 + j))), ((a10 1), aI G 16 (fun j => N0 (8 + j))), ((a10 2), aI G 6 (fun j => N0 (2 + j)))]) C 1 18 rfl rfl (by decide +kernel) (j := 4) (by decide +kernel) dX1_init_31 rfl ?_
  refine g_iinc (v := (5 : Int32)) C dX1_init_32 1 rfl (by decide +kernel) (by decide) [1, 0] rfl ?_
  refine g_goto (tgt := 14) C dX1_init_35 (by decide) ?_
  refine g_iload_n C dX1_init_14 rfl 1 rfl ?_
  refine g_iconst (v := (5 : Int32)) C dX1_init_15 (by decide +kernel) ?_
  refine g_icmp_ge (tgt := 38) C dX1_init_16 (by decide) (fun _ => ?_) (fun z => absurd (by decide +kernel) z)
  refine g_wsE (WS' := [(h, oB 1 [.ref q0, .int 0, .int 0]), (q0, aP G 5 (fun j => ([some q1, some q3, some q5, some q7, some q9] : List (Option Nat)).getD j none)), (q1, oB 2 [.ref (a2 0), .ref (a2 1), .ref (a2 2), .int (N0 0), .int (N0 1)]), ((a2 0), aI G 80 (fun j => N0 (24 + j))), ((a2 1), aI G 16 (fun j => N0 (8 + j))), ((a2 2), aI G 6 (fun j => N0 (2 + j))), (q3, oB 2 [.ref (a4 0), .ref (a4 1), .ref (a4 2), .int (N0 0), .int (N0 1)]), ((a4 0), aI G 80 (fun j => N0 (24 + j))), ((a4 1), aI G 16 (fun j => N0 (8 + j))), ((a4 2), aI G 6 (fun j => N0 (2 + j))), (q5, oB 2 [.ref (a6 0), .ref (a6 1), .ref (a6 2), .int (N0 0), .int (N0 1)]), ((a6 0), aI G 80 (fun j => N0 (24 + j))), ((a6 1), aI G 16 (fun j => N0 (8 + j))), ((a6 2), aI G 6 (fun j => N0 (2 + j))), (q7, oB 2 [.ref (a8 0), .ref (a8 1), .ref (a8 2), .int (N0 0), .int (N0 1)]), ((a8 0), aI G 80 (fun j => N0 (24 + j))), ((a8 1), aI G 16 (fun j => N0 (8 + j))), ((a8 2), aI G 6 (fun j => N0 (2 + j))), (q9, oB 2 [.ref (a10 0), .ref (a10 1), .ref (a10 2), .int (N0 0), .int (N0 1)]), ((a10 0), aI G 80 (fun j => N0 (24 + j))), ((a10 1), aI G 16 (fun j => N0 (8 + j))), ((a10 2), aI G 6 (fun j => N0 (2 + j)))]) (by rw [up5]) ?_
  exact hR (fun k => ([q0, q1, (a2 0), (a2 1), (a2 2), q3, (a4 0), (a4 1), (a4 2), q5, (a6 0), (a6 1), (a6 2), q7, (a8 0), (a8 1), (a8 2), q9, (a10 0), (a10 1), (a10 2)] : List Nat).getD k 0) _ _ dX1_init_38
