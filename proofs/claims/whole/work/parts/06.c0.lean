-- X2_copyFrom
def f2_copyFromR (P0_lines : Nat → Int32) (P0_cells : Nat → Int32) (P0_starts : Nat → Int32) (P0_count : Int32) (P0_secretBits : Int32) (lines : Nat → Int32) (cells : Nat → Int32) (starts : Nat → Int32) (count : Int32) (secretBits : Int32) : Option ((Nat → Int32) × (Nat → Int32) × (Nat → Int32) × Int32 × Int32) :=
  some ((va_cpy P0_lines lines 0 0 80), (va_cpy P0_cells cells 0 0 16), (va_cpy P0_starts starts 0 0 6), P0_count, P0_secretBits)
def rm2_copyFromR : Room := { frames := 1, cells := 0, slots := 0, locals := 40 }
theorem hm2_copyFrom_0 : ∀ w ∈ u_ws RX2 TX2 5, w ∈ wsX2_copyFrom := by decide +kernel
theorem hm2_copyFrom_1 : Cond.fieldLink RX2 9 "SecretSteps$Program" "lines" "[I" ∈ wsX2_copyFrom := by decide +kernel
theorem hm2_copyFrom_2 : Cond.methodLink RX2 21 arraycopyName ∈ wsX2_copyFrom := by decide +kernel
theorem hm2_copyFrom_3 : Cond.native arraycopyName ∈ wsX2_copyFrom := by decide +kernel
theorem hm2_copyFrom_4 : Cond.static arraycopyName ∈ wsX2_copyFrom := by decide +kernel
theorem hm2_copyFrom_5 : Cond.initialized "java/lang/System" ∈ wsX2_copyFrom := by decide +kernel
theorem hm2_copyFrom_6 : Cond.fieldLink RX2 15 "SecretSteps$Program" "cells" "[I" ∈ wsX2_copyFrom := by decide +kernel
theorem hm2_copyFrom_7 : Cond.fieldLink RX2 18 "SecretSteps$Program" "starts" "[I" ∈ wsX2_copyFrom := by decide +kernel
theorem hm2_copyFrom_8 : Cond.fieldLink RX2 27 "SecretSteps$Program" "count" "I" ∈ wsX2_copyFrom := by decide +kernel
theorem hm2_copyFrom_9 : Cond.fieldLink RX2 31 "SecretSteps$Program" "secretBits" "I" ∈ wsX2_copyFrom := by decide +kernel
set_option maxHeartbeats 4000000 in
set_option maxRecDepth 100000 in
theorem c2_copyFromR {l : Launch} {G : gG} {pr pr_lines pr_cells pr_starts aq0 aq0_lines aq0_cells aq0_starts : Nat} {lines : Nat → Int32} {cells : Nat → Int32} {starts : Nat → Int32} {count : Int32} {secretBits : Int32} {P0_lines : Nat → Int32} {P0_cells : Nat → Int32} {P0_starts : Nat → Int32} {P0_count : Int32} {P0_secretBits : Int32} {res : (Nat → Int32) × (Nat → Int32) × (Nat → Int32) × Int32 × Int32} (hf : f2_copyFromR P0_lines P0_cells P0_starts P0_count P0_secretBits lines cells starts count secretBits = some res) : MV l yX2_copyFrom wsX2_copyFrom rm2_copyFromR G [.ref pr, .ref aq0] [(pr, oB 2 [.ref pr_lines, .ref pr_cells, .ref pr_starts, .int count, .int secretBits]), (pr_lines, aI G 80 lines), (pr_cells, aI G 16 cells), (pr_starts, aI G 6 starts), (aq0, oB 2 [.ref aq0_lines, .ref aq0_cells, .ref aq0_starts, .int P0_count, .int P0_secretBits]), (aq0_lines, aI G 80 P0_lines), (aq0_cells, aI G 16 P0_cells), (aq0_starts, aI G 6 P0_starts)] [(pr, oB 2 [.ref pr_lines, .ref pr_cells, .ref pr_starts, .int res.2.2.2.1, .int res.2.2.2.2]), (pr_lines, aI G 80 res.1), (pr_cells, aI G 16 res.2.1), (pr_starts, aI G 6 res.2.2.1), (aq0, oB 2 [.ref aq0_lines, .ref aq0_cells, .ref aq0_starts, .int P0_count, .int P0_secretBits]), (aq0_lines, aI G 80 P0_lines), (aq0_cells, aI G 16 P0_cells), (aq0_starts, aI G 6 P0_starts)] := by
  refine MV_of (cc := cX2_copyFrom) (nL := 2) (lv := [(0, .ref pr), (1, .ref aq0)]) (by decide +kernel) rfl (Nat.le_of_ble_eq_true rfl) rfl ?_
  intro p e s m args below meth c A Q C hR
  unfold f2_copyFromR at hf
  refine g_aload_n C dX2_copyFrom_0 rfl 1 rfl ?_
  refine g_get (C0 := RX2) (T := TX2) (N := 5) (ci := 2) (v := .ref aq0_lines) C hm2_copyFrom_0 4 rfl rfl 0 (by decide) hm2_copyFrom_1 rfl dX2_copyFrom_1 ?_
  refine g_iconst (v := (0 : Int32)) C dX2_copyFrom_4 (by decide +kernel) ?_
  refine g_aload_n C dX2_copyFrom_5 rfl 0 rfl ?_
  refine g_get (C0 := RX2) (T := TX2) (N := 5) (ci := 2) (v := .ref pr_lines) C hm2_copyFrom_0 0 rfl rfl 0 (by decide) hm2_copyFrom_1 rfl dX2_copyFrom_6 ?_
  refine g_iconst (v := (0 : Int32)) C dX2_copyFrom_9 (by decide +kernel) ?_
  refine g_bipush (v := (80 : Int32)) C dX2_copyFrom_10 (by decide +kernel) ?_
  refine g_copyi (WS' := [(pr, oB 2 [.ref pr_lines, .ref pr_cells, .ref pr_starts, .int count, .int secretBits]), (pr_lines, aI G 80 (va_cpy P0_lines lines 0 0 80)), (pr_cells, aI G 16 cells), (pr_starts, aI G 6 starts), (aq0, oB 2 [.ref aq0_lines, .ref aq0_cells, .ref aq0_starts, .int P0_count, .int P0_secretBits]), (aq0_lines, aI G 80 P0_lines), (aq0_cells, aI G 16 P0_cells), (aq0_starts, aI G 6 P0_starts)]) C hm2_copyFrom_2 hm2_copyFrom_3 hm2_copyFrom_4 hm2_copyFrom_5 5 1 rfl rfl (by decide +kernel) (by decide +kernel) (by decide +kernel) (by decide +kernel) (by decide +kernel) (by decide +kernel) (by decide) (by decide) (by decide) (by decide +kernel) dX2_copyFrom_12 rfl ?_
  refine g_aload_n C dX2_copyFrom_15 rfl 1 rfl ?_
  refine g_get (C0 := RX2) (T := TX2) (N := 5) (ci := 2) (v := .ref aq0_cells) C hm2_copyFrom_0 4 rfl rfl 1 (by decide) hm2_copyFrom_6 rfl dX2_copyFrom_16 ?_
  refine g_iconst (v := (0 : Int32)) C dX2_copyFrom_19 (by decide +kernel) ?_
  refine g_aload_n C dX2_copyFrom_20 rfl 0 rfl ?_
  refine g_get (C0 := RX2) (T := TX2) (N := 5) (ci := 2) (v := .ref pr_cells) C hm2_copyFrom_0 0 rfl rfl 1 (by decide) hm2_copyFrom_6 rfl dX2_copyFrom_21 ?_
  refine g_iconst (v := (0 : Int32)) C dX2_copyFrom_24 (by decide +kernel) ?_
  refine g_bipush (v := (16 : Int32)) C dX2_copyFrom_25 (by decide +kernel) ?_
  refine g_copyi (WS' := [(pr, oB 2 [.ref pr_lines, .ref pr_cells, .ref pr_starts, .int count, .int secretBits]), (pr_lines, aI G 80 (va_cpy P0_lines lines 0 0 80)), (pr_cells, aI G 16 (va_cpy P0_cells cells 0 0 16)), (pr_starts, aI G 6 starts), (aq0, oB 2 [.ref aq0_lines, .ref aq0_cells, .ref aq0_starts, .int P0_count, .int P0_secretBits]), (aq0_lines, aI G 80 P0_lines), (aq0_cells, aI G 16 P0_cells), (aq0_starts, aI G 6 P0_starts)]) C hm2_copyFrom_2 hm2_copyFrom_3 hm2_copyFrom_4 hm2_copyFrom_5 6 2 rfl rfl (by decide +kernel) (by decide +kernel) (by decide +kernel) (by decide +kernel) (by decide +kernel) (by decide +kernel) (by decide) (by decide) (by decide) (by decide +kernel) dX2_copyFrom_27 rfl ?_
  refine g_aload_n C dX2_copyFrom_30 rfl 1 rfl ?_
  refine g_get (C0 := RX2) (T := TX2) (N := 5) (ci := 2) (v := .ref aq0_starts) C hm2_copyFrom_0 4 rfl rfl 2 (by decide) hm2_copyFrom_7 rfl dX2_copyFrom_31 ?_
  refine g_iconst (v := (0 : Int32)) C dX2_copyFrom_34 (by decide +kernel) ?_
  refine g_aload_n C dX2_copyFrom_35 rfl 0 rfl ?_
  refine g_get (C0 := RX2) (T := TX2) (N := 5) (ci := 2) (v := .ref pr_starts) C hm2_copyFrom_0 0 rfl rfl 2 (by decide) hm2_copyFrom_7 rfl dX2_copyFrom_36 ?_
  refine g_iconst (v := (0 : Int32)) C dX2_copyFrom_39 (by decide +kernel) ?_
  refine g_bipush (v := (6 : Int32)) C dX2_copyFrom_40 (by decide +kernel) ?_
  refine g_copyi (WS' := [(pr, oB 2 [.ref pr_lines, .ref pr_cells, .ref pr_starts, .int count, .int secretBits]), (pr_lines, aI G 80 (va_cpy P0_lines lines 0 0 80)), (pr_cells, aI G 16 (va_cpy P0_cells cells 0 0 16)), (pr_starts, aI G 6 (va_cpy P0_starts starts 0 0 6)), (aq0, oB 2 [.ref aq0_lines, .ref aq0_cells, .ref aq0_starts, .int P0_count, .int P0_secretBits]), (aq0_lines, aI G 80 P0_lines), (aq0_cells, aI G 16 P0_cells), (aq0_starts, aI G 6 P0_starts)]) C hm2_copyFrom_2 hm2_copyFrom_3 hm2_copyFrom_4 hm2_copyFrom_5 7 3 rfl rfl (by decide +kernel) (by decide +kernel) (by decide +kernel) (by decide +kernel) (by decide +kernel) (by decide +kernel) (by decide) (by decide) (by decide) (by decide +kernel) dX2_copyFrom_42 rfl ?_
  refine g_aload_n C dX2_copyFrom_45 rfl 0 rfl ?_
  refine g_aload_n C dX2_copyFrom_46 rfl 1 rfl ?_
  refine g_get (C0 := RX2) (T := TX2) (N := 5) (ci := 2) (v := .int P0_count) C hm2_copyFrom_0 4 rfl rfl 3 (by decide) hm2_copyFrom_8 rfl dX2_copyFrom_47 ?_
  refine g_put (C0 := RX2) (T := TX2) (N := 5) (ci := 2) (ty := .int) (WS' := [(pr, oB 2 [.ref pr_lines, .ref pr_cells, .ref pr_starts, .int P0_count, .int secretBits]), (pr_lines, aI G 80 (va_cpy P0_lines lines 0 0 80)), (pr_cells, aI G 16 (va_cpy P0_cells cells 0 0 16)), (pr_starts, aI G 6 (va_cpy P0_starts starts 0 0 6)), (aq0, oB 2 [.ref aq0_lines, .ref aq0_cells, .ref aq0_starts, .int P0_count, .int P0_secretBits]), (aq0_lines, aI G 80 P0_lines), (aq0_cells, aI G 16 P0_cells), (aq0_starts, aI G 6 P0_starts)]) C hm2_copyFrom_0 tyX2 tyX2_ok nmX2 0 rfl rfl 3 (by decide) hm2_copyFrom_8 rfl rfl rfl rfl (Nat.le_of_ble_eq_true rfl) dX2_copyFrom_50 rfl ?_
  refine g_aload_n C dX2_copyFrom_53 rfl 0 rfl ?_
  refine g_aload_n C dX2_copyFrom_54 rfl 1 rfl ?_
  refine g_get (C0 := RX2) (T := TX2) (N := 5) (ci := 2) (v := .int P0_secretBits) C hm2_copyFrom_0 4 rfl rfl 4 (by decide) hm2_copyFrom_9 rfl dX2_copyFrom_55 ?_
  refine g_put (C0 := RX2) (T := TX2) (N := 5) (ci := 2) (ty := .int) (WS' := [(pr, oB 2 [.ref pr_lines, .ref pr_cells, .ref pr_starts, .int P0_count, .int P0_secretBits]), (pr_lines, aI G 80 (va_cpy P0_lines lines 0 0 80)), (pr_cells, aI G 16 (va_cpy P0_cells cells 0 0 16)), (pr_starts, aI G 6 (va_cpy P0_starts starts 0 0 6)), (aq0, oB 2 [.ref aq0_lines, .ref aq0_cells, .ref aq0_starts, .int P0_count, .int P0_secretBits]), (aq0_lines, aI G 80 P0_lines), (aq0_cells, aI G 16 P0_cells), (aq0_starts, aI G 6 P0_starts)]) C hm2_copyFrom_0 tyX2 tyX2_ok nmX2 0 rfl rfl 4 (by decide) hm2_copyFrom_9 rfl rfl rfl rfl (Nat.le_of_ble_eq_true rfl) dX2_copyFrom_58 rfl ?_
  obtain rfl := Option.some.inj hf
  exact hR _ _ dX2_copyFrom_61

def f2_copyFrom (P0_N : Nat → Int32) (N : Nat → Int32) : Option (Nat → Int32) := some P0_N
abbrev rm2_copyFrom : Room := rm2_copyFromR
theorem MV.conv {l : Launch} {y : MethodName} {ws : List Cond} {rm : Room} {G : gG} {av : List Value} {WS W1 W2 : va_W} (h : wl W1 W2) (hM : MV l y ws rm G av WS W1) : MV l y ws rm G av WS W2 := by
  intro sz p e ha hc hk s m args below hf ho hP hT
  obtain ⟨t, o, h1, h2, h3, ⟨⟨⟨u, hv, hp, hb⟩, hF⟩, hL⟩⟩ := hM sz p e ha hc hk s m args below hf ho hP hT
  exact ⟨t, o, h1, h2, h3, ⟨⟨u, hv, hp, h.P hb.1, h.D hb.2⟩, hF⟩, hL⟩
theorem c2_copyFrom {l : Launch} {G : gG} {pr pr_lines pr_cells pr_starts aq0 aq0_lines aq0_cells aq0_starts : Nat} {N P0_N : Nat → Int32} {res : Nat → Int32} (hf : f2_copyFrom P0_N N = some res) : MV l yX2_copyFrom wsX2_copyFrom rm2_copyFrom G [.ref pr, .ref aq0] [(pr, oB 2 [.ref pr_lines, .ref pr_cells, .ref pr_starts, .int (N 0), .int (N 1)]), (pr_lines, aI G 80 (fun j => N (24 + j))), (pr_cells, aI G 16 (fun j => N (8 + j))), (pr_starts, aI G 6 (fun j => N (2 + j))), (aq0, oB 2 [.ref aq0_lines, .ref aq0_cells, .ref aq0_starts, .int (P0_N 0), .int (P0_N 1)]), (aq0_lines, aI G 80 (fun j => P0_N (24 + j))), (aq0_cells, aI G 16 (fun j => P0_N (8 + j))), (aq0_starts, aI G 6 (fun j => P0_N (2 + j)))] [(pr, oB 2 [.ref pr_lines, .ref pr_cells, .ref pr_starts, .int (res 0), .int (res 1)]), (pr_lines, aI G 80 (fun j => res (24 + j))), (pr_cells, aI G 16 (fun j => res (8 + j))), (pr_starts, aI G 6 (fun j => res (2 + j))), (aq0, oB 2 [.ref aq0_lines, .ref aq0_cells, .ref aq0_starts, .int (P0_N 0), .int (P0_N 1)]), (aq0_lines, aI G 80 (fun j => P0_N (24 + j))), (aq0_cells, aI G 16 (fun j => P0_N (8 + j))), (aq0_starts, aI G 6 (fun j => P0_N (2 + j)))] := by
  obtain rfl := Option.some.inj hf
  refine MV.conv ?_ (c2_copyFromR (count := N 0) (secretBits := N 1) (lines := fun j => N (24 + j)) (cells := fun j => N (8 + j)) (starts := fun j => N (2 + j)) (P0_count := P0_N 0) (P0_secretBits := P0_N 1) (P0_lines := fun j => P0_N (24 + j)) (P0_cells := fun j => P0_N (8 + j)) (P0_starts := fun j => P0_N (2 + j)) rfl)
  refine wl_cons cEq_rf (wl_cons (cEq_i fun j hj => ?_) (wl_cons (cEq_i fun j hj => ?_) (wl_cons (cEq_i fun j hj => ?_) wl_rf)))
  all_goals (dsimp only; rw [pk_cpy_in (Nat.zero_le _) (by omega)]; simp)
