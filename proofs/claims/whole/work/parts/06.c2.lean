-- X6_combined
def f6_combined (v0 : Int32) (v1 : Int32) (v2 : Int32) : Option (Int32) :=
  (if v0 = (2 : Int32) then
    (some (irm (v1 + v2) (16 : Int32)))
    else (if v0 = (3 : Int32) then
    (some (v1 &&& v2))
    else (if v0 = (4 : Int32) then
    (some (v1 ^^^ v2))
    else (if v2 = 0 then
    (some (15 : Int32))
    else (ck (!decide (v2 = 0)) <|
    some (v1 / v2))))))
def rm6_combined : Room := { frames := 0, cells := 0, slots := 0, locals := 0 }
set_option maxHeartbeats 4000000 in
set_option maxRecDepth 100000 in
theorem c6_combined {l : Launch} {G : gG} {v0 : Int32} {v1 : Int32} {v2 : Int32} {res : Int32} (hf : f6_combined v0 v1 v2 = some res) : MI l yX6_combined wsX6_combined rm6_combined G [.int v0, .int v1, .int v2] [] (res) [] := by
  refine MI_of (res) (cc := cX6_combined) (nL := 3) (lv := [(0, .int v0), (1, .int v1), (2, .int v2)]) (by decide +kernel) rfl (Nat.le_of_ble_eq_true rfl) rfl ?_
  intro p e s m args below meth c A Q C hR
  unfold f6_combined at hf
  refine g_iload_n C dX6_combined_0 rfl 0 rfl ?_
  by_cases c1 : v0 = (2 : Int32)
  · replace hf := ite_t c1 hf
    refine g_tableIn (off := 27) (tgt := 28) C dX6_combined_1 (by rw [c1]; decide +kernel) (by rw [c1]; decide +kernel) (by rw [c1]; decide +kernel) (by decide) ?_
    refine g_iload_n C dX6_combined_28 rfl 1 rfl ?_
    refine g_iload_n C dX6_combined_29 rfl 2 rfl ?_
    refine g_iadd C dX6_combined_30 ?_
    refine g_bipush (v := (16 : Int32)) C dX6_combined_31 (by decide +kernel) ?_
    refine g_irem C dX6_combined_33 (by decide +kernel) ?_
    obtain rfl := Option.some.inj hf
    exact hR _ _ dX6_combined_34
  replace hf := ite_f c1 hf
  by_cases c2 : v0 = (3 : Int32)
  · replace hf := ite_t c2 hf
    refine g_tableIn (off := 34) (tgt := 35) C dX6_combined_1 (by rw [c2]; decide +kernel) (by rw [c2]; decide +kernel) (by rw [c2]; decide +kernel) (by decide) ?_
    refine g_iload_n C dX6_combined_35 rfl 1 rfl ?_
    refine g_iload_n C dX6_combined_36 rfl 2 rfl ?_
    refine g_iand C dX6_combined_37 ?_
    obtain rfl := Option.some.inj hf
    exact hR _ _ dX6_combined_38
  replace hf := ite_f c2 hf
  by_cases c3 : v0 = (4 : Int32)
  · replace hf := ite_t c3 hf
    refine g_tableIn (off := 38) (tgt := 39) C dX6_combined_1 (by rw [c3]; decide +kernel) (by rw [c3]; decide +kernel) (by rw [c3]; decide +kernel) (by decide) ?_
    refine g_iload_n C dX6_combined_39 rfl 1 rfl ?_
    refine g_iload_n C dX6_combined_40 rfl 2 rfl ?_
    refine g_ixor C dX6_combined_41 ?_
    obtain rfl := Option.some.inj hf
    exact hR _ _ dX6_combined_42
  replace hf := ite_f c3 hf
  refine g_tableOut (tgt := 43) C dX6_combined_1 (by have e0 := lv_neT (a := 2) c1 (by decide +kernel); have e1 := lv_neT (a := 3) c2 (by decide +kernel); have e2 := lv_neT (a := 4) c3 (by decide +kernel); omega) (by decide) ?_
  refine g_iload_n C dX6_combined_43 rfl 2 rfl ?_
  refine g_if_ne (tgt := 52) C dX6_combined_44 (by decide) (fun c4 => ?_) (fun c4 => ?_)
  · replace hf := ite_f c4 hf
    refine g_iload_n C dX6_combined_52 rfl 1 rfl ?_
    refine g_iload_n C dX6_combined_53 rfl 2 rfl ?_
    obtain ⟨h5, hf⟩ := ck_some hf
    refine g_idiv C dX6_combined_54 (fun h9 => by rw [h9] at h5; cases h5) ?_
    obtain rfl := Option.some.inj hf
    exact hR _ _ dX6_combined_55
  · replace hf := ite_t c4 hf
    refine g_bipush (v := (15 : Int32)) C dX6_combined_47 (by decide +kernel) ?_
    refine g_goto (tgt := 55) C dX6_combined_49 (by decide) ?_
    obtain rfl := Option.some.inj hf
    exact hR _ _ dX6_combined_55

-- X3_setOut
def f3_setOut_15b (P0_N : Nat → Int32) (k15 : (Nat → Int32) × Int32 × Int32 × Int32 × Int32 × Int32 → Option ((Nat → Int32) × Int32 × Int32)) (values : Nat → Int32) (seenCount : Int32) (steps : Int32) (x2 : Int32) (x3 : Int32) (x4 : Int32) : Option ((Nat → Int32) × Int32 × Int32) :=
  if (6 : Int32) ≤ x4 then
    (some (values, seenCount, steps))
    else (if ((sr32 (P0_N 1) x4) &&& (1 : Int32)) = (1 : Int32) then
    (ck (inb x4 6) <|
    k15 ((upd values x4.toNatClampNeg (irm x3 (16 : Int32))), seenCount, steps, x2, (x3 / (16 : Int32)), (x4 + (1 : Int32))))
    else (ck (inb x4 6) <|
    ck (inb x4 6) <|
    k15 ((upd values x4.toNatClampNeg (P0_N (2 + x4.toNatClampNeg))), seenCount, steps, x2, x3, (x4 + (1 : Int32)))))
def f3_setOut_15 (P0_N : Nat → Int32) (n : Nat) (s : (Nat → Int32) × Int32 × Int32 × Int32 × Int32 × Int32) : Option ((Nat → Int32) × Int32 × Int32) := itf (fun k s => f3_setOut_15b P0_N k s.1 s.2.1 s.2.2.1 s.2.2.2.1 s.2.2.2.2.1 s.2.2.2.2.2) n s
def f3_setOut (P0_N : Nat → Int32) (values : Nat → Int32) (seenCount : Int32) (steps : Int32) (v1 : Int32) : Option ((Nat → Int32) × Int32 × Int32) :=
  f3_setOut_15 P0_N 1000 (values, (0 : Int32), (0 : Int32), v1, v1, (0 : Int32))
def rm3_setOut : Room := { frames := 0, cells := 0, slots := 0, locals := 0 }
theorem hm3_setOut_0 : ∀ w ∈ u_ws RX2 TX2 5, w ∈ wsX3_setOut := by decide +kernel
theorem hm3_setOut_1 : ∀ w ∈ u_ws RX3 TX3 5, w ∈ wsX3_setOut := by decide +kernel
theorem hm3_setOut_2 : Cond.fieldLink RX3 9 "SecretSteps$Run" "values" "[I" ∈ wsX3_setOut := by decide +kernel
theorem hm3_setOut_3 : Cond.fieldLink RX3 43 "SecretSteps$Run" "seenCount" "I" ∈ wsX3_setOut := by decide +kernel
theorem hm3_setOut_4 : Cond.fieldLink RX3 22 "SecretSteps$Run" "steps" "I" ∈ wsX3_setOut := by decide +kernel
set_option maxHeartbeats 4000000 in
set_option maxRecDepth 100000 in
theorem k3_setOut_15b {p : Program} {l : Launch} {e : Env} {s : State} {m : MethodId} {args : Array Value} {below : List Frame} {meth : Method} {c : Code} {G : gG} {A : Nat → Prop} {Q : State → Prop} {ru ru_values ru_sights aq0 aq0_lines aq0_cells aq0_starts : Nat} (C : CX p s m args meth c G A cX3_setOut 5 RX3 wsX3_setOut) {sights : Nat → Int32} {cut : Int32} {P0_N : Nat → Int32} {k15 : (Nat → Int32) × Int32 × Int32 × Int32 × Int32 × Int32 → Option ((Nat → Int32) × Int32 × Int32)} {values : Nat → Int32} {seenCount : Int32} {steps : Int32} {x2 : Int32} {x3 : Int32} {x4 : Int32} {res : (Nat → Int32) × Int32 × Int32} (hR : ∀ (lv : List (Nat × Value)) (pc : Nat), decode cX3_setOut pc = .ok (.return_, 1) → GG p l e rm3_setOut s m args below meth c G A 5 0 0 Q [(ru, oB 3 [.ref ru_values, .ref ru_sights, .int res.2.1, .int res.2.2, .int cut]), (ru_values, aI G 6 res.1), (ru_sights, aI G 61 sights), (aq0, oB 2 [.ref aq0_lines, .ref aq0_cells, .ref aq0_starts, .int (P0_N 0), .int (P0_N 1)]), (aq0_lines, aI G 80 (fun j => P0_N (24 + j))), (aq0_cells, aI G 16 (fun j => P0_N (8 + j))), (aq0_starts, aI G 6 (fun j => P0_N (2 + j)))] lv pc [])
    (hk15 : ∀ s', k15 s' = some res → GG p l e rm3_setOut s m args below meth c G A 5 0 0 Q [(ru, oB 3 [.ref ru_values, .ref ru_sights, .int s'.2.1, .int s'.2.2.1, .int cut]), (ru_values, aI G 6 s'.1), (ru_sights, aI G 61 sights), (aq0, oB 2 [.ref aq0_lines, .ref aq0_cells, .ref aq0_starts, .int (P0_N 0), .int (P0_N 1)]), (aq0_lines, aI G 80 (fun j => P0_N (24 + j))), (aq0_cells, aI G 16 (fun j => P0_N (8 + j))), (aq0_starts, aI G 6 (fun j => P0_N (2 + j)))] [(0, .ref ru), (1, .ref aq0), (2, .int s'.2.2.2.1), (3, .int s'.2.2.2.2.1), (4, .int s'.2.2.2.2.2)] 15 [])
    (hf : f3_setOut_15b P0_N k15 values seenCount steps x2 x3 x4 = some res) : GG p l e rm3_setOut s m args below meth c G A 5 0 0 Q [(ru, oB 3 [.ref ru_values, .ref ru_sights, .int seenCount, .int steps, .int cut]), (ru_values, aI G 6 values), (ru_sights, aI G 61 sights), (aq0, oB 2 [.ref aq0_lines, .ref aq0_cells, .ref aq0_starts, .int (P0_N 0), .int (P0_N 1)]), (aq0_lines, aI G 80 (fun j => P0_N (24 + j))), (aq0_cells, aI G 16 (fun j => P0_N (8 + j))), (aq0_starts, aI G 6 (fun j => P0_N (2 + j)))] [(0, .ref ru), (1, .ref aq0), (2, .int x2), (3, .int x3), (4, .int x4)] 15 [] := by
  unfold f3_setOut_15b at hf
  refine g_iload C dX3_setOut_15 4 rfl ?_
  refine g_bipush (v := (6 : Int32)) C dX3_setOut_17 (by decide +kernel) ?_
  refine g_icmp_ge (tgt := 74) C dX3_setOut_19 (by decide) (fun c1 => ?_) (fun c1 => ?_)
  · replace hf := ite_t c1 hf
    obtain rfl := Option.some.inj hf
    exact hR _ _ dX3_setOut_74
  · replace hf := ite_f c1 hf
    refine g_aload_n C dX3_setOut_22 rfl 1 rfl ?_
    refine g_getN (C0 := RX2) (T := TX2) (N := 5) (ci := 2) (v := .int (P0_N 1)) (host := "SecretSteps") C hm3_setOut_0 3 rfl rfl 4 (by decide) hn3_46 rfl dX3_setOut_23 ?_
    refine g_iload C dX3_setOut_26 4 rfl ?_
    refine g_ishr C dX3_setOut_28 ?_
    refine g_iconst (v := (1 : Int32)) C dX3_setOut_29 (by decide +kernel) ?_
    refine g_iand C dX3_setOut_30 ?_
    refine g_iconst (v := (1 : Int32)) C dX3_setOut_31 (by decide +kernel) ?_
    refine g_icmp_ne (tgt := 54) C dX3_setOut_32 (by decide) (fun c2 => ?_) (fun c2 => ?_)
    · replace hf := ite_f c2 hf
      refine g_aload_n C dX3_setOut_54 rfl 0 rfl ?_
      refine g_get (C0 := RX3) (T := TX3) (N := 5) (ci := 3) (v := .ref ru_values) C hm3_setOut_1 0 rfl rfl 0 (by decide) hm3_setOut_2 rfl dX3_setOut_55 ?_
      refine g_iload C dX3_setOut_58 4 rfl ?_
      refine g_aload_n C dX3_setOut_60 rfl 1 rfl ?_
      refine g_getN (C0 := RX2) (T := TX2) (N := 5) (ci := 2) (v := .ref aq0_starts) (host := "SecretSteps") C hm3_setOut_0 3 rfl rfl 2 (by decide) hn3_49 rfl dX3_setOut_61 ?_
      refine g_iload C dX3_setOut_64 4 rfl ?_
      obtain ⟨h3, hf⟩ := ck_some hf
      refine g_iald (n := 6) (v := (P0_N (2 + x4.toNatClampNeg))) C 6 rfl h3 rfl rfl dX3_setOut_66 ?_
      obtain ⟨h4, hf⟩ := ck_some hf
      refine g_iast (n := 6) (WS' := [(ru, oB 3 [.ref ru_values, .ref ru_sights, .int seenCount, .int steps, .int cut]), (ru_values, aI G 6 (upd values x4.toNatClampNeg (P0_N (2 + x4.toNatClampNeg)))), (ru_sights, aI G 61 sights), (aq0, oB 2 [.ref aq0_lines, .ref aq0_cells, .ref aq0_starts, .int (P0_N 0), .int (P0_N 1)]), (aq0_lines, aI G 80 (fun j => P0_N (24 + j))), (aq0_cells, aI G 16 (fun j => P0_N (8 + j))), (aq0_starts, aI G 6 (fun j => P0_N (2 + j)))]) C 1 rfl h4 rfl dX3_setOut_67 rfl ?_
      refine g_iinc (v := (x4 + (1 : Int32))) (lv' := [(0, .ref ru), (1, .ref aq0), (2, .int x2), (3, .int x3), (4, .int (x4 + (1 : Int32)))]) C dX3_setOut_68 4 rfl rfl (by decide) [1, 2, 3, 4, 0] rfl ?_
      refine g_goto (tgt := 15) C dX3_setOut_71 (by decide) ?_
      exact hk15 _ hf
    · replace hf := ite_t c2 hf
      refine g_aload_n C dX3_setOut_35 rfl 0 rfl ?_
      refine g_get (C0 := RX3) (T := TX3) (N := 5) (ci := 3) (v := .ref ru_values) C hm3_setOut_1 0 rfl rfl 0 (by decide) hm3_setOut_2 rfl dX3_setOut_36 ?_
      refine g_iload C dX3_setOut_39 4 rfl ?_
      refine g_iload_n C dX3_setOut_41 rfl 3 rfl ?_
      refine g_bipush (v := (16 : Int32)) C dX3_setOut_42 (by decide +kernel) ?_
      refine g_irem C dX3_setOut_44 (by decide +kernel) ?_
      obtain ⟨h5, hf⟩ := ck_some hf
      refine g_iast (n := 6) (WS' := [(ru, oB 3 [.ref ru_values, .ref ru_sights, .int seenCount, .int steps, .int cut]), (ru_values, aI G 6 (upd values x4.toNatClampNeg (irm x3 (16 : Int32)))), (ru_sights, aI G 61 sights), (aq0, oB 2 [.ref aq0_lines, .ref aq0_cells, .ref aq0_starts, .int (P0_N 0), .int (P0_N 1)]), (aq0_lines, aI G 80 (fun j => P0_N (24 + j))), (aq0_cells, aI G 16 (fun j => P0_N (8 + j))), (aq0_starts, aI G 6 (fun j => P0_N (2 + j)))]) C 1 rfl h5 rfl dX3_setOut_45 rfl ?_
      refine g_iload_n C dX3_setOut_46 rfl 3 rfl ?_
      refine g_bipush (v := (16 : Int32)) C dX3_setOut_47 (by decide +kernel) ?_
      refine g_idiv C dX3_setOut_49 (by decide +kernel) ?_
      refine g_istore_n (lv' := [(0, .ref ru), (1, .ref aq0), (2, .int x2), (3, .int (x3 / (16 : Int32))), (4, .int x4)]) C dX3_setOut_50 rfl (by decide) [1, 2, 3, 0, 4] rfl ?_
      refine g_goto (tgt := 68) C dX3_setOut_51 (by decide) ?_
      refine g_iinc (v := (x4 + (1 : Int32))) (lv' := [(0, .ref ru), (1, .ref aq0), (2, .int x2), (3, .int (x3 / (16 : Int32))), (4, .int (x4 + (1 : Int32)))]) C dX3_setOut_68 4 rfl rfl (by decide) [1, 2, 3, 4, 0] rfl ?_
      refine g_goto (tgt := 15) C dX3_setOut_71 (by decide) ?_
      exact hk15 _ hf
set_option maxHeartbeats 4000000 in
set_option maxRecDepth 100000 in
theorem k3_setOut_15 {p : Program} {l : Launch} {e : Env} {s : State} {m : MethodId} {args : Array Value} {below : List Frame} {meth : Method} {c : Code} {G : gG} {A : Nat → Prop} {Q : State → Prop} {ru ru_values ru_sights aq0 aq0_lines aq0_cells aq0_starts : Nat} (C : CX p s m args meth c G A cX3_setOut 5 RX3 wsX3_setOut) {sights : Nat → Int32} {cut : Int32} {P0_N : Nat → Int32} {res : (Nat → Int32) × Int32 × Int32} (hR : ∀ (lv : List (Nat × Value)) (pc : Nat), decode cX3_setOut pc = .ok (.return_, 1) → GG p l e rm3_setOut s m args below meth c G A 5 0 0 Q [(ru, oB 3 [.ref ru_values, .ref ru_sights, .int res.2.1, .int res.2.2, .int cut]), (ru_values, aI G 6 res.1), (ru_sights, aI G 61 sights), (aq0, oB 2 [.ref aq0_lines, .ref aq0_cells, .ref aq0_starts, .int (P0_N 0), .int (P0_N 1)]), (aq0_lines, aI G 80 (fun j => P0_N (24 + j))), (aq0_cells, aI G 16 (fun j => P0_N (8 + j))), (aq0_starts, aI G 6 (fun j => P0_N (2 + j)))] lv pc []) : ∀ (n : Nat) (s1 : (Nat → Int32) × Int32 × Int32 × Int32 × Int32 × Int32), f3_setOut_15 P0_N n s1 = some res → GG p l e rm3_setOut s m args below meth c G A 5 0 0 Q [(ru, oB 3 [.ref ru_values, .ref ru_sights, .int s1.2.1, .int s1.2.2.1, .int cut]), (ru_values, aI G 6 s1.1), (ru_sights, aI G 61 sights), (aq0, oB 2 [.ref aq0_lines, .ref aq0_cells, .ref aq0_starts, .int (P0_N 0), .int (P0_N 1)]), (aq0_lines, aI G 80 (fun j => P0_N (24 + j))), (aq0_cells, aI G 16 (fun j => P0_N (8 + j))), (aq0_starts, aI G 6 (fun j => P0_N (2 + j)))] [(0, .ref ru), (1, .ref aq0), (2, .int s1.2.2.2.1), (3, .int s1.2.2.2.2.1), (4, .int s1.2.2.2.2.2)] 15 [] :=
  itf_ind (fun k s1 ih hf => k3_setOut_15b C hR ih hf)
set_option maxHeartbeats 4000000 in
set_option maxRecDepth 100000 in
theorem c3_setOut {l : Launch} {G : gG} {ru ru_values ru_sights aq0 aq0_lines aq0_cells aq0_starts : Nat} {values : Nat → Int32} {sights : Nat → Int32} {seenCount : Int32} {steps : Int32} {cut : Int32} {P0_N : Nat → Int32} {v1 : Int32} {res : (Nat → Int32) × Int32 × Int32} (hf : f3_setOut P0_N values seenCount steps v1 = some res) : MV l yX3_setOut wsX3_setOut rm3_setOut G [.ref ru, .ref aq0, .int v1] [(ru, oB 3 [.ref ru_values, .ref ru_sights, .int seenCount, .int steps, .int cut]), (ru_values, aI G 6 values), (ru_sights, aI G 61 sights), (aq0, oB 2 [.ref aq0_lines, .ref aq0_cells, .ref aq0_starts, .int (P0_N 0), .int (P0_N 1)]), (aq0_lines, aI G 80 (fun j => P0_N (24 + j))), (aq0_cells, aI G 16 (fun j => P0_N (8 + j))), (aq0_starts, aI G 6 (fun j => P0_N (2 + j)))] [(ru, oB 3 [.ref ru_values, .ref ru_sights, .int res.2.1, .int res.2.2, .int cut]), (ru_values, aI G 6 res.1), (ru_sights, aI G 61 sights), (aq0, oB 2 [.ref aq0_lines, .ref aq0_cells, .ref aq0_starts, .int (P0_N 0), .int (P0_N 1)]), (aq0_lines, aI G 80 (fun j => P0_N (24 + j))), (aq0_cells, aI G 16 (fun j => P0_N (8 + j))), (aq0_starts, aI G 6 (fun j => P0_N (2 + j)))] := by
  refine MV_of (cc := cX3_setOut) (nL := 5) (lv := [(0, .ref ru), (1, .ref aq0), (2, .int v1)]) (by decide +kernel) rfl (Nat.le_of_ble_eq_true rfl) rfl ?_
  intro p e s m args below meth c A Q C hR
  unfold f3_setOut at hf
  refine g_aload_n C dX3_setOut_0 rfl 0 rfl ?_
  refine g_iconst (v := (0 : Int32)) C dX3_setOut_1 (by decide +kernel) ?_
  refine g_put (C0 := RX3) (T := TX3) (N := 5) (ci := 3) (ty := .int) (WS' := [(ru, oB 3 [.ref ru_values, .ref ru_sights, .int (0 : Int32), .int steps, .int cut]), (ru_values, aI G 6 values), (ru_sights, aI G 61 sights), (aq0, oB 2 [.ref aq0_lines, .ref aq0_cells, .ref aq0_starts, .int (P0_N 0), .int (P0_N 1)]), (aq0_lines, aI G 80 (fun j => P0_N (24 + j))), (aq0_cells, aI G 16 (fun j => P0_N (8 + j))), (aq0_starts, aI G 6 (fun j => P0_N (2 + j)))]) C hm3_setOut_1 tyX3 tyX3_ok nmX3 0 rfl rfl 2 (by decide) hm3_setOut_3 rfl rfl rfl rfl (Nat.le_of_ble_eq_true rfl) dX3_setOut_2 rfl ?_
  refine g_aload_n C dX3_setOut_5 rfl 0 rfl ?_
  refine g_iconst (v := (0 : Int32)) C dX3_setOut_6 (by decide +kernel) ?_
  refine g_put (C0 := RX3) (T := TX3) (N := 5) (ci := 3) (ty := .int) (WS' := [(ru, oB 3 [.ref ru_values, .ref ru_sights, .int (0 : Int32), .int (0 : Int32), .int cut]), (ru_values, aI G 6 values), (ru_sights, aI G 61 sights), (aq0, oB 2 [.ref aq0_lines, .ref aq0_cells, .ref aq0_starts, .int (P0_N 0), .int (P0_N 1)]), (aq0_lines, aI G 80 (fun j => P0_N (24 + j))), (aq0_cells, aI G 16 (fun j => P0_N (8 + j))), (aq0_starts, aI G 6 (fun j => P0_N (2 + j)))]) C hm3_setOut_1 tyX3 tyX3_ok nmX3 0 rfl rfl 3 (by decide) hm3_setOut_4 rfl rfl rfl rfl (Nat.le_of_ble_eq_true rfl) dX3_setOut_7 rfl ?_
  refine g_iload_n C dX3_setOut_10 rfl 2 rfl ?_
  refine g_istore_n (lv' := [(0, .ref ru), (1, .ref aq0), (2, .int v1), (3, .int v1)]) C dX3_setOut_11 rfl (by decide) [1, 2, 3, 0] rfl ?_
  refine g_iconst (v := (0 : Int32)) C dX3_setOut_12 (by decide +kernel) ?_
  refine g_istore (lv' := [(0, .ref ru), (1, .ref aq0), (2, .int v1), (3, .int v1), (4, .int (0 : Int32))]) C dX3_setOut_13 (by decide) [1, 2, 3, 4, 0] rfl ?_
  exact k3_setOut_15 C hR _ _ hf

-- X3_see
def f3_see (sights : Nat → Int32) (seenCount : Int32) (v0 : Int32) : Option ((Nat → Int32) × Int32) :=
  if (61 : Int32) ≤ seenCount then
    (some (sights, seenCount))
    else (ck (inb seenCount 61) <|
    some ((upd sights seenCount.toNatClampNeg v0), (seenCount + (1 : Int32))))
def rm3_see : Room := { frames := 0, cells := 0, slots := 0, locals := 0 }
theorem hm3_see_0 : ∀ w ∈ u_ws RX3 TX3 5, w ∈ wsX3_see := by decide +kernel
theorem hm3_see_1 : Cond.fieldLink RX3 43 "SecretSteps$Run" "seenCount" "I" ∈ wsX3_see := by decide +kernel
theorem hm3_see_2 : Cond.fieldLink RX3 15 "SecretSteps$Run" "sights" "[I" ∈ wsX3_see := by decide +kernel
set_option maxHeartbeats 4000000 in
set_option maxRecDepth 100000 in
theorem c3_see {l : Launch} {G : gG} {ru ru_values ru_sights : Nat} {values : Nat → Int32} {sights : Nat → Int32} {seenCount : Int32} {steps : Int32} {cut : Int32} {v0 : Int32} {res : (Nat → Int32) × Int32} (hf : f3_see sights seenCount v0 = some res) : MV l yX3_see wsX3_see rm3_see G [.ref ru, .int v0] [(ru, oB 3 [.ref ru_values, .ref ru_sights, .int seenCount, .int steps, .int cut]), (ru_values, aI G 6 values), (ru_sights, aI G 61 sights)] [(ru, oB 3 [.ref ru_values, .ref ru_sights, .int res.2, .int steps, .int cut]), (ru_values, aI G 6 values), (ru_sights, aI G 61 res.1)] := by
  refine MV_of (cc := cX3_see) (nL := 2) (lv := [(0, .ref ru), (1, .int v0)]) (by decide +kernel) rfl (Nat.le_of_ble_eq_true rfl) rfl ?_
  intro p e s m args below meth c A Q C hR
  unfold f3_see at hf
  refine g_aload_n C dX3_see_0 rfl 0 rfl ?_
  refine g_get (C0 := RX3) (T := TX3) (N := 5) (ci := 3) (v := .int seenCount) C hm3_see_0 0 rfl rfl 2 (by decide) hm3_see_1 rfl dX3_see_1 ?_
  refine g_bipush (v := (61 : Int32)) C dX3_see_4 (by decide +kernel) ?_
  refine g_icmp_ge (tgt := 29) C dX3_see_6 (by decide) (fun c1 => ?_) (fun c1 => ?_)
  · replace hf := ite_t c1 hf
    obtain rfl := Option.some.inj hf
    exact hR _ _ dX3_see_29
  · replace hf := ite_f c1 hf
    refine g_aload_n C dX3_see_9 rfl 0 rfl ?_
    refine g_get (C0 := RX3) (T := TX3) (N := 5) (ci := 3) (v := .ref ru_sights) C hm3_see_0 0 rfl rfl 1 (by decide) hm3_see_2 rfl dX3_see_10 ?_
    refine g_aload_n C dX3_see_13 rfl 0 rfl ?_
    refine g_get (C0 := RX3) (T := TX3) (N := 5) (ci := 3) (v := .int seenCount) C hm3_see_0 0 rfl rfl 2 (by decide) hm3_see_1 rfl dX3_see_14 ?_
    refine g_iload_n C dX3_see_17 rfl 1 rfl ?_
    obtain ⟨h2, hf⟩ := ck_some hf
    refine g_iast (n := 61) (WS' := [(ru, oB 3 [.ref ru_values, .ref ru_sights, .int seenCount, .int steps, .int cut]), (ru_values, aI G 6 values), (ru_sights, aI G 61 (upd sights seenCount.toNatClampNeg v0))]) C 2 rfl h2 rfl dX3_see_18 rfl ?_
    refine g_aload_n C dX3_see_19 rfl 0 rfl ?_
    refine g_dup C dX3_see_20 rfl ?_
    refine g_get (C0 := RX3) (T := TX3) (N := 5) (ci := 3) (v := .int seenCount) C hm3_see_0 0 rfl rfl 2 (by decide) hm3_see_1 rfl dX3_see_21 ?_
    refine g_iconst (v := (1 : Int32)) C dX3_see_24 (by decide +kernel) ?_
    refine g_iadd C dX3_see_25 ?_
    refine g_put (C0 := RX3) (T := TX3) (N := 5) (ci := 3) (ty := .int) (WS' := [(ru, oB 3 [.ref ru_values, .ref ru_sights, .int (seenCount + (1 : Int32)), .int steps, .int cut]), (ru_values, aI G 6 values), (ru_sights, aI G 61 (upd sights seenCount.toNatClampNeg v0))]) C hm3_see_0 tyX3 tyX3_ok nmX3 0 rfl rfl 2 (by decide) hm3_see_1 rfl rfl rfl rfl (Nat.le_of_ble_eq_true rfl) dX3_see_26 rfl ?_
    obtain rfl := Option.some.inj hf
    exact hR _ _ dX3_see_29

-- X3_doLine
def f3_doLine_317 (P0_N : Nat → Int32) (values : Nat → Int32) (sights : Nat → Int32) (seenCount : Int32) (x2 : Int32) (x4 : Int32) (x5 : Int32) (x6 : Int32) (x7 : Int32) : Option (Int32 × (Nat → Int32) × (Nat → Int32) × Int32) :=
  some ((x2 + (1 : Int32)), values, sights, seenCount)
def f3_doLine_227 (P0_N : Nat → Int32) (values : Nat → Int32) (sights : Nat → Int32) (seenCount : Int32) (x2 : Int32) (x4 : Int32) (x5 : Int32) (x6 : Int32) (x7 : Int32) (y1 : Int32) (y2 : Int32) : Option (Int32 × (Nat → Int32) × (Nat → Int32) × Int32) :=
  (f3_see sights seenCount (y1 + y2)).bind <| fun q1 =>
    ck (inb x6 6) <|
    if (values x6.toNatClampNeg) = 0 then
    (some ((x2 + (1 : Int32)), values, q1.1, q1.2))
    else (some (x7, values, q1.1, q1.2))
def f3_doLine_32 (P0_N : Nat → Int32) (values : Nat → Int32) (sights : Nat → Int32) (seenCount : Int32) (x2 : Int32) (x4 : Int32) (x5 : Int32) (x6 : Int32) (x7 : Int32) : Option (Int32 × (Nat → Int32) × (Nat → Int32) × Int32) :=
  (if x5 = (0 : Int32) then
    (ck (inb x6 6) <|
    f3_doLine_317 P0_N (upd values x6.toNatClampNeg x7) sights seenCount x2 x4 x5 x6 x7)
    else (if x5 = (1 : Int32) then
    (ck (inb x7 6) <|
    ck (inb x6 6) <|
    f3_doLine_317 P0_N (upd values x6.toNatClampNeg (values x7.toNatClampNeg)) sights seenCount x2 x4 x5 x6 x7)
    else (if x5 = (2 : Int32) then
    (ck (inb x6 6) <|
    ck (inb x7 6) <|
    (f6_combined x5 (values x6.toNatClampNeg) (values x7.toNatClampNeg)).bind <| fun q12 =>
    ck (inb x6 6) <|
    f3_doLine_317 P0_N (upd values x6.toNatClampNeg q12) sights seenCount x2 x4 x5 x6 x7)
    else (if x5 = (3 : Int32) then
    (ck (inb x6 6) <|
    ck (inb x7 6) <|
    (f6_combined x5 (values x6.toNatClampNeg) (values x7.toNatClampNeg)).bind <| fun q17 =>
    ck (inb x6 6) <|
    f3_doLine_317 P0_N (upd values x6.toNatClampNeg q17) sights seenCount x2 x4 x5 x6 x7)
    else (if x5 = (4 : Int32) then
    (ck (inb x6 6) <|
    ck (inb x7 6) <|
    (f6_combined x5 (values x6.toNatClampNeg) (values x7.toNatClampNeg)).bind <| fun q22 =>
    ck (inb x6 6) <|
    f3_doLine_317 P0_N (upd values x6.toNatClampNeg q22) sights seenCount x2 x4 x5 x6 x7)
    else (if x5 = (5 : Int32) then
    (ck (inb x7 6) <|
    (f3_see sights seenCount ((100 : Int32) + (values x7.toNatClampNeg))).bind <| fun q26 =>
    ck (inb x7 6) <|
    ck (inb (values x7.toNatClampNeg) 16) <|
    ck (inb x6 6) <|
    f3_doLine_317 P0_N (upd values x6.toNatClampNeg (P0_N (8 + (values x7.toNatClampNeg).toNatClampNeg))) q26.1 q26.2 x2 x4 x5 x6 x7)
    else (if x5 = (6 : Int32) then
    (ck (inb x6 6) <|
    ck (inb x7 6) <|
    (f3_see sights seenCount (((200 : Int32) + ((16 : Int32) * (values x6.toNatClampNeg))) + (values x7.toNatClampNeg))).bind <| fun q33 =>
    ck (inb x6 6) <|
    ck (inb x7 6) <|
    (f6_combined (6 : Int32) (values x6.toNatClampNeg) (values x7.toNatClampNeg)).bind <| fun q36 =>
    ck (inb x6 6) <|
    f3_doLine_317 P0_N (upd values x6.toNatClampNeg q36) q33.1 q33.2 x2 x4 x5 x6 x7)
    else (if x5 = (7 : Int32) then
    (ck (inb x6 6) <|
    if (values x6.toNatClampNeg) = 0 then
    (f3_doLine_227 P0_N values sights seenCount x2 x4 x5 x6 x7 ((500 : Int32) + ((2 : Int32) * x2)) (0 : Int32))
    else (f3_doLine_227 P0_N values sights seenCount x2 x4 x5 x6 x7 ((500 : Int32) + ((2 : Int32) * x2)) (1 : Int32)))
    else (if x5 = (8 : Int32) then
    (ck (inb x6 6) <|
    if (values x6.toNatClampNeg) = 0 then
    (ck (inb (x4 + (3 : Int32)) 80) <|
    ck (inb (P0_N (24 + (x4 + (3 : Int32)).toNatClampNeg)) 6) <|
    ck (inb x6 6) <|
    f3_doLine_317 P0_N (upd values x6.toNatClampNeg (values (P0_N (24 + (x4 + (3 : Int32)).toNatClampNeg)).toNatClampNeg)) sights seenCount x2 x4 x5 x6 x7)
    else (ck (inb x7 6) <|
    ck (inb x6 6) <|
    f3_doLine_317 P0_N (upd values x6.toNatClampNeg (values x7.toNatClampNeg)) sights seenCount x2 x4 x5 x6 x7))
    else (ck (inb x6 6) <|
    ck (inb x7 6) <|
    (f6_combined x5 (values x6.toNatClampNeg) (values x7.toNatClampNeg)).bind <| fun q51 =>
    ck (inb x6 6) <|
    f3_doLine_317 P0_N (upd values x6.toNatClampNeg q51) sights seenCount x2 x4 x5 x6 x7))))))))))
def f3_doLine (P0_N : Nat → Int32) (values : Nat → Int32) (sights : Nat → Int32) (seenCount : Int32) (v1 : Int32) : Option (Int32 × (Nat → Int32) × (Nat → Int32) × Int32) :=
  ck (inb (v1 * (4 : Int32)) 80) <|
    ck (inb ((v1 * (4 : Int32)) + (1 : Int32)) 80) <|
    ck (inb ((v1 * (4 : Int32)) + (2 : Int32)) 80) <|
    f3_doLine_32 P0_N values sights seenCount v1 (v1 * (4 : Int32)) (P0_N (24 + (v1 * (4 : Int32)).toNatClampNeg)) (P0_N (24 + ((v1 * (4 : Int32)) + (1 : Int32)).toNatClampNeg)) (P0_N (24 + ((v1 * (4 : Int32)) + (2 : Int32)).toNatClampNeg))
def rm3_doLine : Room := { frames := 1, cells := 0, slots := 0, locals := 22 }
theorem hm3_doLine_0 : ∀ w ∈ u_ws RX3 TX3 5, w ∈ wsX3_doLine := by decide +kernel
theorem hm3_doLine_1 : Cond.fieldLink RX3 9 "SecretSteps$Run" "values" "[I" ∈ wsX3_doLine := by decide +kernel
theorem hm3_doLine_2 : Cond.initialized yX6_combined.cls ∈ wsX3_doLine := by decide +kernel
theorem hm3_doLine_3 : Cond.static yX6_combined ∈ wsX3_doLine := by decide +kernel
theorem hm3_doLine_4 : ∀ w ∈ u_ws RX2 TX2 5, w ∈ wsX3_doLine := by decide +kernel
set_option maxHeartbeats 4000000 in
set_option maxRecDepth 100000 in
theorem k3_doLine_317 {p : Program} {l : Launch} {e : Env} {s : State} {m : MethodId} {args : Array Value} {below : List Frame} {meth : Method} {c : Code} {G : gG} {A : Nat → Prop} {Q : State → Prop} {ru ru_values ru_sights aq0 aq0_lines aq0_cells aq0_starts : Nat} (C : CX p s m args meth c G A cX3_doLine 8 RX3 wsX3_doLine) {steps : Int32} {cut : Int32} {P0_N : Nat → Int32} {values : Nat → Int32} {sights : Nat → Int32} {seenCount : Int32} {x2 : Int32} {x4 : Int32} {x5 : Int32} {x6 : Int32} {x7 : Int32} {res : Int32 × (Nat → Int32) × (Nat → Int32) × Int32} (hR : ∀ (lv : List (Nat × Value)) (pc : Nat), decode cX3_doLine pc = .ok (.ireturn, 1) → GG p l e rm3_doLine s m args below meth c G A 8 0 0 Q [(ru, oB 3 [.ref ru_values, .ref ru_sights, .int res.2.2.2, .int steps, .int cut]), (ru_values, aI G 6 res.2.1), (ru_sights, aI G 61 res.2.2.1), (aq0, oB 2 [.ref aq0_lines, .ref aq0_cells, .ref aq0_starts, .int (P0_N 0), .int (P0_N 1)]), (aq0_lines, aI G 80 (fun j => P0_N (24 + j))), (aq0_cells, aI G 16 (fun j => P0_N (8 + j))), (aq0_starts, aI G 6 (fun j => P0_N (2 + j)))] lv pc [.int res.1])
    (hf : f3_doLine_317 P0_N values sights seenCount x2 x4 x5 x6 x7 = some res) : GG p l e rm3_doLine s m args below meth c G A 8 0 0 Q [(ru, oB 3 [.ref ru_values, .ref ru_sights, .int seenCount, .int steps, .int cut]), (ru_values, aI G 6 values), (ru_sights, aI G 61 sights), (aq0, oB 2 [.ref aq0_lines, .ref aq0_cells, .ref aq0_starts, .int (P0_N 0), .int (P0_N 1)]), (aq0_lines, aI G 80 (fun j => P0_N (24 + j))), (aq0_cells, aI G 16 (fun j => P0_N (8 + j))), (aq0_starts, aI G 6 (fun j => P0_N (2 + j)))] [(0, .ref ru), (1, .ref aq0), (2, .int x2), (3, .ref aq0_lines), (4, .int x4), (5, .int x5), (6, .int x6), (7, .int x7)] 317 [] := by
  unfold f3_doLine_317 at hf
  refine g_iload_n C dX3_doLine_317 rfl 2 rfl ?_
  refine g_iconst (v := (1 : Int32)) C dX3_doLine_318 (by decide +kernel) ?_
  refine g_iadd C dX3_doLine_319 ?_
  obtain rfl := Option.some.inj hf
  exact hR _ _ dX3_doLine_320
set_option maxHeartbeats 4000000 in
set_option maxRecDepth 100000 in
theorem k3_doLine_227 {p : Program} {l : Launch} {e : Env} {s : State} {m : MethodId} {args : Array Value} {below : List Frame} {meth : Method} {c : Code} {G : gG} {A : Nat → Prop} {Q : State → Prop} {ru ru_values ru_sights aq0 aq0_lines aq0_cells aq0_starts : Nat} (C : CX p s m args meth c G A cX3_doLine 8 RX3 wsX3_doLine) {steps : Int32} {cut : Int32} {P0_N : Nat → Int32} {values : Nat → Int32} {sights : Nat → Int32} {seenCount : Int32} {x2 : Int32} {x4 : Int32} {x5 : Int32} {x6 : Int32} {x7 : Int32} {y1 : Int32} {y2 : Int32} {res : Int32 × (Nat → Int32) × (Nat → Int32) × Int32} (hR : ∀ (lv : List (Nat × Value)) (pc : Nat), decode cX3_doLine pc = .ok (.ireturn, 1) → GG p l e rm3_doLine s m args below meth c G A 8 0 0 Q [(ru, oB 3 [.ref ru_values, .ref ru_sights, .int res.2.2.2, .int steps, .int cut]), (ru_values, aI G 6 res.2.1), (ru_sights, aI G 61 res.2.2.1), (aq0, oB 2 [.ref aq0_lines, .ref aq0_cells, .ref aq0_starts, .int (P0_N 0), .int (P0_N 1)]), (aq0_lines, aI G 80 (fun j => P0_N (24 + j))), (aq0_cells, aI G 16 (fun j => P0_N (8 + j))), (aq0_starts, aI G 6 (fun j => P0_N (2 + j)))] lv pc [.int res.1])
    (hf : f3_doLine_227 P0_N values sights seenCount x2 x4 x5 x6 x7 y1 y2 = some res) : GG p l e rm3_doLine s m args below meth c G A 8 0 0 Q [(ru, oB 3 [.ref ru_values, .ref ru_sights, .int seenCount, .int steps, .int cut]), (ru_values, aI G 6 values), (ru_sights, aI G 61 sights), (aq0, oB 2 [.ref aq0_lines, .ref aq0_cells, .ref aq0_starts, .int (P0_N 0), .int (P0_N 1)]), (aq0_lines, aI G 80 (fun j => P0_N (24 + j))), (aq0_cells, aI G 16 (fun j => P0_N (8 + j))), (aq0_starts, aI G 6 (fun j => P0_N (2 + j)))] [(0, .ref ru), (1, .ref aq0), (2, .int x2), (3, .ref aq0_lines), (4, .int x4), (5, .int x5), (6, .int x6), (7, .int x7)] 227 [.int y2, .int y1, .ref ru] := by
  unfold f3_doLine_227 at hf
  refine g_iadd C dX3_doLine_227 ?_
  obtain ⟨q1, hq1, hf⟩ := bs hf
  refine g_callVv (n := 1) (As := [.int (y1 + y2)]) (rest := []) (wc := [(ru, oB 3 [.ref ru_values, .ref ru_sights, .int seenCount, .int steps, .int cut]), (ru_values, aI G 6 values), (ru_sights, aI G 61 sights)]) (w1 := [(ru, oB 3 [.ref ru_values, .ref ru_sights, .int q1.2, .int steps, .int cut]), (ru_values, aI G 6 values), (ru_sights, aI G 61 q1.1)]) (wr := [(aq0, oB 2 [.ref aq0_lines, .ref aq0_cells, .ref aq0_starts, .int (P0_N 0), .int (P0_N 1)]), (aq0_lines, aI G 80 (fun j => P0_N (24 + j))), (aq0_cells, aI G 16 (fun j => P0_N (8 + j))), (aq0_starts, aI G 6 (fun j => P0_N (2 + j)))]) (WS' := [(ru, oB 3 [.ref ru_values, .ref ru_sights, .int q1.2, .int steps, .int cut]), (ru_values, aI G 6 values), (ru_sights, aI G 61 q1.1), (aq0, oB 2 [.ref aq0_lines, .ref aq0_cells, .ref aq0_starts, .int (P0_N 0), .int (P0_N 1)]), (aq0_lines, aI G 80 (fun j => P0_N (24 + j))), (aq0_cells, aI G 16 (fun j => P0_N (8 + j))), (aq0_starts, aI G 6 (fun j => P0_N (2 + j)))]) C (c3_see hq1) gX3_doLine_X3_see (by decide +kernel) rfl rfl rfl rfl rfl rfl ⟨by decide, by decide⟩ rfl [0, 1, 2] [3, 4, 5, 6] [4, 5, 6, 0, 1, 2, 3] rfl (by decide) rfl (by decide) (by decide) rfl (by decide) (Nat.le_of_ble_eq_true rfl) ⟨Nat.zero_le _, Nat.zero_le _⟩ rfl dX3_doLine_228 ?_
  refine g_aload_n C dX3_doLine_231 rfl 0 rfl ?_
  refine g_get (C0 := RX3) (T := TX3) (N := 5) (ci := 3) (v := .ref ru_values) C hm3_doLine_0 0 rfl rfl 0 (by decide) hm3_doLine_1 rfl dX3_doLine_232 ?_
  refine g_iload C dX3_doLine_235 6 rfl ?_
  obtain ⟨h2, hf⟩ := ck_some hf
  refine g_iald (n := 6) (v := (values x6.toNatClampNeg)) C 1 rfl h2 rfl rfl dX3_doLine_237 ?_
  refine g_if_eq (tgt := 246) C dX3_doLine_238 (by decide) (fun c3 => ?_) (fun c3 => ?_)
  · replace hf := ite_t c3 hf
    refine g_iload_n C dX3_doLine_246 rfl 2 rfl ?_
    refine g_iconst (v := (1 : Int32)) C dX3_doLine_247 (by decide +kernel) ?_
    refine g_iadd C dX3_doLine_248 ?_
    obtain rfl := Option.some.inj hf
    exact hR _ _ dX3_doLine_249
  · replace hf := ite_f c3 hf
    refine g_iload C dX3_doLine_241 7 rfl ?_
    refine g_goto (tgt := 249) C dX3_doLine_243 (by decide) ?_
    obtain rfl := Option.some.inj hf
    exact hR _ _ dX3_doLine_249
set_option maxHeartbeats 4000000 in
set_option maxRecDepth 100000 in
theorem k3_doLine_32 {p : Program} {l : Launch} {e : Env} {s : State} {m : MethodId} {args : Array Value} {below : List Frame} {meth : Method} {c : Code} {G : gG} {A : Nat → Prop} {Q : State → Prop} {ru ru_values ru_sights aq0 aq0_lines aq0_cells aq0_starts : Nat} (C : CX p s m args meth c G A cX3_doLine 8 RX3 wsX3_doLine) {steps : Int32} {cut : Int32} {P0_N : Nat → Int32} {values : Nat → Int32} {sights : Nat → Int32} {seenCount : Int32} {x2 : Int32} {x4 : Int32} {x5 : Int32} {x6 : Int32} {x7 : Int32} {res : Int32 × (Nat → Int32) × (Nat → Int32) × Int32} (hR : ∀ (lv : List (Nat × Value)) (pc : Nat), decode cX3_doLine pc = .ok (.ireturn, 1) → GG p l e rm3_doLine s m args below meth c G A 8 0 0 Q [(ru, oB 3 [.ref ru_values, .ref ru_sights, .int res.2.2.2, .int steps, .int cut]), (ru_values, aI G 6 res.2.1), (ru_sights, aI G 61 res.2.2.1), (aq0, oB 2 [.ref aq0_lines, .ref aq0_cells, .ref aq0_starts, .int (P0_N 0), .int (P0_N 1)]), (aq0_lines, aI G 80 (fun j => P0_N (24 + j))), (aq0_cells, aI G 16 (fun j => P0_N (8 + j))), (aq0_starts, aI G 6 (fun j => P0_N (2 + j)))] lv pc [.int res.1])
    (hf : f3_doLine_32 P0_N values sights seenCount x2 x4 x5 x6 x7 = some res) : GG p l e rm3_doLine s m args below meth c G A 8 0 0 Q [(ru, oB 3 [.ref ru_values, .ref ru_sights, .int seenCount, .int steps, .int cut]), (ru_values, aI G 6 values), (ru_sights, aI G 61 sights), (aq0, oB 2 [.ref aq0_lines, .ref aq0_cells, .ref aq0_starts, .int (P0_N 0), .int (P0_N 1)]), (aq0_lines, aI G 80 (fun j => P0_N (24 + j))), (aq0_cells, aI G 16 (fun j => P0_N (8 + j))), (aq0_starts, aI G 6 (fun j => P0_N (2 + j)))] [(0, .ref ru), (1, .ref aq0), (2, .int x2), (3, .ref aq0_lines), (4, .int x4), (5, .int x5), (6, .int x6), (7, .int x7)] 32 [] := by
  unfold f3_doLine_32 at hf
  refine g_iload C dX3_doLine_32 5 rfl ?_
  by_cases c4 : x5 = (0 : Int32)
  · replace hf := ite_t c4 hf
    refine g_tableIn (off := 50) (tgt := 84) C dX3_doLine_34 (by rw [c4]; decide +kernel) (by rw [c4]; decide +kernel) (by rw [c4]; decide +kernel) (by decide) ?_
    refine g_aload_n C dX3_doLine_84 rfl 0 rfl ?_
    refine g_get (C0 := RX3) (T := TX3) (N := 5) (ci := 3) (v := .ref ru_values) C hm3_doLine_0 0 rfl rfl 0 (by decide) hm3_doLine_1 rfl dX3_doLine_85 ?_
    refine g_iload C dX3_doLine_88 6 rfl ?_
    refine g_iload C dX3_doLine_90 7 rfl ?_
    obtain ⟨h5, hf⟩ := ck_some hf
    refine g_iast (n := 6) (WS' := [(ru, oB 3 [.ref ru_values, .ref ru_sights, .int seenCount, .int steps, .int cut]), (ru_values, aI G 6 (upd values x6.toNatClampNeg x7)), (ru_sights, aI G 61 sights), (aq0, oB 2 [.ref aq0_lines, .ref aq0_cells, .ref aq0_starts, .int (P0_N 0), .int (P0_N 1)]), (aq0_lines, aI G 80 (fun j => P0_N (24 + j))), (aq0_cells, aI G 16 (fun j => P0_N (8 + j))), (aq0_starts, aI G 6 (fun j => P0_N (2 + j)))]) C 1 rfl h5 rfl dX3_doLine_92 rfl ?_
    refine g_goto (tgt := 317) C dX3_doLine_93 (by decide) ?_
    exact k3_doLine_317 C hR hf
  replace hf := ite_f c4 hf
  by_cases c6 : x5 = (1 : Int32)
  · replace hf := ite_t c6 hf
    refine g_tableIn (off := 62) (tgt := 96) C dX3_doLine_34 (by rw [c6]; decide +kernel) (by rw [c6]; decide +kernel) (by rw [c6]; decide +kernel) (by decide) ?_
    refine g_aload_n C dX3_doLine_96 rfl 0 rfl ?_
    refine g_get (C0 := RX3) (T := TX3) (N := 5) (ci := 3) (v := .ref ru_values) C hm3_doLine_0 0 rfl rfl 0 (by decide) hm3_doLine_1 rfl dX3_doLine_97 ?_
    refine g_iload C dX3_doLine_100 6 rfl ?_
    refine g_aload_n C dX3_doLine_102 rfl 0 rfl ?_
    refine g_get (C0 := RX3) (T := TX3) (N := 5) (ci := 3) (v := .ref ru_values) C hm3_doLine_0 0 rfl rfl 0 (by decide) hm3_doLine_1 rfl dX3_doLine_103 ?_
    refine g_iload C dX3_doLine_106 7 rfl ?_
    obtain ⟨h7, hf⟩ := ck_some hf
    refine g_iald (n := 6) (v := (values x7.toNatClampNeg)) C 1 rfl h7 rfl rfl dX3_doLine_108 ?_
    obtain ⟨h8, hf⟩ := ck_some hf
    refine g_iast (n := 6) (WS' := [(ru, oB 3 [.ref ru_values, .ref ru_sights, .int seenCount, .int steps, .int cut]), (ru_values, aI G 6 (upd values x6.toNatClampNeg (values x7.toNatClampNeg))), (ru_sights, aI G 61 sights), (aq0, oB 2 [.ref aq0_lines, .ref aq0_cells, .ref aq0_starts, .int (P0_N 0), .int (P0_N 1)]), (aq0_lines, aI G 80 (fun j => P0_N (24 + j))), (aq0_cells, aI G 16 (fun j => P0_N (8 + j))), (aq0_starts, aI G 6 (fun j => P0_N (2 + j)))]) C 1 rfl h8 rfl dX3_doLine_109 rfl ?_
    refine g_goto (tgt := 317) C dX3_doLine_110 (by decide) ?_
    exact k3_doLine_317 C hR hf
  replace hf := ite_f c6 hf
  by_cases c9 : x5 = (2 : Int32)
  · replace hf := ite_t c9 hf
    refine g_tableIn (off := 257) (tgt := 291) C dX3_doLine_34 (by rw [c9]; decide +kernel) (by rw [c9]; decide +kernel) (by rw [c9]; decide +kernel) (by decide) ?_
    refine g_aload_n C dX3_doLine_291 rfl 0 rfl ?_
    refine g_get (C0 := RX3) (T := TX3) (N := 5) (ci := 3) (v := .ref ru_values) C hm3_doLine_0 0 rfl rfl 0 (by decide) hm3_doLine_1 rfl dX3_doLine_292 ?_
    refine g_iload C dX3_doLine_295 6 rfl ?_
    refine g_iload C dX3_doLine_297 5 rfl ?_
    refine g_aload_n C dX3_doLine_299 rfl 0 rfl ?_
    refine g_get (C0 := RX3) (T := TX3) (N := 5) (ci := 3) (v := .ref ru_values) C hm3_doLine_0 0 rfl rfl 0 (by decide) hm3_doLine_1 rfl dX3_doLine_300 ?_
    refine g_iload C dX3_doLine_303 6 rfl ?_
    obtain ⟨h10, hf⟩ := ck_some hf
    refine g_iald (n := 6) (v := (values x6.toNatClampNeg)) C 1 rfl h10 rfl rfl dX3_doLine_305 ?_
    refine g_aload_n C dX3_doLine_306 rfl 0 rfl ?_
    refine g_get (C0 := RX3) (T := TX3) (N := 5) (ci := 3) (v := .ref ru_values) C hm3_doLine_0 0 rfl rfl 0 (by decide) hm3_doLine_1 rfl dX3_doLine_307 ?_
    refine g_iload C dX3_doLine_310 7 rfl ?_
    obtain ⟨h11, hf⟩ := ck_some hf
    refine g_iald (n := 6) (v := (values x7.toNatClampNeg)) C 1 rfl h11 rfl rfl dX3_doLine_312 ?_
    obtain ⟨q12, hq12, hf⟩ := bs hf
    refine g_callSNi (n := 3) (As := [.int x5, .int (values x6.toNatClampNeg), .int (values x7.toNatClampNeg)]) (rest := [.int x6, .ref ru_values]) (wc := []) (w1 := []) (wr := [(ru, oB 3 [.ref ru_values, .ref ru_sights, .int seenCount, .int steps, .int cut]), (ru_values, aI G 6 values), (ru_sights, aI G 61 sights), (aq0, oB 2 [.ref aq0_lines, .ref aq0_cells, .ref aq0_starts, .int (P0_N 0), .int (P0_N 1)]), (aq0_lines, aI G 80 (fun j => P0_N (24 + j))), (aq0_cells, aI G 16 (fun j => P0_N (8 + j))), (aq0_starts, aI G 6 (fun j => P0_N (2 + j)))]) (WS' := [(ru, oB 3 [.ref ru_values, .ref ru_sights, .int seenCount, .int steps, .int cut]), (ru_values, aI G 6 values), (ru_sights, aI G 61 sights), (aq0, oB 2 [.ref aq0_lines, .ref aq0_cells, .ref aq0_starts, .int (P0_N 0), .int (P0_N 1)]), (aq0_lines, aI G 80 (fun j => P0_N (24 + j))), (aq0_cells, aI G 16 (fun j => P0_N (8 + j))), (aq0_starts, aI G 6 (fun j => P0_N (2 + j)))]) C (c6_combined hq12) ggX3_doLine_X6_combined hn3_58 hm3_doLine_2 hm3_doLine_3 (by decide +kernel) rfl rfl rfl ⟨by decide, by decide⟩ rfl [] [0, 1, 2, 3, 4, 5, 6] [0, 1, 2, 3, 4, 5, 6] rfl (by decide) rfl (by decide) (by decide) rfl (by decide) (Nat.le_of_ble_eq_true rfl) ⟨Nat.zero_le _, Nat.zero_le _⟩ rfl dX3_doLine_313 ?_
    obtain ⟨h13, hf⟩ := ck_some hf
    refine g_iast (n := 6) (WS' := [(ru, oB 3 [.ref ru_values, .ref ru_sights, .int seenCount, .int steps, .int cut]), (ru_values, aI G 6 (upd values x6.toNatClampNeg q12)), (ru_sights, aI G 61 sights), (aq0, oB 2 [.ref aq0_lines, .ref aq0_cells, .ref aq0_starts, .int (P0_N 0), .int (P0_N 1)]), (aq0_lines, aI G 80 (fun j => P0_N (24 + j))), (aq0_cells, aI G 16 (fun j => P0_N (8 + j))), (aq0_starts, aI G 6 (fun j => P0_N (2 + j)))]) C 1 rfl h13 rfl dX3_doLine_316 rfl ?_
    exact k3_doLine_317 C hR hf
  replace hf := ite_f c9 hf
  by_cases c14 : x5 = (3 : Int32)
  · replace hf := ite_t c14 hf
    refine g_tableIn (off := 257) (tgt := 291) C dX3_doLine_34 (by rw [c14]; decide +kernel) (by rw [c14]; decide +kernel) (by rw [c14]; decide +kernel) (by decide) ?_
    refine g_aload_n C dX3_doLine_291 rfl 0 rfl ?_
    refine g_get (C0 := RX3) (T := TX3) (N := 5) (ci := 3) (v := .ref ru_values) C hm3_doLine_0 0 rfl rfl 0 (by decide) hm3_doLine_1 rfl dX3_doLine_292 ?_
    refine g_iload C dX3_doLine_295 6 rfl ?_
    refine g_iload C dX3_doLine_297 5 rfl ?_
    refine g_aload_n C dX3_doLine_299 rfl 0 rfl ?_
    refine g_get (C0 := RX3) (T := TX3) (N := 5) (ci := 3) (v := .ref ru_values) C hm3_doLine_0 0 rfl rfl 0 (by decide) hm3_doLine_1 rfl dX3_doLine_300 ?_
    refine g_iload C dX3_doLine_303 6 rfl ?_
    obtain ⟨h15, hf⟩ := ck_some hf
    refine g_iald (n := 6) (v := (values x6.toNatClampNeg)) C 1 rfl h15 rfl rfl dX3_doLine_305 ?_
    refine g_aload_n C dX3_doLine_306 rfl 0 rfl ?_
    refine g_get (C0 := RX3) (T := TX3) (N := 5) (ci := 3) (v := .ref ru_values) C hm3_doLine_0 0 rfl rfl 0 (by decide) hm3_doLine_1 rfl dX3_doLine_307 ?_
    refine g_iload C dX3_doLine_310 7 rfl ?_
    obtain ⟨h16, hf⟩ := ck_some hf
    refine g_iald (n := 6) (v := (values x7.toNatClampNeg)) C 1 rfl h16 rfl rfl dX3_doLine_312 ?_
    obtain ⟨q17, hq17, hf⟩ := bs hf
    refine g_callSNi (n := 3) (As := [.int x5, .int (values x6.toNatClampNeg), .int (values x7.toNatClampNeg)]) (rest := [.int x6, .ref ru_values]) (wc := []) (w1 := []) (wr := [(ru, oB 3 [.ref ru_values, .ref ru_sights, .int seenCount, .int steps, .int cut]), (ru_values, aI G 6 values), (ru_sights, aI G 61 sights), (aq0, oB 2 [.ref aq0_lines, .ref aq0_cells, .ref aq0_starts, .int (P0_N 0), .int (P0_N 1)]), (aq0_lines, aI G 80 (fun j => P0_N (24 + j))), (aq0_cells, aI G 16 (fun j => P0_N (8 + j))), (aq0_starts, aI G 6 (fun j => P0_N (2 + j)))]) (WS' := [(ru, oB 3 [.ref ru_values, .ref ru_sights, .int seenCount, .int steps, .int cut]), (ru_values, aI G 6 values), (ru_sights, aI G 61 sights), (aq0, oB 2 [.ref aq0_lines, .ref aq0_cells, .ref aq0_starts, .int (P0_N 0), .int (P0_N 1)]), (aq0_lines, aI G 80 (fun j => P0_N (24 + j))), (aq0_cells, aI G 16 (fun j => P0_N (8 + j))), (aq0_starts, aI G 6 (fun j => P0_N (2 + j)))]) C (c6_combined hq17) ggX3_doLine_X6_combined hn3_58 hm3_doLine_2 hm3_doLine_3 (by decide +kernel) rfl rfl rfl ⟨by decide, by decide⟩ rfl [] [0, 1, 2, 3, 4, 5, 6] [0, 1, 2, 3, 4, 5, 6] rfl (by decide) rfl (by decide) (by decide) rfl (by decide) (Nat.le_of_ble_eq_true rfl) ⟨Nat.zero_le _, Nat.zero_le _⟩ rfl dX3_doLine_313 ?_
    obtain ⟨h18, hf⟩ := ck_some hf
    refine g_iast (n := 6) (WS' := [(ru, oB 3 [.ref ru_values, .ref ru_sights, .int seenCount, .int steps, .int cut]), (ru_values, aI G 6 (upd values x6.toNatClampNeg q17)), (ru_sights, aI G 61 sights), (aq0, oB 2 [.ref aq0_lines, .ref aq0_cells, .ref aq0_starts, .int (P0_N 0), .int (P0_N 1)]), (aq0_lines, aI G 80 (fun j => P0_N (24 + j))), (aq0_cells, aI G 16 (fun j => P0_N (8 + j))), (aq0_starts, aI G 6 (fun j => P0_N (2 + j)))]) C 1 rfl h18 rfl dX3_doLine_316 rfl ?_
    exact k3_doLine_317 C hR hf
  replace hf := ite_f c14 hf
  by_cases c19 : x5 = (4 : Int32)
  · replace hf := ite_t c19 hf
    refine g_tableIn (off := 257) (tgt := 291) C dX3_doLine_34 (by rw [c19]; decide +kernel) (by rw [c19]; decide +kernel) (by rw [c19]; decide +kernel) (by decide) ?_
    refine g_aload_n C dX3_doLine_291 rfl 0 rfl ?_
    refine g_get (C0 := RX3) (T := TX3) (N := 5) (ci := 3) (v := .ref ru_values) C hm3_doLine_0 0 rfl rfl 0 (by decide) hm3_doLine_1 rfl dX3_doLine_292 ?_
    refine g_iload C dX3_doLine_295 6 rfl ?_
    refine g_iload C dX3_doLine_297 5 rfl ?_
    refine g_aload_n C dX3_doLine_299 rfl 0 rfl ?_
    refine g_get (C0 := RX3) (T := TX3) (N := 5) (ci := 3) (v := .ref ru_values) C hm3_doLine_0 0 rfl rfl 0 (by decide) hm3_doLine_1 rfl dX3_doLine_300 ?_
    refine g_iload C dX3_doLine_303 6 rfl ?_
    obtain ⟨h20, hf⟩ := ck_some hf
    refine g_iald (n := 6) (v := (values x6.toNatClampNeg)) C 1 rfl h20 rfl rfl dX3_doLine_305 ?_
    refine g_aload_n C dX3_doLine_306 rfl 0 rfl ?_
    refine g_get (C0 := RX3) (T := TX3) (N := 5) (ci := 3) (v := .ref ru_values) C hm3_doLine_0 0 rfl rfl 0 (by decide) hm3_doLine_1 rfl dX3_doLine_307 ?_
    refine g_iload C dX3_doLine_310 7 rfl ?_
    obtain ⟨h21, hf⟩ := ck_some hf
    refine g_iald (n := 6) (v := (values x7.toNatClampNeg)) C 1 rfl h21 rfl rfl dX3_doLine_312 ?_
    obtain ⟨q22, hq22, hf⟩ := bs hf
    refine g_callSNi (n := 3) (As := [.int x5, .int (values x6.toNatClampNeg), .int (values x7.toNatClampNeg)]) (rest := [.int x6, .ref ru_values]) (wc := []) (w1 := []) (wr := [(ru, oB 3 [.ref ru_values, .ref ru_sights, .int seenCount, .int steps, .int cut]), (ru_values, aI G 6 values), (ru_sights, aI G 61 sights), (aq0, oB 2 [.ref aq0_lines, .ref aq0_cells, .ref aq0_starts, .int (P0_N 0), .int (P0_N 1)]), (aq0_lines, aI G 80 (fun j => P0_N (24 + j))), (aq0_cells, aI G 16 (fun j => P0_N (8 + j))), (aq0_starts, aI G 6 (fun j => P0_N (2 + j)))]) (WS' := [(ru, oB 3 [.ref ru_values, .ref ru_sights, .int seenCount, .int steps, .int cut]), (ru_values, aI G 6 values), (ru_sights, aI G 61 sights), (aq0, oB 2 [.ref aq0_lines, .ref aq0_cells, .ref aq0_starts, .int (P0_N 0), .int (P0_N 1)]), (aq0_lines, aI G 80 (fun j => P0_N (24 + j))), (aq0_cells, aI G 16 (fun j => P0_N (8 + j))), (aq0_starts, aI G 6 (fun j => P0_N (2 + j)))]) C (c6_combined hq22) ggX3_doLine_X6_combined hn3_58 hm3_doLine_2 hm3_doLine_3 (by decide +kernel) rfl rfl rfl ⟨by decide, by decide⟩ rfl [] [0, 1, 2, 3, 4, 5, 6] [0, 1, 2, 3, 4, 5, 6] rfl (by decide) rfl (by decide) (by decide) rfl (by decide) (Nat.le_of_ble_eq_true rfl) ⟨Nat.zero_le _, Nat.zero_le _⟩ rfl dX3_doLine_313 ?_
    obtain ⟨h23, hf⟩ := ck_some hf
    refine g_iast (n := 6) (WS' := [(ru, oB 3 [.ref ru_values, .ref ru_sights, .int seenCount, .int steps, .int cut]), (ru_values, aI G 6 (upd values x6.toNatClampNeg q22)), (ru_sights, aI G 61 sights), (aq0, oB 2 [.ref aq0_lines, .ref aq0_cells, .ref aq0_starts, .int (P0_N 0), .int (P0_N 1)]), (aq0_lines, aI G 80 (fun j => P0_N (24 + j))), (aq0_cells, aI G 16 (fun j => P0_N (8 + j))), (aq0_starts, aI G 6 (fun j => P0_N (2 + j)))]) C 1 rfl h23 rfl dX3_doLine_316 rfl ?_
    exact k3_doLine_317 C hR hf
  replace hf := ite_f c19 hf
  by_cases c24 : x5 = (5 : Int32)
  · replace hf := ite_t c24 hf
    refine g_tableIn (off := 79) (tgt := 113) C dX3_doLine_34 (by rw [c24]; decide +kernel) (by rw [c24]; decide +kernel) (by rw [c24]; decide +kernel) (by decide) ?_
    refine g_aload_n C dX3_doLine_113 rfl 0 rfl ?_
    refine g_bipush (v := (100 : Int32)) C dX3_doLine_114 (by decide +kernel) ?_
    refine g_aload_n C dX3_doLine_116 rfl 0 rfl ?_
    refine g_get (C0 := RX3) (T := TX3) (N := 5) (ci := 3) (v := .ref ru_values) C hm3_doLine_0 0 rfl rfl 0 (by decide) hm3_doLine_1 rfl dX3_doLine_117 ?_
    refine g_iload C dX3_doLine_120 7 rfl ?_
    obtain ⟨h25, hf⟩ := ck_some hf
    refine g_iald (n := 6) (v := (values x7.toNatClampNeg)) C 1 rfl h25 rfl rfl dX3_doLine_122 ?_
    refine g_iadd C dX3_doLine_123 ?_
    obtain ⟨q26, hq26, hf⟩ := bs hf
    refine g_callVv (n := 1) (As := [.int ((100 : Int32) + (values x7.toNatClampNeg))]) (rest := []) (wc := [(ru, oB 3 [.ref ru_values, .ref ru_sights, .int seenCount, .int steps, .int cut]), (ru_values, aI G 6 values), (ru_sights, aI G 61 sights)]) (w1 := [(ru, oB 3 [.ref ru_values, .ref ru_sights, .int q26.2, .int steps, .int cut]), (ru_values, aI G 6 values), (ru_sights, aI G 61 q26.1)]) (wr := [(aq0, oB 2 [.ref aq0_lines, .ref aq0_cells, .ref aq0_starts, .int (P0_N 0), .int (P0_N 1)]), (aq0_lines, aI G 80 (fun j => P0_N (24 + j))), (aq0_cells, aI G 16 (fun j => P0_N (8 + j))), (aq0_starts, aI G 6 (fun j => P0_N (2 + j)))]) (WS' := [(ru, oB 3 [.ref ru_values, .ref ru_sights, .int q26.2, .int steps, .int cut]), (ru_values, aI G 6 values), (ru_sights, aI G 61 q26.1), (aq0, oB 2 [.ref aq0_lines, .ref aq0_cells, .ref aq0_starts, .int (P0_N 0), .int (P0_N 1)]), (aq0_lines, aI G 80 (fun j => P0_N (24 + j))), (aq0_cells, aI G 16 (fun j => P0_N (8 + j))), (aq0_starts, aI G 6 (fun j => P0_N (2 + j)))]) C (c3_see hq26) gX3_doLine_X3_see (by decide +kernel) rfl rfl rfl rfl rfl rfl ⟨by decide, by decide⟩ rfl [0, 1, 2] [3, 4, 5, 6] [4, 5, 6, 0, 1, 2, 3] rfl (by decide) rfl (by decide) (by decide) rfl (by decide) (Nat.le_of_ble_eq_true rfl) ⟨Nat.zero_le _, Nat.zero_le _⟩ rfl dX3_doLine_124 ?_
    refine g_aload_n C dX3_doLine_127 rfl 0 rfl ?_
    refine g_get (C0 := RX3) (T := TX3) (N := 5) (ci := 3) (v := .ref ru_values) C hm3_doLine_0 0 rfl rfl 0 (by decide) hm3_doLine_1 rfl dX3_doLine_128 ?_
    refine g_iload C dX3_doLine_131 6 rfl ?_
    refine g_aload_n C dX3_doLine_133 rfl 1 rfl ?_
    refine g_getN (C0 := RX2) (T := TX2) (N := 5) (ci := 2) (v := .ref aq0_cells) (host := "SecretSteps") C hm3_doLine_4 3 rfl rfl 1 (by decide) hn3_55 rfl dX3_doLine_134 ?_
    refine g_aload_n C dX3_doLine_137 rfl 0 rfl ?_
    refine g_get (C0 := RX3) (T := TX3) (N := 5) (ci := 3) (v := .ref ru_values) C hm3_doLine_0 0 rfl rfl 0 (by decide) hm3_doLine_1 rfl dX3_doLine_138 ?_
    refine g_iload C dX3_doLine_141 7 rfl ?_
    obtain ⟨h27, hf⟩ := ck_some hf
    refine g_iald (n := 6) (v := (values x7.toNatClampNeg)) C 1 rfl h27 rfl rfl dX3_doLine_143 ?_
    obtain ⟨h28, hf⟩ := ck_some hf
    refine g_iald (n := 16) (v := (P0_N (8 + (values x7.toNatClampNeg).toNatClampNeg))) C 5 rfl h28 rfl rfl dX3_doLine_144 ?_
    obtain ⟨h29, hf⟩ := ck_some hf
    refine g_iast (n := 6) (WS' := [(ru, oB 3 [.ref ru_values, .ref ru_sights, .int q26.2, .int steps, .int cut]), (ru_values, aI G 6 (upd values x6.toNatClampNeg (P0_N (8 + (values x7.toNatClampNeg).toNatClampNeg)))), (ru_sights, aI G 61 q26.1), (aq0, oB 2 [.ref aq0_lines, .ref aq0_cells, .ref aq0_starts, .int (P0_N 0), .int (P0_N 1)]), (aq0_lines, aI G 80 (fun j => P0_N (24 + j))), (aq0_cells, aI G 16 (fun j => P0_N (8 + j))), (aq0_starts, aI G 6 (fun j => P0_N (2 + j)))]) C 1 rfl h29 rfl dX3_doLine_145 rfl ?_
    refine g_goto (tgt := 317) C dX3_doLine_146 (by decide) ?_
    exact k3_doLine_317 C hR hf
  replace hf := ite_f c24 hf
  by_cases c30 : x5 = (6 : Int32)
  · replace hf := ite_t c30 hf
    refine g_tableIn (off := 115) (tgt := 149) C dX3_doLine_34 (by rw [c30]; decide +kernel) (by rw [c30]; decide +kernel) (by rw [c30]; decide +kernel) (by decide) ?_
    refine g_aload_n C dX3_doLine_149 rfl 0 rfl ?_
    refine g_sipush (v := (200 : Int32)) C dX3_doLine_150 (by decide +kernel) ?_
    refine g_bipush (v := (16 : Int32)) C dX3_doLine_153 (by decide +kernel) ?_
    refine g_aload_n C dX3_doLine_155 rfl 0 rfl ?_
    refine g_get (C0 := RX3) (T := TX3) (N := 5) (ci := 3) (v := .ref ru_values) C hm3_doLine_0 0 rfl rfl 0 (by decide) hm3_doLine_1 rfl dX3_doLine_156 ?_
    refine g_iload C dX3_doLine_159 6 rfl ?_
    obtain ⟨h31, hf⟩ := ck_some hf
    refine g_iald (n := 6) (v := (values x6.toNatClampNeg)) C 1 rfl h31 rfl rfl dX3_doLine_161 ?_
    refine g_imul C dX3_doLine_162 ?_
    refine g_iadd C dX3_doLine_163 ?_
    refine g_aload_n C dX3_doLine_164 rfl 0 rfl ?_
    refine g_get (C0 := RX3) (T := TX3) (N := 5) (ci := 3) (v := .ref ru_values) C hm3_doLine_0 0 rfl rfl 0 (by decide) hm3_doLine_1 rfl dX3_doLine_165 ?_
    refine g_iload C dX3_doLine_168 7 rfl ?_
    obtain ⟨h32, hf⟩ := ck_some hf
    refine g_iald (n := 6) (v := (values x7.toNatClampNeg)) C 1 rfl h32 rfl rfl dX3_doLine_170 ?_
    refine g_iadd C dX3_doLine_171 ?_
    obtain ⟨q33, hq33, hf⟩ := bs hf
    refine g_callVv (n := 1) (As := [.int (((200 : Int32) + ((16 : Int32) * (values x6.toNatClampNeg))) + (values x7.toNatClampNeg))]) (rest := []) (wc := [(ru, oB 3 [.ref ru_values, .ref ru_sights, .int seenCount, .int steps, .int cut]), (ru_values, aI G 6 values), (ru_sights, aI G 61 sights)]) (w1 := [(ru, oB 3 [.ref ru_values, .ref ru_sights, .int q33.2, .int steps, .int cut]), (ru_values, aI G 6 values), (ru_sights, aI G 61 q33.1)]) (wr := [(aq0, oB 2 [.ref aq0_lines, .ref aq0_cells, .ref aq0_starts, .int (P0_N 0), .int (P0_N 1)]), (aq0_lines, aI G 80 (fun j => P0_N (24 + j))), (aq0_cells, aI G 16 (fun j => P0_N (8 + j))), (aq0_starts, aI G 6 (fun j => P0_N (2 + j)))]) (WS' := [(ru, oB 3 [.ref ru_values, .ref ru_sights, .int q33.2, .int steps, .int cut]), (ru_values, aI G 6 values), (ru_sights, aI G 61 q33.1), (aq0, oB 2 [.ref aq0_lines, .ref aq0_cells, .ref aq0_starts, .int (P0_N 0), .int (P0_N 1)]), (aq0_lines, aI G 80 (fun j => P0_N (24 + j))), (aq0_cells, aI G 16 (fun j => P0_N (8 + j))), (aq0_starts, aI G 6 (fun j => P0_N (2 + j)))]) C (c3_see hq33) gX3_doLine_X3_see (by decide +kernel) rfl rfl rfl rfl rfl rfl ⟨by decide, by decide⟩ rfl [0, 1, 2] [3, 4, 5, 6] [4, 5, 6, 0, 1, 2, 3] rfl (by decide) rfl (by decide) (by decide) rfl (by decide) (Nat.le_of_ble_eq_true rfl) ⟨Nat.zero_le _, Nat.zero_le _⟩ rfl dX3_doLine_172 ?_
    refine g_aload_n C dX3_doLine_175 rfl 0 rfl ?_
    refine g_get (C0 := RX3) (T := TX3) (N := 5) (ci := 3) (v := .ref ru_values) C hm3_doLine_0 0 rfl rfl 0 (by decide) hm3_doLine_1 rfl dX3_doLine_176 ?_
    refine g_iload C dX3_doLine_179 6 rfl ?_
    refine g_bipush (v := (6 : Int32)) C dX3_doLine_181 (by decide +kernel) ?_
    refine g_aload_n C dX3_doLine_183 rfl 0 rfl ?_
    refine g_get (C0 := RX3) (T := TX3) (N := 5) (ci := 3) (v := .ref ru_values) C hm3_doLine_0 0 rfl rfl 0 (by decide) hm3_doLine_1 rfl dX3_doLine_184 ?_
    refine g_iload C dX3_doLine_187 6 rfl ?_
    obtain ⟨h34, hf⟩ := ck_some hf
    refine g_iald (n := 6) (v := (values x6.toNatClampNeg)) C 1 rfl h34 rfl rfl dX3_doLine_189 ?_
    refine g_aload_n C dX3_doLine_190 rfl 0 rfl ?_
    refine g_get (C0 := RX3) (T := TX3) (N := 5) (ci := 3) (v := .ref ru_values) C hm3_doLine_0 0 rfl rfl 0 (by decide) hm3_doLine_1 rfl dX3_doLine_191 ?_
    refine g_iload C dX3_doLine_194 7 rfl ?_
    obtain ⟨h35, hf⟩ := ck_some hf
    refine g_iald (n := 6) (v := (values x7.toNatClampNeg)) C 1 rfl h35 rfl rfl dX3_doLine_196 ?_
    obtain ⟨q36, hq36, hf⟩ := bs hf
    refine g_callSNi (n := 3) (As := [.int (6 : Int32), .int (values x6.toNatClampNeg), .int (values x7.toNatClampNeg)]) (rest := [.int x6, .ref ru_values]) (wc := []) (w1 := []) (wr := [(ru, oB 3 [.ref ru_values, .ref ru_sights, .int q33.2, .int steps, .int cut]), (ru_values, aI G 6 values), (ru_sights, aI G 61 q33.1), (aq0, oB 2 [.ref aq0_lines, .ref aq0_cells, .ref aq0_starts, .int (P0_N 0), .int (P0_N 1)]), (aq0_lines, aI G 80 (fun j => P0_N (24 + j))), (aq0_cells, aI G 16 (fun j => P0_N (8 + j))), (aq0_starts, aI G 6 (fun j => P0_N (2 + j)))]) (WS' := [(ru, oB 3 [.ref ru_values, .ref ru_sights, .int q33.2, .int steps, .int cut]), (ru_values, aI G 6 values), (ru_sights, aI G 61 q33.1), (aq0, oB 2 [.ref aq0_lines, .ref aq0_cells, .ref aq0_starts, .int (P0_N 0), .int (P0_N 1)]), (aq0_lines, aI G 80 (fun j => P0_N (24 + j))), (aq0_cells, aI G 16 (fun j => P0_N (8 + j))), (aq0_starts, aI G 6 (fun j => P0_N (2 + j)))]) C (c6_combined hq36) ggX3_doLine_X6_combined hn3_58 hm3_doLine_2 hm3_doLine_3 (by decide +kernel) rfl rfl rfl ⟨by decide, by decide⟩ rfl [] [0, 1, 2, 3, 4, 5, 6] [0, 1, 2, 3, 4, 5, 6] rfl (by decide) rfl (by decide) (by decide) rfl (by decide) (Nat.le_of_ble_eq_true rfl) ⟨Nat.zero_le _, Nat.zero_le _⟩ rfl dX3_doLine_197 ?_
    obtain ⟨h37, hf⟩ := ck_some hf
    refine g_iast (n := 6) (WS' := [(ru, oB 3 [.ref ru_values, .ref ru_sights, .int q33.2, .int steps, .int cut]), (ru_values, aI G 6 (upd values x6.toNatClampNeg q36)), (ru_sights, aI G 61 q33.1), (aq0, oB 2 [.ref aq0_lines, .ref aq0_cells, .ref aq0_starts, .int (P0_N 0), .int (P0_N 1)]), (aq0_lines, aI G 80 (fun j => P0_N (24 + j))), (aq0_cells, aI G 16 (fun j => P0_N (8 + j))), (aq0_starts, aI G 6 (fun j => P0_N (2 + j)))]) C 1 rfl h37 rfl dX3_doLine_200 rfl ?_
    refine g_goto (tgt := 317) C dX3_doLine_201 (by decide) ?_
    exact k3_doLine_317 C hR hf
  replace hf := ite_f c30 hf
  by_cases c38 : x5 = (7 : Int32)
  · replace hf := ite_t c38 hf
    refine g_tableIn (off := 170) (tgt := 204) C dX3_doLine_34 (by rw [c38]; decide +kernel) (by rw [c38]; decide +kernel) (by rw [c38]; decide +kernel) (by decide) ?_
    refine g_aload_n C dX3_doLine_204 rfl 0 rfl ?_
    refine g_sipush (v := (500 : Int32)) C dX3_doLine_205 (by decide +kernel) ?_
    refine g_iconst (v := (2 : Int32)) C dX3_doLine_208 (by decide +kernel) ?_
    refine g_iload_n C dX3_doLine_209 rfl 2 rfl ?_
    refine g_imul C dX3_doLine_210 ?_
    refine g_iadd C dX3_doLine_211 ?_
    refine g_aload_n C dX3_doLine_212 rfl 0 rfl ?_
    refine g_get (C0 := RX3) (T := TX3) (N := 5) (ci := 3) (v := .ref ru_values) C hm3_doLine_0 0 rfl rfl 0 (by decide) hm3_doLine_1 rfl dX3_doLine_213 ?_
    refine g_iload C dX3_doLine_216 6 rfl ?_
    obtain ⟨h39, hf⟩ := ck_some hf
    refine g_iald (n := 6) (v := (values x6.toNatClampNeg)) C 1 rfl h39 rfl rfl dX3_doLine_218 ?_
    refine g_if_eq (tgt := 226) C dX3_doLine_219 (by decide) (fun c40 => ?_) (fun c40 => ?_)
    · replace hf := ite_t c40 hf
      refine g_iconst (v := (0 : Int32)) C dX3_doLine_226 (by decide +kernel) ?_
      exact k3_doLine_227 C hR hf
    · replace hf := ite_f c40 hf
      refine g_iconst (v := (1 : Int32)) C dX3_doLine_222 (by decide +kernel) ?_
      refine g_goto (tgt := 227) C dX3_doLine_223 (by decide) ?_
      exact k3_doLine_227 C hR hf
  replace hf := ite_f c38 hf
  by_cases c41 : x5 = (8 : Int32)
  · replace hf := ite_t c41 hf
    refine g_tableIn (off := 216) (tgt := 250) C dX3_doLine_34 (by rw [c41]; decide +kernel) (by rw [c41]; decide +kernel) (by rw [c41]; decide +kernel) (by decide) ?_
    refine g_aload_n C dX3_doLine_250 rfl 0 rfl ?_
    refine g_get (C0 := RX3) (T := TX3) (N := 5) (ci := 3) (v := .ref ru_values) C hm3_doLine_0 0 rfl rfl 0 (by decide) hm3_doLine_1 rfl dX3_doLine_251 ?_
    refine g_iload C dX3_doLine_254 6 rfl ?_
    refine g_aload_n C dX3_doLine_256 rfl 0 rfl ?_
    refine g_get (C0 := RX3) (T := TX3) (N := 5) (ci := 3) (v := .ref ru_values) C hm3_doLine_0 0 rfl rfl 0 (by decide) hm3_doLine_1 rfl dX3_doLine_257 ?_
    refine g_iload C dX3_doLine_260 6 rfl ?_
    obtain ⟨h42, hf⟩ := ck_some hf
    refine g_iald (n := 6) (v := (values x6.toNatClampNeg)) C 1 rfl h42 rfl rfl dX3_doLine_262 ?_
    refine g_if_eq (tgt := 276) C dX3_doLine_263 (by decide) (fun c43 => ?_) (fun c43 => ?_)
    · replace hf := ite_t c43 hf
      refine g_aload_n C dX3_doLine_276 rfl 0 rfl ?_
      refine g_get (C0 := RX3) (T := TX3) (N := 5) (ci := 3) (v := .ref ru_values) C hm3_doLine_0 0 rfl rfl 0 (by decide) hm3_doLine_1 rfl dX3_doLine_277 ?_
      refine g_aload_n C dX3_doLine_280 rfl 3 rfl ?_
      refine g_iload C dX3_doLine_281 4 rfl ?_
      refine g_iconst (v := (3 : Int32)) C dX3_doLine_283 (by decide +kernel) ?_
      refine g_iadd C dX3_doLine_284 ?_
      obtain ⟨h44, hf⟩ := ck_some hf
      refine g_iald (n := 80) (v := (P0_N (24 + (x4 + (3 : Int32)).toNatClampNeg))) C 4 rfl h44 rfl rfl dX3_doLine_285 ?_
      obtain ⟨h45, hf⟩ := ck_some hf
      refine g_iald (n := 6) (v := (values (P0_N (24 + (x4 + (3 : Int32)).toNatClampNeg)).toNatClampNeg)) C 1 rfl h45 rfl rfl dX3_doLine_286 ?_
      obtain ⟨h46, hf⟩ := ck_some hf
      refine g_iast (n := 6) (WS' := [(ru, oB 3 [.ref ru_values, .ref ru_sights, .int seenCount, .int steps, .int cut]), (ru_values, aI G 6 (upd values x6.toNatClampNeg (values (P0_N (24 + (x4 + (3 : Int32)).toNatClampNeg)).toNatClampNeg))), (ru_sights, aI G 61 sights), (aq0, oB 2 [.ref aq0_lines, .ref aq0_cells, .ref aq0_starts, .int (P0_N 0), .int (P0_N 1)]), (aq0_lines, aI G 80 (fun j => P0_N (24 + j))), (aq0_cells, aI G 16 (fun j => P0_N (8 + j))), (aq0_starts, aI G 6 (fun j => P0_N (2 + j)))]) C 1 rfl h46 rfl dX3_doLine_287 rfl ?_
      refine g_goto (tgt := 317) C dX3_doLine_288 (by decide) ?_
      exact k3_doLine_317 C hR hf
    · replace hf := ite_f c43 hf
      refine g_aload_n C dX3_doLine_266 rfl 0 rfl ?_
      refine g_get (C0 := RX3) (T := TX3) (N := 5) (ci := 3) (v := .ref ru_values) C hm3_doLine_0 0 rfl rfl 0 (by decide) hm3_doLine_1 rfl dX3_doLine_267 ?_
      refine g_iload C dX3_doLine_270 7 rfl ?_
      obtain ⟨h47, hf⟩ := ck_some hf
      refine g_iald (n := 6) (v := (values x7.toNatClampNeg)) C 1 rfl h47 rfl rfl dX3_doLine_272 ?_
      refine g_goto (tgt := 287) C dX3_doLine_273 (by decide) ?_
      obtain ⟨h48, hf⟩ := ck_some hf
      refine g_iast (n := 6) (WS' := [(ru, oB 3 [.ref ru_values, .ref ru_sights, .int seenCount, .int steps, .int cut]), (ru_values, aI G 6 (upd values x6.toNatClampNeg (values x7.toNatClampNeg))), (ru_sights, aI G 61 sights), (aq0, oB 2 [.ref aq0_lines, .ref aq0_cells, .ref aq0_starts, .int (P0_N 0), .int (P0_N 1)]), (aq0_lines, aI G 80 (fun j => P0_N (24 + j))), (aq0_cells, aI G 16 (fun j => P0_N (8 + j))), (aq0_starts, aI G 6 (fun j => P0_N (2 + j)))]) C 1 rfl h48 rfl dX3_doLine_287 rfl ?_
      refine g_goto (tgt := 317) C dX3_doLine_288 (by decide) ?_
      exact k3_doLine_317 C hR hf
  replace hf := ite_f c41 hf
  refine g_tableOut (tgt := 291) C dX3_doLine_34 (by have e0 := lv_neT (a := 0) c4 (by decide +kernel); have e1 := lv_neT (a := 1) c6 (by decide +kernel); have e2 := lv_neT (a := 2) c9 (by decide +kernel); have e3 := lv_neT (a := 3) c14 (by decide +kernel); have e4 := lv_neT (a := 4) c19 (by decide +kernel); have e5 := lv_neT (a := 5) c24 (by decide +kernel); have e6 := lv_neT (a := 6) c30 (by decide +kernel); have e7 := lv_neT (a := 7) c38 (by decide +kernel); have e8 := lv_neT (a := 8) c41 (by decide +kernel); omega) (by decide) ?_
  refine g_aload_n C dX3_doLine_291 rfl 0 rfl ?_
  refine g_get (C0 := RX3) (T := TX3) (N := 5) (ci := 3) (v := .ref ru_values) C hm3_doLine_0 0 rfl rfl 0 (by decide) hm3_doLine_1 rfl dX3_doLine_292 ?_
  refine g_iload C dX3_doLine_295 6 rfl ?_
  refine g_iload C dX3_doLine_297 5 rfl ?_
  refine g_aload_n C dX3_doLine_299 rfl 0 rfl ?_
  refine g_get (C0 := RX3) (T := TX3) (N := 5) (ci := 3) (v := .ref ru_values) C hm3_doLine_0 0 rfl rfl 0 (by decide) hm3_doLine_1 rfl dX3_doLine_300 ?_
  refine g_iload C dX3_doLine_303 6 rfl ?_
  obtain ⟨h49, hf⟩ := ck_some hf
  refine g_iald (n := 6) (v := (values x6.toNatClampNeg)) C 1 rfl h49 rfl rfl dX3_doLine_305 ?_
  refine g_aload_n C dX3_doLine_306 rfl 0 rfl ?_
  refine g_get (C0 := RX3) (T := TX3) (N := 5) (ci := 3) (v := .ref ru_values) C hm3_doLine_0 0 rfl rfl 0 (by decide) hm3_doLine_1 rfl dX3_doLine_307 ?_
  refine g_iload C dX3_doLine_310 7 rfl ?_
  obtain ⟨h50, hf⟩ := ck_some hf
  refine g_iald (n := 6) (v := (values x7.toNatClampNeg)) C 1 rfl h50 rfl rfl dX3_doLine_312 ?_
  obtain ⟨q51, hq51, hf⟩ := bs hf
  refine g_callSNi (n := 3) (As := [.int x5, .int (values x6.toNatClampNeg), .int (values x7.toNatClampNeg)]) (rest := [.int x6, .ref ru_values]) (wc := []) (w1 := []) (wr := [(ru, oB 3 [.ref ru_values, .ref ru_sights, .int seenCount, .int steps, .int cut]), (ru_values, aI G 6 values), (ru_sights, aI G 61 sights), (aq0, oB 2 [.ref aq0_lines, .ref aq0_cells, .ref aq0_starts, .int (P0_N 0), .int (P0_N 1)]), (aq0_lines, aI G 80 (fun j => P0_N (24 + j))), (aq0_cells, aI G 16 (fun j => P0_N (8 + j))), (aq0_starts, aI G 6 (fun j => P0_N (2 + j)))]) (WS' := [(ru, oB 3 [.ref ru_values, .ref ru_sights, .int seenCount, .int steps, .int cut]), (ru_values, aI G 6 values), (ru_sights, aI G 61 sights), (aq0, oB 2 [.ref aq0_lines, .ref aq0_cells, .ref aq0_starts, .int (P0_N 0), .int (P0_N 1)]), (aq0_lines, aI G 80 (fun j => P0_N (24 + j))), (aq0_cells, aI G 16 (fun j => P0_N (8 + j))), (aq0_starts, aI G 6 (fun j => P0_N (2 + j)))]) C (c6_combined hq51) ggX3_doLine_X6_combined hn3_58 hm3_doLine_2 hm3_doLine_3 (by decide +kernel) rfl rfl rfl ⟨by decide, by decide⟩ rfl [] [0, 1, 2, 3, 4, 5, 6] [0, 1, 2, 3, 4, 5, 6] rfl (by decide) rfl (by decide) (by decide) rfl (by decide) (Nat.le_of_ble_eq_true rfl) ⟨Nat.zero_le _, Nat.zero_le _⟩ rfl dX3_doLine_313 ?_
  obtain ⟨h52, hf⟩ := ck_some hf
  refine g_iast (n := 6) (WS' := [(ru, oB 3 [.ref ru_values, .ref ru_sights, .int seenCount, .int steps, .int cut]), (ru_values, aI G 6 (upd values x6.toNatClampNeg q51)), (ru_sights, aI G 61 sights), (aq0, oB 2 [.ref aq0_lines, .ref aq0_cells, .ref aq0_starts, .int (P0_N 0), .int (P0_N 1)]), (aq0_lines, aI G 80 (fun j => P0_N (24 + j))), (aq0_cells, aI G 16 (fun j => P0_N (8 + j))), (aq0_starts, aI G 6 (fun j => P0_N (2 + j)))]) C 1 rfl h52 rfl dX3_doLine_316 rfl ?_
  exact k3_doLine_317 C hR hf
set_option maxHeartbeats 4000000 in
set_option maxRecDepth 100000 in
theorem c3_doLine {l : Launch} {G : gG} {ru ru_values ru_sights aq0 aq0_lines aq0_cells aq0_starts : Nat} {values : Nat → Int32} {sights : Nat → Int32} {seenCount : Int32} {steps : Int32} {cut : Int32} {P0_N : Nat → Int32} {v1 : Int32} {res : Int32 × (Nat → Int32) × (Nat → Int32) × Int32} (hf : f3_doLine P0_N values sights seenCount v1 = some res) : MI l yX3_doLine wsX3_doLine rm3_doLine G [.ref ru, .ref aq0, .int v1] [(ru, oB 3 [.ref ru_values, .ref ru_sights, .int seenCount, .int steps, .int cut]), (ru_values, aI G 6 values), (ru_sights, aI G 61 sights), (aq0, oB 2 [.ref aq0_lines, .ref aq0_cells, .ref aq0_starts, .int (P0_N 0), .int (P0_N 1)]), (aq0_lines, aI G 80 (fun j => P0_N (24 + j))), (aq0_cells, aI G 16 (fun j => P0_N (8 + j))), (aq0_starts, aI G 6 (fun j => P0_N (2 + j)))] (res.1) [(ru, oB 3 [.ref ru_values, .ref ru_sights, .int res.2.2.2, .int steps, .int cut]), (ru_values, aI G 6 res.2.1), (ru_sights, aI G 61 res.2.2.1), (aq0, oB 2 [.ref aq0_lines, .ref aq0_cells, .ref aq0_starts, .int (P0_N 0), .int (P0_N 1)]), (aq0_lines, aI G 80 (fun j => P0_N (24 + j))), (aq0_cells, aI G 16 (fun j => P0_N (8 + j))), (aq0_starts, aI G 6 (fun j => P0_N (2 + j)))] := by
  refine MI_of (res.1) (cc := cX3_doLine) (nL := 8) (lv := [(0, .ref ru), (1, .ref aq0), (2, .int v1)]) (by decide +kernel) rfl (Nat.le_of_ble_eq_true rfl) rfl ?_
  intro p e s m args below meth c A Q C hR
  unfold f3_doLine at hf
  refine g_aload_n C dX3_doLine_0 rfl 1 rfl ?_
  refine g_getN (C0 := RX2) (T := TX2) (N := 5) (ci := 2) (v := .ref aq0_lines) (host := "SecretSteps") C hm3_doLine_4 3 rfl rfl 0 (by decide) hn3_52 rfl dX3_doLine_1 ?_
  refine g_astore_n (lv' := [(0, .ref ru), (1, .ref aq0), (2, .int v1), (3, .ref aq0_lines)]) C dX3_doLine_4 rfl (by decide) [1, 2, 3, 0] rfl ?_
  refine g_iload_n C dX3_doLine_5 rfl 2 rfl ?_
  refine g_iconst (v := (4 : Int32)) C dX3_doLine_6 (by decide +kernel) ?_
  refine g_imul C dX3_doLine_7 ?_
  refine g_istore (lv' := [(0, .ref ru), (1, .ref aq0), (2, .int v1), (3, .ref aq0_lines), (4, .int (v1 * (4 : Int32)))]) C dX3_doLine_8 (by decide) [1, 2, 3, 4, 0] rfl ?_
  refine g_aload_n C dX3_doLine_10 rfl 3 rfl ?_
  refine g_iload C dX3_doLine_11 4 rfl ?_
  obtain ⟨h53, hf⟩ := ck_some hf
  refine g_iald (n := 80) (v := (P0_N (24 + (v1 * (4 : Int32)).toNatClampNeg))) C 4 rfl h53 rfl rfl dX3_doLine_13 ?_
  refine g_istore (lv' := [(0, .ref ru), (1, .ref aq0), (2, .int v1), (3, .ref aq0_lines), (4, .int (v1 * (4 : Int32))), (5, .int (P0_N (24 + (v1 * (4 : Int32)).toNatClampNeg)))]) C dX3_doLine_14 (by decide) [1, 2, 3, 4, 5, 0] rfl ?_
  refine g_aload_n C dX3_doLine_16 rfl 3 rfl ?_
  refine g_iload C dX3_doLine_17 4 rfl ?_
  refine g_iconst (v := (1 : Int32)) C dX3_doLine_19 (by decide +kernel) ?_
  refine g_iadd C dX3_doLine_20 ?_
  obtain ⟨h54, hf⟩ := ck_some hf
  refine g_iald (n := 80) (v := (P0_N (24 + ((v1 * (4 : Int32)) + (1 : Int32)).toNatClampNeg))) C 4 rfl h54 rfl rfl dX3_doLine_21 ?_
  refine g_istore (lv' := [(0, .ref ru), (1, .ref aq0), (2, .int v1), (3, .ref aq0_lines), (4, .int (v1 * (4 : Int32))), (5, .int (P0_N (24 + (v1 * (4 : Int32)).toNatClampNeg))), (6, .int (P0_N (24 + ((v1 * (4 : Int32)) + (1 : Int32)).toNatClampNeg)))]) C dX3_doLine_22 (by decide) [1, 2, 3, 4, 5, 6, 0] rfl ?_
  refine g_aload_n C dX3_doLine_24 rfl 3 rfl ?_
  refine g_iload C dX3_doLine_25 4 rfl ?_
  refine g_iconst (v := (2 : Int32)) C dX3_doLine_27 (by decide +kernel) ?_
  refine g_iadd C dX3_doLine_28 ?_
  obtain ⟨h55, hf⟩ := ck_some hf
  refine g_iald (n := 80) (v := (P0_N (24 + ((v1 * (4 : Int32)) + (2 : Int32)).toNatClampNeg))) C 4 rfl h55 rfl rfl dX3_doLine_29 ?_
  refine g_istore (lv' := [(0, .ref ru), (1, .ref aq0), (2, .int v1), (3, .ref aq0_lines), (4, .int (v1 * (4 : Int32))), (5, .int (P0_N (24 + (v1 * (4 : Int32)).toNatClampNeg))), (6, .int (P0_N (24 + ((v1 * (4 : Int32)) + (1 : Int32)).toNatClampNeg))), (7, .int (P0_N (24 + ((v1 * (4 : Int32)) + (2 : Int32)).toNatClampNeg)))]) C dX3_doLine_30 (by decide) [1, 2, 3, 4, 5, 6, 7, 0] rfl ?_
  exact k3_doLine_32 C hR hf

-- X3_follow
def f3_follow_59 (P0_N : Nat → Int32) (values : Nat → Int32) (sights : Nat → Int32) (seenCount : Int32) (steps : Int32) (cut : Int32) (x2 : Int32) (x3 : Int32) (y1 : Int32) : Option ((Nat → Int32) × (Nat → Int32) × Int32 × Int32 × Int32) :=
  ck (isb y1) <|
    (f3_see sights seenCount ((600 : Int32) + steps)).bind <| fun q2 =>
    some (values, q2.1, q2.2, steps, y1)
def f3_follow_45 (P0_N : Nat → Int32) (values : Nat → Int32) (sights : Nat → Int32) (seenCount : Int32) (steps : Int32) (cut : Int32) (x2 : Int32) (x3 : Int32) : Option ((Nat → Int32) × (Nat → Int32) × Int32 × Int32 × Int32) :=
  if (P0_N 0) ≤ x3 then
    (f3_follow_59 P0_N values sights seenCount steps cut x2 x3 (0 : Int32))
    else (f3_follow_59 P0_N values sights seenCount steps cut x2 x3 (1 : Int32))
def f3_follow_8b (P0_N : Nat → Int32) (k8 : (Nat → Int32) × (Nat → Int32) × Int32 × Int32 × Int32 × Int32 × Int32 → Option ((Nat → Int32) × (Nat → Int32) × Int32 × Int32 × Int32)) (values : Nat → Int32) (sights : Nat → Int32) (seenCount : Int32) (steps : Int32) (cut : Int32) (x2 : Int32) (x3 : Int32) : Option ((Nat → Int32) × (Nat → Int32) × Int32 × Int32 × Int32) :=
  if (60 : Int32) ≤ steps then
    (f3_follow_45 P0_N values sights seenCount steps cut x2 x3)
    else (if (P0_N 0) ≤ x3 then
    (f3_follow_45 P0_N values sights seenCount steps cut x2 x3)
    else ((f3_doLine P0_N values sights seenCount x3).bind <| fun q6 =>
    k8 (q6.2.1, q6.2.2.1, q6.2.2.2, (steps + (1 : Int32)), cut, x2, q6.1)))
def f3_follow_8 (P0_N : Nat → Int32) (n : Nat) (s : (Nat → Int32) × (Nat → Int32) × Int32 × Int32 × Int32 × Int32 × Int32) : Option ((Nat → Int32) × (Nat → Int32) × Int32 × Int32 × Int32) := itf (fun k s => f3_follow_8b P0_N k s.1 s.2.1 s.2.2.1 s.2.2.2.1 s.2.2.2.2.1 s.2.2.2.2.2.1 s.2.2.2.2.2.2) n s
def f3_follow (P0_N : Nat → Int32) (values : Nat → Int32) (sights : Nat → Int32) (seenCount : Int32) (steps : Int32) (cut : Int32) (v1 : Int32) : Option ((Nat → Int32) × (Nat → Int32) × Int32 × Int32 × Int32) :=
  (f3_setOut P0_N values seenCount steps v1).bind <| fun q7 =>
    f3_follow_8 P0_N 1000 (q7.1, sights, q7.2.1, q7.2.2, cut, v1, (0 : Int32))
def rm3_follow : Room := { frames := 2, cells := 0, slots := 0, locals := 49 }
theorem hm3_follow_0 : ∀ w ∈ u_ws RX3 TX3 5, w ∈ wsX3_follow := by decide +kernel
theorem hm3_follow_1 : Cond.fieldLink RX3 35 "SecretSteps$Run" "cut" "Z" ∈ wsX3_follow := by decide +kernel
theorem hm3_follow_2 : Cond.fieldLink RX3 22 "SecretSteps$Run" "steps" "I" ∈ wsX3_follow := by decide +kernel
theorem hm3_follow_3 : ∀ w ∈ u_ws RX2 TX2 5, w ∈ wsX3_follow := by decide +kernel
set_option maxHeartbeats 4000000 in
set_option maxRecDepth 100000 in
theorem k3_follow_59 {p : Program} {l : Launch} {e : Env} {s : State} {m : MethodId} {args : Array Value} {below : List Frame} {meth : Method} {c : Code} {G : gG} {A : Nat → Prop} {Q : State → Prop} {ru ru_values ru_sights aq0 aq0_lines aq0_cells aq0_starts : Nat} (C : CX p s m args meth c G A cX3_follow 4 RX3 wsX3_follow) {P0_N : Nat → Int32} {values : Nat → Int32} {sights : Nat → Int32} {seenCount : Int32} {steps : Int32} {cut : Int32} {x2 : Int32} {x3 : Int32} {y1 : Int32} {res : (Nat → Int32) × (Nat → Int32) × Int32 × Int32 × Int32} (hR : ∀ (lv : List (Nat × Value)) (pc : Nat), decode cX3_follow pc = .ok (.return_, 1) → GG p l e rm3_follow s m args below meth c G A 4 0 0 Q [(ru, oB 3 [.ref ru_values, .ref ru_sights, .int res.2.2.1, .int res.2.2.2.1, .int res.2.2.2.2]), (ru_values, aI G 6 res.1), (ru_sights, aI G 61 res.2.1), (aq0, oB 2 [.ref aq0_lines, .ref aq0_cells, .ref aq0_starts, .int (P0_N 0), .int (P0_N 1)]), (aq0_lines, aI G 80 (fun j => P0_N (24 + j))), (aq0_cells, aI G 16 (fun j => P0_N (8 + j))), (aq0_starts, aI G 6 (fun j => P0_N (2 + j)))] lv pc [])
    (hf : f3_follow_59 P0_N values sights seenCount steps cut x2 x3 y1 = some res) : GG p l e rm3_follow s m args below meth c G A 4 0 0 Q [(ru, oB 3 [.ref ru_values, .ref ru_sights, .int seenCount, .int steps, .int cut]), (ru_values, aI G 6 values), (ru_sights, aI G 61 sights), (aq0, oB 2 [.ref aq0_lines, .ref aq0_cells, .ref aq0_starts, .int (P0_N 0), .int (P0_N 1)]), (aq0_lines, aI G 80 (fun j => P0_N (24 + j))), (aq0_cells, aI G 16 (fun j => P0_N (8 + j))), (aq0_starts, aI G 6 (fun j => P0_N (2 + j)))] [(0, .ref ru), (1, .ref aq0), (2, .int x2), (3, .int x3)] 59 [.int y1, .ref ru] := by
  unfold f3_follow_59 at hf
  obtain ⟨h1, hf⟩ := ck_some hf
  refine g_put (C0 := RX3) (T := TX3) (N := 5) (ci := 3) (ty := .boolean) (WS' := [(ru, oB 3 [.ref ru_values, .ref ru_sights, .int seenCount, .int steps, .int y1]), (ru_values, aI G 6 values), (ru_sights, aI G 61 sights), (aq0, oB 2 [.ref aq0_lines, .ref aq0_cells, .ref aq0_starts, .int (P0_N 0), .int (P0_N 1)]), (aq0_lines, aI G 80 (fun j => P0_N (24 + j))), (aq0_cells, aI G 16 (fun j => P0_N (8 + j))), (aq0_starts, aI G 6 (fun j => P0_N (2 + j)))]) C hm3_follow_0 tyX3 tyX3_ok nmX3 0 rfl rfl 4 (by decide) hm3_follow_1 rfl rfl (isb_n h1) (isb_f h1) (Nat.le_of_ble_eq_true rfl) dX3_follow_59 rfl ?_
  refine g_aload_n C dX3_follow_62 rfl 0 rfl ?_
  refine g_sipush (v := (600 : Int32)) C dX3_follow_63 (by decide +kernel) ?_
  refine g_aload_n C dX3_follow_66 rfl 0 rfl ?_
  refine g_get (C0 := RX3) (T := TX3) (N := 5) (ci := 3) (v := .int steps) C hm3_follow_0 0 rfl rfl 3 (by decide) hm3_follow_2 rfl dX3_follow_67 ?_
  refine g_iadd C dX3_follow_70 ?_
  obtain ⟨q2, hq2, hf⟩ := bs hf
  refine g_callVv (n := 1) (As := [.int ((600 : Int32) + steps)]) (rest := []) (wc := [(ru, oB 3 [.ref ru_values, .ref ru_sights, .int seenCount, .int steps, .int y1]), (ru_values, aI G 6 values), (ru_sights, aI G 61 sights)]) (w1 := [(ru, oB 3 [.ref ru_values, .ref ru_sights, .int q2.2, .int steps, .int y1]), (ru_values, aI G 6 values), (ru_sights, aI G 61 q2.1)]) (wr := [(aq0, oB 2 [.ref aq0_lines, .ref aq0_cells, .ref aq0_starts, .int (P0_N 0), .int (P0_N 1)]), (aq0_lines, aI G 80 (fun j => P0_N (24 + j))), (aq0_cells, aI G 16 (fun j => P0_N (8 + j))), (aq0_starts, aI G 6 (fun j => P0_N (2 + j)))]) (WS' := [(ru, oB 3 [.ref ru_values, .ref ru_sights, .int q2.2, .int steps, .int y1]), (ru_values, aI G 6 values), (ru_sights, aI G 61 q2.1), (aq0, oB 2 [.ref aq0_lines, .ref aq0_cells, .ref aq0_starts, .int (P0_N 0), .int (P0_N 1)]), (aq0_lines, aI G 80 (fun j => P0_N (24 + j))), (aq0_cells, aI G 16 (fun j => P0_N (8 + j))), (aq0_starts, aI G 6 (fun j => P0_N (2 + j)))]) C (c3_see hq2) gX3_follow_X3_see (by decide +kernel) rfl rfl rfl rfl rfl rfl ⟨by decide, by decide⟩ rfl [0, 1, 2] [3, 4, 5, 6] [4, 5, 6, 0, 1, 2, 3] rfl (by decide) rfl (by decide) (by decide) rfl (by decide) (Nat.le_of_ble_eq_true rfl) ⟨Nat.zero_le _, Nat.zero_le _⟩ rfl dX3_follow_71 ?_
  obtain rfl := Option.some.inj hf
  exact hR _ _ dX3_follow_74
set_option maxHeartbeats 4000000 in
set_option maxRecDepth 100000 in
theorem k3_follow_45 {p : Program} {l : Launch} {e : Env} {s : State} {m : MethodId} {args : Array Value} {below : List Frame} {meth : Method} {c : Code} {G : gG} {A : Nat → Prop} {Q : State → Prop} {ru ru_values ru_sights aq0 aq0_lines aq0_cells aq0_starts : Nat} (C : CX p s m args meth c G A cX3_follow 4 RX3 wsX3_follow) {P0_N : Nat → Int32} {values : Nat → Int32} {sights : Nat → Int32} {seenCount : Int32} {steps : Int32} {cut : Int32} {x2 : Int32} {x3 : Int32} {res : (Nat → Int32) × (Nat → Int32) × Int32 × Int32 × Int32} (hR : ∀ (lv : List (Nat × Value)) (pc : Nat), decode cX3_follow pc = .ok (.return_, 1) → GG p l e rm3_follow s m args below meth c G A 4 0 0 Q [(ru, oB 3 [.ref ru_values, .ref ru_sights, .int res.2.2.1, .int res.2.2.2.1, .int res.2.2.2.2]), (ru_values, aI G 6 res.1), (ru_sights, aI G 61 res.2.1), (aq0, oB 2 [.ref aq0_lines, .ref aq0_cells, .ref aq0_starts, .int (P0_N 0), .int (P0_N 1)]), (aq0_lines, aI G 80 (fun j => P0_N (24 + j))), (aq0_cells, aI G 16 (fun j => P0_N (8 + j))), (aq0_starts, aI G 6 (fun j => P0_N (2 + j)))] lv pc [])
    (hf : f3_follow_45 P0_N values sights seenCount steps cut x2 x3 = some res) : GG p l e rm3_follow s m args below meth c G A 4 0 0 Q [(ru, oB 3 [.ref ru_values, .ref ru_sights, .int seenCount, .int steps, .int cut]), (ru_values, aI G 6 values), (ru_sights, aI G 61 sights), (aq0, oB 2 [.ref aq0_lines, .ref aq0_cells, .ref aq0_starts, .int (P0_N 0), .int (P0_N 1)]), (aq0_lines, aI G 80 (fun j => P0_N (24 + j))), (aq0_cells, aI G 16 (fun j => P0_N (8 + j))), (aq0_starts, aI G 6 (fun j => P0_N (2 + j)))] [(0, .ref ru), (1, .ref aq0), (2, .int x2), (3, .int x3)] 45 [] := by
  unfold f3_follow_45 at hf
  refine g_aload_n C dX3_follow_45 rfl 0 rfl ?_
  refine g_iload_n C dX3_follow_46 rfl 3 rfl ?_
  refine g_aload_n C dX3_follow_47 rfl 1 rfl ?_
  refine g_getN (C0 := RX2) (T := TX2) (N := 5) (ci := 2) (v := .int (P0_N 0)) (host := "SecretSteps") C hm3_follow_3 3 rfl rfl 3 (by decide) hn3_26 rfl dX3_follow_48 ?_
  refine g_icmp_ge (tgt := 58) C dX3_follow_51 (by decide) (fun c3 => ?_) (fun c3 => ?_)
  · replace hf := ite_t c3 hf
    refine g_iconst (v := (0 : Int32)) C dX3_follow_58 (by decide +kernel) ?_
    exact k3_follow_59 C hR hf
  · replace hf := ite_f c3 hf
    refine g_iconst (v := (1 : Int32)) C dX3_follow_54 (by decide +kernel) ?_
    refine g_goto (tgt := 59) C dX3_follow_55 (by decide) ?_
    exact k3_follow_59 C hR hf
set_option maxHeartbeats 4000000 in
set_option maxRecDepth 100000 in
theorem k3_follow_8b {p : Program} {l : Launch} {e : Env} {s : State} {m : MethodId} {args : Array Value} {below : List Frame} {meth : Method} {c : Code} {G : gG} {A : Nat → Prop} {Q : State → Prop} {ru ru_values ru_sights aq0 aq0_lines aq0_cells aq0_starts : Nat} (C : CX p s m args meth c G A cX3_follow 4 RX3 wsX3_follow) {P0_N : Nat → Int32} {k8 : (Nat → Int32) × (Nat → Int32) × Int32 × Int32 × Int32 × Int32 × Int32 → Option ((Nat → Int32) × (Nat → Int32) × Int32 × Int32 × Int32)} {values : Nat → Int32} {sights : Nat → Int32} {seenCount : Int32} {steps : Int32} {cut : Int32} {x2 : Int32} {x3 : Int32} {res : (Nat → Int32) × (Nat → Int32) × Int32 × Int32 × Int32} (hR : ∀ (lv : List (Nat × Value)) (pc : Nat), decode cX3_follow pc = .ok (.return_, 1) → GG p l e rm3_follow s m args below meth c G A 4 0 0 Q [(ru, oB 3 [.ref ru_values, .ref ru_sights, .int res.2.2.1, .int res.2.2.2.1, .int res.2.2.2.2]), (ru_values, aI G 6 res.1), (ru_sights, aI G 61 res.2.1), (aq0, oB 2 [.ref aq0_lines, .ref aq0_cells, .ref aq0_starts, .int (P0_N 0), .int (P0_N 1)]), (aq0_lines, aI G 80 (fun j => P0_N (24 + j))), (aq0_cells, aI G 16 (fun j => P0_N (8 + j))), (aq0_starts, aI G 6 (fun j => P0_N (2 + j)))] lv pc [])
    (hk8 : ∀ s', k8 s' = some res → GG p l e rm3_follow s m args below meth c G A 4 0 0 Q [(ru, oB 3 [.ref ru_values, .ref ru_sights, .int s'.2.2.1, .int s'.2.2.2.1, .int s'.2.2.2.2.1]), (ru_values, aI G 6 s'.1), (ru_sights, aI G 61 s'.2.1), (aq0, oB 2 [.ref aq0_lines, .ref aq0_cells, .ref aq0_starts, .int (P0_N 0), .int (P0_N 1)]), (aq0_lines, aI G 80 (fun j => P0_N (24 + j))), (aq0_cells, aI G 16 (fun j => P0_N (8 + j))), (aq0_starts, aI G 6 (fun j => P0_N (2 + j)))] [(0, .ref ru), (1, .ref aq0), (2, .int s'.2.2.2.2.2.1), (3, .int s'.2.2.2.2.2.2)] 8 [])
    (hf : f3_follow_8b P0_N k8 values sights seenCount steps cut x2 x3 = some res) : GG p l e rm3_follow s m args below meth c G A 4 0 0 Q [(ru, oB 3 [.ref ru_values, .ref ru_sights, .int seenCount, .int steps, .int cut]), (ru_values, aI G 6 values), (ru_sights, aI G 61 sights), (aq0, oB 2 [.ref aq0_lines, .ref aq0_cells, .ref aq0_starts, .int (P0_N 0), .int (P0_N 1)]), (aq0_lines, aI G 80 (fun j => P0_N (24 + j))), (aq0_cells, aI G 16 (fun j => P0_N (8 + j))), (aq0_starts, aI G 6 (fun j => P0_N (2 + j)))] [(0, .ref ru), (1, .ref aq0), (2, .int x2), (3, .int x3)] 8 [] := by
  unfold f3_follow_8b at hf
  refine g_aload_n C dX3_follow_8 rfl 0 rfl ?_
  refine g_get (C0 := RX3) (T := TX3) (N := 5) (ci := 3) (v := .int steps) C hm3_follow_0 0 rfl rfl 3 (by decide) hm3_follow_2 rfl dX3_follow_9 ?_
  refine g_bipush (v := (60 : Int32)) C dX3_follow_12 (by decide +kernel) ?_
  refine g_icmp_ge (tgt := 45) C dX3_follow_14 (by decide) (fun c4 => ?_) (fun c4 => ?_)
  · replace hf := ite_t c4 hf
    exact k3_follow_45 C hR hf
  · replace hf := ite_f c4 hf
    refine g_iload_n C dX3_follow_17 rfl 3 rfl ?_
    refine g_aload_n C dX3_follow_18 rfl 1 rfl ?_
    refine g_getN (C0 := RX2) (T := TX2) (N := 5) (ci := 2) (v := .int (P0_N 0)) (host := "SecretSteps") C hm3_follow_3 3 rfl rfl 3 (by decide) hn3_26 rfl dX3_follow_19 ?_
    refine g_icmp_ge (tgt := 45) C dX3_follow_22 (by decide) (fun c5 => ?_) (fun c5 => ?_)
    · replace hf := ite_t c5 hf
      exact k3_follow_45 C hR hf
    · replace hf := ite_f c5 hf
      refine g_aload_n C dX3_follow_25 rfl 0 rfl ?_
      refine g_aload_n C dX3_follow_26 rfl 1 rfl ?_
      refine g_iload_n C dX3_follow_27 rfl 3 rfl ?_
      obtain ⟨q6, hq6, hf⟩ := bs hf
      refine g_callVi (n := 2) (As := [.ref aq0, .int x3]) (rest := []) (wc := [(ru, oB 3 [.ref ru_values, .ref ru_sights, .int seenCount, .int steps, .int cut]), (ru_values, aI G 6 values), (ru_sights, aI G 61 sights), (aq0, oB 2 [.ref aq0_lines, .ref aq0_cells, .ref aq0_starts, .int (P0_N 0), .int (P0_N 1)]), (aq0_lines, aI G 80 (fun j => P0_N (24 + j))), (aq0_cells, aI G 16 (fun j => P0_N (8 + j))), (aq0_starts, aI G 6 (fun j => P0_N (2 + j)))]) (w1 := [(ru, oB 3 [.ref ru_values, .ref ru_sights, .int q6.2.2.2, .int steps, .int cut]), (ru_values, aI G 6 q6.2.1), (ru_sights, aI G 61 q6.2.2.1), (aq0, oB 2 [.ref aq0_lines, .ref aq0_cells, .ref aq0_starts, .int (P0_N 0), .int (P0_N 1)]), (aq0_lines, aI G 80 (fun j => P0_N (24 + j))), (aq0_cells, aI G 16 (fun j => P0_N (8 + j))), (aq0_starts, aI G 6 (fun j => P0_N (2 + j)))]) (wr := []) (WS' := [(ru, oB 3 [.ref ru_values, .ref ru_sights, .int q6.2.2.2, .int steps, .int cut]), (ru_values, aI G 6 q6.2.1), (ru_sights, aI G 61 q6.2.2.1), (aq0, oB 2 [.ref aq0_lines, .ref aq0_cells, .ref aq0_starts, .int (P0_N 0), .int (P0_N 1)]), (aq0_lines, aI G 80 (fun j => P0_N (24 + j))), (aq0_cells, aI G 16 (fun j => P0_N (8 + j))), (aq0_starts, aI G 6 (fun j => P0_N (2 + j)))]) C (c3_doLine hq6) gX3_follow_X3_doLine (by decide +kernel) rfl rfl rfl rfl rfl rfl ⟨by decide, by decide⟩ rfl [0, 1, 2, 3, 4, 5, 6] [] [0, 1, 2, 3, 4, 5, 6] rfl (by decide) rfl (by decide) (by decide) rfl (by decide) (Nat.le_of_ble_eq_true rfl) ⟨Nat.zero_le _, Nat.zero_le _⟩ rfl dX3_follow_28 ?_
      refine g_istore_n (lv' := [(0, .ref ru), (1, .ref aq0), (2, .int x2), (3, .int q6.1)]) C dX3_follow_31 rfl (by decide) [1, 2, 3, 0] rfl ?_
      refine g_aload_n C dX3_follow_32 rfl 0 rfl ?_
      refine g_dup C dX3_follow_33 rfl ?_
      refine g_get (C0 := RX3) (T := TX3) (N := 5) (ci := 3) (v := .int steps) C hm3_follow_0 0 rfl rfl 3 (by decide) hm3_follow_2 rfl dX3_follow_34 ?_
      refine g_iconst (v := (1 : Int32)) C dX3_follow_37 (by decide +kernel) ?_
      refine g_iadd C dX3_follow_38 ?_
      refine g_put (C0 := RX3) (T := TX3) (N := 5) (ci := 3) (ty := .int) (WS' := [(ru, oB 3 [.ref ru_values, .ref ru_sights, .int q6.2.2.2, .int (steps + (1 : Int32)), .int cut]), (ru_values, aI G 6 q6.2.1), (ru_sights, aI G 61 q6.2.2.1), (aq0, oB 2 [.ref aq0_lines, .ref aq0_cells, .ref aq0_starts, .int (P0_N 0), .int (P0_N 1)]), (aq0_lines, aI G 80 (fun j => P0_N (24 + j))), (aq0_cells, aI G 16 (fun j => P0_N (8 + j))), (aq0_starts, aI G 6 (fun j => P0_N (2 + j)))]) C hm3_follow_0 tyX3 tyX3_ok nmX3 0 rfl rfl 3 (by decide) hm3_follow_2 rfl rfl rfl rfl (Nat.le_of_ble_eq_true rfl) dX3_follow_39 rfl ?_
      refine g_goto (tgt := 8) C dX3_follow_42 (by decide) ?_
      exact hk8 _ hf
set_option maxHeartbeats 4000000 in
set_option maxRecDepth 100000 in
theorem k3_follow_8 {p : Program} {l : Launch} {e : Env} {s : State} {m : MethodId} {args : Array Value} {below : List Frame} {meth : Method} {c : Code} {G : gG} {A : Nat → Prop} {Q : State → Prop} {ru ru_values ru_sights aq0 aq0_lines aq0_cells aq0_starts : Nat} (C : CX p s m args meth c G A cX3_follow 4 RX3 wsX3_follow) {P0_N : Nat → Int32} {res : (Nat → Int32) × (Nat → Int32) × Int32 × Int32 × Int32} (hR : ∀ (lv : List (Nat × Value)) (pc : Nat), decode cX3_follow pc = .ok (.return_, 1) → GG p l e rm3_follow s m args below meth c G A 4 0 0 Q [(ru, oB 3 [.ref ru_values, .ref ru_sights, .int res.2.2.1, .int res.2.2.2.1, .int res.2.2.2.2]), (ru_values, aI G 6 res.1), (ru_sights, aI G 61 res.2.1), (aq0, oB 2 [.ref aq0_lines, .ref aq0_cells, .ref aq0_starts, .int (P0_N 0), .int (P0_N 1)]), (aq0_lines, aI G 80 (fun j => P0_N (24 + j))), (aq0_cells, aI G 16 (fun j => P0_N (8 + j))), (aq0_starts, aI G 6 (fun j => P0_N (2 + j)))] lv pc []) : ∀ (n : Nat) (s1 : (Nat → Int32) × (Nat → Int32) × Int32 × Int32 × Int32 × Int32 × Int32), f3_follow_8 P0_N n s1 = some res → GG p l e rm3_follow s m args below meth c G A 4 0 0 Q [(ru, oB 3 [.ref ru_values, .ref ru_sights, .int s1.2.2.1, .int s1.2.2.2.1, .int s1.2.2.2.2.1]), (ru_values, aI G 6 s1.1), (ru_sights, aI G 61 s1.2.1), (aq0, oB 2 [.ref aq0_lines, .ref aq0_cells, .ref aq0_starts, .int (P0_N 0), .int (P0_N 1)]), (aq0_lines, aI G 80 (fun j => P0_N (24 + j))), (aq0_cells, aI G 16 (fun j => P0_N (8 + j))), (aq0_starts, aI G 6 (fun j => P0_N (2 + j)))] [(0, .ref ru), (1, .ref aq0), (2, .int s1.2.2.2.2.2.1), (3, .int s1.2.2.2.2.2.2)] 8 [] :=
  itf_ind (fun k s1 ih hf => k3_follow_8b C hR ih hf)
set_option maxHeartbeats 4000000 in
set_option maxRecDepth 100000 in
theorem c3_follow {l : Launch} {G : gG} {ru ru_values ru_sights aq0 aq0_lines aq0_cells aq0_starts : Nat} {values : Nat → Int32} {sights : Nat → Int32} {seenCount : Int32} {steps : Int32} {cut : Int32} {P0_N : Nat → Int32} {v1 : Int32} {res : (Nat → Int32) × (Nat → Int32) × Int32 × Int32 × Int32} (hf : f3_follow P0_N values sights seenCount steps cut v1 = some res) : MV l yX3_follow wsX3_follow rm3_follow G [.ref ru, .ref aq0, .int v1] [(ru, oB 3 [.ref ru_values, .ref ru_sights, .int seenCount, .int steps, .int cut]), (ru_values, aI G 6 values), (ru_sights, aI G 61 sights), (aq0, oB 2 [.ref aq0_lines, .ref aq0_cells, .ref aq0_starts, .int (P0_N 0), .int (P0_N 1)]), (aq0_lines, aI G 80 (fun j => P0_N (24 + j))), (aq0_cells, aI G 16 (fun j => P0_N (8 + j))), (aq0_starts, aI G 6 (fun j => P0_N (2 + j)))] [(ru, oB 3 [.ref ru_values, .ref ru_sights, .int res.2.2.1, .int res.2.2.2.1, .int res.2.2.2.2]), (ru_values, aI G 6 res.1), (ru_sights, aI G 61 res.2.1), (aq0, oB 2 [.ref aq0_lines, .ref aq0_cells, .ref aq0_starts, .int (P0_N 0), .int (P0_N 1)]), (aq0_lines, aI G 80 (fun j => P0_N (24 + j))), (aq0_cells, aI G 16 (fun j => P0_N (8 + j))), (aq0_starts, aI G 6 (fun j => P0_N (2 + j)))] := by
  refine MV_of (cc := cX3_follow) (nL := 4) (lv := [(0, .ref ru), (1, .ref aq0), (2, .int v1)]) (by decide +kernel) rfl (Nat.le_of_ble_eq_true rfl) rfl ?_
  intro p e s m args below meth c A Q C hR
  unfold f3_follow at hf
  refine g_aload_n C dX3_follow_0 rfl 0 rfl ?_
  refine g_aload_n C dX3_follow_1 rfl 1 rfl ?_
  refine g_iload_n C dX3_follow_2 rfl 2 rfl ?_
  obtain ⟨q7, hq7, hf⟩ := bs hf
  refine g_callVv (n := 2) (As := [.ref aq0, .int v1]) (rest := []) (wc := [(ru, oB 3 [.ref ru_values, .ref ru_sights, .int seenCount, .int steps, .int cut]), (ru_values, aI G 6 values), (ru_sights, aI G 61 sights), (aq0, oB 2 [.ref aq0_lines, .ref aq0_cells, .ref aq0_starts, .int (P0_N 0), .int (P0_N 1)]), (aq0_lines, aI G 80 (fun j => P0_N (24 + j))), (aq0_cells, aI G 16 (fun j => P0_N (8 + j))), (aq0_starts, aI G 6 (fun j => P0_N (2 + j)))]) (w1 := [(ru, oB 3 [.ref ru_values, .ref ru_sights, .int q7.2.1, .int q7.2.2, .int cut]), (ru_values, aI G 6 q7.1), (ru_sights, aI G 61 sights), (aq0, oB 2 [.ref aq0_lines, .ref aq0_cells, .ref aq0_starts, .int (P0_N 0), .int (P0_N 1)]), (aq0_lines, aI G 80 (fun j => P0_N (24 + j))), (aq0_cells, aI G 16 (fun j => P0_N (8 + j))), (aq0_starts, aI G 6 (fun j => P0_N (2 + j)))]) (wr := []) (WS' := [(ru, oB 3 [.ref ru_values, .ref ru_sights, .int q7.2.1, .int q7.2.2, .int cut]), (ru_values, aI G 6 q7.1), (ru_sights, aI G 61 sights), (aq0, oB 2 [.ref aq0_lines, .ref aq0_cells, .ref aq0_starts, .int (P0_N 0), .int (P0_N 1)]), (aq0_lines, aI G 80 (fun j => P0_N (24 + j))), (aq0_cells, aI G 16 (fun j => P0_N (8 + j))), (aq0_starts, aI G 6 (fun j => P0_N (2 + j)))]) C (c3_setOut hq7) gX3_follow_X3_setOut (by decide +kernel) rfl rfl rfl rfl rfl rfl ⟨by decide, by decide⟩ rfl [0, 1, 2, 3, 4, 5, 6] [] [0, 1, 2, 3, 4, 5, 6] rfl (by decide) rfl (by decide) (by decide) rfl (by decide) (Nat.le_of_ble_eq_true rfl) ⟨Nat.zero_le _, Nat.zero_le _⟩ rfl dX3_follow_3 ?_
  refine g_iconst (v := (0 : Int32)) C dX3_follow_6 (by decide +kernel) ?_
  refine g_istore_n (lv' := [(0, .ref ru), (1, .ref aq0), (2, .int v1), (3, .int (0 : Int32))]) C dX3_follow_7 rfl (by decide) [1, 2, 3, 0] rfl ?_
  exact k3_follow_8 C hR _ _ hf

-- X3_seen
def f3_seen (sights : Nat → Int32) (seenCount : Int32) (v0 : Int32) : Option (Int32) :=
  (f6_within v0 seenCount).bind <| fun q1 =>
    if q1 = 0 then
    (some (-1 : Int32))
    else (ck (inb v0 61) <|
    some (sights v0.toNatClampNeg))
def rm3_seen : Room := { frames := 1, cells := 0, slots := 0, locals := 21 }
theorem hm3_seen_0 : ∀ w ∈ u_ws RX3 TX3 5, w ∈ wsX3_seen := by decide +kernel
theorem hm3_seen_1 : Cond.fieldLink RX3 43 "SecretSteps$Run" "seenCount" "I" ∈ wsX3_seen := by decide +kernel
theorem hm3_seen_2 : Cond.initialized yX6_within.cls ∈ wsX3_seen := by decide +kernel
theorem hm3_seen_3 : Cond.static yX6_within ∈ wsX3_seen := by decide +kernel
theorem hm3_seen_4 : Cond.fieldLink RX3 15 "SecretSteps$Run" "sights" "[I" ∈ wsX3_seen := by decide +kernel
set_option maxHeartbeats 4000000 in
set_option maxRecDepth 100000 in
theorem c3_seen {l : Launch} {G : gG} {ru ru_values ru_sights : Nat} {values : Nat → Int32} {sights : Nat → Int32} {seenCount : Int32} {steps : Int32} {cut : Int32} {v0 : Int32} {res : Int32} (hf : f3_seen sights seenCount v0 = some res) : MI l yX3_seen wsX3_seen rm3_seen G [.ref ru, .int v0] [(ru, oB 3 [.ref ru_values, .ref ru_sights, .int seenCount, .int steps, .int cut]), (ru_values, aI G 6 values), (ru_sights, aI G 61 sights)] (res) [(ru, oB 3 [.ref ru_values, .ref ru_sights, .int seenCount, .int steps, .int cut]), (ru_values, aI G 6 values), (ru_sights, aI G 61 sights)] := by
  refine MI_of (res) (cc := cX3_seen) (nL := 2) (lv := [(0, .ref ru), (1, .int v0)]) (by decide +kernel) rfl (Nat.le_of_ble_eq_true rfl) rfl ?_
  intro p e s m args below meth c A Q C hR
  unfold f3_seen at hf
  refine g_iload_n C dX3_seen_0 rfl 1 rfl ?_
  refine g_aload_n C dX3_seen_1 rfl 0 rfl ?_
  refine g_get (C0 := RX3) (T := TX3) (N := 5) (ci := 3) (v := .int seenCount) C hm3_seen_0 0 rfl rfl 2 (by decide) hm3_seen_1 rfl dX3_seen_2 ?_
  obtain ⟨q1, hq1, hf⟩ := bs hf
  refine g_callSNi (n := 2) (As := [.int v0, .int seenCount]) (rest := []) (wc := []) (w1 := []) (wr := [(ru, oB 3 [.ref ru_values, .ref ru_sights, .int seenCount, .int steps, .int cut]), (ru_values, aI G 6 values), (ru_sights, aI G 61 sights)]) (WS' := [(ru, oB 3 [.ref ru_values, .ref ru_sights, .int seenCount, .int steps, .int cut]), (ru_values, aI G 6 values), (ru_sights, aI G 61 sights)]) C (c6_within hq1) ggX3_seen_X6_within hn3_62 hm3_seen_2 hm3_seen_3 (by decide +kernel) rfl rfl rfl ⟨by decide, by decide⟩ rfl [] [0, 1, 2] [0, 1, 2] rfl (by decide) rfl (by decide) (by decide) rfl (by decide) (Nat.le_of_ble_eq_true rfl) ⟨Nat.zero_le _, Nat.zero_le _⟩ rfl dX3_seen_5 ?_
  refine g_if_eq (tgt := 20) C dX3_seen_8 (by decide) (fun c2 => ?_) (fun c2 => ?_)
  · replace hf := ite_t c2 hf
    refine g_iconst (v := (-1 : Int32)) C dX3_seen_20 (by decide +kernel) ?_
    obtain rfl := Option.some.inj hf
    exact hR _ _ dX3_seen_21
  · replace hf := ite_f c2 hf
    refine g_aload_n C dX3_seen_11 rfl 0 rfl ?_
    refine g_get (C0 := RX3) (T := TX3) (N := 5) (ci := 3) (v := .ref ru_sights) C hm3_seen_0 0 rfl rfl 1 (by decide) hm3_seen_4 rfl dX3_seen_12 ?_
    refine g_iload_n C dX3_seen_15 rfl 1 rfl ?_
    obtain ⟨h3, hf⟩ := ck_some hf
    refine g_iald (n := 61) (v := (sights v0.toNatClampNeg)) C 2 rfl h3 rfl rfl dX3_seen_16 ?_
    refine g_goto (tgt := 21) C dX3_seen_17 (by decide) ?_
    obtain rfl := Option.some.inj hf
    exact hR _ _ dX3_seen_21

-- X3_outcome
def f3_outcome (values : Nat → Int32) (seenCount : Int32) (steps : Int32) (cut : Int32) (v0 : Int32) : Option (Int32) :=
  (if v0 = (0 : Int32) then
    (some steps)
    else (if v0 = (1 : Int32) then
    (if cut = 0 then
    (some (0 : Int32))
    else (some (1 : Int32)))
    else (if v0 = (2 : Int32) then
    (some seenCount)
    else (ck (inb (v0 - (3 : Int32)) 6) <|
    some (values (v0 - (3 : Int32)).toNatClampNeg)))))
def rm3_outcome : Room := { frames := 0, cells := 0, slots := 0, locals := 0 }
theorem hm3_outcome_0 : ∀ w ∈ u_ws RX3 TX3 5, w ∈ wsX3_outcome := by decide +kernel
theorem hm3_outcome_1 : Cond.fieldLink RX3 22 "SecretSteps$Run" "steps" "I" ∈ wsX3_outcome := by decide +kernel
theorem hm3_outcome_2 : Cond.fieldLink RX3 35 "SecretSteps$Run" "cut" "Z" ∈ wsX3_outcome := by decide +kernel
theorem hm3_outcome_3 : Cond.fieldLink RX3 43 "SecretSteps$Run" "seenCount" "I" ∈ wsX3_outcome := by decide +kernel
theorem hm3_outcome_4 : Cond.fieldLink RX3 9 "SecretSteps$Run" "values" "[I" ∈ wsX3_outcome := by decide +kernel
set_option maxHeartbeats 4000000 in
set_option maxRecDepth 100000 in
theorem c3_outcome {l : Launch} {G : gG} {ru ru_values ru_sights : Nat} {values : Nat → Int32} {sights : Nat → Int32} {seenCount : Int32} {steps : Int32} {cut : Int32} {v0 : Int32} {res : Int32} (hf : f3_outcome values seenCount steps cut v0 = some res) : MI l yX3_outcome wsX3_outcome rm3_outcome G [.ref ru, .int v0] [(ru, oB 3 [.ref ru_values, .ref ru_sights, .int seenCount, .int steps, .int cut]), (ru_values, aI G 6 values), (ru_sights, aI G 61 sights)] (res) [(ru, oB 3 [.ref ru_values, .ref ru_sights, .int seenCount, .int steps, .int cut]), (ru_values, aI G 6 values), (ru_sights, aI G 61 sights)] := by
  refine MI_of (res) (cc := cX3_outcome) (nL := 2) (lv := [(0, .ref ru), (1, .int v0)]) (by decide +kernel) rfl (Nat.le_of_ble_eq_true rfl) rfl ?_
  intro p e s m args below meth c A Q C hR
  unfold f3_outcome at hf
  refine g_iload_n C dX3_outcome_0 rfl 1 rfl ?_
  by_cases c1 : v0 = (0 : Int32)
  · replace hf := ite_t c1 hf
    refine g_tableIn (off := 27) (tgt := 28) C dX3_outcome_1 (by rw [c1]; decide +kernel) (by rw [c1]; decide +kernel) (by rw [c1]; decide +kernel) (by decide) ?_
    refine g_aload_n C dX3_outcome_28 rfl 0 rfl ?_
    refine g_get (C0 := RX3) (T := TX3) (N := 5) (ci := 3) (v := .int steps) C hm3_outcome_0 0 rfl rfl 3 (by decide) hm3_outcome_1 rfl dX3_outcome_29 ?_
    obtain rfl := Option.some.inj hf
    exact hR _ _ dX3_outcome_32
  replace hf := ite_f c1 hf
  by_cases c2 : v0 = (1 : Int32)
  · replace hf := ite_t c2 hf
    refine g_tableIn (off := 32) (tgt := 33) C dX3_outcome_1 (by rw [c2]; decide +kernel) (by rw [c2]; decide +kernel) (by rw [c2]; decide +kernel) (by decide) ?_
    refine g_aload_n C dX3_outcome_33 rfl 0 rfl ?_
    refine g_get (C0 := RX3) (T := TX3) (N := 5) (ci := 3) (v := .int cut) C hm3_outcome_0 0 rfl rfl 4 (by decide) hm3_outcome_2 rfl dX3_outcome_34 ?_
    refine g_if_eq (tgt := 44) C dX3_outcome_37 (by decide) (fun c3 => ?_) (fun c3 => ?_)
    · replace hf := ite_t c3 hf
      refine g_iconst (v := (0 : Int32)) C dX3_outcome_44 (by decide +kernel) ?_
      obtain rfl := Option.some.inj hf
      exact hR _ _ dX3_outcome_45
    · replace hf := ite_f c3 hf
      refine g_iconst (v := (1 : Int32)) C dX3_outcome_40 (by decide +kernel) ?_
      refine g_goto (tgt := 45) C dX3_outcome_41 (by decide) ?_
      obtain rfl := Option.some.inj hf
      exact hR _ _ dX3_outcome_45
  replace hf := ite_f c2 hf
  by_cases c4 : v0 = (2 : Int32)
  · replace hf := ite_t c4 hf
    refine g_tableIn (off := 45) (tgt := 46) C dX3_outcome_1 (by rw [c4]; decide +kernel) (by rw [c4]; decide +kernel) (by rw [c4]; decide +kernel) (by decide) ?_
    refine g_aload_n C dX3_outcome_46 rfl 0 rfl ?_
    refine g_get (C0 := RX3) (T := TX3) (N := 5) (ci := 3) (v := .int seenCount) C hm3_outcome_0 0 rfl rfl 2 (by decide) hm3_outcome_3 rfl dX3_outcome_47 ?_
    obtain rfl := Option.some.inj hf
    exact hR _ _ dX3_outcome_50
  replace hf := ite_f c4 hf
  refine g_tableOut (tgt := 51) C dX3_outcome_1 (by have e0 := lv_neT (a := 0) c1 (by decide +kernel); have e1 := lv_neT (a := 1) c2 (by decide +kernel); have e2 := lv_neT (a := 2) c4 (by decide +kernel); omega) (by decide) ?_
  refine g_aload_n C dX3_outcome_51 rfl 0 rfl ?_
  refine g_get (C0 := RX3) (T := TX3) (N := 5) (ci := 3) (v := .ref ru_values) C hm3_outcome_0 0 rfl rfl 0 (by decide) hm3_outcome_4 rfl dX3_outcome_52 ?_
  refine g_iload_n C dX3_outcome_55 rfl 1 rfl ?_
  refine g_iconst (v := (3 : Int32)) C dX3_outcome_56 (by decide +kernel) ?_
  refine g_isub C dX3_outcome_57 ?_
  obtain ⟨h5, hf⟩ := ck_some hf
  refine g_iald (n := 6) (v := (values (v0 - (3 : Int32)).toNatClampNeg)) C 1 rfl h5 rfl rfl dX3_outcome_58 ?_
  obtain rfl := Option.some.inj hf
  exact hR _ _ dX3_outcome_59

-- X3_partsFrom
def f3_partsFrom_14b (sights : Nat → Int32) (seenCount : Int32) (O0_sights : Nat → Int32) (O0_seenCount : Int32) (k14 : Int32 × Int32 → Option (Int32)) (x2 : Int32) (x3 : Int32) : Option (Int32) :=
  if x2 ≤ x3 then
    (some (-1 : Int32))
    else ((f3_seen sights seenCount x3).bind <| fun q2 =>
    (f3_seen O0_sights O0_seenCount x3).bind <| fun q3 =>
    if q2 = q3 then
    (k14 (x2, (x3 + (1 : Int32))))
    else (some x3))
def f3_partsFrom_14 (sights : Nat → Int32) (seenCount : Int32) (O0_sights : Nat → Int32) (O0_seenCount : Int32) (n : Nat) (s : Int32 × Int32) : Option (Int32) := itf (fun k s => f3_partsFrom_14b sights seenCount O0_sights O0_seenCount k s.1 s.2) n s
def f3_partsFrom (sights : Nat → Int32) (seenCount : Int32) (O0_sights : Nat → Int32) (O0_seenCount : Int32) : Option (Int32) :=
  f3_partsFrom_14 sights seenCount O0_sights O0_seenCount 1000 ((if seenCount < O0_seenCount then O0_seenCount else seenCount), (0 : Int32))
def rm3_partsFrom : Room := { frames := 2, cells := 0, slots := 0, locals := 42 }
theorem hm3_partsFrom_0 : ∀ w ∈ u_ws RX3 TX3 5, w ∈ wsX3_partsFrom := by decide +kernel
theorem hm3_partsFrom_1 : Cond.fieldLink RX3 43 "SecretSteps$Run" "seenCount" "I" ∈ wsX3_partsFrom := by decide +kernel
theorem hm3_partsFrom_2 : Cond.methodLink RX3 66 Lib.Math.max.name ∈ wsX3_partsFrom := by decide +kernel
theorem hm3_partsFrom_3 : Cond.static Lib.Math.max.name ∈ wsX3_partsFrom := by decide +kernel
theorem hm3_partsFrom_4 : Cond.initialized "java/lang/Math" ∈ wsX3_partsFrom := by decide +kernel
theorem hm3_partsFrom_5 : Cond.code Lib.Math.max.name Lib.Math.max.code 2 (some .int) ∈ wsX3_partsFrom := by decide +kernel
set_option maxHeartbeats 4000000 in
set_option maxRecDepth 100000 in
theorem k3_partsFrom_14b {p : Program} {l : Launch} {e : Env} {s : State} {m : MethodId} {args : Array Value} {below : List Frame} {meth : Method} {c : Code} {G : gG} {A : Nat → Prop} {Q : State → Prop} {ru ru_values ru_sights aq0 aq0_values aq0_sights : Nat} (C : CX p s m args meth c G A cX3_partsFrom 4 RX3 wsX3_partsFrom) {values : Nat → Int32} {steps : Int32} {cut : Int32} {O0_values : Nat → Int32} {O0_steps : Int32} {O0_cut : Int32} {sights : Nat → Int32} {seenCount : Int32} {O0_sights : Nat → Int32} {O0_seenCount : Int32} {k14 : Int32 × Int32 → Option (Int32)} {x2 : Int32} {x3 : Int32} {res : Int32} (hR : ∀ (lv : List (Nat × Value)) (pc : Nat), decode cX3_partsFrom pc = .ok (.ireturn, 1) → GG p l e rm3_partsFrom s m args below meth c G A 4 0 0 Q [(ru, oB 3 [.ref ru_values, .ref ru_sights, .int seenCount, .int steps, .int cut]), (ru_values, aI G 6 values), (ru_sights, aI G 61 sights), (aq0, oB 3 [.ref aq0_values, .ref aq0_sights, .int O0_seenCount, .int O0_steps, .int O0_cut]), (aq0_values, aI G 6 O0_values), (aq0_sights, aI G 61 O0_sights)] lv pc [.int res])
    (hk14 : ∀ s', k14 s' = some res → GG p l e rm3_partsFrom s m args below meth c G A 4 0 0 Q [(ru, oB 3 [.ref ru_values, .ref ru_sights, .int seenCount, .int steps, .int cut]), (ru_values, aI G 6 values), (ru_sights, aI G 61 sights), (aq0, oB 3 [.ref aq0_values, .ref aq0_sights, .int O0_seenCount, .int O0_steps, .int O0_cut]), (aq0_values, aI G 6 O0_values), (aq0_sights, aI G 61 O0_sights)] [(0, .ref ru), (1, .ref aq0), (2, .int s'.1), (3, .int s'.2)] 14 [])
    (hf : f3_partsFrom_14b sights seenCount O0_sights O0_seenCount k14 x2 x3 = some res) : GG p l e rm3_partsFrom s m args below meth c G A 4 0 0 Q [(ru, oB 3 [.ref ru_values, .ref ru_sights, .int seenCount, .int steps, .int cut]), (ru_values, aI G 6 values), (ru_sights, aI G 61 sights), (aq0, oB 3 [.ref aq0_values, .ref aq0_sights, .int O0_seenCount, .int O0_steps, .int O0_cut]), (aq0_values, aI G 6 O0_values), (aq0_sights, aI G 61 O0_sights)] [(0, .ref ru), (1, .ref aq0), (2, .int x2), (3, .int x3)] 14 [] := by
  unfold f3_partsFrom_14b at hf
  refine g_iload_n C dX3_partsFrom_14 rfl 3 rfl ?_
  refine g_iload_n C dX3_partsFrom_15 rfl 2 rfl ?_
  refine g_icmp_ge (tgt := 40) C dX3_partsFrom_16 (by decide) (fun c1 => ?_) (fun c1 => ?_)
  · replace hf := ite_t c1 hf
    refine g_iconst (v := (-1 : Int32)) C dX3_partsFrom_40 (by decide +kernel) ?_
    obtain rfl := Option.some.inj hf
    exact hR _ _ dX3_partsFrom_41
  · replace hf := ite_f c1 hf
    refine g_aload_n C dX3_partsFrom_19 rfl 0 rfl ?_
    refine g_iload_n C dX3_partsFrom_20 rfl 3 rfl ?_
    obtain ⟨q2, hq2, hf⟩ := bs hf
    refine g_callVi (n := 1) (As := [.int x3]) (rest := []) (wc := [(ru, oB 3 [.ref ru_values, .ref ru_sights, .int seenCount, .int steps, .int cut]), (ru_values, aI G 6 values), (ru_sights, aI G 61 sights)]) (w1 := [(ru, oB 3 [.ref ru_values, .ref ru_sights, .int seenCount, .int steps, .int cut]), (ru_values, aI G 6 values), (ru_sights, aI G 61 sights)]) (wr := [(aq0, oB 3 [.ref aq0_values, .ref aq0_sights, .int O0_seenCount, .int O0_steps, .int O0_cut]), (aq0_values, aI G 6 O0_values), (aq0_sights, aI G 61 O0_sights)]) (WS' := [(ru, oB 3 [.ref ru_values, .ref ru_sights, .int seenCount, .int steps, .int cut]), (ru_values, aI G 6 values), (ru_sights, aI G 61 sights), (aq0, oB 3 [.ref aq0_values, .ref aq0_sights, .int O0_seenCount, .int O0_steps, .int O0_cut]), (aq0_values, aI G 6 O0_values), (aq0_sights, aI G 61 O0_sights)]) C (c3_seen hq2) gX3_partsFrom_X3_seen (by decide +kernel) rfl rfl rfl rfl rfl rfl ⟨by decide, by decide⟩ rfl [0, 1, 2] [3, 4, 5] [3, 4, 5, 0, 1, 2] rfl (by decide) rfl (by decide) (by decide) rfl (by decide) (Nat.le_of_ble_eq_true rfl) ⟨Nat.zero_le _, Nat.zero_le _⟩ rfl dX3_partsFrom_21 ?_
    refine g_aload_n C dX3_partsFrom_24 rfl 1 rfl ?_
    refine g_iload_n C dX3_partsFrom_25 rfl 3 rfl ?_
    obtain ⟨q3, hq3, hf⟩ := bs hf
    refine g_callVi (n := 1) (As := [.int x3]) (rest := [.int q2]) (wc := [(aq0, oB 3 [.ref aq0_values, .ref aq0_sights, .int O0_seenCount, .int O0_steps, .int O0_cut]), (aq0_values, aI G 6 O0_values), (aq0_sights, aI G 61 O0_sights)]) (w1 := [(aq0, oB 3 [.ref aq0_values, .ref aq0_sights, .int O0_seenCount, .int O0_steps, .int O0_cut]), (aq0_values, aI G 6 O0_values), (aq0_sights, aI G 61 O0_sights)]) (wr := [(ru, oB 3 [.ref ru_values, .ref ru_sights, .int seenCount, .int steps, .int cut]), (ru_values, aI G 6 values), (ru_sights, aI G 61 sights)]) (WS' := [(ru, oB 3 [.ref ru_values, .ref ru_sights, .int seenCount, .int steps, .int cut]), (ru_values, aI G 6 values), (ru_sights, aI G 61 sights), (aq0, oB 3 [.ref aq0_values, .ref aq0_sights, .int O0_seenCount, .int O0_steps, .int O0_cut]), (aq0_values, aI G 6 O0_values), (aq0_sights, aI G 61 O0_sights)]) C (c3_seen hq3) gX3_partsFrom_X3_seen (by decide +kernel) rfl rfl rfl rfl rfl rfl ⟨by decide, by decide⟩ rfl [3, 4, 5] [0, 1, 2] [0, 1, 2, 3, 4, 5] rfl (by decide) rfl (by decide) (by decide) rfl (by decide) (Nat.le_of_ble_eq_true rfl) ⟨Nat.zero_le _, Nat.zero_le _⟩ rfl dX3_partsFrom_26 ?_
    refine g_icmp_eq (tgt := 34) C dX3_partsFrom_29 (by decide) (fun c4 => ?_) (fun c4 => ?_)
    · replace hf := ite_t c4 hf
      refine g_iinc (v := (x3 + (1 : Int32))) (lv' := [(0, .ref ru), (1, .ref aq0), (2, .int x2), (3, .int (x3 + (1 : Int32)))]) C dX3_partsFrom_34 3 rfl rfl (by decide) [1, 2, 3, 0] rfl ?_
      refine g_goto (tgt := 14) C dX3_partsFrom_37 (by decide) ?_
      exact hk14 _ hf
    · replace hf := ite_f c4 hf
      refine g_iload_n C dX3_partsFrom_32 rfl 3 rfl ?_
      obtain rfl := Option.some.inj hf
      exact hR _ _ dX3_partsFrom_33
set_option maxHeartbeats 4000000 in
set_option maxRecDepth 100000 in
theorem k3_partsFrom_14 {p : Program} {l : Launch} {e : Env} {s : State} {m : MethodId} {args : Array Value} {below : List Frame} {meth : Method} {c : Code} {G : gG} {A : Nat → Prop} {Q : State → Prop} {ru ru_values ru_sights aq0 aq0_values aq0_sights : Nat} (C : CX p s m args meth c G A cX3_partsFrom 4 RX3 wsX3_partsFrom) {values : Nat → Int32} {steps : Int32} {cut : Int32} {O0_values : Nat → Int32} {O0_steps : Int32} {O0_cut : Int32} {sights : Nat → Int32} {seenCount : Int32} {O0_sights : Nat → Int32} {O0_seenCount : Int32} {res : Int32} (hR : ∀ (lv : List (Nat × Value)) (pc : Nat), decode cX3_partsFrom pc = .ok (.ireturn, 1) → GG p l e rm3_partsFrom s m args below meth c G A 4 0 0 Q [(ru, oB 3 [.ref ru_values, .ref ru_sights, .int seenCount, .int steps, .int cut]), (ru_values, aI G 6 values), (ru_sights, aI G 61 sights), (aq0, oB 3 [.ref aq0_values, .ref aq0_sights, .int O0_seenCount, .int O0_steps, .int O0_cut]), (aq0_values, aI G 6 O0_values), (aq0_sights, aI G 61 O0_sights)] lv pc [.int res]) : ∀ (n : Nat) (s1 : Int32 × Int32), f3_partsFrom_14 sights seenCount O0_sights O0_seenCount n s1 = some res → GG p l e rm3_partsFrom s m args below meth c G A 4 0 0 Q [(ru, oB 3 [.ref ru_values, .ref ru_sights, .int seenCount, .int steps, .int cut]), (ru_values, aI G 6 values), (ru_sights, aI G 61 sights), (aq0, oB 3 [.ref aq0_values, .ref aq0_sights, .int O0_seenCount, .int O0_steps, .int O0_cut]), (aq0_values, aI G 6 O0_values), (aq0_sights, aI G 61 O0_sights)] [(0, .ref ru), (1, .ref aq0), (2, .int s1.1), (3, .int s1.2)] 14 [] :=
  itf_ind (fun k s1 ih hf => k3_partsFrom_14b C hR ih hf)
set_option maxHeartbeats 4000000 in
set_option maxRecDepth 100000 in
theorem c3_partsFrom {l : Launch} {G : gG} {ru ru_values ru_sights aq0 aq0_values aq0_sights : Nat} {values : Nat → Int32} {sights : Nat → Int32} {seenCount : Int32} {steps : Int32} {cut : Int32} {O0_values : Nat → Int32} {O0_sights : Nat → Int32} {O0_seenCount : Int32} {O0_steps : Int32} {O0_cut : Int32} {res : Int32} (hf : f3_partsFrom sights seenCount O0_sights O0_seenCount = some res) : MI l yX3_partsFrom wsX3_partsFrom rm3_partsFrom G [.ref ru, .ref aq0] [(ru, oB 3 [.ref ru_values, .ref ru_sights, .int seenCount, .int steps, .int cut]), (ru_values, aI G 6 values), (ru_sights, aI G 61 sights), (aq0, oB 3 [.ref aq0_values, .ref aq0_sights, .int O0_seenCount, .int O0_steps, .int O0_cut]), (aq0_values, aI G 6 O0_values), (aq0_sights, aI G 61 O0_sights)] (res) [(ru, oB 3 [.ref ru_values, .ref ru_sights, .int seenCount, .int steps, .int cut]), (ru_values, aI G 6 values), (ru_sights, aI G 61 sights), (aq0, oB 3 [.ref aq0_values, .ref aq0_sights, .int O0_seenCount, .int O0_steps, .int O0_cut]), (aq0_values, aI G 6 O0_values), (aq0_sights, aI G 61 O0_sights)] := by
  refine MI_of (res) (cc := cX3_partsFrom) (nL := 4) (lv := [(0, .ref ru), (1, .ref aq0)]) (by decide +kernel) rfl (Nat.le_of_ble_eq_true rfl) rfl ?_
  intro p e s m args below meth c A Q C hR
  unfold f3_partsFrom at hf
  refine g_aload_n C dX3_partsFrom_0 rfl 0 rfl ?_
  refine g_get (C0 := RX3) (T := TX3) (N := 5) (ci := 3) (v := .int seenCount) C hm3_partsFrom_0 0 rfl rfl 2 (by decide) hm3_partsFrom_1 rfl dX3_partsFrom_1 ?_
  refine g_aload_n C dX3_partsFrom_4 rfl 1 rfl ?_
  refine g_get (C0 := RX3) (T := TX3) (N := 5) (ci := 3) (v := .int O0_seenCount) C hm3_partsFrom_0 3 rfl rfl 2 (by decide) hm3_partsFrom_1 rfl dX3_partsFrom_5 ?_
  refine g_mmax C hm3_partsFrom_2 hm3_partsFrom_3 hm3_partsFrom_4 hm3_partsFrom_5 (by decide) (Nat.le_of_ble_eq_true rfl) (Nat.zero_le _) (Nat.zero_le _) dX3_partsFrom_8 ?_
  refine g_istore_n (lv' := [(0, .ref ru), (1, .ref aq0), (2, .int (if seenCount < O0_seenCount then O0_seenCount else seenCount))]) C dX3_partsFrom_11 rfl (by decide) [1, 2, 0] rfl ?_
  refine g_iconst (v := (0 : Int32)) C dX3_partsFrom_12 (by decide +kernel) ?_
  refine g_istore_n (lv' := [(0, .ref ru), (1, .ref aq0), (2, .int (if seenCount < O0_seenCount then O0_seenCount else seenCount)), (3, .int (0 : Int32))]) C dX3_partsFrom_13 rfl (by decide) [1, 2, 3, 0] rfl ?_
  exact k3_partsFrom_14 C hR _ _ hf
