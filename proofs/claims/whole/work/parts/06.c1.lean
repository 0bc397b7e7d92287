-- X2_partOf
def f2_partOf (N : Nat → Int32) (v0 : Int32) (v1 : Int32) : Option (Int32) :=
  ck (inb ((v0 * (4 : Int32)) + v1) 80) <|
    some (N (24 + ((v0 * (4 : Int32)) + v1).toNatClampNeg))
def rm2_partOf : Room := { frames := 0, cells := 0, slots := 0, locals := 0 }
theorem hm2_partOf_0 : ∀ w ∈ u_ws RX2 TX2 5, w ∈ wsX2_partOf := by decide +kernel
theorem hm2_partOf_1 : Cond.fieldLink RX2 9 "SecretSteps$Program" "lines" "[I" ∈ wsX2_partOf := by decide +kernel
set_option maxHeartbeats 4000000 in
set_option maxRecDepth 100000 in
theorem c2_partOf {l : Launch} {G : gG} {pr pr_lines pr_cells pr_starts : Nat} {N : Nat → Int32} {v0 : Int32} {v1 : Int32} {res : Int32} (hf : f2_partOf N v0 v1 = some res) : MI l yX2_partOf wsX2_partOf rm2_partOf G [.ref pr, .int v0, .int v1] [(pr, oB 2 [.ref pr_lines, .ref pr_cells, .ref pr_starts, .int (N 0), .int (N 1)]), (pr_lines, aI G 80 (fun j => N (24 + j))), (pr_cells, aI G 16 (fun j => N (8 + j))), (pr_starts, aI G 6 (fun j => N (2 + j)))] (res) [(pr, oB 2 [.ref pr_lines, .ref pr_cells, .ref pr_starts, .int (N 0), .int (N 1)]), (pr_lines, aI G 80 (fun j => N (24 + j))), (pr_cells, aI G 16 (fun j => N (8 + j))), (pr_starts, aI G 6 (fun j => N (2 + j)))] := by
  refine MI_of (res) (cc := cX2_partOf) (nL := 3) (lv := [(0, .ref pr), (1, .int v0), (2, .int v1)]) (by decide +kernel) rfl (Nat.le_of_ble_eq_true rfl) rfl ?_
  intro p e s m args below meth c A Q C hR
  unfold f2_partOf at hf
  refine g_aload_n C dX2_partOf_0 rfl 0 rfl ?_
  refine g_get (C0 := RX2) (T := TX2) (N := 5) (ci := 2) (v := .ref pr_lines) C hm2_partOf_0 0 rfl rfl 0 (by decide) hm2_partOf_1 rfl dX2_partOf_1 ?_
  refine g_iload_n C dX2_partOf_4 rfl 1 rfl ?_
  refine g_iconst (v := (4 : Int32)) C dX2_partOf_5 (by decide +kernel) ?_
  refine g_imul C dX2_partOf_6 ?_
  refine g_iload_n C dX2_partOf_7 rfl 2 rfl ?_
  refine g_iadd C dX2_partOf_8 ?_
  obtain ⟨h1, hf⟩ := ck_some hf
  refine g_iald (n := 80) (v := (N (24 + ((v0 * (4 : Int32)) + v1).toNatClampNeg))) C 1 rfl h1 rfl rfl dX2_partOf_9 ?_
  obtain rfl := Option.some.inj hf
  exact hR _ _ dX2_partOf_10

-- X6_within
def f6_within (v0 : Int32) (v1 : Int32) : Option (Int32) :=
  if v0 < 0 then
    (some (0 : Int32))
    else (if v1 ≤ v0 then
    (some (0 : Int32))
    else (some (1 : Int32)))
def rm6_within : Room := { frames := 0, cells := 0, slots := 0, locals := 0 }
set_option maxHeartbeats 4000000 in
set_option maxRecDepth 100000 in
theorem c6_within {l : Launch} {G : gG} {v0 : Int32} {v1 : Int32} {res : Int32} (hf : f6_within v0 v1 = some res) : MI l yX6_within wsX6_within rm6_within G [.int v0, .int v1] [] (res) [] := by
  refine MZ_of (res) (cc := cX6_within) (nL := 2) (lv := [(0, .int v0), (1, .int v1)]) (by decide +kernel) rfl (Nat.le_of_ble_eq_true rfl) rfl ?_
  intro p e s m args below meth c A Q C hR
  unfold f6_within at hf
  refine g_iload_n C dX6_within_0 rfl 0 rfl ?_
  refine g_if_lt (tgt := 13) C dX6_within_1 (by decide) (fun c1 => ?_) (fun c1 => ?_)
  · replace hf := ite_t c1 hf
    refine g_iconst (v := (0 : Int32)) C dX6_within_13 (by decide +kernel) ?_
    obtain rfl := Option.some.inj hf
    exact hR _ _ dX6_within_14 isb0
  · replace hf := ite_f c1 hf
    refine g_iload_n C dX6_within_4 rfl 0 rfl ?_
    refine g_iload_n C dX6_within_5 rfl 1 rfl ?_
    refine g_icmp_ge (tgt := 13) C dX6_within_6 (by decide) (fun c2 => ?_) (fun c2 => ?_)
    · replace hf := ite_t c2 hf
      refine g_iconst (v := (0 : Int32)) C dX6_within_13 (by decide +kernel) ?_
      obtain rfl := Option.some.inj hf
      exact hR _ _ dX6_within_14 isb0
    · replace hf := ite_f c2 hf
      refine g_iconst (v := (1 : Int32)) C dX6_within_9 (by decide +kernel) ?_
      refine g_goto (tgt := 14) C dX6_within_10 (by decide) ?_
      obtain rfl := Option.some.inj hf
      exact hR _ _ dX6_within_14 isb1

-- X2_endOfY
def f2_endOfY (v0 : Int32) : Option (Int32) :=
  if v0 = 0 then
    (some (16 : Int32))
    else (if v0 = (7 : Int32) then
    (some (21 : Int32))
    else (some (6 : Int32)))
def rm2_endOfY : Room := { frames := 0, cells := 0, slots := 0, locals := 0 }
set_option maxHeartbeats 4000000 in
set_option maxRecDepth 100000 in
theorem c2_endOfY {l : Launch} {G : gG} {v0 : Int32} {res : Int32} (hf : f2_endOfY v0 = some res) : MI l yX2_endOfY wsX2_endOfY rm2_endOfY G [.int v0] [] (res) [] := by
  refine MI_of (res) (cc := cX2_endOfY) (nL := 1) (lv := [(0, .int v0)]) (by decide +kernel) rfl (Nat.le_of_ble_eq_true rfl) rfl ?_
  intro p e s m args below meth c A Q C hR
  unfold f2_endOfY at hf
  refine g_iload_n C dX2_endOfY_0 rfl 0 rfl ?_
  refine g_if_ne (tgt := 7) C dX2_endOfY_1 (by decide) (fun c1 => ?_) (fun c1 => ?_)
  · replace hf := ite_f c1 hf
    refine g_iload_n C dX2_endOfY_7 rfl 0 rfl ?_
    refine g_bipush (v := (7 : Int32)) C dX2_endOfY_8 (by decide +kernel) ?_
    refine g_icmp_ne (tgt := 18) C dX2_endOfY_10 (by decide) (fun c2 => ?_) (fun c2 => ?_)
    · replace hf := ite_f c2 hf
      refine g_bipush (v := (6 : Int32)) C dX2_endOfY_18 (by decide +kernel) ?_
      obtain rfl := Option.some.inj hf
      exact hR _ _ dX2_endOfY_20
    · replace hf := ite_t c2 hf
      refine g_bipush (v := (21 : Int32)) C dX2_endOfY_13 (by decide +kernel) ?_
      refine g_goto (tgt := 20) C dX2_endOfY_15 (by decide) ?_
      obtain rfl := Option.some.inj hf
      exact hR _ _ dX2_endOfY_20
  · replace hf := ite_t c1 hf
    refine g_bipush (v := (16 : Int32)) C dX2_endOfY_4 (by decide +kernel) ?_
    obtain rfl := Option.some.inj hf
    exact hR _ _ dX2_endOfY_6

-- X2_fits
def f2_fits (v0 : Int32) (v1 : Int32) (v2 : Int32) (v3 : Int32) : Option (Int32) :=
  (f6_within v0 (9 : Int32)).bind <| fun q1 =>
    if q1 = 0 then
    (some (0 : Int32))
    else ((f6_within v1 (6 : Int32)).bind <| fun q3 =>
    if q3 = 0 then
    (some (0 : Int32))
    else ((f2_endOfY v0).bind <| fun q5 =>
    (f6_within v2 q5).bind <| fun q6 =>
    if q6 = 0 then
    (some (0 : Int32))
    else (if v0 = (8 : Int32) then
    ((f6_within v3 (6 : Int32)).bind <| fun q11 =>
    if q11 = 0 then
    (some (0 : Int32))
    else (some (1 : Int32)))
    else ((f6_within v3 (1 : Int32)).bind <| fun q9 =>
    if q9 = 0 then
    (some (0 : Int32))
    else (some (1 : Int32))))))
def rm2_fits : Room := { frames := 1, cells := 0, slots := 0, locals := 21 }
theorem hm2_fits_0 : Cond.initialized yX6_within.cls ∈ wsX2_fits := by decide +kernel
theorem hm2_fits_1 : Cond.static yX6_within ∈ wsX2_fits := by decide +kernel
set_option maxHeartbeats 4000000 in
set_option maxRecDepth 100000 in
theorem c2_fits {l : Launch} {G : gG} {v0 : Int32} {v1 : Int32} {v2 : Int32} {v3 : Int32} {res : Int32} (hf : f2_fits v0 v1 v2 v3 = some res) : MI l yX2_fits wsX2_fits rm2_fits G [.int v0, .int v1, .int v2, .int v3] [] (res) [] := by
  refine MZ_of (res) (cc := cX2_fits) (nL := 4) (lv := [(0, .int v0), (1, .int v1), (2, .int v2), (3, .int v3)]) (by decide +kernel) rfl (Nat.le_of_ble_eq_true rfl) rfl ?_
  intro p e s m args below meth c A Q C hR
  unfold f2_fits at hf
  refine g_iload_n C dX2_fits_0 rfl 0 rfl ?_
  refine g_bipush (v := (9 : Int32)) C dX2_fits_1 (by decide +kernel) ?_
  obtain ⟨q1, hq1, hf⟩ := bs hf
  refine g_callSNi (n := 2) (As := [.int v0, .int (9 : Int32)]) (rest := []) (wc := []) (w1 := []) (wr := []) (WS' := []) C (c6_within hq1) ggX2_fits_X6_within hn2_38 hm2_fits_0 hm2_fits_1 (by decide +kernel) rfl rfl rfl ⟨by decide, by decide⟩ rfl [] [] [] rfl (by decide) rfl (by decide) (by decide) rfl (by decide) (Nat.le_of_ble_eq_true rfl) ⟨Nat.zero_le _, Nat.zero_le _⟩ rfl dX2_fits_3 ?_
  refine g_if_eq (tgt := 18) C dX2_fits_6 (by decide) (fun c2 => ?_) (fun c2 => ?_)
  · replace hf := ite_t c2 hf
    refine g_iconst (v := (0 : Int32)) C dX2_fits_18 (by decide +kernel) ?_
    obtain rfl := Option.some.inj hf
    exact hR _ _ dX2_fits_19 isb0
  · replace hf := ite_f c2 hf
    refine g_iload_n C dX2_fits_9 rfl 1 rfl ?_
    refine g_bipush (v := (6 : Int32)) C dX2_fits_10 (by decide +kernel) ?_
    obtain ⟨q3, hq3, hf⟩ := bs hf
    refine g_callSNi (n := 2) (As := [.int v1, .int (6 : Int32)]) (rest := []) (wc := []) (w1 := []) (wr := []) (WS' := []) C (c6_within hq3) ggX2_fits_X6_within hn2_38 hm2_fits_0 hm2_fits_1 (by decide +kernel) rfl rfl rfl ⟨by decide, by decide⟩ rfl [] [] [] rfl (by decide) rfl (by decide) (by decide) rfl (by decide) (Nat.le_of_ble_eq_true rfl) ⟨Nat.zero_le _, Nat.zero_le _⟩ rfl dX2_fits_12 ?_
    refine g_if_ne (tgt := 20) C dX2_fits_15 (by decide) (fun c4 => ?_) (fun c4 => ?_)
    · replace hf := ite_f c4 hf
      refine g_iload_n C dX2_fits_20 rfl 2 rfl ?_
      refine g_iload_n C dX2_fits_21 rfl 0 rfl ?_
      obtain ⟨q5, hq5, hf⟩ := bs hf
      refine g_callSi (n := 1) (As := [.int v0]) (rest := [.int v2]) (wc := []) (w1 := []) (wr := []) (WS' := []) C (c2_endOfY hq5) gX2_fits_X2_endOfY (by decide +kernel) rfl rfl rfl ⟨by decide, by decide⟩ rfl [] [] [] rfl (by decide) rfl (by decide) (by decide) rfl (by decide) (Nat.le_of_ble_eq_true rfl) ⟨Nat.zero_le _, Nat.zero_le _⟩ rfl dX2_fits_22 ?_
      obtain ⟨q6, hq6, hf⟩ := bs hf
      refine g_callSNi (n := 2) (As := [.int v2, .int q5]) (rest := []) (wc := []) (w1 := []) (wr := []) (WS' := []) C (c6_within hq6) ggX2_fits_X6_within hn2_38 hm2_fits_0 hm2_fits_1 (by decide +kernel) rfl rfl rfl ⟨by decide, by decide⟩ rfl [] [] [] rfl (by decide) rfl (by decide) (by decide) rfl (by decide) (Nat.le_of_ble_eq_true rfl) ⟨Nat.zero_le _, Nat.zero_le _⟩ rfl dX2_fits_25 ?_
      refine g_if_eq (tgt := 54) C dX2_fits_28 (by decide) (fun c7 => ?_) (fun c7 => ?_)
      · replace hf := ite_t c7 hf
        refine g_iconst (v := (0 : Int32)) C dX2_fits_54 (by decide +kernel) ?_
        obtain rfl := Option.some.inj hf
        exact hR _ _ dX2_fits_55 isb0
      · replace hf := ite_f c7 hf
        refine g_iload_n C dX2_fits_31 rfl 3 rfl ?_
        refine g_iload_n C dX2_fits_32 rfl 0 rfl ?_
        refine g_bipush (v := (8 : Int32)) C dX2_fits_33 (by decide +kernel) ?_
        refine g_icmp_ne (tgt := 43) C dX2_fits_35 (by decide) (fun c8 => ?_) (fun c8 => ?_)
        · replace hf := ite_f c8 hf
          refine g_iconst (v := (1 : Int32)) C dX2_fits_43 (by decide +kernel) ?_
          obtain ⟨q9, hq9, hf⟩ := bs hf
          refine g_callSNi (n := 2) (As := [.int v3, .int (1 : Int32)]) (rest := []) (wc := []) (w1 := []) (wr := []) (WS' := []) C (c6_within hq9) ggX2_fits_X6_within hn2_38 hm2_fits_0 hm2_fits_1 (by decide +kernel) rfl rfl rfl ⟨by decide, by decide⟩ rfl [] [] [] rfl (by decide) rfl (by decide) (by decide) rfl (by decide) (Nat.le_of_ble_eq_true rfl) ⟨Nat.zero_le _, Nat.zero_le _⟩ rfl dX2_fits_44 ?_
          refine g_if_eq (tgt := 54) C dX2_fits_47 (by decide) (fun c10 => ?_) (fun c10 => ?_)
          · replace hf := ite_t c10 hf
            refine g_iconst (v := (0 : Int32)) C dX2_fits_54 (by decide +kernel) ?_
            obtain rfl := Option.some.inj hf
            exact hR _ _ dX2_fits_55 isb0
          · replace hf := ite_f c10 hf
            refine g_iconst (v := (1 : Int32)) C dX2_fits_50 (by decide +kernel) ?_
            refine g_goto (tgt := 55) C dX2_fits_51 (by decide) ?_
            obtain rfl := Option.some.inj hf
            exact hR _ _ dX2_fits_55 isb1
        · replace hf := ite_t c8 hf
          refine g_bipush (v := (6 : Int32)) C dX2_fits_38 (by decide +kernel) ?_
          refine g_goto (tgt := 44) C dX2_fits_40 (by decide) ?_
          obtain ⟨q11, hq11, hf⟩ := bs hf
          refine g_callSNi (n := 2) (As := [.int v3, .int (6 : Int32)]) (rest := []) (wc := []) (w1 := []) (wr := []) (WS' := []) C (c6_within hq11) ggX2_fits_X6_within hn2_38 hm2_fits_0 hm2_fits_1 (by decide +kernel) rfl rfl rfl ⟨by decide, by decide⟩ rfl [] [] [] rfl (by decide) rfl (by decide) (by decide) rfl (by decide) (Nat.le_of_ble_eq_true rfl) ⟨Nat.zero_le _, Nat.zero_le _⟩ rfl dX2_fits_44 ?_
          refine g_if_eq (tgt := 54) C dX2_fits_47 (by decide) (fun c12 => ?_) (fun c12 => ?_)
          · replace hf := ite_t c12 hf
            refine g_iconst (v := (0 : Int32)) C dX2_fits_54 (by decide +kernel) ?_
            obtain rfl := Option.some.inj hf
            exact hR _ _ dX2_fits_55 isb0
          · replace hf := ite_f c12 hf
            refine g_iconst (v := (1 : Int32)) C dX2_fits_50 (by decide +kernel) ?_
            refine g_goto (tgt := 55) C dX2_fits_51 (by decide) ?_
            obtain rfl := Option.some.inj hf
            exact hR _ _ dX2_fits_55 isb1
    · replace hf := ite_t c4 hf
      refine g_iconst (v := (0 : Int32)) C dX2_fits_18 (by decide +kernel) ?_
      obtain rfl := Option.some.inj hf
      exact hR _ _ dX2_fits_19 isb0

-- X2_addLine
def f2_addLine_34 (N : Nat → Int32) (x1 : Int32) (x2 : Int32) (x3 : Int32) (x4 : Int32) (x5 : Int32) : Option (Int32 × (Nat → Int32)) :=
  ck (inb x5 80) <|
    ck (inb (x5 + (1 : Int32)) 80) <|
    ck (inb (x5 + (2 : Int32)) 80) <|
    ck (inb (x5 + (3 : Int32)) 80) <|
    some ((((upd (upd (upd (upd (upd N (24 + x5.toNatClampNeg) x1) (24 + (x5 + (1 : Int32)).toNatClampNeg) x2) (24 + (x5 + (2 : Int32)).toNatClampNeg) x3) (24 + (x5 + (3 : Int32)).toNatClampNeg) x4) 0 (((upd (upd (upd (upd N (24 + x5.toNatClampNeg) x1) (24 + (x5 + (1 : Int32)).toNatClampNeg) x2) (24 + (x5 + (2 : Int32)).toNatClampNeg) x3) (24 + (x5 + (3 : Int32)).toNatClampNeg) x4) 0) + (1 : Int32))) 0) - (1 : Int32)), (upd (upd (upd (upd (upd N (24 + x5.toNatClampNeg) x1) (24 + (x5 + (1 : Int32)).toNatClampNeg) x2) (24 + (x5 + (2 : Int32)).toNatClampNeg) x3) (24 + (x5 + (3 : Int32)).toNatClampNeg) x4) 0 (((upd (upd (upd (upd N (24 + x5.toNatClampNeg) x1) (24 + (x5 + (1 : Int32)).toNatClampNeg) x2) (24 + (x5 + (2 : Int32)).toNatClampNeg) x3) (24 + (x5 + (3 : Int32)).toNatClampNeg) x4) 0) + (1 : Int32))))
def f2_addLine (N : Nat → Int32) (v0 : Int32) (v1 : Int32) (v2 : Int32) (v3 : Int32) : Option (Int32 × (Nat → Int32)) :=
  (f2_fits v0 v1 v2 v3).bind <| fun q5 =>
    if q5 = 0 then
    (some ((-2 : Int32), N))
    else (if (N 0) < (20 : Int32) then
    (f2_addLine_34 N v0 v1 v2 v3 ((N 0) * (4 : Int32)))
    else (some ((-4 : Int32), N)))
def rm2_addLine : Room := { frames := 2, cells := 0, slots := 0, locals := 44 }
theorem hm2_addLine_0 : ∀ w ∈ u_ws RX2 TX2 5, w ∈ wsX2_addLine := by decide +kernel
theorem hm2_addLine_1 : Cond.fieldLink RX2 9 "SecretSteps$Program" "lines" "[I" ∈ wsX2_addLine := by decide +kernel
theorem hm2_addLine_2 : Cond.fieldLink RX2 27 "SecretSteps$Program" "count" "I" ∈ wsX2_addLine := by decide +kernel
set_option maxHeartbeats 4000000 in
set_option maxRecDepth 100000 in
theorem k2_addLine_34 {p : Program} {l : Launch} {e : Env} {s : State} {m : MethodId} {args : Array Value} {below : List Frame} {meth : Method} {c : Code} {G : gG} {A : Nat → Prop} {Q : State → Prop} {pr pr_lines pr_cells pr_starts : Nat} (C : CX p s m args meth c G A cX2_addLine 6 RX2 wsX2_addLine) {N : Nat → Int32} {x1 : Int32} {x2 : Int32} {x3 : Int32} {x4 : Int32} {x5 : Int32} {res : Int32 × (Nat → Int32)} (hR : ∀ (lv : List (Nat × Value)) (pc : Nat), decode cX2_addLine pc = .ok (.ireturn, 1) → GG p l e rm2_addLine s m args below meth c G A 6 0 0 Q [(pr, oB 2 [.ref pr_lines, .ref pr_cells, .ref pr_starts, .int (res.2 0), .int (res.2 1)]), (pr_lines, aI G 80 (fun j => res.2 (24 + j))), (pr_cells, aI G 16 (fun j => res.2 (8 + j))), (pr_starts, aI G 6 (fun j => res.2 (2 + j)))] lv pc [.int res.1])
    (hf : f2_addLine_34 N x1 x2 x3 x4 x5 = some res) : GG p l e rm2_addLine s m args below meth c G A 6 0 0 Q [(pr, oB 2 [.ref pr_lines, .ref pr_cells, .ref pr_starts, .int (N 0), .int (N 1)]), (pr_lines, aI G 80 (fun j => N (24 + j))), (pr_cells, aI G 16 (fun j => N (8 + j))), (pr_starts, aI G 6 (fun j => N (2 + j)))] [(0, .ref pr), (1, .int x1), (2, .int x2), (3, .int x3), (4, .int x4), (5, .int x5)] 34 [] := by
  unfold f2_addLine_34 at hf
  refine g_aload_n C dX2_addLine_34 rfl 0 rfl ?_
  refine g_get (C0 := RX2) (T := TX2) (N := 5) (ci := 2) (v := .ref pr_lines) C hm2_addLine_0 0 rfl rfl 0 (by decide) hm2_addLine_1 rfl dX2_addLine_35 ?_
  refine g_iload C dX2_addLine_38 5 rfl ?_
  refine g_iload_n C dX2_addLine_40 rfl 1 rfl ?_
  obtain ⟨h1, hf⟩ := ck_some hf
  refine g_iast (n := 80) (WS' := [(pr, oB 2 [.ref pr_lines, .ref pr_cells, .ref pr_starts, .int (N 0), .int (N 1)]), (pr_lines, aI G 80 (upd (fun j => N (24 + j)) x5.toNatClampNeg x1)), (pr_cells, aI G 16 (fun j => N (8 + j))), (pr_starts, aI G 6 (fun j => N (2 + j)))]) C 1 rfl h1 rfl dX2_addLine_41 rfl ?_
  refine g_conv (WS' := [(pr, oB 2 [.ref pr_lines, .ref pr_cells, .ref pr_starts, .int ((upd N (24 + x5.toNatClampNeg) x1) 0), .int ((upd N (24 + x5.toNatClampNeg) x1) 1)]), (pr_lines, aI G 80 (fun j => (upd N (24 + x5.toNatClampNeg) x1) (24 + j))), (pr_cells, aI G 16 (fun j => (upd N (24 + x5.toNatClampNeg) x1) (8 + j))), (pr_starts, aI G 6 (fun j => (upd N (24 + x5.toNatClampNeg) x1) (2 + j)))]) (wl_at 0 (pv_a24 (inb_lt h1)) rfl rfl) ?_
  refine g_aload_n C dX2_addLine_42 rfl 0 rfl ?_
  refine g_get (C0 := RX2) (T := TX2) (N := 5) (ci := 2) (v := .ref pr_lines) C hm2_addLine_0 0 rfl rfl 0 (by decide) hm2_addLine_1 rfl dX2_addLine_43 ?_
  refine g_iload C dX2_addLine_46 5 rfl ?_
  refine g_iconst (v := (1 : Int32)) C dX2_addLine_48 (by decide +kernel) ?_
  refine g_iadd C dX2_addLine_49 ?_
  refine g_iload_n C dX2_addLine_50 rfl 2 rfl ?_
  obtain ⟨h2, hf⟩ := ck_some hf
  refine g_iast (n := 80) (WS' := [(pr, oB 2 [.ref pr_lines, .ref pr_cells, .ref pr_starts, .int ((upd N (24 + x5.toNatClampNeg) x1) 0), .int ((upd N (24 + x5.toNatClampNeg) x1) 1)]), (pr_lines, aI G 80 (upd (fun j => (upd N (24 + x5.toNatClampNeg) x1) (24 + j)) (x5 + (1 : Int32)).toNatClampNeg x2)), (pr_cells, aI G 16 (fun j => (upd N (24 + x5.toNatClampNeg) x1) (8 + j))), (pr_starts, aI G 6 (fun j => (upd N (24 + x5.toNatClampNeg) x1) (2 + j)))]) C 1 rfl h2 rfl dX2_addLine_51 rfl ?_
  refine g_conv (WS' := [(pr, oB 2 [.ref pr_lines, .ref pr_cells, .ref pr_starts, .int ((upd (upd N (24 + x5.toNatClampNeg) x1) (24 + (x5 + (1 : Int32)).toNatClampNeg) x2) 0), .int ((upd (upd N (24 + x5.toNatClampNeg) x1) (24 + (x5 + (1 : Int32)).toNatClampNeg) x2) 1)]), (pr_lines, aI G 80 (fun j => (upd (upd N (24 + x5.toNatClampNeg) x1) (24 + (x5 + (1 : Int32)).toNatClampNeg) x2) (24 + j))), (pr_cells, aI G 16 (fun j => (upd (upd N (24 + x5.toNatClampNeg) x1) (24 + (x5 + (1 : Int32)).toNatClampNeg) x2) (8 + j))), (pr_starts, aI G 6 (fun j => (upd (upd N (24 + x5.toNatClampNeg) x1) (24 + (x5 + (1 : Int32)).toNatClampNeg) x2) (2 + j)))]) (wl_at 0 (pv_a24 (inb_lt h2)) rfl rfl) ?_
  refine g_aload_n C dX2_addLine_52 rfl 0 rfl ?_
  refine g_get (C0 := RX2) (T := TX2) (N := 5) (ci := 2) (v := .ref pr_lines) C hm2_addLine_0 0 rfl rfl 0 (by decide) hm2_addLine_1 rfl dX2_addLine_53 ?_
  refine g_iload C dX2_addLine_56 5 rfl ?_
  refine g_iconst (v := (2 : Int32)) C dX2_addLine_58 (by decide +kernel) ?_
  refine g_iadd C dX2_addLine_59 ?_
  refine g_iload_n C dX2_addLine_60 rfl 3 rfl ?_
  obtain ⟨h3, hf⟩ := ck_some hf
  refine g_iast (n := 80) (WS' := [(pr, oB 2 [.ref pr_lines, .ref pr_cells, .ref pr_starts, .int ((upd (upd N (24 + x5.toNatClampNeg) x1) (24 + (x5 + (1 : Int32)).toNatClampNeg) x2) 0), .int ((upd (upd N (24 + x5.toNatClampNeg) x1) (24 + (x5 + (1 : Int32)).toNatClampNeg) x2) 1)]), (pr_lines, aI G 80 (upd (fun j => (upd (upd N (24 + x5.toNatClampNeg) x1) (24 + (x5 + (1 : Int32)).toNatClampNeg) x2) (24 + j)) (x5 + (2 : Int32)).toNatClampNeg x3)), (pr_cells, aI G 16 (fun j => (upd (upd N (24 + x5.toNatClampNeg) x1) (24 + (x5 + (1 : Int32)).toNatClampNeg) x2) (8 + j))), (pr_starts, aI G 6 (fun j => (upd (upd N (24 + x5.toNatClampNeg) x1) (24 + (x5 + (1 : Int32)).toNatClampNeg) x2) (2 + j)))]) C 1 rfl h3 rfl dX2_addLine_61 rfl ?_
  refine g_conv (WS' := [(pr, oB 2 [.ref pr_lines, .ref pr_cells, .ref pr_starts, .int ((upd (upd (upd N (24 + x5.toNatClampNeg) x1) (24 + (x5 + (1 : Int32)).toNatClampNeg) x2) (24 + (x5 + (2 : Int32)).toNatClampNeg) x3) 0), .int ((upd (upd (upd N (24 + x5.toNatClampNeg) x1) (24 + (x5 + (1 : Int32)).toNatClampNeg) x2) (24 + (x5 + (2 : Int32)).toNatClampNeg) x3) 1)]), (pr_lines, aI G 80 (fun j => (upd (upd (upd N (24 + x5.toNatClampNeg) x1) (24 + (x5 + (1 : Int32)).toNatClampNeg) x2) (24 + (x5 + (2 : Int32)).toNatClampNeg) x3) (24 + j))), (pr_cells, aI G 16 (fun j => (upd (upd (upd N (24 + x5.toNatClampNeg) x1) (24 + (x5 + (1 : Int32)).toNatClampNeg) x2) (24 + (x5 + (2 : Int32)).toNatClampNeg) x3) (8 + j))), (pr_starts, aI G 6 (fun j => (upd (upd (upd N (24 + x5.toNatClampNeg) x1) (24 + (x5 + (1 : Int32)).toNatClampNeg) x2) (24 + (x5 + (2 : Int32)).toNatClampNeg) x3) (2 + j)))]) (wl_at 0 (pv_a24 (inb_lt h3)) rfl rfl) ?_
  refine g_aload_n C dX2_addLine_62 rfl 0 rfl ?_
  refine g_get (C0 := RX2) (T := TX2) (N := 5) (ci := 2) (v := .ref pr_lines) C hm2_addLine_0 0 rfl rfl 0 (by decide) hm2_addLine_1 rfl dX2_addLine_63 ?_
  refine g_iload C dX2_addLine_66 5 rfl ?_
  refine g_iconst (v := (3 : Int32)) C dX2_addLine_68 (by decide +kernel) ?_
  refine g_iadd C dX2_addLine_69 ?_
  refine g_iload C dX2_addLine_70 4 rfl ?_
  obtain ⟨h4, hf⟩ := ck_some hf
  refine g_iast (n := 80) (WS' := [(pr, oB 2 [.ref pr_lines, .ref pr_cells, .ref pr_starts, .int ((upd (upd (upd N (24 + x5.toNatClampNeg) x1) (24 + (x5 + (1 : Int32)).toNatClampNeg) x2) (24 + (x5 + (2 : Int32)).toNatClampNeg) x3) 0), .int ((upd (upd (upd N (24 + x5.toNatClampNeg) x1) (24 + (x5 + (1 : Int32)).toNatClampNeg) x2) (24 + (x5 + (2 : Int32)).toNatClampNeg) x3) 1)]), (pr_lines, aI G 80 (upd (fun j => (upd (upd (upd N (24 + x5.toNatClampNeg) x1) (24 + (x5 + (1 : Int32)).toNatClampNeg) x2) (24 + (x5 + (2 : Int32)).toNatClampNeg) x3) (24 + j)) (x5 + (3 : Int32)).toNatClampNeg x4)), (pr_cells, aI G 16 (fun j => (upd (upd (upd N (24 + x5.toNatClampNeg) x1) (24 + (x5 + (1 : Int32)).toNatClampNeg) x2) (24 + (x5 + (2 : Int32)).toNatClampNeg) x3) (8 + j))), (pr_starts, aI G 6 (fun j => (upd (upd (upd N (24 + x5.toNatClampNeg) x1) (24 + (x5 + (1 : Int32)).toNatClampNeg) x2) (24 + (x5 + (2 : Int32)).toNatClampNeg) x3) (2 + j)))]) C 1 rfl h4 rfl dX2_addLine_72 rfl ?_
  refine g_conv (WS' := [(pr, oB 2 [.ref pr_lines, .ref pr_cells, .ref pr_starts, .int ((upd (upd (upd (upd N (24 + x5.toNatClampNeg) x1) (24 + (x5 + (1 : Int32)).toNatClampNeg) x2) (24 + (x5 + (2 : Int32)).toNatClampNeg) x3) (24 + (x5 + (3 : Int32)).toNatClampNeg) x4) 0), .int ((upd (upd (upd (upd N (24 + x5.toNatClampNeg) x1) (24 + (x5 + (1 : Int32)).toNatClampNeg) x2) (24 + (x5 + (2 : Int32)).toNatClampNeg) x3) (24 + (x5 + (3 : Int32)).toNatClampNeg) x4) 1)]), (pr_lines, aI G 80 (fun j => (upd (upd (upd (upd N (24 + x5.toNatClampNeg) x1) (24 + (x5 + (1 : Int32)).toNatClampNeg) x2) (24 + (x5 + (2 : Int32)).toNatClampNeg) x3) (24 + (x5 + (3 : Int32)).toNatClampNeg) x4) (24 + j))), (pr_cells, aI G 16 (fun j => (upd (upd (upd (upd N (24 + x5.toNatClampNeg) x1) (24 + (x5 + (1 : Int32)).toNatClampNeg) x2) (24 + (x5 + (2 : Int32)).toNatClampNeg) x3) (24 + (x5 + (3 : Int32)).toNatClampNeg) x4) (8 + j))), (pr_starts, aI G 6 (fun j => (upd (upd (upd (upd N (24 + x5.toNatClampNeg) x1) (24 + (x5 + (1 : Int32)).toNatClampNeg) x2) (24 + (x5 + (2 : Int32)).toNatClampNeg) x3) (24 + (x5 + (3 : Int32)).toNatClampNeg) x4) (2 + j)))]) (wl_at 0 (pv_a24 (inb_lt h4)) rfl rfl) ?_
  refine g_aload_n C dX2_addLine_73 rfl 0 rfl ?_
  refine g_dup C dX2_addLine_74 rfl ?_
  refine g_get (C0 := RX2) (T := TX2) (N := 5) (ci := 2) (v := .int ((upd (upd (upd (upd N (24 + x5.toNatClampNeg) x1) (24 + (x5 + (1 : Int32)).toNatClampNeg) x2) (24 + (x5 + (2 : Int32)).toNatClampNeg) x3) (24 + (x5 + (3 : Int32)).toNatClampNeg) x4) 0)) C hm2_addLine_0 0 rfl rfl 3 (by decide) hm2_addLine_2 rfl dX2_addLine_75 ?_
  refine g_iconst (v := (1 : Int32)) C dX2_addLine_78 (by decide +kernel) ?_
  refine g_iadd C dX2_addLine_79 ?_
  refine g_put (C0 := RX2) (T := TX2) (N := 5) (ci := 2) (ty := .int) (WS' := [(pr, oB 2 [.ref pr_lines, .ref pr_cells, .ref pr_starts, .int (((upd (upd (upd (upd N (24 + x5.toNatClampNeg) x1) (24 + (x5 + (1 : Int32)).toNatClampNeg) x2) (24 + (x5 + (2 : Int32)).toNatClampNeg) x3) (24 + (x5 + (3 : Int32)).toNatClampNeg) x4) 0) + (1 : Int32)), .int ((upd (upd (upd (upd N (24 + x5.toNatClampNeg) x1) (24 + (x5 + (1 : Int32)).toNatClampNeg) x2) (24 + (x5 + (2 : Int32)).toNatClampNeg) x3) (24 + (x5 + (3 : Int32)).toNatClampNeg) x4) 1)]), (pr_lines, aI G 80 (fun j => (upd (upd (upd (upd N (24 + x5.toNatClampNeg) x1) (24 + (x5 + (1 : Int32)).toNatClampNeg) x2) (24 + (x5 + (2 : Int32)).toNatClampNeg) x3) (24 + (x5 + (3 : Int32)).toNatClampNeg) x4) (24 + j))), (pr_cells, aI G 16 (fun j => (upd (upd (upd (upd N (24 + x5.toNatClampNeg) x1) (24 + (x5 + (1 : Int32)).toNatClampNeg) x2) (24 + (x5 + (2 : Int32)).toNatClampNeg) x3) (24 + (x5 + (3 : Int32)).toNatClampNeg) x4) (8 + j))), (pr_starts, aI G 6 (fun j => (upd (upd (upd (upd N (24 + x5.toNatClampNeg) x1) (24 + (x5 + (1 : Int32)).toNatClampNeg) x2) (24 + (x5 + (2 : Int32)).toNatClampNeg) x3) (24 + (x5 + (3 : Int32)).toNatClampNeg) x4) (2 + j)))]) C hm2_addLine_0 tyX2 tyX2_ok nmX2 0 rfl rfl 3 (by decide) hm2_addLine_2 rfl rfl rfl rfl (Nat.le_of_ble_eq_true rfl) dX2_addLine_80 rfl ?_
  refine g_conv (WS' := [(pr, oB 2 [.ref pr_lines, .ref pr_cells, .ref pr_starts, .int ((upd (upd (upd (upd (upd N (24 + x5.toNatClampNeg) x1) (24 + (x5 + (1 : Int32)).toNatClampNeg) x2) (24 + (x5 + (2 : Int32)).toNatClampNeg) x3) (24 + (x5 + (3 : Int32)).toNatClampNeg) x4) 0 (((upd (upd (upd (upd N (24 + x5.toNatClampNeg) x1) (24 + (x5 + (1 : Int32)).toNatClampNeg) x2) (24 + (x5 + (2 : Int32)).toNatClampNeg) x3) (24 + (x5 + (3 : Int32)).toNatClampNeg) x4) 0) + (1 : Int32))) 0), .int ((upd (upd (upd (upd (upd N (24 + x5.toNatClampNeg) x1) (24 + (x5 + (1 : Int32)).toNatClampNeg) x2) (24 + (x5 + (2 : Int32)).toNatClampNeg) x3) (24 + (x5 + (3 : Int32)).toNatClampNeg) x4) 0 (((upd (upd (upd (upd N (24 + x5.toNatClampNeg) x1) (24 + (x5 + (1 : Int32)).toNatClampNeg) x2) (24 + (x5 + (2 : Int32)).toNatClampNeg) x3) (24 + (x5 + (3 : Int32)).toNatClampNeg) x4) 0) + (1 : Int32))) 1)]), (pr_lines, aI G 80 (fun j => (upd (upd (upd (upd (upd N (24 + x5.toNatClampNeg) x1) (24 + (x5 + (1 : Int32)).toNatClampNeg) x2) (24 + (x5 + (2 : Int32)).toNatClampNeg) x3) (24 + (x5 + (3 : Int32)).toNatClampNeg) x4) 0 (((upd (upd (upd (upd N (24 + x5.toNatClampNeg) x1) (24 + (x5 + (1 : Int32)).toNatClampNeg) x2) (24 + (x5 + (2 : Int32)).toNatClampNeg) x3) (24 + (x5 + (3 : Int32)).toNatClampNeg) x4) 0) + (1 : Int32))) (24 + j))), (pr_cells, aI G 16 (fun j => (upd (upd (upd (upd (upd N (24 + x5.toNatClampNeg) x1) (24 + (x5 + (1 : Int32)).toNatClampNeg) x2) (24 + (x5 + (2 : Int32)).toNatClampNeg) x3) (24 + (x5 + (3 : Int32)).toNatClampNeg) x4) 0 (((upd (upd (upd (upd N (24 + x5.toNatClampNeg) x1) (24 + (x5 + (1 : Int32)).toNatClampNeg) x2) (24 + (x5 + (2 : Int32)).toNatClampNeg) x3) (24 + (x5 + (3 : Int32)).toNatClampNeg) x4) 0) + (1 : Int32))) (8 + j))), (pr_starts, aI G 6 (fun j => (upd (upd (upd (upd (upd N (24 + x5.toNatClampNeg) x1) (24 + (x5 + (1 : Int32)).toNatClampNeg) x2) (24 + (x5 + (2 : Int32)).toNatClampNeg) x3) (24 + (x5 + (3 : Int32)).toNatClampNeg) x4) 0 (((upd (upd (upd (upd N (24 + x5.toNatClampNeg) x1) (24 + (x5 + (1 : Int32)).toNatClampNeg) x2) (24 + (x5 + (2 : Int32)).toNatClampNeg) x3) (24 + (x5 + (3 : Int32)).toNatClampNeg) x4) 0) + (1 : Int32))) (2 + j)))]) (wl_at 0 (pv_f0) rfl rfl) ?_
  refine g_aload_n C dX2_addLine_83 rfl 0 rfl ?_
  refine g_get (C0 := RX2) (T := TX2) (N := 5) (ci := 2) (v := .int ((upd (upd (upd (upd (upd N (24 + x5.toNatClampNeg) x1) (24 + (x5 + (1 : Int32)).toNatClampNeg) x2) (24 + (x5 + (2 : Int32)).toNatClampNeg) x3) (24 + (x5 + (3 : Int32)).toNatClampNeg) x4) 0 (((upd (upd (upd (upd N (24 + x5.toNatClampNeg) x1) (24 + (x5 + (1 : Int32)).toNatClampNeg) x2) (24 + (x5 + (2 : Int32)).toNatClampNeg) x3) (24 + (x5 + (3 : Int32)).toNatClampNeg) x4) 0) + (1 : Int32))) 0)) C hm2_addLine_0 0 rfl rfl 3 (by decide) hm2_addLine_2 rfl dX2_addLine_84 ?_
  refine g_iconst (v := (1 : Int32)) C dX2_addLine_87 (by decide +kernel) ?_
  refine g_isub C dX2_addLine_88 ?_
  obtain rfl := Option.some.inj hf
  exact hR _ _ dX2_addLine_89
set_option maxHeartbeats 4000000 in
set_option maxRecDepth 100000 in
theorem c2_addLine {l : Launch} {G : gG} {pr pr_lines pr_cells pr_starts : Nat} {N : Nat → Int32} {v0 : Int32} {v1 : Int32} {v2 : Int32} {v3 : Int32} {res : Int32 × (Nat → Int32)} (hf : f2_addLine N v0 v1 v2 v3 = some res) : MI l yX2_addLine wsX2_addLine rm2_addLine G [.ref pr, .int v0, .int v1, .int v2, .int v3] [(pr, oB 2 [.ref pr_lines, .ref pr_cells, .ref pr_starts, .int (N 0), .int (N 1)]), (pr_lines, aI G 80 (fun j => N (24 + j))), (pr_cells, aI G 16 (fun j => N (8 + j))), (pr_starts, aI G 6 (fun j => N (2 + j)))] (res.1) [(pr, oB 2 [.ref pr_lines, .ref pr_cells, .ref pr_starts, .int (res.2 0), .int (res.2 1)]), (pr_lines, aI G 80 (fun j => res.2 (24 + j))), (pr_cells, aI G 16 (fun j => res.2 (8 + j))), (pr_starts, aI G 6 (fun j => res.2 (2 + j)))] := by
  refine MI_of (res.1) (cc := cX2_addLine) (nL := 6) (lv := [(0, .ref pr), (1, .int v0), (2, .int v1), (3, .int v2), (4, .int v3)]) (by decide +kernel) rfl (Nat.le_of_ble_eq_true rfl) rfl ?_
  intro p e s m args below meth c A Q C hR
  unfold f2_addLine at hf
  refine g_iload_n C dX2_addLine_0 rfl 1 rfl ?_
  refine g_iload_n C dX2_addLine_1 rfl 2 rfl ?_
  refine g_iload_n C dX2_addLine_2 rfl 3 rfl ?_
  refine g_iload C dX2_addLine_3 4 rfl ?_
  obtain ⟨q5, hq5, hf⟩ := bs hf
  refine g_callSi (n := 4) (As := [.int v0, .int v1, .int v2, .int v3]) (rest := []) (wc := []) (w1 := []) (wr := [(pr, oB 2 [.ref pr_lines, .ref pr_cells, .ref pr_starts, .int (N 0), .int (N 1)]), (pr_lines, aI G 80 (fun j => N (24 + j))), (pr_cells, aI G 16 (fun j => N (8 + j))), (pr_starts, aI G 6 (fun j => N (2 + j)))]) (WS' := [(pr, oB 2 [.ref pr_lines, .ref pr_cells, .ref pr_starts, .int (N 0), .int (N 1)]), (pr_lines, aI G 80 (fun j => N (24 + j))), (pr_cells, aI G 16 (fun j => N (8 + j))), (pr_starts, aI G 6 (fun j => N (2 + j)))]) C (c2_fits hq5) gX2_addLine_X2_fits (by decide +kernel) rfl rfl rfl ⟨by decide, by decide⟩ rfl [] [0, 1, 2, 3] [0, 1, 2, 3] rfl (by decide) rfl (by decide) (by decide) rfl (by decide) (Nat.le_of_ble_eq_true rfl) ⟨Nat.zero_le _, Nat.zero_le _⟩ rfl dX2_addLine_5 ?_
  refine g_if_ne (tgt := 14) C dX2_addLine_8 (by decide) (fun c6 => ?_) (fun c6 => ?_)
  · replace hf := ite_f c6 hf
    refine g_aload_n C dX2_addLine_14 rfl 0 rfl ?_
    refine g_get (C0 := RX2) (T := TX2) (N := 5) (ci := 2) (v := .int (N 0)) C hm2_addLine_0 0 rfl rfl 3 (by decide) hm2_addLine_2 rfl dX2_addLine_15 ?_
    refine g_bipush (v := (20 : Int32)) C dX2_addLine_18 (by decide +kernel) ?_
    refine g_icmp_lt (tgt := 26) C dX2_addLine_20 (by decide) (fun c7 => ?_) (fun c7 => ?_)
    · replace hf := ite_t c7 hf
      refine g_aload_n C dX2_addLine_26 rfl 0 rfl ?_
      refine g_get (C0 := RX2) (T := TX2) (N := 5) (ci := 2) (v := .int (N 0)) C hm2_addLine_0 0 rfl rfl 3 (by decide) hm2_addLine_2 rfl dX2_addLine_27 ?_
      refine g_iconst (v := (4 : Int32)) C dX2_addLine_30 (by decide +kernel) ?_
      refine g_imul C dX2_addLine_31 ?_
      refine g_istore (lv' := [(0, .ref pr), (1, .int v0), (2, .int v1), (3, .int v2), (4, .int v3), (5, .int ((N 0) * (4 : Int32)))]) C dX2_addLine_32 (by decide) [1, 2, 3, 4, 5, 0] rfl ?_
      exact k2_addLine_34 C hR hf
    · replace hf := ite_f c7 hf
      refine g_bipush (v := (-4 : Int32)) C dX2_addLine_23 (by decide +kernel) ?_
      obtain rfl := Option.some.inj hf
      exact hR _ _ dX2_addLine_25
  · replace hf := ite_t c6 hf
    refine g_bipush (v := (-2 : Int32)) C dX2_addLine_11 (by decide +kernel) ?_
    obtain rfl := Option.some.inj hf
    exact hR _ _ dX2_addLine_13

-- X2_dropLine
def f2_dropLine_28b (k28 : (Nat → Int32) × Int32 × Int32 → Option (Int32 × (Nat → Int32))) (N : Nat → Int32) (x1 : Int32) (x2 : Int32) : Option (Int32 × (Nat → Int32)) :=
  if ((N 0) * (4 : Int32)) ≤ x2 then
    (some ((N 0), N))
    else (ck (inb (x2 + (4 : Int32)) 80) <|
    ck (inb x2 80) <|
    k28 ((upd N (24 + x2.toNatClampNeg) (N (24 + (x2 + (4 : Int32)).toNatClampNeg))), x1, (x2 + (1 : Int32))))
def f2_dropLine_28 (n : Nat) (s : (Nat → Int32) × Int32 × Int32) : Option (Int32 × (Nat → Int32)) := itf (fun k s => f2_dropLine_28b k s.1 s.2.1 s.2.2) n s
def f2_dropLine (N : Nat → Int32) (v0 : Int32) : Option (Int32 × (Nat → Int32)) :=
  (f6_within v0 (N 0)).bind <| fun q4 =>
    if q4 = 0 then
    (some ((-2 : Int32), N))
    else (f2_dropLine_28 1000 ((upd N 0 ((N 0) - (1 : Int32))), v0, (v0 * (4 : Int32))))
def rm2_dropLine : Room := { frames := 1, cells := 0, slots := 0, locals := 21 }
theorem hm2_dropLine_0 : ∀ w ∈ u_ws RX2 TX2 5, w ∈ wsX2_dropLine := by decide +kernel
theorem hm2_dropLine_1 : Cond.fieldLink RX2 27 "SecretSteps$Program" "count" "I" ∈ wsX2_dropLine := by decide +kernel
theorem hm2_dropLine_2 : Cond.fieldLink RX2 9 "SecretSteps$Program" "lines" "[I" ∈ wsX2_dropLine := by decide +kernel
theorem hm2_dropLine_3 : Cond.initialized yX6_within.cls ∈ wsX2_dropLine := by decide +kernel
theorem hm2_dropLine_4 : Cond.static yX6_within ∈ wsX2_dropLine := by decide +kernel
set_option maxHeartbeats 4000000 in
set_option maxRecDepth 100000 in
theorem k2_dropLine_28b {p : Program} {l : Launch} {e : Env} {s : State} {m : MethodId} {args : Array Value} {below : List Frame} {meth : Method} {c : Code} {G : gG} {A : Nat → Prop} {Q : State → Prop} {pr pr_lines pr_cells pr_starts : Nat} (C : CX p s m args meth c G A cX2_dropLine 3 RX2 wsX2_dropLine) {k28 : (Nat → Int32) × Int32 × Int32 → Option (Int32 × (Nat → Int32))} {N : Nat → Int32} {x1 : Int32} {x2 : Int32} {res : Int32 × (Nat → Int32)} (hR : ∀ (lv : List (Nat × Value)) (pc : Nat), decode cX2_dropLine pc = .ok (.ireturn, 1) → GG p l e rm2_dropLine s m args below meth c G A 3 0 0 Q [(pr, oB 2 [.ref pr_lines, .ref pr_cells, .ref pr_starts, .int (res.2 0), .int (res.2 1)]), (pr_lines, aI G 80 (fun j => res.2 (24 + j))), (pr_cells, aI G 16 (fun j => res.2 (8 + j))), (pr_starts, aI G 6 (fun j => res.2 (2 + j)))] lv pc [.int res.1])
    (hk28 : ∀ s', k28 s' = some res → GG p l e rm2_dropLine s m args below meth c G A 3 0 0 Q [(pr, oB 2 [.ref pr_lines, .ref pr_cells, .ref pr_starts, .int (s'.1 0), .int (s'.1 1)]), (pr_lines, aI G 80 (fun j => s'.1 (24 + j))), (pr_cells, aI G 16 (fun j => s'.1 (8 + j))), (pr_starts, aI G 6 (fun j => s'.1 (2 + j)))] [(0, .ref pr), (1, .int s'.2.1), (2, .int s'.2.2)] 28 [])
    (hf : f2_dropLine_28b k28 N x1 x2 = some res) : GG p l e rm2_dropLine s m args below meth c G A 3 0 0 Q [(pr, oB 2 [.ref pr_lines, .ref pr_cells, .ref pr_starts, .int (N 0), .int (N 1)]), (pr_lines, aI G 80 (fun j => N (24 + j))), (pr_cells, aI G 16 (fun j => N (8 + j))), (pr_starts, aI G 6 (fun j => N (2 + j)))] [(0, .ref pr), (1, .int x1), (2, .int x2)] 28 [] := by
  unfold f2_dropLine_28b at hf
  refine g_iload_n C dX2_dropLine_28 rfl 2 rfl ?_
  refine g_aload_n C dX2_dropLine_29 rfl 0 rfl ?_
  refine g_get (C0 := RX2) (T := TX2) (N := 5) (ci := 2) (v := .int (N 0)) C hm2_dropLine_0 0 rfl rfl 3 (by decide) hm2_dropLine_1 rfl dX2_dropLine_30 ?_
  refine g_iconst (v := (4 : Int32)) C dX2_dropLine_33 (by decide +kernel) ?_
  refine g_imul C dX2_dropLine_34 ?_
  refine g_icmp_ge (tgt := 58) C dX2_dropLine_35 (by decide) (fun c1 => ?_) (fun c1 => ?_)
  · replace hf := ite_t c1 hf
    refine g_aload_n C dX2_dropLine_58 rfl 0 rfl ?_
    refine g_get (C0 := RX2) (T := TX2) (N := 5) (ci := 2) (v := .int (N 0)) C hm2_dropLine_0 0 rfl rfl 3 (by decide) hm2_dropLine_1 rfl dX2_dropLine_59 ?_
    obtain rfl := Option.some.inj hf
    exact hR _ _ dX2_dropLine_62
  · replace hf := ite_f c1 hf
    refine g_aload_n C dX2_dropLine_38 rfl 0 rfl ?_
    refine g_get (C0 := RX2) (T := TX2) (N := 5) (ci := 2) (v := .ref pr_lines) C hm2_dropLine_0 0 rfl rfl 0 (by decide) hm2_dropLine_2 rfl dX2_dropLine_39 ?_
    refine g_iload_n C dX2_dropLine_42 rfl 2 rfl ?_
    refine g_aload_n C dX2_dropLine_43 rfl 0 rfl ?_
    refine g_get (C0 := RX2) (T := TX2) (N := 5) (ci := 2) (v := .ref pr_lines) C hm2_dropLine_0 0 rfl rfl 0 (by decide) hm2_dropLine_2 rfl dX2_dropLine_44 ?_
    refine g_iload_n C dX2_dropLine_47 rfl 2 rfl ?_
    refine g_iconst (v := (4 : Int32)) C dX2_dropLine_48 (by decide +kernel) ?_
    refine g_iadd C dX2_dropLine_49 ?_
    obtain ⟨h2, hf⟩ := ck_some hf
    refine g_iald (n := 80) (v := (N (24 + (x2 + (4 : Int32)).toNatClampNeg))) C 1 rfl h2 rfl rfl dX2_dropLine_50 ?_
    obtain ⟨h3, hf⟩ := ck_some hf
    refine g_iast (n := 80) (WS' := [(pr, oB 2 [.ref pr_lines, .ref pr_cells, .ref pr_starts, .int (N 0), .int (N 1)]), (pr_lines, aI G 80 (upd (fun j => N (24 + j)) x2.toNatClampNeg (N (24 + (x2 + (4 : Int32)).toNatClampNeg)))), (pr_cells, aI G 16 (fun j => N (8 + j))), (pr_starts, aI G 6 (fun j => N (2 + j)))]) C 1 rfl h3 rfl dX2_dropLine_51 rfl ?_
    refine g_conv (WS' := [(pr, oB 2 [.ref pr_lines, .ref pr_cells, .ref pr_starts, .int ((upd N (24 + x2.toNatClampNeg) (N (24 + (x2 + (4 : Int32)).toNatClampNeg))) 0), .int ((upd N (24 + x2.toNatClampNeg) (N (24 + (x2 + (4 : Int32)).toNatClampNeg))) 1)]), (pr_lines, aI G 80 (fun j => (upd N (24 + x2.toNatClampNeg) (N (24 + (x2 + (4 : Int32)).toNatClampNeg))) (24 + j))), (pr_cells, aI G 16 (fun j => (upd N (24 + x2.toNatClampNeg) (N (24 + (x2 + (4 : Int32)).toNatClampNeg))) (8 + j))), (pr_starts, aI G 6 (fun j => (upd N (24 + x2.toNatClampNeg) (N (24 + (x2 + (4 : Int32)).toNatClampNeg))) (2 + j)))]) (wl_at 0 (pv_a24 (inb_lt h3)) rfl rfl) ?_
    refine g_iinc (v := (x2 + (1 : Int32))) (lv' := [(0, .ref pr), (1, .int x1), (2, .int (x2 + (1 : Int32)))]) C dX2_dropLine_52 2 rfl rfl (by decide) [1, 2, 0] rfl ?_
    refine g_goto (tgt := 28) C dX2_dropLine_55 (by decide) ?_
    exact hk28 _ hf
set_option maxHeartbeats 4000000 in
set_option maxRecDepth 100000 in
theorem k2_dropLine_28 {p : Program} {l : Launch} {e : Env} {s : State} {m : MethodId} {args : Array Value} {below : List Frame} {meth : Method} {c : Code} {G : gG} {A : Nat → Prop} {Q : State → Prop} {pr pr_lines pr_cells pr_starts : Nat} (C : CX p s m args meth c G A cX2_dropLine 3 RX2 wsX2_dropLine) {res : Int32 × (Nat → Int32)} (hR : ∀ (lv : List (Nat × Value)) (pc : Nat), decode cX2_dropLine pc = .ok (.ireturn, 1) → GG p l e rm2_dropLine s m args below meth c G A 3 0 0 Q [(pr, oB 2 [.ref pr_lines, .ref pr_cells, .ref pr_starts, .int (res.2 0), .int (res.2 1)]), (pr_lines, aI G 80 (fun j => res.2 (24 + j))), (pr_cells, aI G 16 (fun j => res.2 (8 + j))), (pr_starts, aI G 6 (fun j => res.2 (2 + j)))] lv pc [.int res.1]) : ∀ (n : Nat) (s1 : (Nat → Int32) × Int32 × Int32), f2_dropLine_28 n s1 = some res → GG p l e rm2_dropLine s m args below meth c G A 3 0 0 Q [(pr, oB 2 [.ref pr_lines, .ref pr_cells, .ref pr_starts, .int (s1.1 0), .int (s1.1 1)]), (pr_lines, aI G 80 (fun j => s1.1 (24 + j))), (pr_cells, aI G 16 (fun j => s1.1 (8 + j))), (pr_starts, aI G 6 (fun j => s1.1 (2 + j)))] [(0, .ref pr), (1, .int s1.2.1), (2, .int s1.2.2)] 28 [] :=
  itf_ind (fun k s1 ih hf => k2_dropLine_28b C hR ih hf)
set_option maxHeartbeats 4000000 in
set_option maxRecDepth 100000 in
theorem c2_dropLine {l : Launch} {G : gG} {pr pr_lines pr_cells pr_starts : Nat} {N : Nat → Int32} {v0 : Int32} {res : Int32 × (Nat → Int32)} (hf : f2_dropLine N v0 = some res) : MI l yX2_dropLine wsX2_dropLine rm2_dropLine G [.ref pr, .int v0] [(pr, oB 2 [.ref pr_lines, .ref pr_cells, .ref pr_starts, .int (N 0), .int (N 1)]), (pr_lines, aI G 80 (fun j => N (24 + j))), (pr_cells, aI G 16 (fun j => N (8 + j))), (pr_starts, aI G 6 (fun j => N (2 + j)))] (res.1) [(pr, oB 2 [.ref pr_lines, .ref pr_cells, .ref pr_starts, .int (res.2 0), .int (res.2 1)]), (pr_lines, aI G 80 (fun j => res.2 (24 + j))), (pr_cells, aI G 16 (fun j => res.2 (8 + j))), (pr_starts, aI G 6 (fun j => res.2 (2 + j)))] := by
  refine MI_of (res.1) (cc := cX2_dropLine) (nL := 3) (lv := [(0, .ref pr), (1, .int v0)]) (by decide +kernel) rfl (Nat.le_of_ble_eq_true rfl) rfl ?_
  intro p e s m args below meth c A Q C hR
  unfold f2_dropLine at hf
  refine g_iload_n C dX2_dropLine_0 rfl 1 rfl ?_
  refine g_aload_n C dX2_dropLine_1 rfl 0 rfl ?_
  refine g_get (C0 := RX2) (T := TX2) (N := 5) (ci := 2) (v := .int (N 0)) C hm2_dropLine_0 0 rfl rfl 3 (by decide) hm2_dropLine_1 rfl dX2_dropLine_2 ?_
  obtain ⟨q4, hq4, hf⟩ := bs hf
  refine g_callSNi (n := 2) (As := [.int v0, .int (N 0)]) (rest := []) (wc := []) (w1 := []) (wr := [(pr, oB 2 [.ref pr_lines, .ref pr_cells, .ref pr_starts, .int (N 0), .int (N 1)]), (pr_lines, aI G 80 (fun j => N (24 + j))), (pr_cells, aI G 16 (fun j => N (8 + j))), (pr_starts, aI G 6 (fun j => N (2 + j)))]) (WS' := [(pr, oB 2 [.ref pr_lines, .ref pr_cells, .ref pr_starts, .int (N 0), .int (N 1)]), (pr_lines, aI G 80 (fun j => N (24 + j))), (pr_cells, aI G 16 (fun j => N (8 + j))), (pr_starts, aI G 6 (fun j => N (2 + j)))]) C (c6_within hq4) ggX2_dropLine_X6_within hn2_38 hm2_dropLine_3 hm2_dropLine_4 (by decide +kernel) rfl rfl rfl ⟨by decide, by decide⟩ rfl [] [0, 1, 2, 3] [0, 1, 2, 3] rfl (by decide) rfl (by decide) (by decide) rfl (by decide) (Nat.le_of_ble_eq_true rfl) ⟨Nat.zero_le _, Nat.zero_le _⟩ rfl dX2_dropLine_5 ?_
  refine g_if_ne (tgt := 14) C dX2_dropLine_8 (by decide) (fun c5 => ?_) (fun c5 => ?_)
  · replace hf := ite_f c5 hf
    refine g_aload_n C dX2_dropLine_14 rfl 0 rfl ?_
    refine g_dup C dX2_dropLine_15 rfl ?_
    refine g_get (C0 := RX2) (T := TX2) (N := 5) (ci := 2) (v := .int (N 0)) C hm2_dropLine_0 0 rfl rfl 3 (by decide) hm2_dropLine_1 rfl dX2_dropLine_16 ?_
    refine g_iconst (v := (1 : Int32)) C dX2_dropLine_19 (by decide +kernel) ?_
    refine g_isub C dX2_dropLine_20 ?_
    refine g_put (C0 := RX2) (T := TX2) (N := 5) (ci := 2) (ty := .int) (WS' := [(pr, oB 2 [.ref pr_lines, .ref pr_cells, .ref pr_starts, .int ((N 0) - (1 : Int32)), .int (N 1)]), (pr_lines, aI G 80 (fun j => N (24 + j))), (pr_cells, aI G 16 (fun j => N (8 + j))), (pr_starts, aI G 6 (fun j => N (2 + j)))]) C hm2_dropLine_0 tyX2 tyX2_ok nmX2 0 rfl rfl 3 (by decide) hm2_dropLine_1 rfl rfl rfl rfl (Nat.le_of_ble_eq_true rfl) dX2_dropLine_21 rfl ?_
    refine g_conv (WS' := [(pr, oB 2 [.ref pr_lines, .ref pr_cells, .ref pr_starts, .int ((upd N 0 ((N 0) - (1 : Int32))) 0), .int ((upd N 0 ((N 0) - (1 : Int32))) 1)]), (pr_lines, aI G 80 (fun j => (upd N 0 ((N 0) - (1 : Int32))) (24 + j))), (pr_cells, aI G 16 (fun j => (upd N 0 ((N 0) - (1 : Int32))) (8 + j))), (pr_starts, aI G 6 (fun j => (upd N 0 ((N 0) - (1 : Int32))) (2 + j)))]) (wl_at 0 (pv_f0) rfl rfl) ?_
    refine g_iload_n C dX2_dropLine_24 rfl 1 rfl ?_
    refine g_iconst (v := (4 : Int32)) C dX2_dropLine_25 (by decide +kernel) ?_
    refine g_imul C dX2_dropLine_26 ?_
    refine g_istore_n (lv' := [(0, .ref pr), (1, .int v0), (2, .int (v0 * (4 : Int32)))]) C dX2_dropLine_27 rfl (by decide) [1, 2, 0] rfl ?_
    exact k2_dropLine_28 C hR _ _ hf
  · replace hf := ite_t c5 hf
    refine g_bipush (v := (-2 : Int32)) C dX2_dropLine_11 (by decide +kernel) ?_
    obtain rfl := Option.some.inj hf
    exact hR _ _ dX2_dropLine_13

-- X2_putCell
def f2_putCell (N : Nat → Int32) (v0 : Int32) (v1 : Int32) : Option (Int32 × (Nat → Int32)) :=
  (f6_within v0 (16 : Int32)).bind <| fun q1 =>
    if q1 = 0 then
    (some ((-2 : Int32), N))
    else ((f6_within v1 (16 : Int32)).bind <| fun q3 =>
    if q3 = 0 then
    (some ((-2 : Int32), N))
    else (ck (inb v0 16) <|
    ck (inb v0 16) <|
    some ((N (8 + v0.toNatClampNeg)), (upd N (8 + v0.toNatClampNeg) v1))))
def rm2_putCell : Room := { frames := 1, cells := 0, slots := 0, locals := 21 }
theorem hm2_putCell_0 : Cond.initialized yX6_within.cls ∈ wsX2_putCell := by decide +kernel
theorem hm2_putCell_1 : Cond.static yX6_within ∈ wsX2_putCell := by decide +kernel
theorem hm2_putCell_2 : ∀ w ∈ u_ws RX2 TX2 5, w ∈ wsX2_putCell := by decide +kernel
theorem hm2_putCell_3 : Cond.fieldLink RX2 15 "SecretSteps$Program" "cells" "[I" ∈ wsX2_putCell := by decide +kernel
set_option maxHeartbeats 4000000 in
set_option maxRecDepth 100000 in
theorem c2_putCell {l : Launch} {G : gG} {pr pr_lines pr_cells pr_starts : Nat} {N : Nat → Int32} {v0 : Int32} {v1 : Int32} {res : Int32 × (Nat → Int32)} (hf : f2_putCell N v0 v1 = some res) : MI l yX2_putCell wsX2_putCell rm2_putCell G [.ref pr, .int v0, .int v1] [(pr, oB 2 [.ref pr_lines, .ref pr_cells, .ref pr_starts, .int (N 0), .int (N 1)]), (pr_lines, aI G 80 (fun j => N (24 + j))), (pr_cells, aI G 16 (fun j => N (8 + j))), (pr_starts, aI G 6 (fun j => N (2 + j)))] (res.1) [(pr, oB 2 [.ref pr_lines, .ref pr_cells, .ref pr_starts, .int (res.2 0), .int (res.2 1)]), (pr_lines, aI G 80 (fun j => res.2 (24 + j))), (pr_cells, aI G 16 (fun j => res.2 (8 + j))), (pr_starts, aI G 6 (fun j => res.2 (2 + j)))] := by
  refine MI_of (res.1) (cc := cX2_putCell) (nL := 4) (lv := [(0, .ref pr), (1, .int v0), (2, .int v1)]) (by decide +kernel) rfl (Nat.le_of_ble_eq_true rfl) rfl ?_
  intro p e s m args below meth c A Q C hR
  unfold f2_putCell at hf
  refine g_iload_n C dX2_putCell_0 rfl 1 rfl ?_
  refine g_bipush (v := (16 : Int32)) C dX2_putCell_1 (by decide +kernel) ?_
  obtain ⟨q1, hq1, hf⟩ := bs hf
  refine g_callSNi (n := 2) (As := [.int v0, .int (16 : Int32)]) (rest := []) (wc := []) (w1 := []) (wr := [(pr, oB 2 [.ref pr_lines, .ref pr_cells, .ref pr_starts, .int (N 0), .int (N 1)]), (pr_lines, aI G 80 (fun j => N (24 + j))), (pr_cells, aI G 16 (fun j => N (8 + j))), (pr_starts, aI G 6 (fun j => N (2 + j)))]) (WS' := [(pr, oB 2 [.ref pr_lines, .ref pr_cells, .ref pr_starts, .int (N 0), .int (N 1)]), (pr_lines, aI G 80 (fun j => N (24 + j))), (pr_cells, aI G 16 (fun j => N (8 + j))), (pr_starts, aI G 6 (fun j => N (2 + j)))]) C (c6_within hq1) ggX2_putCell_X6_within hn2_38 hm2_putCell_0 hm2_putCell_1 (by decide +kernel) rfl rfl rfl ⟨by decide, by decide⟩ rfl [] [0, 1, 2, 3] [0, 1, 2, 3] rfl (by decide) rfl (by decide) (by decide) rfl (by decide) (Nat.le_of_ble_eq_true rfl) ⟨Nat.zero_le _, Nat.zero_le _⟩ rfl dX2_putCell_3 ?_
  refine g_if_eq (tgt := 18) C dX2_putCell_6 (by decide) (fun c2 => ?_) (fun c2 => ?_)
  · replace hf := ite_t c2 hf
    refine g_bipush (v := (-2 : Int32)) C dX2_putCell_18 (by decide +kernel) ?_
    obtain rfl := Option.some.inj hf
    exact hR _ _ dX2_putCell_20
  · replace hf := ite_f c2 hf
    refine g_iload_n C dX2_putCell_9 rfl 2 rfl ?_
    refine g_bipush (v := (16 : Int32)) C dX2_putCell_10 (by decide +kernel) ?_
    obtain ⟨q3, hq3, hf⟩ := bs hf
    refine g_callSNi (n := 2) (As := [.int v1, .int (16 : Int32)]) (rest := []) (wc := []) (w1 := []) (wr := [(pr, oB 2 [.ref pr_lines, .ref pr_cells, .ref pr_starts, .int (N 0), .int (N 1)]), (pr_lines, aI G 80 (fun j => N (24 + j))), (pr_cells, aI G 16 (fun j => N (8 + j))), (pr_starts, aI G 6 (fun j => N (2 + j)))]) (WS' := [(pr, oB 2 [.ref pr_lines, .ref pr_cells, .ref pr_starts, .int (N 0), .int (N 1)]), (pr_lines, aI G 80 (fun j => N (24 + j))), (pr_cells, aI G 16 (fun j => N (8 + j))), (pr_starts, aI G 6 (fun j => N (2 + j)))]) C (c6_within hq3) ggX2_putCell_X6_within hn2_38 hm2_putCell_0 hm2_putCell_1 (by decide +kernel) rfl rfl rfl ⟨by decide, by decide⟩ rfl [] [0, 1, 2, 3] [0, 1, 2, 3] rfl (by decide) rfl (by decide) (by decide) rfl (by decide) (Nat.le_of_ble_eq_true rfl) ⟨Nat.zero_le _, Nat.zero_le _⟩ rfl dX2_putCell_12 ?_
    refine g_if_ne (tgt := 21) C dX2_putCell_15 (by decide) (fun c4 => ?_) (fun c4 => ?_)
    · replace hf := ite_f c4 hf
      refine g_aload_n C dX2_putCell_21 rfl 0 rfl ?_
      refine g_get (C0 := RX2) (T := TX2) (N := 5) (ci := 2) (v := .ref pr_cells) C hm2_putCell_2 0 rfl rfl 1 (by decide) hm2_putCell_3 rfl dX2_putCell_22 ?_
      refine g_iload_n C dX2_putCell_25 rfl 1 rfl ?_
      obtain ⟨h5, hf⟩ := ck_some hf
      refine g_iald (n := 16) (v := (N (8 + v0.toNatClampNeg))) C 2 rfl h5 rfl rfl dX2_putCell_26 ?_
      refine g_istore_n (lv' := [(0, .ref pr), (1, .int v0), (2, .int v1), (3, .int (N (8 + v0.toNatClampNeg)))]) C dX2_putCell_27 rfl (by decide) [1, 2, 3, 0] rfl ?_
      refine g_aload_n C dX2_putCell_28 rfl 0 rfl ?_
      refine g_get (C0 := RX2) (T := TX2) (N := 5) (ci := 2) (v := .ref pr_cells) C hm2_putCell_2 0 rfl rfl 1 (by decide) hm2_putCell_3 rfl dX2_putCell_29 ?_
      refine g_iload_n C dX2_putCell_32 rfl 1 rfl ?_
      refine g_iload_n C dX2_putCell_33 rfl 2 rfl ?_
      obtain ⟨h6, hf⟩ := ck_some hf
      refine g_iast (n := 16) (WS' := [(pr, oB 2 [.ref pr_lines, .ref pr_cells, .ref pr_starts, .int (N 0), .int (N 1)]), (pr_lines, aI G 80 (fun j => N (24 + j))), (pr_cells, aI G 16 (upd (fun j => N (8 + j)) v0.toNatClampNeg v1)), (pr_starts, aI G 6 (fun j => N (2 + j)))]) C 2 rfl h6 rfl dX2_putCell_34 rfl ?_
      refine g_conv (WS' := [(pr, oB 2 [.ref pr_lines, .ref pr_cells, .ref pr_starts, .int ((upd N (8 + v0.toNatClampNeg) v1) 0), .int ((upd N (8 + v0.toNatClampNeg) v1) 1)]), (pr_lines, aI G 80 (fun j => (upd N (8 + v0.toNatClampNeg) v1) (24 + j))), (pr_cells, aI G 16 (fun j => (upd N (8 + v0.toNatClampNeg) v1) (8 + j))), (pr_starts, aI G 6 (fun j => (upd N (8 + v0.toNatClampNeg) v1) (2 + j)))]) (wl_at 0 (pv_a8 (inb_lt h6)) rfl rfl) ?_
      refine g_iload_n C dX2_putCell_35 rfl 3 rfl ?_
      obtain rfl := Option.some.inj hf
      exact hR _ _ dX2_putCell_36
    · replace hf := ite_t c4 hf
      refine g_bipush (v := (-2 : Int32)) C dX2_putCell_18 (by decide +kernel) ?_
      obtain rfl := Option.some.inj hf
      exact hR _ _ dX2_putCell_20

-- X2_putStart
def f2_putStart (N : Nat → Int32) (v0 : Int32) (v1 : Int32) : Option (Int32 × (Nat → Int32)) :=
  (f6_within v0 (6 : Int32)).bind <| fun q1 =>
    if q1 = 0 then
    (some ((-2 : Int32), N))
    else ((f6_within v1 (16 : Int32)).bind <| fun q3 =>
    if q3 = 0 then
    (some ((-2 : Int32), N))
    else (ck (inb v0 6) <|
    ck (inb v0 6) <|
    some ((N (2 + v0.toNatClampNeg)), (upd N (2 + v0.toNatClampNeg) v1))))
def rm2_putStart : Room := { frames := 1, cells := 0, slots := 0, locals := 21 }
theorem hm2_putStart_0 : Cond.initialized yX6_within.cls ∈ wsX2_putStart := by decide +kernel
theorem hm2_putStart_1 : Cond.static yX6_within ∈ wsX2_putStart := by decide +kernel
theorem hm2_putStart_2 : ∀ w ∈ u_ws RX2 TX2 5, w ∈ wsX2_putStart := by decide +kernel
theorem hm2_putStart_3 : Cond.fieldLink RX2 18 "SecretSteps$Program" "starts" "[I" ∈ wsX2_putStart := by decide +kernel
set_option maxHeartbeats 4000000 in
set_option maxRecDepth 100000 in
theorem c2_putStart {l : Launch} {G : gG} {pr pr_lines pr_cells pr_starts : Nat} {N : Nat → Int32} {v0 : Int32} {v1 : Int32} {res : Int32 × (Nat → Int32)} (hf : f2_putStart N v0 v1 = some res) : MI l yX2_putStart wsX2_putStart rm2_putStart G [.ref pr, .int v0, .int v1] [(pr, oB 2 [.ref pr_lines, .ref pr_cells, .ref pr_starts, .int (N 0), .int (N 1)]), (pr_lines, aI G 80 (fun j => N (24 + j))), (pr_cells, aI G 16 (fun j => N (8 + j))), (pr_starts, aI G 6 (fun j => N (2 + j)))] (res.1) [(pr, oB 2 [.ref pr_lines, .ref pr_cells, .ref pr_starts, .int (res.2 0), .int (res.2 1)]), (pr_lines, aI G 80 (fun j => res.2 (24 + j))), (pr_cells, aI G 16 (fun j => res.2 (8 + j))), (pr_starts, aI G 6 (fun j => res.2 (2 + j)))] := by
  refine MI_of (res.1) (cc := cX2_putStart) (nL := 4) (lv := [(0, .ref pr), (1, .int v0), (2, .int v1)]) (by decide +kernel) rfl (Nat.le_of_ble_eq_true rfl) rfl ?_
  intro p e s m args below meth c A Q C hR
  unfold f2_putStart at hf
  refine g_iload_n C dX2_putStart_0 rfl 1 rfl ?_
  refine g_bipush (v := (6 : Int32)) C dX2_putStart_1 (by decide +kernel) ?_
  obtain ⟨q1, hq1, hf⟩ := bs hf
  refine g_callSNi (n := 2) (As := [.int v0, .int (6 : Int32)]) (rest := []) (wc := []) (w1 := []) (wr := [(pr, oB 2 [.ref pr_lines, .ref pr_cells, .ref pr_starts, .int (N 0), .int (N 1)]), (pr_lines, aI G 80 (fun j => N (24 + j))), (pr_cells, aI G 16 (fun j => N (8 + j))), (pr_starts, aI G 6 (fun j => N (2 + j)))]) (WS' := [(pr, oB 2 [.ref pr_lines, .ref pr_cells, .ref pr_starts, .int (N 0), .int (N 1)]), (pr_lines, aI G 80 (fun j => N (24 + j))), (pr_cells, aI G 16 (fun j => N (8 + j))), (pr_starts, aI G 6 (fun j => N (2 + j)))]) C (c6_within hq1) ggX2_putStart_X6_within hn2_38 hm2_putStart_0 hm2_putStart_1 (by decide +kernel) rfl rfl rfl ⟨by decide, by decide⟩ rfl [] [0, 1, 2, 3] [0, 1, 2, 3] rfl (by decide) rfl (by decide) (by decide) rfl (by decide) (Nat.le_of_ble_eq_true rfl) ⟨Nat.zero_le _, Nat.zero_le _⟩ rfl dX2_putStart_3 ?_
  refine g_if_eq (tgt := 18) C dX2_putStart_6 (by decide) (fun c2 => ?_) (fun c2 => ?_)
  · replace hf := ite_t c2 hf
    refine g_bipush (v := (-2 : Int32)) C dX2_putStart_18 (by decide +kernel) ?_
    obtain rfl := Option.some.inj hf
    exact hR _ _ dX2_putStart_20
  · replace hf := ite_f c2 hf
    refine g_iload_n C dX2_putStart_9 rfl 2 rfl ?_
    refine g_bipush (v := (16 : Int32)) C dX2_putStart_10 (by decide +kernel) ?_
    obtain ⟨q3, hq3, hf⟩ := bs hf
    refine g_callSNi (n := 2) (As := [.int v1, .int (16 : Int32)]) (rest := []) (wc := []) (w1 := []) (wr := [(pr, oB 2 [.ref pr_lines, .ref pr_cells, .ref pr_starts, .int (N 0), .int (N 1)]), (pr_lines, aI G 80 (fun j => N (24 + j))), (pr_cells, aI G 16 (fun j => N (8 + j))), (pr_starts, aI G 6 (fun j => N (2 + j)))]) (WS' := [(pr, oB 2 [.ref pr_lines, .ref pr_cells, .ref pr_starts, .int (N 0), .int (N 1)]), (pr_lines, aI G 80 (fun j => N (24 + j))), (pr_cells, aI G 16 (fun j => N (8 + j))), (pr_starts, aI G 6 (fun j => N (2 + j)))]) C (c6_within hq3) ggX2_putStart_X6_within hn2_38 hm2_putStart_0 hm2_putStart_1 (by decide +kernel) rfl rfl rfl ⟨by decide, by decide⟩ rfl [] [0, 1, 2, 3] [0, 1, 2, 3] rfl (by decide) rfl (by decide) (by decide) rfl (by decide) (Nat.le_of_ble_eq_true rfl) ⟨Nat.zero_le _, Nat.zero_le _⟩ rfl dX2_putStart_12 ?_
    refine g_if_ne (tgt := 21) C dX2_putStart_15 (by decide) (fun c4 => ?_) (fun c4 => ?_)
    · replace hf := ite_f c4 hf
      refine g_aload_n C dX2_putStart_21 rfl 0 rfl ?_
      refine g_get (C0 := RX2) (T := TX2) (N := 5) (ci := 2) (v := .ref pr_starts) C hm2_putStart_2 0 rfl rfl 2 (by decide) hm2_putStart_3 rfl dX2_putStart_22 ?_
      refine g_iload_n C dX2_putStart_25 rfl 1 rfl ?_
      obtain ⟨h5, hf⟩ := ck_some hf
      refine g_iald (n := 6) (v := (N (2 + v0.toNatClampNeg))) C 3 rfl h5 rfl rfl dX2_putStart_26 ?_
      refine g_istore_n (lv' := [(0, .ref pr), (1, .int v0), (2, .int v1), (3, .int (N (2 + v0.toNatClampNeg)))]) C dX2_putStart_27 rfl (by decide) [1, 2, 3, 0] rfl ?_
      refine g_aload_n C dX2_putStart_28 rfl 0 rfl ?_
      refine g_get (C0 := RX2) (T := TX2) (N := 5) (ci := 2) (v := .ref pr_starts) C hm2_putStart_2 0 rfl rfl 2 (by decide) hm2_putStart_3 rfl dX2_putStart_29 ?_
      refine g_iload_n C dX2_putStart_32 rfl 1 rfl ?_
      refine g_iload_n C dX2_putStart_33 rfl 2 rfl ?_
      obtain ⟨h6, hf⟩ := ck_some hf
      refine g_iast (n := 6) (WS' := [(pr, oB 2 [.ref pr_lines, .ref pr_cells, .ref pr_starts, .int (N 0), .int (N 1)]), (pr_lines, aI G 80 (fun j => N (24 + j))), (pr_cells, aI G 16 (fun j => N (8 + j))), (pr_starts, aI G 6 (upd (fun j => N (2 + j)) v0.toNatClampNeg v1))]) C 3 rfl h6 rfl dX2_putStart_34 rfl ?_
      refine g_conv (WS' := [(pr, oB 2 [.ref pr_lines, .ref pr_cells, .ref pr_starts, .int ((upd N (2 + v0.toNatClampNeg) v1) 0), .int ((upd N (2 + v0.toNatClampNeg) v1) 1)]), (pr_lines, aI G 80 (fun j => (upd N (2 + v0.toNatClampNeg) v1) (24 + j))), (pr_cells, aI G 16 (fun j => (upd N (2 + v0.toNatClampNeg) v1) (8 + j))), (pr_starts, aI G 6 (fun j => (upd N (2 + v0.toNatClampNeg) v1) (2 + j)))]) (wl_at 0 (pv_a2 (inb_lt h6)) rfl rfl) ?_
      refine g_iload_n C dX2_putStart_35 rfl 3 rfl ?_
      obtain rfl := Option.some.inj hf
      exact hR _ _ dX2_putStart_36
    · replace hf := ite_t c4 hf
      refine g_bipush (v := (-2 : Int32)) C dX2_putStart_18 (by decide +kernel) ?_
      obtain rfl := Option.some.inj hf
      exact hR _ _ dX2_putStart_20

-- J6_bitCount_0f7a4
def f6_bitCount_0f7a4 (v0 : Int32) : Option (Int32) :=
  some ((((((((v0 - ((ur32 v0 (1 : Int32)) &&& (1431655765 : Int32))) &&& (858993459 : Int32)) + ((ur32 (v0 - ((ur32 v0 (1 : Int32)) &&& (1431655765 : Int32))) (2 : Int32)) &&& (858993459 : Int32))) + (ur32 (((v0 - ((ur32 v0 (1 : Int32)) &&& (1431655765 : Int32))) &&& (858993459 : Int32)) + ((ur32 (v0 - ((ur32 v0 (1 : Int32)) &&& (1431655765 : Int32))) (2 : Int32)) &&& (858993459 : Int32))) (4 : Int32))) &&& (252645135 : Int32)) + (ur32 (((((v0 - ((ur32 v0 (1 : Int32)) &&& (1431655765 : Int32))) &&& (858993459 : Int32)) + ((ur32 (v0 - ((ur32 v0 (1 : Int32)) &&& (1431655765 : Int32))) (2 : Int32)) &&& (858993459 : Int32))) + (ur32 (((v0 - ((ur32 v0 (1 : Int32)) &&& (1431655765 : Int32))) &&& (858993459 : Int32)) + ((ur32 (v0 - ((ur32 v0 (1 : Int32)) &&& (1431655765 : Int32))) (2 : Int32)) &&& (858993459 : Int32))) (4 : Int32))) &&& (252645135 : Int32)) (8 : Int32))) + (ur32 ((((((v0 - ((ur32 v0 (1 : Int32)) &&& (1431655765 : Int32))) &&& (858993459 : Int32)) + ((ur32 (v0 - ((ur32 v0 (1 : Int32)) &&& (1431655765 : Int32))) (2 : Int32)) &&& (858993459 : Int32))) + (ur32 (((v0 - ((ur32 v0 (1 : Int32)) &&& (1431655765 : Int32))) &&& (858993459 : Int32)) + ((ur32 (v0 - ((ur32 v0 (1 : Int32)) &&& (1431655765 : Int32))) (2 : Int32)) &&& (858993459 : Int32))) (4 : Int32))) &&& (252645135 : Int32)) + (ur32 (((((v0 - ((ur32 v0 (1 : Int32)) &&& (1431655765 : Int32))) &&& (858993459 : Int32)) + ((ur32 (v0 - ((ur32 v0 (1 : Int32)) &&& (1431655765 : Int32))) (2 : Int32)) &&& (858993459 : Int32))) + (ur32 (((v0 - ((ur32 v0 (1 : Int32)) &&& (1431655765 : Int32))) &&& (858993459 : Int32)) + ((ur32 (v0 - ((ur32 v0 (1 : Int32)) &&& (1431655765 : Int32))) (2 : Int32)) &&& (858993459 : Int32))) (4 : Int32))) &&& (252645135 : Int32)) (8 : Int32))) (16 : Int32))) &&& (63 : Int32))
def rm6_bitCount_0f7a4 : Room := { frames := 0, cells := 0, slots := 0, locals := 0 }
theorem hm6_bitCount_0f7a4_0 : Cond.constant RJ6 265 (1431655765) ∈ wsJ6_bitCount_0f7a4 := by decide +kernel
theorem hm6_bitCount_0f7a4_1 : Cond.constant RJ6 266 (858993459) ∈ wsJ6_bitCount_0f7a4 := by decide +kernel
theorem hm6_bitCount_0f7a4_2 : Cond.constant RJ6 267 (252645135) ∈ wsJ6_bitCount_0f7a4 := by decide +kernel
set_option maxHeartbeats 4000000 in
set_option maxRecDepth 100000 in
theorem c6_bitCount_0f7a4 {l : Launch} {G : gG} {v0 : Int32} {res : Int32} (hf : f6_bitCount_0f7a4 v0 = some res) : MI l yJ6_bitCount_0f7a4 wsJ6_bitCount_0f7a4 rm6_bitCount_0f7a4 G [.int v0] [] (res) [] := by
  refine MI_of (res) (cc := cJ6_bitCount_0f7a4) (nL := 1) (lv := [(0, .int v0)]) (by decide +kernel) rfl (Nat.le_of_ble_eq_true rfl) rfl ?_
  intro p e s m args below meth c A Q C hR
  unfold f6_bitCount_0f7a4 at hf
  refine g_iload_n C dJ6_bitCount_0f7a4_0 rfl 0 rfl ?_
  refine g_iload_n C dJ6_bitCount_0f7a4_1 rfl 0 rfl ?_
  refine g_iconst (v := (1 : Int32)) C dJ6_bitCount_0f7a4_2 (by decide +kernel) ?_
  refine g_iushr C dJ6_bitCount_0f7a4_3 ?_
  refine g_ldcw C hm6_bitCount_0f7a4_0 dJ6_bitCount_0f7a4_4 ?_
  refine g_iand C dJ6_bitCount_0f7a4_7 ?_
  refine g_isub C dJ6_bitCount_0f7a4_8 ?_
  refine g_istore_n (lv' := [(0, .int (v0 - ((ur32 v0 (1 : Int32)) &&& (1431655765 : Int32))))]) C dJ6_bitCount_0f7a4_9 rfl (by decide) [0] rfl ?_
  refine g_iload_n C dJ6_bitCount_0f7a4_10 rfl 0 rfl ?_
  refine g_ldcw C hm6_bitCount_0f7a4_1 dJ6_bitCount_0f7a4_11 ?_
  refine g_iand C dJ6_bitCount_0f7a4_14 ?_
  refine g_iload_n C dJ6_bitCount_0f7a4_15 rfl 0 rfl ?_
  refine g_iconst (v := (2 : Int32)) C dJ6_bitCount_0f7a4_16 (by decide +kernel) ?_
  refine g_iushr C dJ6_bitCount_0f7a4_17 ?_
  refine g_ldcw C hm6_bitCount_0f7a4_1 dJ6_bitCount_0f7a4_18 ?_
  refine g_iand C dJ6_bitCount_0f7a4_21 ?_
  refine g_iadd C dJ6_bitCount_0f7a4_22 ?_
  refine g_istore_n (lv' := [(0, .int (((v0 - ((ur32 v0 (1 : Int32)) &&& (1431655765 : Int32))) &&& (858993459 : Int32)) + ((ur32 (v0 - ((ur32 v0 (1 : Int32)) &&& (1431655765 : Int32))) (2 : Int32)) &&& (858993459 : Int32))))]) C dJ6_bitCount_0f7a4_23 rfl (by decide) [0] rfl ?_
  refine g_iload_n C dJ6_bitCount_0f7a4_24 rfl 0 rfl ?_
  refine g_iload_n C dJ6_bitCount_0f7a4_25 rfl 0 rfl ?_
  refine g_iconst (v := (4 : Int32)) C dJ6_bitCount_0f7a4_26 (by decide +kernel) ?_
  refine g_iushr C dJ6_bitCount_0f7a4_27 ?_
  refine g_iadd C dJ6_bitCount_0f7a4_28 ?_
  refine g_ldcw C hm6_bitCount_0f7a4_2 dJ6_bitCount_0f7a4_29 ?_
  refine g_iand C dJ6_bitCount_0f7a4_32 ?_
  refine g_istore_n (lv' := [(0, .int (((((v0 - ((ur32 v0 (1 : Int32)) &&& (1431655765 : Int32))) &&& (858993459 : Int32)) + ((ur32 (v0 - ((ur32 v0 (1 : Int32)) &&& (1431655765 : Int32))) (2 : Int32)) &&& (858993459 : Int32))) + (ur32 (((v0 - ((ur32 v0 (1 : Int32)) &&& (1431655765 : Int32))) &&& (858993459 : Int32)) + ((ur32 (v0 - ((ur32 v0 (1 : Int32)) &&& (1431655765 : Int32))) (2 : Int32)) &&& (858993459 : Int32))) (4 : Int32))) &&& (252645135 : Int32)))]) C dJ6_bitCount_0f7a4_33 rfl (by decide) [0] rfl ?_
  refine g_iload_n C dJ6_bitCount_0f7a4_34 rfl 0 rfl ?_
  refine g_iload_n C dJ6_bitCount_0f7a4_35 rfl 0 rfl ?_
  refine g_bipush (v := (8 : Int32)) C dJ6_bitCount_0f7a4_36 (by decide +kernel) ?_
  refine g_iushr C dJ6_bitCount_0f7a4_38 ?_
  refine g_iadd C dJ6_bitCount_0f7a4_39 ?_
  refine g_istore_n (lv' := [(0, .int ((((((v0 - ((ur32 v0 (1 : Int32)) &&& (1431655765 : Int32))) &&& (858993459 : Int32)) + ((ur32 (v0 - ((ur32 v0 (1 : Int32)) &&& (1431655765 : Int32))) (2 : Int32)) &&& (858993459 : Int32))) + (ur32 (((v0 - ((ur32 v0 (1 : Int32)) &&& (1431655765 : Int32))) &&& (858993459 : Int32)) + ((ur32 (v0 - ((ur32 v0 (1 : Int32)) &&& (1431655765 : Int32))) (2 : Int32)) &&& (858993459 : Int32))) (4 : Int32))) &&& (252645135 : Int32)) + (ur32 (((((v0 - ((ur32 v0 (1 : Int32)) &&& (1431655765 : Int32))) &&& (858993459 : Int32)) + ((ur32 (v0 - ((ur32 v0 (1 : Int32)) &&& (1431655765 : Int32))) (2 : Int32)) &&& (858993459 : Int32))) + (ur32 (((v0 - ((ur32 v0 (1 : Int32)) &&& (1431655765 : Int32))) &&& (858993459 : Int32)) + ((ur32 (v0 - ((ur32 v0 (1 : Int32)) &&& (1431655765 : Int32))) (2 : Int32)) &&& (858993459 : Int32))) (4 : Int32))) &&& (252645135 : Int32)) (8 : Int32))))]) C dJ6_bitCount_0f7a4_40 rfl (by decide) [0] rfl ?_
  refine g_iload_n C dJ6_bitCount_0f7a4_41 rfl 0 rfl ?_
  refine g_iload_n C dJ6_bitCount_0f7a4_42 rfl 0 rfl ?_
  refine g_bipush (v := (16 : Int32)) C dJ6_bitCount_0f7a4_43 (by decide +kernel) ?_
  refine g_iushr C dJ6_bitCount_0f7a4_45 ?_
  refine g_iadd C dJ6_bitCount_0f7a4_46 ?_
  refine g_istore_n (lv' := [(0, .int (((((((v0 - ((ur32 v0 (1 : Int32)) &&& (1431655765 : Int32))) &&& (858993459 : Int32)) + ((ur32 (v0 - ((ur32 v0 (1 : Int32)) &&& (1431655765 : Int32))) (2 : Int32)) &&& (858993459 : Int32))) + (ur32 (((v0 - ((ur32 v0 (1 : Int32)) &&& (1431655765 : Int32))) &&& (858993459 : Int32)) + ((ur32 (v0 - ((ur32 v0 (1 : Int32)) &&& (1431655765 : Int32))) (2 : Int32)) &&& (858993459 : Int32))) (4 : Int32))) &&& (252645135 : Int32)) + (ur32 (((((v0 - ((ur32 v0 (1 : Int32)) &&& (1431655765 : Int32))) &&& (858993459 : Int32)) + ((ur32 (v0 - ((ur32 v0 (1 : Int32)) &&& (1431655765 : Int32))) (2 : Int32)) &&& (858993459 : Int32))) + (ur32 (((v0 - ((ur32 v0 (1 : Int32)) &&& (1431655765 : Int32))) &&& (858993459 : Int32)) + ((ur32 (v0 - ((ur32 v0 (1 : Int32)) &&& (1431655765 : Int32))) (2 : Int32)) &&& (858993459 : Int32))) (4 : Int32))) &&& (252645135 : Int32)) (8 : Int32))) + (ur32 ((((((v0 - ((ur32 v0 (1 : Int32)) &&& (1431655765 : Int32))) &&& (858993459 : Int32)) + ((ur32 (v0 - ((ur32 v0 (1 : Int32)) &&& (1431655765 : Int32))) (2 : Int32)) &&& (858993459 : Int32))) + (ur32 (((v0 - ((ur32 v0 (1 : Int32)) &&& (1431655765 : Int32))) &&& (858993459 : Int32)) + ((ur32 (v0 - ((ur32 v0 (1 : Int32)) &&& (1431655765 : Int32))) (2 : Int32)) &&& (858993459 : Int32))) (4 : Int32))) &&& (252645135 : Int32)) + (ur32 (((((v0 - ((ur32 v0 (1 : Int32)) &&& (1431655765 : Int32))) &&& (858993459 : Int32)) + ((ur32 (v0 - ((ur32 v0 (1 : Int32)) &&& (1431655765 : Int32))) (2 : Int32)) &&& (858993459 : Int32))) + (ur32 (((v0 - ((ur32 v0 (1 : Int32)) &&& (1431655765 : Int32))) &&& (858993459 : Int32)) + ((ur32 (v0 - ((ur32 v0 (1 : Int32)) &&& (1431655765 : Int32))) (2 : Int32)) &&& (858993459 : Int32))) (4 : Int32))) &&& (252645135 : Int32)) (8 : Int32))) (16 : Int32))))]) C dJ6_bitCount_0f7a4_47 rfl (by decide) [0] rfl ?_
  refine g_iload_n C dJ6_bitCount_0f7a4_48 rfl 0 rfl ?_
  refine g_bipush (v := (63 : Int32)) C dJ6_bitCount_0f7a4_49 (by decide +kernel) ?_
  refine g_iand C dJ6_bitCount_0f7a4_51 ?_
  obtain rfl := Option.some.inj hf
  exact hR _ _ dJ6_bitCount_0f7a4_52

-- X2_putSecret
def f2_putSecret_47 (N : Nat → Int32) (x1 : Int32) (x2 : Int32) (x3 : Int32) : Option (Int32 × (Nat → Int32)) :=
  some (((sr32 (N 1) x1) &&& (1 : Int32)), (upd N 1 (x3 ||| (sl32 x2 x1))))
def f2_putSecret_31 (N : Nat → Int32) (x1 : Int32) (x2 : Int32) (x3 : Int32) : Option (Int32 × (Nat → Int32)) :=
  if x2 = (1 : Int32) then
    ((f6_bitCount_0f7a4 x3).bind <| fun q2 =>
    if q2 < (2 : Int32) then
    (f2_putSecret_47 N x1 x2 x3)
    else (some ((-4 : Int32), N)))
    else (f2_putSecret_47 N x1 x2 x3)
def f2_putSecret (N : Nat → Int32) (v0 : Int32) (v1 : Int32) : Option (Int32 × (Nat → Int32)) :=
  (f6_within v0 (6 : Int32)).bind <| fun q4 =>
    if q4 = 0 then
    (some ((-2 : Int32), N))
    else ((f6_within v1 (2 : Int32)).bind <| fun q6 =>
    if q6 = 0 then
    (some ((-2 : Int32), N))
    else (f2_putSecret_31 N v0 v1 ((N 1) &&& ((sl32 (1 : Int32) v0) ^^^ (-1 : Int32)))))
def rm2_putSecret : Room := { frames := 1, cells := 0, slots := 0, locals := 21 }
theorem hm2_putSecret_0 : ∀ w ∈ u_ws RX2 TX2 5, w ∈ wsX2_putSecret := by decide +kernel
theorem hm2_putSecret_1 : Cond.fieldLink RX2 31 "SecretSteps$Program" "secretBits" "I" ∈ wsX2_putSecret := by decide +kernel
theorem hm2_putSecret_2 : Cond.initialized yX6_within.cls ∈ wsX2_putSecret := by decide +kernel
theorem hm2_putSecret_3 : Cond.static yX6_within ∈ wsX2_putSecret := by decide +kernel
set_option maxHeartbeats 4000000 in
set_option maxRecDepth 100000 in
theorem k2_putSecret_47 {p : Program} {l : Launch} {e : Env} {s : State} {m : MethodId} {args : Array Value} {below : List Frame} {meth : Method} {c : Code} {G : gG} {A : Nat → Prop} {Q : State → Prop} {pr pr_lines pr_cells pr_starts : Nat} (C : CX p s m args meth c G A cX2_putSecret 5 RX2 wsX2_putSecret) {N : Nat → Int32} {x1 : Int32} {x2 : Int32} {x3 : Int32} {res : Int32 × (Nat → Int32)} (hR : ∀ (lv : List (Nat × Value)) (pc : Nat), decode cX2_putSecret pc = .ok (.ireturn, 1) → GG p l e rm2_putSecret s m args below meth c G A 5 0 0 Q [(pr, oB 2 [.ref pr_lines, .ref pr_cells, .ref pr_starts, .int (res.2 0), .int (res.2 1)]), (pr_lines, aI G 80 (fun j => res.2 (24 + j))), (pr_cells, aI G 16 (fun j => res.2 (8 + j))), (pr_starts, aI G 6 (fun j => res.2 (2 + j)))] lv pc [.int res.1])
    (hf : f2_putSecret_47 N x1 x2 x3 = some res) : GG p l e rm2_putSecret s m args below meth c G A 5 0 0 Q [(pr, oB 2 [.ref pr_lines, .ref pr_cells, .ref pr_starts, .int (N 0), .int (N 1)]), (pr_lines, aI G 80 (fun j => N (24 + j))), (pr_cells, aI G 16 (fun j => N (8 + j))), (pr_starts, aI G 6 (fun j => N (2 + j)))] [(0, .ref pr), (1, .int x1), (2, .int x2), (3, .int x3)] 47 [] := by
  unfold f2_putSecret_47 at hf
  refine g_aload_n C dX2_putSecret_47 rfl 0 rfl ?_
  refine g_get (C0 := RX2) (T := TX2) (N := 5) (ci := 2) (v := .int (N 1)) C hm2_putSecret_0 0 rfl rfl 4 (by decide) hm2_putSecret_1 rfl dX2_putSecret_48 ?_
  refine g_iload_n C dX2_putSecret_51 rfl 1 rfl ?_
  refine g_ishr C dX2_putSecret_52 ?_
  refine g_iconst (v := (1 : Int32)) C dX2_putSecret_53 (by decide +kernel) ?_
  refine g_iand C dX2_putSecret_54 ?_
  refine g_istore (lv' := [(0, .ref pr), (1, .int x1), (2, .int x2), (3, .int x3), (4, .int ((sr32 (N 1) x1) &&& (1 : Int32)))]) C dX2_putSecret_55 (by decide) [1, 2, 3, 4, 0] rfl ?_
  refine g_aload_n C dX2_putSecret_57 rfl 0 rfl ?_
  refine g_iload_n C dX2_putSecret_58 rfl 3 rfl ?_
  refine g_iload_n C dX2_putSecret_59 rfl 2 rfl ?_
  refine g_iload_n C dX2_putSecret_60 rfl 1 rfl ?_
  refine g_ishl C dX2_putSecret_61 ?_
  refine g_ior C dX2_putSecret_62 ?_
  refine g_put (C0 := RX2) (T := TX2) (N := 5) (ci := 2) (ty := .int) (WS' := [(pr, oB 2 [.ref pr_lines, .ref pr_cells, .ref pr_starts, .int (N 0), .int (x3 ||| (sl32 x2 x1))]), (pr_lines, aI G 80 (fun j => N (24 + j))), (pr_cells, aI G 16 (fun j => N (8 + j))), (pr_starts, aI G 6 (fun j => N (2 + j)))]) C hm2_putSecret_0 tyX2 tyX2_ok nmX2 0 rfl rfl 4 (by decide) hm2_putSecret_1 rfl rfl rfl rfl (Nat.le_of_ble_eq_true rfl) dX2_putSecret_63 rfl ?_
  refine g_conv (WS' := [(pr, oB 2 [.ref pr_lines, .ref pr_cells, .ref pr_starts, .int ((upd N 1 (x3 ||| (sl32 x2 x1))) 0), .int ((upd N 1 (x3 ||| (sl32 x2 x1))) 1)]), (pr_lines, aI G 80 (fun j => (upd N 1 (x3 ||| (sl32 x2 x1))) (24 + j))), (pr_cells, aI G 16 (fun j => (upd N 1 (x3 ||| (sl32 x2 x1))) (8 + j))), (pr_starts, aI G 6 (fun j => (upd N 1 (x3 ||| (sl32 x2 x1))) (2 + j)))]) (wl_at 0 (pv_f1) rfl rfl) ?_
  refine g_iload C dX2_putSecret_66 4 rfl ?_
  obtain rfl := Option.some.inj hf
  exact hR _ _ dX2_putSecret_68
set_option maxHeartbeats 4000000 in
set_option maxRecDepth 100000 in
theorem k2_putSecret_31 {p : Program} {l : Launch} {e : Env} {s : State} {m : MethodId} {args : Array Value} {below : List Frame} {meth : Method} {c : Code} {G : gG} {A : Nat → Prop} {Q : State → Prop} {pr pr_lines pr_cells pr_starts : Nat} (C : CX p s m args meth c G A cX2_putSecret 5 RX2 wsX2_putSecret) {N : Nat → Int32} {x1 : Int32} {x2 : Int32} {x3 : Int32} {res : Int32 × (Nat → Int32)} (hR : ∀ (lv : List (Nat × Value)) (pc : Nat), decode cX2_putSecret pc = .ok (.ireturn, 1) → GG p l e rm2_putSecret s m args below meth c G A 5 0 0 Q [(pr, oB 2 [.ref pr_lines, .ref pr_cells, .ref pr_starts, .int (res.2 0), .int (res.2 1)]), (pr_lines, aI G 80 (fun j => res.2 (24 + j))), (pr_cells, aI G 16 (fun j => res.2 (8 + j))), (pr_starts, aI G 6 (fun j => res.2 (2 + j)))] lv pc [.int res.1])
    (hf : f2_putSecret_31 N x1 x2 x3 = some res) : GG p l e rm2_putSecret s m args below meth c G A 5 0 0 Q [(pr, oB 2 [.ref pr_lines, .ref pr_cells, .ref pr_starts, .int (N 0), .int (N 1)]), (pr_lines, aI G 80 (fun j => N (24 + j))), (pr_cells, aI G 16 (fun j => N (8 + j))), (pr_starts, aI G 6 (fun j => N (2 + j)))] [(0, .ref pr), (1, .int x1), (2, .int x2), (3, .int x3)] 31 [] := by
  unfold f2_putSecret_31 at hf
  refine g_iload_n C dX2_putSecret_31 rfl 2 rfl ?_
  refine g_iconst (v := (1 : Int32)) C dX2_putSecret_32 (by decide +kernel) ?_
  refine g_icmp_ne (tgt := 47) C dX2_putSecret_33 (by decide) (fun c1 => ?_) (fun c1 => ?_)
  · replace hf := ite_f c1 hf
    exact k2_putSecret_47 C hR hf
  · replace hf := ite_t c1 hf
    refine g_iload_n C dX2_putSecret_36 rfl 3 rfl ?_
    obtain ⟨q2, hq2, hf⟩ := bs hf
    refine g_callSi (n := 1) (As := [.int x3]) (rest := []) (wc := []) (w1 := []) (wr := [(pr, oB 2 [.ref pr_lines, .ref pr_cells, .ref pr_starts, .int (N 0), .int (N 1)]), (pr_lines, aI G 80 (fun j => N (24 + j))), (pr_cells, aI G 16 (fun j => N (8 + j))), (pr_starts, aI G 6 (fun j => N (2 + j)))]) (WS' := [(pr, oB 2 [.ref pr_lines, .ref pr_cells, .ref pr_starts, .int (N 0), .int (N 1)]), (pr_lines, aI G 80 (fun j => N (24 + j))), (pr_cells, aI G 16 (fun j => N (8 + j))), (pr_starts, aI G 6 (fun j => N (2 + j)))]) C (c6_bitCount_0f7a4 hq2) gX2_putSecret_J6_bitCount_0f7a4 (by decide +kernel) rfl rfl rfl ⟨by decide, by decide⟩ rfl [] [0, 1, 2, 3] [0, 1, 2, 3] rfl (by decide) rfl (by decide) (by decide) rfl (by decide) (Nat.le_of_ble_eq_true rfl) ⟨Nat.zero_le _, Nat.zero_le _⟩ rfl dX2_putSecret_37 ?_
    refine g_iconst (v := (2 : Int32)) C dX2_putSecret_40 (by decide +kernel) ?_
    refine g_icmp_lt (tgt := 47) C dX2_putSecret_41 (by decide) (fun c3 => ?_) (fun c3 => ?_)
    · replace hf := ite_t c3 hf
      exact k2_putSecret_47 C hR hf
    · replace hf := ite_f c3 hf
      refine g_bipush (v := (-4 : Int32)) C dX2_putSecret_44 (by decide +kernel) ?_
      obtain rfl := Option.some.inj hf
      exact hR _ _ dX2_putSecret_46
set_option maxHeartbeats 4000000 in
set_option maxRecDepth 100000 in
theorem c2_putSecret {l : Launch} {G : gG} {pr pr_lines pr_cells pr_starts : Nat} {N : Nat → Int32} {v0 : Int32} {v1 : Int32} {res : Int32 × (Nat → Int32)} (hf : f2_putSecret N v0 v1 = some res) : MI l yX2_putSecret wsX2_putSecret rm2_putSecret G [.ref pr, .int v0, .int v1] [(pr, oB 2 [.ref pr_lines, .ref pr_cells, .ref pr_starts, .int (N 0), .int (N 1)]), (pr_lines, aI G 80 (fun j => N (24 + j))), (pr_cells, aI G 16 (fun j => N (8 + j))), (pr_starts, aI G 6 (fun j => N (2 + j)))] (res.1) [(pr, oB 2 [.ref pr_lines, .ref pr_cells, .ref pr_starts, .int (res.2 0), .int (res.2 1)]), (pr_lines, aI G 80 (fun j => res.2 (24 + j))), (pr_cells, aI G 16 (fun j => res.2 (8 + j))), (pr_starts, aI G 6 (fun j => res.2 (2 + j)))] := by
  refine MI_of (res.1) (cc := cX2_putSecret) (nL := 5) (lv := [(0, .ref pr), (1, .int v0), (2, .int v1)]) (by decide +kernel) rfl (Nat.le_of_ble_eq_true rfl) rfl ?_
  intro p e s m args below meth c A Q C hR
  unfold f2_putSecret at hf
  refine g_iload_n C dX2_putSecret_0 rfl 1 rfl ?_
  refine g_bipush (v := (6 : Int32)) C dX2_putSecret_1 (by decide +kernel) ?_
  obtain ⟨q4, hq4, hf⟩ := bs hf
  refine g_callSNi (n := 2) (As := [.int v0, .int (6 : Int32)]) (rest := []) (wc := []) (w1 := []) (wr := [(pr, oB 2 [.ref pr_lines, .ref pr_cells, .ref pr_starts, .int (N 0), .int (N 1)]), (pr_lines, aI G 80 (fun j => N (24 + j))), (pr_cells, aI G 16 (fun j => N (8 + j))), (pr_starts, aI G 6 (fun j => N (2 + j)))]) (WS' := [(pr, oB 2 [.ref pr_lines, .ref pr_cells, .ref pr_starts, .int (N 0), .int (N 1)]), (pr_lines, aI G 80 (fun j => N (24 + j))), (pr_cells, aI G 16 (fun j => N (8 + j))), (pr_starts, aI G 6 (fun j => N (2 + j)))]) C (c6_within hq4) ggX2_putSecret_X6_within hn2_38 hm2_putSecret_2 hm2_putSecret_3 (by decide +kernel) rfl rfl rfl ⟨by decide, by decide⟩ rfl [] [0, 1, 2, 3] [0, 1, 2, 3] rfl (by decide) rfl (by decide) (by decide) rfl (by decide) (Nat.le_of_ble_eq_true rfl) ⟨Nat.zero_le _, Nat.zero_le _⟩ rfl dX2_putSecret_3 ?_
  refine g_if_eq (tgt := 17) C dX2_putSecret_6 (by decide) (fun c5 => ?_) (fun c5 => ?_)
  · replace hf := ite_t c5 hf
    refine g_bipush (v := (-2 : Int32)) C dX2_putSecret_17 (by decide +kernel) ?_
    obtain rfl := Option.some.inj hf
    exact hR _ _ dX2_putSecret_19
  · replace hf := ite_f c5 hf
    refine g_iload_n C dX2_putSecret_9 rfl 2 rfl ?_
    refine g_iconst (v := (2 : Int32)) C dX2_putSecret_10 (by decide +kernel) ?_
    obtain ⟨q6, hq6, hf⟩ := bs hf
    refine g_callSNi (n := 2) (As := [.int v1, .int (2 : Int32)]) (rest := []) (wc := []) (w1 := []) (wr := [(pr, oB 2 [.ref pr_lines, .ref pr_cells, .ref pr_starts, .int (N 0), .int (N 1)]), (pr_lines, aI G 80 (fun j => N (24 + j))), (pr_cells, aI G 16 (fun j => N (8 + j))), (pr_starts, aI G 6 (fun j => N (2 + j)))]) (WS' := [(pr, oB 2 [.ref pr_lines, .ref pr_cells, .ref pr_starts, .int (N 0), .int (N 1)]), (pr_lines, aI G 80 (fun j => N (24 + j))), (pr_cells, aI G 16 (fun j => N (8 + j))), (pr_starts, aI G 6 (fun j => N (2 + j)))]) C (c6_within hq6) ggX2_putSecret_X6_within hn2_38 hm2_putSecret_2 hm2_putSecret_3 (by decide +kernel) rfl rfl rfl ⟨by decide, by decide⟩ rfl [] [0, 1, 2, 3] [0, 1, 2, 3] rfl (by decide) rfl (by decide) (by decide) rfl (by decide) (Nat.le_of_ble_eq_true rfl) ⟨Nat.zero_le _, Nat.zero_le _⟩ rfl dX2_putSecret_11 ?_
    refine g_if_ne (tgt := 20) C dX2_putSecret_14 (by decide) (fun c7 => ?_) (fun c7 => ?_)
    · replace hf := ite_f c7 hf
      refine g_aload_n C dX2_putSecret_20 rfl 0 rfl ?_
      refine g_get (C0 := RX2) (T := TX2) (N := 5) (ci := 2) (v := .int (N 1)) C hm2_putSecret_0 0 rfl rfl 4 (by decide) hm2_putSecret_1 rfl dX2_putSecret_21 ?_
      refine g_iconst (v := (1 : Int32)) C dX2_putSecret_24 (by decide +kernel) ?_
      refine g_iload_n C dX2_putSecret_25 rfl 1 rfl ?_
      refine g_ishl C dX2_putSecret_26 ?_
      refine g_iconst (v := (-1 : Int32)) C dX2_putSecret_27 (by decide +kernel) ?_
      refine g_ixor C dX2_putSecret_28 ?_
      refine g_iand C dX2_putSecret_29 ?_
      refine g_istore_n (lv' := [(0, .ref pr), (1, .int v0), (2, .int v1), (3, .int ((N 1) &&& ((sl32 (1 : Int32) v0) ^^^ (-1 : Int32))))]) C dX2_putSecret_30 rfl (by decide) [1, 2, 3, 0] rfl ?_
      exact k2_putSecret_31 C hR hf
    · replace hf := ite_t c7 hf
      refine g_bipush (v := (-2 : Int32)) C dX2_putSecret_17 (by decide +kernel) ?_
      obtain rfl := Option.some.inj hf
      exact hR _ _ dX2_putSecret_19

-- X2_secretsEnd
def f2_secretsEnd (N : Nat → Int32) : Option (Int32) :=
  (f6_bitCount_0f7a4 (N 1)).bind <| fun q1 =>
    some (sl32 (1 : Int32) ((4 : Int32) * q1))
def rm2_secretsEnd : Room := { frames := 1, cells := 0, slots := 0, locals := 20 }
theorem hm2_secretsEnd_0 : ∀ w ∈ u_ws RX2 TX2 5, w ∈ wsX2_secretsEnd := by decide +kernel
theorem hm2_secretsEnd_1 : Cond.fieldLink RX2 31 "SecretSteps$Program" "secretBits" "I" ∈ wsX2_secretsEnd := by decide +kernel
set_option maxHeartbeats 4000000 in
set_option maxRecDepth 100000 in
theorem c2_secretsEnd {l : Launch} {G : gG} {pr pr_lines pr_cells pr_starts : Nat} {N : Nat → Int32} {res : Int32} (hf : f2_secretsEnd N = some res) : MI l yX2_secretsEnd wsX2_secretsEnd rm2_secretsEnd G [.ref pr] [(pr, oB 2 [.ref pr_lines, .ref pr_cells, .ref pr_starts, .int (N 0), .int (N 1)]), (pr_lines, aI G 80 (fun j => N (24 + j))), (pr_cells, aI G 16 (fun j => N (8 + j))), (pr_starts, aI G 6 (fun j => N (2 + j)))] (res) [(pr, oB 2 [.ref pr_lines, .ref pr_cells, .ref pr_starts, .int (N 0), .int (N 1)]), (pr_lines, aI G 80 (fun j => N (24 + j))), (pr_cells, aI G 16 (fun j => N (8 + j))), (pr_starts, aI G 6 (fun j => N (2 + j)))] := by
  refine MI_of (res) (cc := cX2_secretsEnd) (nL := 1) (lv := [(0, .ref pr)]) (by decide +kernel) rfl (Nat.le_of_ble_eq_true rfl) rfl ?_
  intro p e s m args below meth c A Q C hR
  unfold f2_secretsEnd at hf
  refine g_iconst (v := (1 : Int32)) C dX2_secretsEnd_0 (by decide +kernel) ?_
  refine g_iconst (v := (4 : Int32)) C dX2_secretsEnd_1 (by decide +kernel) ?_
  refine g_aload_n C dX2_secretsEnd_2 rfl 0 rfl ?_
  refine g_get (C0 := RX2) (T := TX2) (N := 5) (ci := 2) (v := .int (N 1)) C hm2_secretsEnd_0 0 rfl rfl 4 (by decide) hm2_secretsEnd_1 rfl dX2_secretsEnd_3 ?_
  obtain ⟨q1, hq1, hf⟩ := bs hf
  refine g_callSi (n := 1) (As := [.int (N 1)]) (rest := [.int (4 : Int32), .int (1 : Int32)]) (wc := []) (w1 := []) (wr := [(pr, oB 2 [.ref pr_lines, .ref pr_cells, .ref pr_starts, .int (N 0), .int (N 1)]), (pr_lines, aI G 80 (fun j => N (24 + j))), (pr_cells, aI G 16 (fun j => N (8 + j))), (pr_starts, aI G 6 (fun j => N (2 + j)))]) (WS' := [(pr, oB 2 [.ref pr_lines, .ref pr_cells, .ref pr_starts, .int (N 0), .int (N 1)]), (pr_lines, aI G 80 (fun j => N (24 + j))), (pr_cells, aI G 16 (fun j => N (8 + j))), (pr_starts, aI G 6 (fun j => N (2 + j)))]) C (c6_bitCount_0f7a4 hq1) gX2_secretsEnd_J6_bitCount_0f7a4 (by decide +kernel) rfl rfl rfl ⟨by decide, by decide⟩ rfl [] [0, 1, 2, 3] [0, 1, 2, 3] rfl (by decide) rfl (by decide) (by decide) rfl (by decide) (Nat.le_of_ble_eq_true rfl) ⟨Nat.zero_le _, Nat.zero_le _⟩ rfl dX2_secretsEnd_6 ?_
  refine g_imul C dX2_secretsEnd_9 ?_
  refine g_ishl C dX2_secretsEnd_10 ?_
  obtain rfl := Option.some.inj hf
  exact hR _ _ dX2_secretsEnd_11

-- X2_hasSecrets
def f2_hasSecrets (N : Nat → Int32) (v0 : Int32) : Option (Int32) :=
  (f2_secretsEnd N).bind <| fun q1 =>
    (f6_within v0 q1).bind <| fun q2 =>
    ck (isb q2) <|
    some q2
def rm2_hasSecrets : Room := { frames := 2, cells := 0, slots := 0, locals := 40 }
theorem hm2_hasSecrets_0 : Cond.initialized yX6_within.cls ∈ wsX2_hasSecrets := by decide +kernel
theorem hm2_hasSecrets_1 : Cond.static yX6_within ∈ wsX2_hasSecrets := by decide +kernel
set_option maxHeartbeats 4000000 in
set_option maxRecDepth 100000 in
theorem c2_hasSecrets {l : Launch} {G : gG} {pr pr_lines pr_cells pr_starts : Nat} {N : Nat → Int32} {v0 : Int32} {res : Int32} (hf : f2_hasSecrets N v0 = some res) : MI l yX2_hasSecrets wsX2_hasSecrets rm2_hasSecrets G [.ref pr, .int v0] [(pr, oB 2 [.ref pr_lines, .ref pr_cells, .ref pr_starts, .int (N 0), .int (N 1)]), (pr_lines, aI G 80 (fun j => N (24 + j))), (pr_cells, aI G 16 (fun j => N (8 + j))), (pr_starts, aI G 6 (fun j => N (2 + j)))] (res) [(pr, oB 2 [.ref pr_lines, .ref pr_cells, .ref pr_starts, .int (N 0), .int (N 1)]), (pr_lines, aI G 80 (fun j => N (24 + j))), (pr_cells, aI G 16 (fun j => N (8 + j))), (pr_starts, aI G 6 (fun j => N (2 + j)))] := by
  refine MZ_of (res) (cc := cX2_hasSecrets) (nL := 2) (lv := [(0, .ref pr), (1, .int v0)]) (by decide +kernel) rfl (Nat.le_of_ble_eq_true rfl) rfl ?_
  intro p e s m args below meth c A Q C hR
  unfold f2_hasSecrets at hf
  refine g_iload_n C dX2_hasSecrets_0 rfl 1 rfl ?_
  refine g_aload_n C dX2_hasSecrets_1 rfl 0 rfl ?_
  obtain ⟨q1, hq1, hf⟩ := bs hf
  refine g_callVi (n := 0) (As := []) (rest := [.int v0]) (wc := [(pr, oB 2 [.ref pr_lines, .ref pr_cells, .ref pr_starts, .int (N 0), .int (N 1)]), (pr_lines, aI G 80 (fun j => N (24 + j))), (pr_cells, aI G 16 (fun j => N (8 + j))), (pr_starts, aI G 6 (fun j => N (2 + j)))]) (w1 := [(pr, oB 2 [.ref pr_lines, .ref pr_cells, .ref pr_starts, .int (N 0), .int (N 1)]), (pr_lines, aI G 80 (fun j => N (24 + j))), (pr_cells, aI G 16 (fun j => N (8 + j))), (pr_starts, aI G 6 (fun j => N (2 + j)))]) (wr := []) (WS' := [(pr, oB 2 [.ref pr_lines, .ref pr_cells, .ref pr_starts, .int (N 0), .int (N 1)]), (pr_lines, aI G 80 (fun j => N (24 + j))), (pr_cells, aI G 16 (fun j => N (8 + j))), (pr_starts, aI G 6 (fun j => N (2 + j)))]) C (c2_secretsEnd hq1) gX2_hasSecrets_X2_secretsEnd (by decide +kernel) rfl rfl rfl rfl rfl rfl ⟨by decide, by decide⟩ rfl [0, 1, 2, 3] [] [0, 1, 2, 3] rfl (by decide) rfl (by decide) (by decide) rfl (by decide) (Nat.le_of_ble_eq_true rfl) ⟨Nat.zero_le _, Nat.zero_le _⟩ rfl dX2_hasSecrets_2 ?_
  obtain ⟨q2, hq2, hf⟩ := bs hf
  refine g_callSNi (n := 2) (As := [.int v0, .int q1]) (rest := []) (wc := []) (w1 := []) (wr := [(pr, oB 2 [.ref pr_lines, .ref pr_cells, .ref pr_starts, .int (N 0), .int (N 1)]), (pr_lines, aI G 80 (fun j => N (24 + j))), (pr_cells, aI G 16 (fun j => N (8 + j))), (pr_starts, aI G 6 (fun j => N (2 + j)))]) (WS' := [(pr, oB 2 [.ref pr_lines, .ref pr_cells, .ref pr_starts, .int (N 0), .int (N 1)]), (pr_lines, aI G 80 (fun j => N (24 + j))), (pr_cells, aI G 16 (fun j => N (8 + j))), (pr_starts, aI G 6 (fun j => N (2 + j)))]) C (c6_within hq2) ggX2_hasSecrets_X6_within hn2_38 hm2_hasSecrets_0 hm2_hasSecrets_1 (by decide +kernel) rfl rfl rfl ⟨by decide, by decide⟩ rfl [] [0, 1, 2, 3] [0, 1, 2, 3] rfl (by decide) rfl (by decide) (by decide) rfl (by decide) (Nat.le_of_ble_eq_true rfl) ⟨Nat.zero_le _, Nat.zero_le _⟩ rfl dX2_hasSecrets_5 ?_
  obtain ⟨h3, hf⟩ := ck_some hf
  obtain rfl := Option.some.inj hf
  exact hR _ _ dX2_hasSecrets_8 h3

-- X2_fact
def f2_fact (N : Nat → Int32) (v0 : Int32) : Option (Int32) :=
  if v0 = 0 then
    (some (N 0))
    else (if v0 = (1 : Int32) then
    (some (N 1))
    else (if (6 : Int32) ≤ (v0 - (2 : Int32)) then
    (ck (inb ((v0 - (2 : Int32)) - (6 : Int32)) 16) <|
    some (N (8 + ((v0 - (2 : Int32)) - (6 : Int32)).toNatClampNeg)))
    else (ck (inb (v0 - (2 : Int32)) 6) <|
    some (N (2 + (v0 - (2 : Int32)).toNatClampNeg)))))
def rm2_fact : Room := { frames := 0, cells := 0, slots := 0, locals := 0 }
theorem hm2_fact_0 : ∀ w ∈ u_ws RX2 TX2 5, w ∈ wsX2_fact := by decide +kernel
theorem hm2_fact_1 : Cond.fieldLink RX2 15 "SecretSteps$Program" "cells" "[I" ∈ wsX2_fact := by decide +kernel
theorem hm2_fact_2 : Cond.fieldLink RX2 18 "SecretSteps$Program" "starts" "[I" ∈ wsX2_fact := by decide +kernel
theorem hm2_fact_3 : Cond.fieldLink RX2 31 "SecretSteps$Program" "secretBits" "I" ∈ wsX2_fact := by decide +kernel
theorem hm2_fact_4 : Cond.fieldLink RX2 27 "SecretSteps$Program" "count" "I" ∈ wsX2_fact := by decide +kernel
set_option maxHeartbeats 4000000 in
set_option maxRecDepth 100000 in
theorem c2_fact {l : Launch} {G : gG} {pr pr_lines pr_cells pr_starts : Nat} {N : Nat → Int32} {v0 : Int32} {res : Int32} (hf : f2_fact N v0 = some res) : MI l yX2_fact wsX2_fact rm2_fact G [.ref pr, .int v0] [(pr, oB 2 [.ref pr_lines, .ref pr_cells, .ref pr_starts, .int (N 0), .int (N 1)]), (pr_lines, aI G 80 (fun j => N (24 + j))), (pr_cells, aI G 16 (fun j => N (8 + j))), (pr_starts, aI G 6 (fun j => N (2 + j)))] (res) [(pr, oB 2 [.ref pr_lines, .ref pr_cells, .ref pr_starts, .int (N 0), .int (N 1)]), (pr_lines, aI G 80 (fun j => N (24 + j))), (pr_cells, aI G 16 (fun j => N (8 + j))), (pr_starts, aI G 6 (fun j => N (2 + j)))] := by
  refine MI_of (res) (cc := cX2_fact) (nL := 3) (lv := [(0, .ref pr), (1, .int v0)]) (by decide +kernel) rfl (Nat.le_of_ble_eq_true rfl) rfl ?_
  intro p e s m args below meth c A Q C hR
  unfold f2_fact at hf
  refine g_iload_n C dX2_fact_0 rfl 1 rfl ?_
  refine g_if_ne (tgt := 9) C dX2_fact_1 (by decide) (fun c1 => ?_) (fun c1 => ?_)
  · replace hf := ite_f c1 hf
    refine g_iload_n C dX2_fact_9 rfl 1 rfl ?_
    refine g_iconst (v := (1 : Int32)) C dX2_fact_10 (by decide +kernel) ?_
    refine g_icmp_ne (tgt := 19) C dX2_fact_11 (by decide) (fun c2 => ?_) (fun c2 => ?_)
    · replace hf := ite_f c2 hf
      refine g_iload_n C dX2_fact_19 rfl 1 rfl ?_
      refine g_iconst (v := (2 : Int32)) C dX2_fact_20 (by decide +kernel) ?_
      refine g_isub C dX2_fact_21 ?_
      refine g_istore_n (lv' := [(0, .ref pr), (1, .int v0), (2, .int (v0 - (2 : Int32)))]) C dX2_fact_22 rfl (by decide) [1, 2, 0] rfl ?_
      refine g_iload_n C dX2_fact_23 rfl 2 rfl ?_
      refine g_bipush (v := (6 : Int32)) C dX2_fact_24 (by decide +kernel) ?_
      refine g_icmp_ge (tgt := 38) C dX2_fact_26 (by decide) (fun c3 => ?_) (fun c3 => ?_)
      · replace hf := ite_t c3 hf
        refine g_aload_n C dX2_fact_38 rfl 0 rfl ?_
        refine g_get (C0 := RX2) (T := TX2) (N := 5) (ci := 2) (v := .ref pr_cells) C hm2_fact_0 0 rfl rfl 1 (by decide) hm2_fact_1 rfl dX2_fact_39 ?_
        refine g_iload_n C dX2_fact_42 rfl 2 rfl ?_
        refine g_bipush (v := (6 : Int32)) C dX2_fact_43 (by decide +kernel) ?_
        refine g_isub C dX2_fact_45 ?_
        obtain ⟨h4, hf⟩ := ck_some hf
        refine g_iald (n := 16) (v := (N (8 + ((v0 - (2 : Int32)) - (6 : Int32)).toNatClampNeg))) C 2 rfl h4 rfl rfl dX2_fact_46 ?_
        obtain rfl := Option.some.inj hf
        exact hR _ _ dX2_fact_47
      · replace hf := ite_f c3 hf
        refine g_aload_n C dX2_fact_29 rfl 0 rfl ?_
        refine g_get (C0 := RX2) (T := TX2) (N := 5) (ci := 2) (v := .ref pr_starts) C hm2_fact_0 0 rfl rfl 2 (by decide) hm2_fact_2 rfl dX2_fact_30 ?_
        refine g_iload_n C dX2_fact_33 rfl 2 rfl ?_
        obtain ⟨h5, hf⟩ := ck_some hf
        refine g_iald (n := 6) (v := (N (2 + (v0 - (2 : Int32)).toNatClampNeg))) C 3 rfl h5 rfl rfl dX2_fact_34 ?_
        refine g_goto (tgt := 47) C dX2_fact_35 (by decide) ?_
        obtain rfl := Option.some.inj hf
        exact hR _ _ dX2_fact_47
    · replace hf := ite_t c2 hf
      refine g_aload_n C dX2_fact_14 rfl 0 rfl ?_
      refine g_get (C0 := RX2) (T := TX2) (N := 5) (ci := 2) (v := .int (N 1)) C hm2_fact_0 0 rfl rfl 4 (by decide) hm2_fact_3 rfl dX2_fact_15 ?_
      obtain rfl := Option.some.inj hf
      exact hR _ _ dX2_fact_18
  · replace hf := ite_t c1 hf
    refine g_aload_n C dX2_fact_4 rfl 0 rfl ?_
    refine g_get (C0 := RX2) (T := TX2) (N := 5) (ci := 2) (v := .int (N 0)) C hm2_fact_0 0 rfl rfl 3 (by decide) hm2_fact_4 rfl dX2_fact_5 ?_
    obtain rfl := Option.some.inj hf
    exact hR _ _ dX2_fact_8

-- X2_mixInto
def f2_mixInto_29b (N : Nat → Int32) (k29 : Int64 × Int32 → Option (Int64)) (x1 : Int64) (x3 : Int32) : Option (Int64) :=
  if ((N 0) * (4 : Int32)) ≤ x3 then
    (some x1)
    else (ck (inb x3 80) <|
    k29 ((((31 : Int64) * x1) + (N (24 + x3.toNatClampNeg)).toInt64), (x3 + (1 : Int32))))
def f2_mixInto_29 (N : Nat → Int32) (n : Nat) (s : Int64 × Int32) : Option (Int64) := itf (fun k s => f2_mixInto_29b N k s.1 s.2) n s
def f2_mixInto_2b (N : Nat → Int32) (k2 : Int64 × Int32 → Option (Int64)) (x1 : Int64) (x3 : Int32) : Option (Int64) :=
  if (24 : Int32) ≤ x3 then
    (f2_mixInto_29 N 1000 (x1, (0 : Int32)))
    else ((f2_fact N x3).bind <| fun q4 =>
    k2 ((((31 : Int64) * x1) + q4.toInt64), (x3 + (1 : Int32))))
def f2_mixInto_2 (N : Nat → Int32) (n : Nat) (s : Int64 × Int32) : Option (Int64) := itf (fun k s => f2_mixInto_2b N k s.1 s.2) n s
def f2_mixInto (N : Nat → Int32) (v0 : Int64) : Option (Int64) :=
  f2_mixInto_2 N 1000 (v0, (0 : Int32))
def rm2_mixInto : Room := { frames := 1, cells := 0, slots := 0, locals := 22 }
theorem hm2_mixInto_0 : ∀ w ∈ u_ws RX2 TX2 5, w ∈ wsX2_mixInto := by decide +kernel
theorem hm2_mixInto_1 : Cond.fieldLink RX2 27 "SecretSteps$Program" "count" "I" ∈ wsX2_mixInto := by decide +kernel
theorem hm2_mixInto_2 : Cond.constantLong RX2 55 (31) ∈ wsX2_mixInto := by decide +kernel
theorem hm2_mixInto_3 : Cond.fieldLink RX2 9 "SecretSteps$Program" "lines" "[I" ∈ wsX2_mixInto := by decide +kernel
set_option maxHeartbeats 4000000 in
set_option maxRecDepth 100000 in
theorem k2_mixInto_29b {p : Program} {l : Launch} {e : Env} {s : State} {m : MethodId} {args : Array Value} {below : List Frame} {meth : Method} {c : Code} {G : gG} {A : Nat → Prop} {Q : State → Prop} {pr pr_lines pr_cells pr_starts : Nat} (C : CX p s m args meth c G A cX2_mixInto 4 RX2 wsX2_mixInto) {N : Nat → Int32} {k29 : Int64 × Int32 → Option (Int64)} {x1 : Int64} {x3 : Int32} {res : Int64} (hR : ∀ (lv : List (Nat × Value)) (pc : Nat), decode cX2_mixInto pc = .ok (.lreturn, 1) → GG p l e rm2_mixInto s m args below meth c G A 4 0 0 Q [(pr, oB 2 [.ref pr_lines, .ref pr_cells, .ref pr_starts, .int (N 0), .int (N 1)]), (pr_lines, aI G 80 (fun j => N (24 + j))), (pr_cells, aI G 16 (fun j => N (8 + j))), (pr_starts, aI G 6 (fun j => N (2 + j)))] lv pc [.long res])
    (hk29 : ∀ s', k29 s' = some res → GG p l e rm2_mixInto s m args below meth c G A 4 0 0 Q [(pr, oB 2 [.ref pr_lines, .ref pr_cells, .ref pr_starts, .int (N 0), .int (N 1)]), (pr_lines, aI G 80 (fun j => N (24 + j))), (pr_cells, aI G 16 (fun j => N (8 + j))), (pr_starts, aI G 6 (fun j => N (2 + j)))] [(0, .ref pr), (1, .long s'.1), (3, .int s'.2)] 29 [])
    (hf : f2_mixInto_29b N k29 x1 x3 = some res) : GG p l e rm2_mixInto s m args below meth c G A 4 0 0 Q [(pr, oB 2 [.ref pr_lines, .ref pr_cells, .ref pr_starts, .int (N 0), .int (N 1)]), (pr_lines, aI G 80 (fun j => N (24 + j))), (pr_cells, aI G 16 (fun j => N (8 + j))), (pr_starts, aI G 6 (fun j => N (2 + j)))] [(0, .ref pr), (1, .long x1), (3, .int x3)] 29 [] := by
  unfold f2_mixInto_29b at hf
  refine g_iload_n C dX2_mixInto_29 rfl 2 rfl ?_
  refine g_aload_n C dX2_mixInto_30 rfl 0 rfl ?_
  refine g_get (C0 := RX2) (T := TX2) (N := 5) (ci := 2) (v := .int (N 0)) C hm2_mixInto_0 0 rfl rfl 3 (by decide) hm2_mixInto_1 rfl dX2_mixInto_31 ?_
  refine g_iconst (v := (4 : Int32)) C dX2_mixInto_34 (by decide +kernel) ?_
  refine g_imul C dX2_mixInto_35 ?_
  refine g_icmp_ge (tgt := 59) C dX2_mixInto_36 (by decide) (fun c1 => ?_) (fun c1 => ?_)
  · replace hf := ite_t c1 hf
    refine g_lload_n C dX2_mixInto_59 rfl 1 rfl ?_
    obtain rfl := Option.some.inj hf
    exact hR _ _ dX2_mixInto_60
  · replace hf := ite_f c1 hf
    refine g_ldc2 C hm2_mixInto_2 dX2_mixInto_39 ?_
    refine g_lload_n C dX2_mixInto_42 rfl 1 rfl ?_
    refine g_lmul C dX2_mixInto_43 ?_
    refine g_aload_n C dX2_mixInto_44 rfl 0 rfl ?_
    refine g_get (C0 := RX2) (T := TX2) (N := 5) (ci := 2) (v := .ref pr_lines) C hm2_mixInto_0 0 rfl rfl 0 (by decide) hm2_mixInto_3 rfl dX2_mixInto_45 ?_
    refine g_iload_n C dX2_mixInto_48 rfl 2 rfl ?_
    obtain ⟨h2, hf⟩ := ck_some hf
    refine g_iald (n := 80) (v := (N (24 + x3.toNatClampNeg))) C 1 rfl h2 rfl rfl dX2_mixInto_49 ?_
    refine g_i2l C dX2_mixInto_50 ?_
    refine g_ladd C dX2_mixInto_51 ?_
    refine g_lstore_n (lv' := [(0, .ref pr), (1, .long (((31 : Int64) * x1) + (N (24 + x3.toNatClampNeg)).toInt64)), (3, .int x3)]) C dX2_mixInto_52 rfl (by decide) [1, 0, 2] rfl ?_
    refine g_iinc (v := (x3 + (1 : Int32))) (lv' := [(0, .ref pr), (1, .long (((31 : Int64) * x1) + (N (24 + x3.toNatClampNeg)).toInt64)), (3, .int (x3 + (1 : Int32)))]) C dX2_mixInto_53 2 rfl rfl (by decide) [1, 2, 0] rfl ?_
    refine g_goto (tgt := 29) C dX2_mixInto_56 (by decide) ?_
    exact hk29 _ hf
set_option maxHeartbeats 4000000 in
set_option maxRecDepth 100000 in
theorem k2_mixInto_29 {p : Program} {l : Launch} {e : Env} {s : State} {m : MethodId} {args : Array Value} {below : List Frame} {meth : Method} {c : Code} {G : gG} {A : Nat → Prop} {Q : State → Prop} {pr pr_lines pr_cells pr_starts : Nat} (C : CX p s m args meth c G A cX2_mixInto 4 RX2 wsX2_mixInto) {N : Nat → Int32} {res : Int64} (hR : ∀ (lv : List (Nat × Value)) (pc : Nat), decode cX2_mixInto pc = .ok (.lreturn, 1) → GG p l e rm2_mixInto s m args below meth c G A 4 0 0 Q [(pr, oB 2 [.ref pr_lines, .ref pr_cells, .ref pr_starts, .int (N 0), .int (N 1)]), (pr_lines, aI G 80 (fun j => N (24 + j))), (pr_cells, aI G 16 (fun j => N (8 + j))), (pr_starts, aI G 6 (fun j => N (2 + j)))] lv pc [.long res]) : ∀ (n : Nat) (s1 : Int64 × Int32), f2_mixInto_29 N n s1 = some res → GG p l e rm2_mixInto s m args below meth c G A 4 0 0 Q [(pr, oB 2 [.ref pr_lines, .ref pr_cells, .ref pr_starts, .int (N 0), .int (N 1)]), (pr_lines, aI G 80 (fun j => N (24 + j))), (pr_cells, aI G 16 (fun j => N (8 + j))), (pr_starts, aI G 6 (fun j => N (2 + j)))] [(0, .ref pr), (1, .long s1.1), (3, .int s1.2)] 29 [] :=
  itf_ind (fun k s1 ih hf => k2_mixInto_29b C hR ih hf)
set_option maxHeartbeats 4000000 in
set_option maxRecDepth 100000 in
theorem k2_mixInto_2b {p : Program} {l : Launch} {e : Env} {s : State} {m : MethodId} {args : Array Value} {below : List Frame} {meth : Method} {c : Code} {G : gG} {A : Nat → Prop} {Q : State → Prop} {pr pr_lines pr_cells pr_starts : Nat} (C : CX p s m args meth c G A cX2_mixInto 4 RX2 wsX2_mixInto) {N : Nat → Int32} {k2 : Int64 × Int32 → Option (Int64)} {x1 : Int64} {x3 : Int32} {res : Int64} (hR : ∀ (lv : List (Nat × Value)) (pc : Nat), decode cX2_mixInto pc = .ok (.lreturn, 1) → GG p l e rm2_mixInto s m args below meth c G A 4 0 0 Q [(pr, oB 2 [.ref pr_lines, .ref pr_cells, .ref pr_starts, .int (N 0), .int (N 1)]), (pr_lines, aI G 80 (fun j => N (24 + j))), (pr_cells, aI G 16 (fun j => N (8 + j))), (pr_starts, aI G 6 (fun j => N (2 + j)))] lv pc [.long res])
    (hk2 : ∀ s', k2 s' = some res → GG p l e rm2_mixInto s m args below meth c G A 4 0 0 Q [(pr, oB 2 [.ref pr_lines, .ref pr_cells, .ref pr_starts, .int (N 0), .int (N 1)]), (pr_lines, aI G 80 (fun j => N (24 + j))), (pr_cells, aI G 16 (fun j => N (8 + j))), (pr_starts, aI G 6 (fun j => N (2 + j)))] [(0, .ref pr), (1, .long s'.1), (3, .int s'.2)] 2 [])
    (hf : f2_mixInto_2b N k2 x1 x3 = some res) : GG p l e rm2_mixInto s m args below meth c G A 4 0 0 Q [(pr, oB 2 [.ref pr_lines, .ref pr_cells, .ref pr_starts, .int (N 0), .int (N 1)]), (pr_lines, aI G 80 (fun j => N (24 + j))), (pr_cells, aI G 16 (fun j => N (8 + j))), (pr_starts, aI G 6 (fun j => N (2 + j)))] [(0, .ref pr), (1, .long x1), (3, .int x3)] 2 [] := by
  unfold f2_mixInto_2b at hf
  refine g_iload_n C dX2_mixInto_2 rfl 2 rfl ?_
  refine g_bipush (v := (24 : Int32)) C dX2_mixInto_3 (by decide +kernel) ?_
  refine g_icmp_ge (tgt := 27) C dX2_mixInto_5 (by decide) (fun c3 => ?_) (fun c3 => ?_)
  · replace hf := ite_t c3 hf
    refine g_iconst (v := (0 : Int32)) C dX2_mixInto_27 (by decide +kernel) ?_
    refine g_istore_n (lv' := [(0, .ref pr), (1, .long x1), (3, .int (0 : Int32))]) C dX2_mixInto_28 rfl (by decide) [1, 2, 0] rfl ?_
    exact k2_mixInto_29 C hR _ _ hf
  · replace hf := ite_f c3 hf
    refine g_ldc2 C hm2_mixInto_2 dX2_mixInto_8 ?_
    refine g_lload_n C dX2_mixInto_11 rfl 1 rfl ?_
    refine g_lmul C dX2_mixInto_12 ?_
    refine g_aload_n C dX2_mixInto_13 rfl 0 rfl ?_
    refine g_iload_n C dX2_mixInto_14 rfl 2 rfl ?_
    obtain ⟨q4, hq4, hf⟩ := bs hf
    refine g_callVi (n := 1) (As := [.int x3]) (rest := [.long ((31 : Int64) * x1)]) (wc := [(pr, oB 2 [.ref pr_lines, .ref pr_cells, .ref pr_starts, .int (N 0), .int (N 1)]), (pr_lines, aI G 80 (fun j => N (24 + j))), (pr_cells, aI G 16 (fun j => N (8 + j))), (pr_starts, aI G 6 (fun j => N (2 + j)))]) (w1 := [(pr, oB 2 [.ref pr_lines, .ref pr_cells, .ref pr_starts, .int (N 0), .int (N 1)]), (pr_lines, aI G 80 (fun j => N (24 + j))), (pr_cells, aI G 16 (fun j => N (8 + j))), (pr_starts, aI G 6 (fun j => N (2 + j)))]) (wr := []) (WS' := [(pr, oB 2 [.ref pr_lines, .ref pr_cells, .ref pr_starts, .int (N 0), .int (N 1)]), (pr_lines, aI G 80 (fun j => N (24 + j))), (pr_cells, aI G 16 (fun j => N (8 + j))), (pr_starts, aI G 6 (fun j => N (2 + j)))]) C (c2_fact hq4) gX2_mixInto_X2_fact (by decide +kernel) rfl rfl rfl rfl rfl rfl ⟨by decide, by decide⟩ rfl [0, 1, 2, 3] [] [0, 1, 2, 3] rfl (by decide) rfl (by decide) (by decide) rfl (by decide) (Nat.le_of_ble_eq_true rfl) ⟨Nat.zero_le _, Nat.zero_le _⟩ rfl dX2_mixInto_15 ?_
    refine g_i2l C dX2_mixInto_18 ?_
    refine g_ladd C dX2_mixInto_19 ?_
    refine g_lstore_n (lv' := [(0, .ref pr), (1, .long (((31 : Int64) * x1) + q4.toInt64)), (3, .int x3)]) C dX2_mixInto_20 rfl (by decide) [1, 0, 2] rfl ?_
    refine g_iinc (v := (x3 + (1 : Int32))) (lv' := [(0, .ref pr), (1, .long (((31 : Int64) * x1) + q4.toInt64)), (3, .int (x3 + (1 : Int32)))]) C dX2_mixInto_21 2 rfl rfl (by decide) [1, 2, 0] rfl ?_
    refine g_goto (tgt := 2) C dX2_mixInto_24 (by decide) ?_
    exact hk2 _ hf
set_option maxHeartbeats 4000000 in
set_option maxRecDepth 100000 in
theorem k2_mixInto_2 {p : Program} {l : Launch} {e : Env} {s : State} {m : MethodId} {args : Array Value} {below : List Frame} {meth : Method} {c : Code} {G : gG} {A : Nat → Prop} {Q : State → Prop} {pr pr_lines pr_cells pr_starts : Nat} (C : CX p s m args meth c G A cX2_mixInto 4 RX2 wsX2_mixInto) {N : Nat → Int32} {res : Int64} (hR : ∀ (lv : List (Nat × Value)) (pc : Nat), decode cX2_mixInto pc = .ok (.lreturn, 1) → GG p l e rm2_mixInto s m args below meth c G A 4 0 0 Q [(pr, oB 2 [.ref pr_lines, .ref pr_cells, .ref pr_starts, .int (N 0), .int (N 1)]), (pr_lines, aI G 80 (fun j => N (24 + j))), (pr_cells, aI G 16 (fun j => N (8 + j))), (pr_starts, aI G 6 (fun j => N (2 + j)))] lv pc [.long res]) : ∀ (n : Nat) (s1 : Int64 × Int32), f2_mixInto_2 N n s1 = some res → GG p l e rm2_mixInto s m args below meth c G A 4 0 0 Q [(pr, oB 2 [.ref pr_lines, .ref pr_cells, .ref pr_starts, .int (N 0), .int (N 1)]), (pr_lines, aI G 80 (fun j => N (24 + j))), (pr_cells, aI G 16 (fun j => N (8 + j))), (pr_starts, aI G 6 (fun j => N (2 + j)))] [(0, .ref pr), (1, .long s1.1), (3, .int s1.2)] 2 [] :=
  itf_ind (fun k s1 ih hf => k2_mixInto_2b C hR ih hf)
set_option maxHeartbeats 4000000 in
set_option maxRecDepth 100000 in
theorem c2_mixInto {l : Launch} {G : gG} {pr pr_lines pr_cells pr_starts : Nat} {N : Nat → Int32} {v0 : Int64} {res : Int64} (hf : f2_mixInto N v0 = some res) : ML l yX2_mixInto wsX2_mixInto rm2_mixInto G [.ref pr, .long v0] [(pr, oB 2 [.ref pr_lines, .ref pr_cells, .ref pr_starts, .int (N 0), .int (N 1)]), (pr_lines, aI G 80 (fun j => N (24 + j))), (pr_cells, aI G 16 (fun j => N (8 + j))), (pr_starts, aI G 6 (fun j => N (2 + j)))] (res) [(pr, oB 2 [.ref pr_lines, .ref pr_cells, .ref pr_starts, .int (N 0), .int (N 1)]), (pr_lines, aI G 80 (fun j => N (24 + j))), (pr_cells, aI G 16 (fun j => N (8 + j))), (pr_starts, aI G 6 (fun j => N (2 + j)))] := by
  refine ML_of (res) (cc := cX2_mixInto) (nL := 4) (lv := [(0, .ref pr), (1, .long v0)]) (by decide +kernel) rfl (Nat.le_of_ble_eq_true rfl) rfl ?_
  intro p e s m args below meth c A Q C hR
  unfold f2_mixInto at hf
  refine g_iconst (v := (0 : Int32)) C dX2_mixInto_0 (by decide +kernel) ?_
  refine g_istore_n (lv' := [(0, .ref pr), (1, .long v0), (3, .int (0 : Int32))]) C dX2_mixInto_1 rfl (by decide) [1, 2, 0] rfl ?_
  exact k2_mixInto_2 C hR _ _ hf
