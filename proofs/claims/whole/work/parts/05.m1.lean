-- X7_bad
def f7_bad (refusals : Nat → Int32) : Option (Int32 × (Nat → Int32)) :=
  some ((-2 : Int32), (upd refusals 0 ((refusals 0) + (1 : Int32))))
def rm7_bad : Room := { frames := 0, cells := 0, slots := 0, locals := 0 }
theorem hm7_bad_0 : ∀ w ∈ u_ws RX7 TX7 24, w ∈ wsX7_bad := by decide +kernel
theorem hm7_bad_1 : Cond.fieldLink RX7 19 "SecretStepsModel" "refusals" "[I" ∈ wsX7_bad := by decide +kernel
set_option maxHeartbeats 4000000 in
set_option maxRecDepth 100000 in
theorem c7_bad {l : Launch} {G : gG} {mo mo_now mo_aside mo_past mo_refusals mo_text mo_vars mo_sights mo_isThere mo_taints mo_known mo_knows mo_letters mo_numbers : Nat} {states : Int32} {refusals : Nat → Int32} {length : Int32} {many : Int32} {steps : Int32} {isCut : Int32} {taint : Int32} {isOther : Int32} {at_ : Int32} {isFaulty : Int32} {orders : Int32} {hash : Int64} {res : Int32 × (Nat → Int32)} (hf : f7_bad refusals = some res) : MI l yX7_bad wsX7_bad rm7_bad G [.ref mo] [(mo, oB 7 [.ref mo_now, .ref mo_aside, .ref mo_past, .int states, .ref mo_refusals, .ref mo_text, .int length, .ref mo_vars, .ref mo_sights, .int many, .int steps, .int isCut, .ref mo_isThere, .ref mo_taints, .ref mo_known, .int taint, .ref mo_knows, .int isOther, .int at_, .int isFaulty, .int orders, .ref mo_letters, .ref mo_numbers, .long hash]), (mo_refusals, aI G 3 refusals)] (res.1) [(mo, oB 7 [.ref mo_now, .ref mo_aside, .ref mo_past, .int states, .ref mo_refusals, .ref mo_text, .int length, .ref mo_vars, .ref mo_sights, .int many, .int steps, .int isCut, .ref mo_isThere, .ref mo_taints, .ref mo_known, .int taint, .ref mo_knows, .int isOther, .int at_, .int isFaulty, .int orders, .ref mo_letters, .ref mo_numbers, .long hash]), (mo_refusals, aI G 3 res.2)] := by
  refine MI_of (res.1) (cc := cX7_bad) (nL := 1) (lv := [(0, .ref mo)]) (by decide +kernel) rfl (Nat.le_of_ble_eq_true rfl) rfl ?_
  intro p e s m args below meth c A Q C hR
  unfold f7_bad at hf
  refine g_aload_n C dX7_bad_0 rfl 0 rfl ?_
  refine g_get (C0 := RX7) (T := TX7) (N := 24) (ci := 7) (v := .ref mo_refusals) C hm7_bad_0 0 rfl rfl 4 (by decide) hm7_bad_1 rfl dX7_bad_1 ?_
  refine g_iconst (v := (0 : Int32)) C dX7_bad_4 (by decide +kernel) ?_
  refine g_dup2 C dX7_bad_5 rfl rfl ?_
  refine g_iald (n := 3) (v := (refusals 0)) C 1 rfl (by decide +kernel) (by decide +kernel) rfl dX7_bad_6 ?_
  refine g_iconst (v := (1 : Int32)) C dX7_bad_7 (by decide +kernel) ?_
  refine g_iadd C dX7_bad_8 ?_
  refine g_iast (n := 3) (WS' := [(mo, oB 7 [.ref mo_now, .ref mo_aside, .ref mo_past, .int states, .ref mo_refusals, .ref mo_text, .int length, .ref mo_vars, .ref mo_sights, .int many, .int steps, .int isCut, .ref mo_isThere, .ref mo_taints, .ref mo_known, .int taint, .ref mo_knows, .int isOther, .int at_, .int isFaulty, .int orders, .ref mo_letters, .ref mo_numbers, .long hash]), (mo_refusals, aI G 3 (upd refusals 0 ((refusals 0) + (1 : Int32))))]) C 1 rfl (by decide +kernel) (by decide +kernel) dX7_bad_9 rfl ?_
  refine g_bipush (v := (-2 : Int32)) C dX7_bad_10 (by decide +kernel) ?_
  obtain rfl := Option.some.inj hf
  exact hR _ _ dX7_bad_12

-- X7_no
def f7_no (refusals : Nat → Int32) : Option (Int32 × (Nat → Int32)) :=
  some ((-3 : Int32), (upd refusals 1 ((refusals 1) + (1 : Int32))))
def rm7_no : Room := { frames := 0, cells := 0, slots := 0, locals := 0 }
theorem hm7_no_0 : ∀ w ∈ u_ws RX7 TX7 24, w ∈ wsX7_no := by decide +kernel
theorem hm7_no_1 : Cond.fieldLink RX7 19 "SecretStepsModel" "refusals" "[I" ∈ wsX7_no := by decide +kernel
set_option maxHeartbeats 4000000 in
set_option maxRecDepth 100000 in
theorem c7_no {l : Launch} {G : gG} {mo mo_now mo_aside mo_past mo_refusals mo_text mo_vars mo_sights mo_isThere mo_taints mo_known mo_knows mo_letters mo_numbers : Nat} {states : Int32} {refusals : Nat → Int32} {length : Int32} {many : Int32} {steps : Int32} {isCut : Int32} {taint : Int32} {isOther : Int32} {at_ : Int32} {isFaulty : Int32} {orders : Int32} {hash : Int64} {res : Int32 × (Nat → Int32)} (hf : f7_no refusals = some res) : MI l yX7_no wsX7_no rm7_no G [.ref mo] [(mo, oB 7 [.ref mo_now, .ref mo_aside, .ref mo_past, .int states, .ref mo_refusals, .ref mo_text, .int length, .ref mo_vars, .ref mo_sights, .int many, .int steps, .int isCut, .ref mo_isThere, .ref mo_taints, .ref mo_known, .int taint, .ref mo_knows, .int isOther, .int at_, .int isFaulty, .int orders, .ref mo_letters, .ref mo_numbers, .long hash]), (mo_refusals, aI G 3 refusals)] (res.1) [(mo, oB 7 [.ref mo_now, .ref mo_aside, .ref mo_past, .int states, .ref mo_refusals, .ref mo_text, .int length, .ref mo_vars, .ref mo_sights, .int many, .int steps, .int isCut, .ref mo_isThere, .ref mo_taints, .ref mo_known, .int taint, .ref mo_knows, .int isOther, .int at_, .int isFaulty, .int orders, .ref mo_letters, .ref mo_numbers, .long hash]), (mo_refusals, aI G 3 res.2)] := by
  refine MI_of (res.1) (cc := cX7_no) (nL := 1) (lv := [(0, .ref mo)]) (by decide +kernel) rfl (Nat.le_of_ble_eq_true rfl) rfl ?_
  intro p e s m args below meth c A Q C hR
  unfold f7_no at hf
  refine g_aload_n C dX7_no_0 rfl 0 rfl ?_
  refine g_get (C0 := RX7) (T := TX7) (N := 24) (ci := 7) (v := .ref mo_refusals) C hm7_no_0 0 rfl rfl 4 (by decide) hm7_no_1 rfl dX7_no_1 ?_
  refine g_iconst (v := (1 : Int32)) C dX7_no_4 (by decide +kernel) ?_
  refine g_dup2 C dX7_no_5 rfl rfl ?_
  refine g_iald (n := 3) (v := (refusals 1)) C 1 rfl (by decide +kernel) (by decide +kernel) rfl dX7_no_6 ?_
  refine g_iconst (v := (1 : Int32)) C dX7_no_7 (by decide +kernel) ?_
  refine g_iadd C dX7_no_8 ?_
  refine g_iast (n := 3) (WS' := [(mo, oB 7 [.ref mo_now, .ref mo_aside, .ref mo_past, .int states, .ref mo_refusals, .ref mo_text, .int length, .ref mo_vars, .ref mo_sights, .int many, .int steps, .int isCut, .ref mo_isThere, .ref mo_taints, .ref mo_known, .int taint, .ref mo_knows, .int isOther, .int at_, .int isFaulty, .int orders, .ref mo_letters, .ref mo_numbers, .long hash]), (mo_refusals, aI G 3 (upd refusals 1 ((refusals 1) + (1 : Int32))))]) C 1 rfl (by decide +kernel) (by decide +kernel) dX7_no_9 rfl ?_
  refine g_bipush (v := (-3 : Int32)) C dX7_no_10 (by decide +kernel) ?_
  obtain rfl := Option.some.inj hf
  exact hR _ _ dX7_no_12

-- X7_full
def f7_full (refusals : Nat → Int32) : Option (Int32 × (Nat → Int32)) :=
  some ((-4 : Int32), (upd refusals 2 ((refusals 2) + (1 : Int32))))
def rm7_full : Room := { frames := 0, cells := 0, slots := 0, locals := 0 }
theorem hm7_full_0 : ∀ w ∈ u_ws RX7 TX7 24, w ∈ wsX7_full := by decide +kernel
theorem hm7_full_1 : Cond.fieldLink RX7 19 "SecretStepsModel" "refusals" "[I" ∈ wsX7_full := by decide +kernel
set_option maxHeartbeats 4000000 in
set_option maxRecDepth 100000 in
theorem c7_full {l : Launch} {G : gG} {mo mo_now mo_aside mo_past mo_refusals mo_text mo_vars mo_sights mo_isThere mo_taints mo_known mo_knows mo_letters mo_numbers : Nat} {states : Int32} {refusals : Nat → Int32} {length : Int32} {many : Int32} {steps : Int32} {isCut : Int32} {taint : Int32} {isOther : Int32} {at_ : Int32} {isFaulty : Int32} {orders : Int32} {hash : Int64} {res : Int32 × (Nat → Int32)} (hf : f7_full refusals = some res) : MI l yX7_full wsX7_full rm7_full G [.ref mo] [(mo, oB 7 [.ref mo_now, .ref mo_aside, .ref mo_past, .int states, .ref mo_refusals, .ref mo_text, .int length, .ref mo_vars, .ref mo_sights, .int many, .int steps, .int isCut, .ref mo_isThere, .ref mo_taints, .ref mo_known, .int taint, .ref mo_knows, .int isOther, .int at_, .int isFaulty, .int orders, .ref mo_letters, .ref mo_numbers, .long hash]), (mo_refusals, aI G 3 refusals)] (res.1) [(mo, oB 7 [.ref mo_now, .ref mo_aside, .ref mo_past, .int states, .ref mo_refusals, .ref mo_text, .int length, .ref mo_vars, .ref mo_sights, .int many, .int steps, .int isCut, .ref mo_isThere, .ref mo_taints, .ref mo_known, .int taint, .ref mo_knows, .int isOther, .int at_, .int isFaulty, .int orders, .ref mo_letters, .ref mo_numbers, .long hash]), (mo_refusals, aI G 3 res.2)] := by
  refine MI_of (res.1) (cc := cX7_full) (nL := 1) (lv := [(0, .ref mo)]) (by decide +kernel) rfl (Nat.le_of_ble_eq_true rfl) rfl ?_
  intro p e s m args below meth c A Q C hR
  unfold f7_full at hf
  refine g_aload_n C dX7_full_0 rfl 0 rfl ?_
  refine g_get (C0 := RX7) (T := TX7) (N := 24) (ci := 7) (v := .ref mo_refusals) C hm7_full_0 0 rfl rfl 4 (by decide) hm7_full_1 rfl dX7_full_1 ?_
  refine g_iconst (v := (2 : Int32)) C dX7_full_4 (by decide +kernel) ?_
  refine g_dup2 C dX7_full_5 rfl rfl ?_
  refine g_iald (n := 3) (v := (refusals 2)) C 1 rfl (by decide +kernel) (by decide +kernel) rfl dX7_full_6 ?_
  refine g_iconst (v := (1 : Int32)) C dX7_full_7 (by decide +kernel) ?_
  refine g_iadd C dX7_full_8 ?_
  refine g_iast (n := 3) (WS' := [(mo, oB 7 [.ref mo_now, .ref mo_aside, .ref mo_past, .int states, .ref mo_refusals, .ref mo_text, .int length, .ref mo_vars, .ref mo_sights, .int many, .int steps, .int isCut, .ref mo_isThere, .ref mo_taints, .ref mo_known, .int taint, .ref mo_knows, .int isOther, .int at_, .int isFaulty, .int orders, .ref mo_letters, .ref mo_numbers, .long hash]), (mo_refusals, aI G 3 (upd refusals 2 ((refusals 2) + (1 : Int32))))]) C 1 rfl (by decide +kernel) (by decide +kernel) dX7_full_9 rfl ?_
  refine g_bipush (v := (-4 : Int32)) C dX7_full_10 (by decide +kernel) ?_
  obtain rfl := Option.some.inj hf
  exact hR _ _ dX7_full_12

-- X7_within
def f7_within (v0 : Int32) (v1 : Int32) (v2 : Int32) : Option (Int32) :=
  if v0 < v1 then
    (some (0 : Int32))
    else (if v2 < v0 then
    (some (0 : Int32))
    else (some (1 : Int32)))
def rm7_within : Room := { frames := 0, cells := 0, slots := 0, locals := 0 }
set_option maxHeartbeats 4000000 in
set_option maxRecDepth 100000 in
theorem c7_within {l : Launch} {G : gG} {v0 : Int32} {v1 : Int32} {v2 : Int32} {res : Int32} (hf : f7_within v0 v1 v2 = some res) : MI l yX7_within wsX7_within rm7_within G [.int v0, .int v1, .int v2] [] (res) [] := by
  refine MZ_of (res) (cc := cX7_within) (nL := 3) (lv := [(0, .int v0), (1, .int v1), (2, .int v2)]) (by decide +kernel) rfl (Nat.le_of_ble_eq_true rfl) rfl ?_
  intro p e s m args below meth c A Q C hR
  unfold f7_within at hf
  refine g_iload_n C dX7_within_0 rfl 0 rfl ?_
  refine g_iload_n C dX7_within_1 rfl 1 rfl ?_
  refine g_icmp_lt (tgt := 14) C dX7_within_2 (by decide) (fun c1 => ?_) (fun c1 => ?_)
  · replace hf := ite_t c1 hf
    refine g_iconst (v := (0 : Int32)) C dX7_within_14 (by decide +kernel) ?_
    obtain rfl := Option.some.inj hf
    exact hR _ _ dX7_within_15 isb0
  · replace hf := ite_f c1 hf
    refine g_iload_n C dX7_within_5 rfl 0 rfl ?_
    refine g_iload_n C dX7_within_6 rfl 2 rfl ?_
    refine g_icmp_gt (tgt := 14) C dX7_within_7 (by decide) (fun c2 => ?_) (fun c2 => ?_)
    · replace hf := ite_t c2 hf
      refine g_iconst (v := (0 : Int32)) C dX7_within_14 (by decide +kernel) ?_
      obtain rfl := Option.some.inj hf
      exact hR _ _ dX7_within_15 isb0
    · replace hf := ite_f c2 hf
      refine g_iconst (v := (1 : Int32)) C dX7_within_10 (by decide +kernel) ?_
      refine g_goto (tgt := 15) C dX7_within_11 (by decide) ?_
      obtain rfl := Option.some.inj hf
      exact hR _ _ dX7_within_15 isb1

-- X7_has
def f7_has (v0 : Int32) (v1 : Int32) : Option (Int32) :=
  if ((sr32 v0 v1) &&& (1 : Int32)) = (1 : Int32) then
    (some (1 : Int32))
    else (some (0 : Int32))
def rm7_has : Room := { frames := 0, cells := 0, slots := 0, locals := 0 }
set_option maxHeartbeats 4000000 in
set_option maxRecDepth 100000 in
theorem c7_has {l : Launch} {G : gG} {v0 : Int32} {v1 : Int32} {res : Int32} (hf : f7_has v0 v1 = some res) : MI l yX7_has wsX7_has rm7_has G [.int v0, .int v1] [] (res) [] := by
  refine MZ_of (res) (cc := cX7_has) (nL := 2) (lv := [(0, .int v0), (1, .int v1)]) (by decide +kernel) rfl (Nat.le_of_ble_eq_true rfl) rfl ?_
  intro p e s m args below meth c A Q C hR
  unfold f7_has at hf
  refine g_iload_n C dX7_has_0 rfl 0 rfl ?_
  refine g_iload_n C dX7_has_1 rfl 1 rfl ?_
  refine g_ishr C dX7_has_2 ?_
  refine g_iconst (v := (1 : Int32)) C dX7_has_3 (by decide +kernel) ?_
  refine g_iand C dX7_has_4 ?_
  refine g_iconst (v := (1 : Int32)) C dX7_has_5 (by decide +kernel) ?_
  refine g_icmp_ne (tgt := 13) C dX7_has_6 (by decide) (fun c1 => ?_) (fun c1 => ?_)
  · replace hf := ite_f c1 hf
    refine g_iconst (v := (0 : Int32)) C dX7_has_13 (by decide +kernel) ?_
    obtain rfl := Option.some.inj hf
    exact hR _ _ dX7_has_14 isb0
  · replace hf := ite_t c1 hf
    refine g_iconst (v := (1 : Int32)) C dX7_has_9 (by decide +kernel) ?_
    refine g_goto (tgt := 14) C dX7_has_10 (by decide) ?_
    obtain rfl := Option.some.inj hf
    exact hR _ _ dX7_has_14 isb1

-- X7_isVariable
def f7_isVariable (v0 : Int32) : Option (Int32) :=
  (f7_within v0 (0 : Int32) (5 : Int32)).bind <| fun q1 =>
    ck (isb q1) <|
    some q1
def rm7_isVariable : Room := { frames := 1, cells := 0, slots := 0, locals := 22 }
set_option maxHeartbeats 4000000 in
set_option maxRecDepth 100000 in
theorem c7_isVariable {l : Launch} {G : gG} {v0 : Int32} {res : Int32} (hf : f7_isVariable v0 = some res) : MI l yX7_isVariable wsX7_isVariable rm7_isVariable G [.int v0] [] (res) [] := by
  refine MZ_of (res) (cc := cX7_isVariable) (nL := 1) (lv := [(0, .int v0)]) (by decide +kernel) rfl (Nat.le_of_ble_eq_true rfl) rfl ?_
  intro p e s m args below meth c A Q C hR
  unfold f7_isVariable at hf
  refine g_iload_n C dX7_isVariable_0 rfl 0 rfl ?_
  refine g_iconst (v := (0 : Int32)) C dX7_isVariable_1 (by decide +kernel) ?_
  refine g_iconst (v := (5 : Int32)) C dX7_isVariable_2 (by decide +kernel) ?_
  obtain ⟨q1, hq1, hf⟩ := bs hf
  refine g_callSi (n := 3) (As := [.int v0, .int (0 : Int32), .int (5 : Int32)]) (rest := []) (wc := []) (w1 := []) (wr := []) (WS' := []) C (c7_within hq1) gX7_isVariable_X7_within (by decide +kernel) rfl rfl rfl ⟨by decide, by decide⟩ rfl [] [] [] rfl (by decide) rfl (by decide) (by decide) rfl (by decide) (Nat.le_of_ble_eq_true rfl) ⟨Nat.zero_le _, Nat.zero_le _⟩ rfl dX7_isVariable_3 ?_
  obtain ⟨h2, hf⟩ := ck_some hf
  obtain rfl := Option.some.inj hf
  exact hR _ _ dX7_isVariable_6 h2

-- X7_isNumber
def f7_isNumber (v0 : Int32) : Option (Int32) :=
  (f7_within v0 (0 : Int32) (15 : Int32)).bind <| fun q1 =>
    ck (isb q1) <|
    some q1
def rm7_isNumber : Room := { frames := 1, cells := 0, slots := 0, locals := 22 }
set_option maxHeartbeats 4000000 in
set_option maxRecDepth 100000 in
theorem c7_isNumber {l : Launch} {G : gG} {v0 : Int32} {res : Int32} (hf : f7_isNumber v0 = some res) : MI l yX7_isNumber wsX7_isNumber rm7_isNumber G [.int v0] [] (res) [] := by
  refine MZ_of (res) (cc := cX7_isNumber) (nL := 1) (lv := [(0, .int v0)]) (by decide +kernel) rfl (Nat.le_of_ble_eq_true rfl) rfl ?_
  intro p e s m args below meth c A Q C hR
  unfold f7_isNumber at hf
  refine g_iload_n C dX7_isNumber_0 rfl 0 rfl ?_
  refine g_iconst (v := (0 : Int32)) C dX7_isNumber_1 (by decide +kernel) ?_
  refine g_bipush (v := (15 : Int32)) C dX7_isNumber_2 (by decide +kernel) ?_
  obtain ⟨q1, hq1, hf⟩ := bs hf
  refine g_callSi (n := 3) (As := [.int v0, .int (0 : Int32), .int (15 : Int32)]) (rest := []) (wc := []) (w1 := []) (wr := []) (WS' := []) C (c7_within hq1) gX7_isNumber_X7_within (by decide +kernel) rfl rfl rfl ⟨by decide, by decide⟩ rfl [] [] [] rfl (by decide) rfl (by decide) (by decide) rfl (by decide) (Nat.le_of_ble_eq_true rfl) ⟨Nat.zero_le _, Nat.zero_le _⟩ rfl dX7_isNumber_4 ?_
  obtain ⟨h2, hf⟩ := ck_some hf
  obtain rfl := Option.some.inj hf
  exact hR _ _ dX7_isNumber_7 h2

-- X7_isLine
def f7_isLine (now : Nat → Int32) (v0 : Int32) : Option (Int32) :=
  (f7_within v0 (0 : Int32) ((now 0) - (1 : Int32))).bind <| fun q1 =>
    ck (isb q1) <|
    some q1
def rm7_isLine : Room := { frames := 1, cells := 0, slots := 0, locals := 22 }
theorem hm7_isLine_0 : ∀ w ∈ u_ws RX7 TX7 24, w ∈ wsX7_isLine := by decide +kernel
theorem hm7_isLine_1 : Cond.fieldLink RX7 7 "SecretStepsModel" "now" "[I" ∈ wsX7_isLine := by decide +kernel
set_option maxHeartbeats 4000000 in
set_option maxRecDepth 100000 in
theorem c7_isLine {l : Launch} {G : gG} {mo mo_now mo_aside mo_past mo_refusals mo_text mo_vars mo_sights mo_isThere mo_taints mo_known mo_knows mo_letters mo_numbers : Nat} {now : Nat → Int32} {states : Int32} {length : Int32} {many : Int32} {steps : Int32} {isCut : Int32} {taint : Int32} {isOther : Int32} {at_ : Int32} {isFaulty : Int32} {orders : Int32} {hash : Int64} {v0 : Int32} {res : Int32} (hf : f7_isLine now v0 = some res) : MI l yX7_isLine wsX7_isLine rm7_isLine G [.ref mo, .int v0] [(mo, oB 7 [.ref mo_now, .ref mo_aside, .ref mo_past, .int states, .ref mo_refusals, .ref mo_text, .int length, .ref mo_vars, .ref mo_sights, .int many, .int steps, .int isCut, .ref mo_isThere, .ref mo_taints, .ref mo_known, .int taint, .ref mo_knows, .int isOther, .int at_, .int isFaulty, .int orders, .ref mo_letters, .ref mo_numbers, .long hash]), (mo_now, aI G 104 now)] (res) [(mo, oB 7 [.ref mo_now, .ref mo_aside, .ref mo_past, .int states, .ref mo_refusals, .ref mo_text, .int length, .ref mo_vars, .ref mo_sights, .int many, .int steps, .int isCut, .ref mo_isThere, .ref mo_taints, .ref mo_known, .int taint, .ref mo_knows, .int isOther, .int at_, .int isFaulty, .int orders, .ref mo_letters, .ref mo_numbers, .long hash]), (mo_now, aI G 104 now)] := by
  refine MZ_of (res) (cc := cX7_isLine) (nL := 2) (lv := [(0, .ref mo), (1, .int v0)]) (by decide +kernel) rfl (Nat.le_of_ble_eq_true rfl) rfl ?_
  intro p e s m args below meth c A Q C hR
  unfold f7_isLine at hf
  refine g_iload_n C dX7_isLine_0 rfl 1 rfl ?_
  refine g_iconst (v := (0 : Int32)) C dX7_isLine_1 (by decide +kernel) ?_
  refine g_aload_n C dX7_isLine_2 rfl 0 rfl ?_
  refine g_get (C0 := RX7) (T := TX7) (N := 24) (ci := 7) (v := .ref mo_now) C hm7_isLine_0 0 rfl rfl 0 (by decide) hm7_isLine_1 rfl dX7_isLine_3 ?_
  refine g_iconst (v := (0 : Int32)) C dX7_isLine_6 (by decide +kernel) ?_
  refine g_iald (n := 104) (v := (now 0)) C 1 rfl (by decide +kernel) (by decide +kernel) rfl dX7_isLine_7 ?_
  refine g_iconst (v := (1 : Int32)) C dX7_isLine_8 (by decide +kernel) ?_
  refine g_isub C dX7_isLine_9 ?_
  obtain ⟨q1, hq1, hf⟩ := bs hf
  refine g_callSi (n := 3) (As := [.int v0, .int (0 : Int32), .int ((now 0) - (1 : Int32))]) (rest := []) (wc := []) (w1 := []) (wr := [(mo, oB 7 [.ref mo_now, .ref mo_aside, .ref mo_past, .int states, .ref mo_refusals, .ref mo_text, .int length, .ref mo_vars, .ref mo_sights, .int many, .int steps, .int isCut, .ref mo_isThere, .ref mo_taints, .ref mo_known, .int taint, .ref mo_knows, .int isOther, .int at_, .int isFaulty, .int orders, .ref mo_letters, .ref mo_numbers, .long hash]), (mo_now, aI G 104 now)]) (WS' := [(mo, oB 7 [.ref mo_now, .ref mo_aside, .ref mo_past, .int states, .ref mo_refusals, .ref mo_text, .int length, .ref mo_vars, .ref mo_sights, .int many, .int steps, .int isCut, .ref mo_isThere, .ref mo_taints, .ref mo_known, .int taint, .ref mo_knows, .int isOther, .int at_, .int isFaulty, .int orders, .ref mo_letters, .ref mo_numbers, .long hash]), (mo_now, aI G 104 now)]) C (c7_within hq1) gX7_isLine_X7_within (by decide +kernel) rfl rfl rfl ⟨by decide, by decide⟩ rfl [] [0, 1] [0, 1] rfl (by decide) rfl (by decide) (by decide) rfl (by decide) (Nat.le_of_ble_eq_true rfl) ⟨Nat.zero_le _, Nat.zero_le _⟩ rfl dX7_isLine_10 ?_
  obtain ⟨h2, hf⟩ := ck_some hf
  obtain rfl := Option.some.inj hf
  exact hR _ _ dX7_isLine_13 h2

-- X7_partOf
def f7_partOf (now : Nat → Int32) (v0 : Int32) (v1 : Int32) : Option (Int32) :=
  ck (inb (((24 : Int32) + ((4 : Int32) * v0)) + v1) 104) <|
    some (now (((24 : Int32) + ((4 : Int32) * v0)) + v1).toNatClampNeg)
def rm7_partOf : Room := { frames := 0, cells := 0, slots := 0, locals := 0 }
theorem hm7_partOf_0 : ∀ w ∈ u_ws RX7 TX7 24, w ∈ wsX7_partOf := by decide +kernel
theorem hm7_partOf_1 : Cond.fieldLink RX7 7 "SecretStepsModel" "now" "[I" ∈ wsX7_partOf := by decide +kernel
set_option maxHeartbeats 4000000 in
set_option maxRecDepth 100000 in
theorem c7_partOf {l : Launch} {G : gG} {mo mo_now mo_aside mo_past mo_refusals mo_text mo_vars mo_sights mo_isThere mo_taints mo_known mo_knows mo_letters mo_numbers : Nat} {now : Nat → Int32} {states : Int32} {length : Int32} {many : Int32} {steps : Int32} {isCut : Int32} {taint : Int32} {isOther : Int32} {at_ : Int32} {isFaulty : Int32} {orders : Int32} {hash : Int64} {v0 : Int32} {v1 : Int32} {res : Int32} (hf : f7_partOf now v0 v1 = some res) : MI l yX7_partOf wsX7_partOf rm7_partOf G [.ref mo, .int v0, .int v1] [(mo, oB 7 [.ref mo_now, .ref mo_aside, .ref mo_past, .int states, .ref mo_refusals, .ref mo_text, .int length, .ref mo_vars, .ref mo_sights, .int many, .int steps, .int isCut, .ref mo_isThere, .ref mo_taints, .ref mo_known, .int taint, .ref mo_knows, .int isOther, .int at_, .int isFaulty, .int orders, .ref mo_letters, .ref mo_numbers, .long hash]), (mo_now, aI G 104 now)] (res) [(mo, oB 7 [.ref mo_now, .ref mo_aside, .ref mo_past, .int states, .ref mo_refusals, .ref mo_text, .int length, .ref mo_vars, .ref mo_sights, .int many, .int steps, .int isCut, .ref mo_isThere, .ref mo_taints, .ref mo_known, .int taint, .ref mo_knows, .int isOther, .int at_, .int isFaulty, .int orders, .ref mo_letters, .ref mo_numbers, .long hash]), (mo_now, aI G 104 now)] := by
  refine MI_of (res) (cc := cX7_partOf) (nL := 3) (lv := [(0, .ref mo), (1, .int v0), (2, .int v1)]) (by decide +kernel) rfl (Nat.le_of_ble_eq_true rfl) rfl ?_
  intro p e s m args below meth c A Q C hR
  unfold f7_partOf at hf
  refine g_aload_n C dX7_partOf_0 rfl 0 rfl ?_
  refine g_get (C0 := RX7) (T := TX7) (N := 24) (ci := 7) (v := .ref mo_now) C hm7_partOf_0 0 rfl rfl 0 (by decide) hm7_partOf_1 rfl dX7_partOf_1 ?_
  refine g_bipush (v := (24 : Int32)) C dX7_partOf_4 (by decide +kernel) ?_
  refine g_iconst (v := (4 : Int32)) C dX7_partOf_6 (by decide +kernel) ?_
  refine g_iload_n C dX7_partOf_7 rfl 1 rfl ?_
  refine g_imul C dX7_partOf_8 ?_
  refine g_iadd C dX7_partOf_9 ?_
  refine g_iload_n C dX7_partOf_10 rfl 2 rfl ?_
  refine g_iadd C dX7_partOf_11 ?_
  obtain ⟨h1, hf⟩ := ck_some hf
  refine g_iald (n := 104) (v := (now (((24 : Int32) + ((4 : Int32) * v0)) + v1).toNatClampNeg)) C 1 rfl h1 rfl rfl dX7_partOf_12 ?_
  obtain rfl := Option.some.inj hf
  exact hR _ _ dX7_partOf_13

-- X7_laysAside
def f7_laysAside_2b (now : Nat → Int32) (k2 : (Nat → Int32) × Int32 → Option ((Nat → Int32))) (aside : Nat → Int32) (x1 : Int32) : Option ((Nat → Int32)) :=
  if (104 : Int32) ≤ x1 then
    (some aside)
    else (ck (inb x1 104) <|
    ck (inb x1 104) <|
    k2 ((upd aside x1.toNatClampNeg (now x1.toNatClampNeg)), (x1 + (1 : Int32))))
def f7_laysAside_2 (now : Nat → Int32) (n : Nat) (s : (Nat → Int32) × Int32) : Option ((Nat → Int32)) := itf (fun k s => f7_laysAside_2b now k s.1 s.2) n s
def f7_laysAside (now : Nat → Int32) (aside : Nat → Int32) : Option ((Nat → Int32)) :=
  f7_laysAside_2 now 1000 (aside, (0 : Int32))
def rm7_laysAside : Room := { frames := 0, cells := 0, slots := 0, locals := 0 }
theorem hm7_laysAside_0 : ∀ w ∈ u_ws RX7 TX7 24, w ∈ wsX7_laysAside := by decide +kernel
theorem hm7_laysAside_1 : Cond.fieldLink RX7 13 "SecretStepsModel" "aside" "[I" ∈ wsX7_laysAside := by decide +kernel
theorem hm7_laysAside_2 : Cond.fieldLink RX7 7 "SecretStepsModel" "now" "[I" ∈ wsX7_laysAside := by decide +kernel
set_option maxHeartbeats 4000000 in
set_option maxRecDepth 100000 in
theorem k7_laysAside_2b {p : Program} {l : Launch} {e : Env} {s : State} {m : MethodId} {args : Array Value} {below : List Frame} {meth : Method} {c : Code} {G : gG} {A : Nat → Prop} {Q : State → Prop} {mo mo_now mo_aside mo_past mo_refusals mo_text mo_vars mo_sights mo_isThere mo_taints mo_known mo_knows mo_letters mo_numbers : Nat} (C : CX p s m args meth c G A cX7_laysAside 2 RX7 wsX7_laysAside) {states : Int32} {length : Int32} {many : Int32} {steps : Int32} {isCut : Int32} {taint : Int32} {isOther : Int32} {at_ : Int32} {isFaulty : Int32} {orders : Int32} {hash : Int64} {now : Nat → Int32} {k2 : (Nat → Int32) × Int32 → Option ((Nat → Int32))} {aside : Nat → Int32} {x1 : Int32} {res : (Nat → Int32)} (hR : ∀ (lv : List (Nat × Value)) (pc : Nat), decode cX7_laysAside pc = .ok (.return_, 1) → GG p l e rm7_laysAside s m args below meth c G A 2 0 0 Q [(mo, oB 7 [.ref mo_now, .ref mo_aside, .ref mo_past, .int states, .ref mo_refusals, .ref mo_text, .int length, .ref mo_vars, .ref mo_sights, .int many, .int steps, .int isCut, .ref mo_isThere, .ref mo_taints, .ref mo_known, .int taint, .ref mo_knows, .int isOther, .int at_, .int isFaulty, .int orders, .ref mo_letters, .ref mo_numbers, .long hash]), (mo_now, aI G 104 now), (mo_aside, aI G 104 res)] lv pc [])
    (hk2 : ∀ s', k2 s' = some res → GG p l e rm7_laysAside s m args below meth c G A 2 0 0 Q [(mo, oB 7 [.ref mo_now, .ref mo_aside, .ref mo_past, .int states, .ref mo_refusals, .ref mo_text, .int length, .ref mo_vars, .ref mo_sights, .int many, .int steps, .int isCut, .ref mo_isThere, .ref mo_taints, .ref mo_known, .int taint, .ref mo_knows, .int isOther, .int at_, .int isFaulty, .int orders, .ref mo_letters, .ref mo_numbers, .long hash]), (mo_now, aI G 104 now), (mo_aside, aI G 104 s'.1)] [(0, .ref mo), (1, .int s'.2)] 2 [])
    (hf : f7_laysAside_2b now k2 aside x1 = some res) : GG p l e rm7_laysAside s m args below meth c G A 2 0 0 Q [(mo, oB 7 [.ref mo_now, .ref mo_aside, .ref mo_past, .int states, .ref mo_refusals, .ref mo_text, .int length, .ref mo_vars, .ref mo_sights, .int many, .int steps, .int isCut, .ref mo_isThere, .ref mo_taints, .ref mo_known, .int taint, .ref mo_knows, .int isOther, .int at_, .int isFaulty, .int orders, .ref mo_letters, .ref mo_numbers, .long hash]), (mo_now, aI G 104 now), (mo_aside, aI G 104 aside)] [(0, .ref mo), (1, .int x1)] 2 [] := by
  unfold f7_laysAside_2b at hf
  refine g_iload_n C dX7_laysAside_2 rfl 1 rfl ?_
  refine g_bipush (v := (104 : Int32)) C dX7_laysAside_3 (by decide +kernel) ?_
  refine g_icmp_ge (tgt := 26) C dX7_laysAside_5 (by decide) (fun c1 => ?_) (fun c1 => ?_)
  · replace hf := ite_t c1 hf
    obtain rfl := Option.some.inj hf
    exact hR _ _ dX7_laysAside_26
  · replace hf := ite_f c1 hf
    refine g_aload_n C dX7_laysAside_8 rfl 0 rfl ?_
    refine g_get (C0 := RX7) (T := TX7) (N := 24) (ci := 7) (v := .ref mo_aside) C hm7_laysAside_0 0 rfl rfl 1 (by decide) hm7_laysAside_1 rfl dX7_laysAside_9 ?_
    refine g_iload_n C dX7_laysAside_12 rfl 1 rfl ?_
    refine g_aload_n C dX7_laysAside_13 rfl 0 rfl ?_
    refine g_get (C0 := RX7) (T := TX7) (N := 24) (ci := 7) (v := .ref mo_now) C hm7_laysAside_0 0 rfl rfl 0 (by decide) hm7_laysAside_2 rfl dX7_laysAside_14 ?_
    refine g_iload_n C dX7_laysAside_17 rfl 1 rfl ?_
    obtain ⟨h2, hf⟩ := ck_some hf
    refine g_iald (n := 104) (v := (now x1.toNatClampNeg)) C 1 rfl h2 rfl rfl dX7_laysAside_18 ?_
    obtain ⟨h3, hf⟩ := ck_some hf
    refine g_iast (n := 104) (WS' := [(mo, oB 7 [.ref mo_now, .ref mo_aside, .ref mo_past, .int states, .ref mo_refusals, .ref mo_text, .int length, .ref mo_vars, .ref mo_sights, .int many, .int steps, .int isCut, .ref mo_isThere, .ref mo_taints, .ref mo_known, .int taint, .ref mo_knows, .int isOther, .int at_, .int isFaulty, .int orders, .ref mo_letters, .ref mo_numbers, .long hash]), (mo_now, aI G 104 now), (mo_aside, aI G 104 (upd aside x1.toNatClampNeg (now x1.toNatClampNeg)))]) C 2 rfl h3 rfl dX7_laysAside_19 rfl ?_
    refine g_iinc (v := (x1 + (1 : Int32))) (lv' := [(0, .ref mo), (1, .int (x1 + (1 : Int32)))]) C dX7_laysAside_20 1 rfl rfl (by decide) [1, 0] rfl ?_
    refine g_goto (tgt := 2) C dX7_laysAside_23 (by decide) ?_
    exact hk2 _ hf
set_option maxHeartbeats 4000000 in
set_option maxRecDepth 100000 in
theorem k7_laysAside_2 {p : Program} {l : Launch} {e : Env} {s : State} {m : MethodId} {args : Array Value} {below : List Frame} {meth : Method} {c : Code} {G : gG} {A : Nat → Prop} {Q : State → Prop} {mo mo_now mo_aside mo_past mo_refusals mo_text mo_vars mo_sights mo_isThere mo_taints mo_known mo_knows mo_letters mo_numbers : Nat} (C : CX p s m args meth c G A cX7_laysAside 2 RX7 wsX7_laysAside) {states : Int32} {length : Int32} {many : Int32} {steps : Int32} {isCut : Int32} {taint : Int32} {isOther : Int32} {at_ : Int32} {isFaulty : Int32} {orders : Int32} {hash : Int64} {now : Nat → Int32} {res : (Nat → Int32)} (hR : ∀ (lv : List (Nat × Value)) (pc : Nat), decode cX7_laysAside pc = .ok (.return_, 1) → GG p l e rm7_laysAside s m args below meth c G A 2 0 0 Q [(mo, oB 7 [.ref mo_now, .ref mo_aside, .ref mo_past, .int states, .ref mo_refusals, .ref mo_text, .int length, .ref mo_vars, .ref mo_sights, .int many, .int steps, .int isCut, .ref mo_isThere, .ref mo_taints, .ref mo_known, .int taint, .ref mo_knows, .int isOther, .int at_, .int isFaulty, .int orders, .ref mo_letters, .ref mo_numbers, .long hash]), (mo_now, aI G 104 now), (mo_aside, aI G 104 res)] lv pc []) : ∀ (n : Nat) (s1 : (Nat → Int32) × Int32), f7_laysAside_2 now n s1 = some res → GG p l e rm7_laysAside s m args below meth c G A 2 0 0 Q [(mo, oB 7 [.ref mo_now, .ref mo_aside, .ref mo_past, .int states, .ref mo_refusals, .ref mo_text, .int length, .ref mo_vars, .ref mo_sights, .int many, .int steps, .int isCut, .ref mo_isThere, .ref mo_taints, .ref mo_known, .int taint, .ref mo_knows, .int isOther, .int at_, .int isFaulty, .int orders, .ref mo_letters, .ref mo_numbers, .long hash]), (mo_now, aI G 104 now), (mo_aside, aI G 104 s1.1)] [(0, .ref mo), (1, .int s1.2)] 2 [] :=
  itf_ind (fun k s1 ih hf => k7_laysAside_2b C hR ih hf)
set_option maxHeartbeats 4000000 in
set_option maxRecDepth 100000 in
theorem c7_laysAside {l : Launch} {G : gG} {mo mo_now mo_aside mo_past mo_refusals mo_text mo_vars mo_sights mo_isThere mo_taints mo_known mo_knows mo_letters mo_numbers : Nat} {now : Nat → Int32} {aside : Nat → Int32} {states : Int32} {length : Int32} {many : Int32} {steps : Int32} {isCut : Int32} {taint : Int32} {isOther : Int32} {at_ : Int32} {isFaulty : Int32} {orders : Int32} {hash : Int64} {res : (Nat → Int32)} (hf : f7_laysAside now aside = some res) : MV l yX7_laysAside wsX7_laysAside rm7_laysAside G [.ref mo] [(mo, oB 7 [.ref mo_now, .ref mo_aside, .ref mo_past, .int states, .ref mo_refusals, .ref mo_text, .int length, .ref mo_vars, .ref mo_sights, .int many, .int steps, .int isCut, .ref mo_isThere, .ref mo_taints, .ref mo_known, .int taint, .ref mo_knows, .int isOther, .int at_, .int isFaulty, .int orders, .ref mo_letters, .ref mo_numbers, .long hash]), (mo_now, aI G 104 now), (mo_aside, aI G 104 aside)] [(mo, oB 7 [.ref mo_now, .ref mo_aside, .ref mo_past, .int states, .ref mo_refusals, .ref mo_text, .int length, .ref mo_vars, .ref mo_sights, .int many, .int steps, .int isCut, .ref mo_isThere, .ref mo_taints, .ref mo_known, .int taint, .ref mo_knows, .int isOther, .int at_, .int isFaulty, .int orders, .ref mo_letters, .ref mo_numbers, .long hash]), (mo_now, aI G 104 now), (mo_aside, aI G 104 res)] := by
  refine MV_of (cc := cX7_laysAside) (nL := 2) (lv := [(0, .ref mo)]) (by decide +kernel) rfl (Nat.le_of_ble_eq_true rfl) rfl ?_
  intro p e s m args below meth c A Q C hR
  unfold f7_laysAside at hf
  refine g_iconst (v := (0 : Int32)) C dX7_laysAside_0 (by decide +kernel) ?_
  refine g_istore_n (lv' := [(0, .ref mo), (1, .int (0 : Int32))]) C dX7_laysAside_1 rfl (by decide) [1, 0] rfl ?_
  exact k7_laysAside_2 C hR _ _ hf

-- X7_leaves
def f7_leaves_82 (aside : Nat → Int32) (past : Nat → Int32) (states : Int32) (x1 : Int32) : Option ((Nat → Int32) × Int32) :=
  some (past, (states + (1 : Int32)))
def f7_leaves_50b (aside : Nat → Int32) (k50 : (Nat → Int32) × Int32 × Int32 → Option ((Nat → Int32) × Int32)) (past : Nat → Int32) (states : Int32) (x1 : Int32) : Option ((Nat → Int32) × Int32) :=
  if (104 : Int32) ≤ x1 then
    (f7_leaves_82 aside past states x1)
    else (ck (inb x1 104) <|
    ck (inb (((104 : Int32) * states) + x1) 520) <|
    k50 ((upd past (((104 : Int32) * states) + x1).toNatClampNeg (aside x1.toNatClampNeg)), states, (x1 + (1 : Int32))))
def f7_leaves_50 (aside : Nat → Int32) (n : Nat) (s : (Nat → Int32) × Int32 × Int32) : Option ((Nat → Int32) × Int32) := itf (fun k s => f7_leaves_50b aside k s.1 s.2.1 s.2.2) n s
def f7_leaves_38 (aside : Nat → Int32) (past : Nat → Int32) (states : Int32) (x1 : Int32) : Option ((Nat → Int32) × Int32) :=
  f7_leaves_50 aside 1000 (past, (states - (1 : Int32)), (0 : Int32))
def f7_leaves_10b (aside : Nat → Int32) (k10 : (Nat → Int32) × Int32 × Int32 → Option ((Nat → Int32) × Int32)) (past : Nat → Int32) (states : Int32) (x1 : Int32) : Option ((Nat → Int32) × Int32) :=
  if (416 : Int32) ≤ x1 then
    (f7_leaves_38 aside past states x1)
    else (ck (inb (x1 + (104 : Int32)) 520) <|
    ck (inb x1 520) <|
    k10 ((upd past x1.toNatClampNeg (past (x1 + (104 : Int32)).toNatClampNeg)), states, (x1 + (1 : Int32))))
def f7_leaves_10 (aside : Nat → Int32) (n : Nat) (s : (Nat → Int32) × Int32 × Int32) : Option ((Nat → Int32) × Int32) := itf (fun k s => f7_leaves_10b aside k s.1 s.2.1 s.2.2) n s
def f7_leaves (aside : Nat → Int32) (past : Nat → Int32) (states : Int32) : Option ((Nat → Int32) × Int32) :=
  if states = (5 : Int32) then
    (f7_leaves_10 aside 1000 (past, states, (0 : Int32)))
    else (f7_leaves_50 aside 1000 (past, states, (0 : Int32)))
def rm7_leaves : Room := { frames := 0, cells := 0, slots := 0, locals := 0 }
theorem hm7_leaves_0 : ∀ w ∈ u_ws RX7 TX7 24, w ∈ wsX7_leaves := by decide +kernel
theorem hm7_leaves_1 : Cond.fieldLink RX7 54 "SecretStepsModel" "states" "I" ∈ wsX7_leaves := by decide +kernel
theorem hm7_leaves_2 : Cond.fieldLink RX7 16 "SecretStepsModel" "past" "[I" ∈ wsX7_leaves := by decide +kernel
theorem hm7_leaves_3 : Cond.fieldLink RX7 13 "SecretStepsModel" "aside" "[I" ∈ wsX7_leaves := by decide +kernel
set_option maxHeartbeats 4000000 in
set_option maxRecDepth 100000 in
theorem k7_leaves_82 {p : Program} {l : Launch} {e : Env} {s : State} {m : MethodId} {args : Array Value} {below : List Frame} {meth : Method} {c : Code} {G : gG} {A : Nat → Prop} {Q : State → Prop} {mo mo_now mo_aside mo_past mo_refusals mo_text mo_vars mo_sights mo_isThere mo_taints mo_known mo_knows mo_letters mo_numbers : Nat} (C : CX p s m args meth c G A cX7_leaves 2 RX7 wsX7_leaves) {length : Int32} {many : Int32} {steps : Int32} {isCut : Int32} {taint : Int32} {isOther : Int32} {at_ : Int32} {isFaulty : Int32} {orders : Int32} {hash : Int64} {aside : Nat → Int32} {past : Nat → Int32} {states : Int32} {x1 : Int32} {res : (Nat → Int32) × Int32} (hR : ∀ (lv : List (Nat × Value)) (pc : Nat), decode cX7_leaves pc = .ok (.return_, 1) → GG p l e rm7_leaves s m args below meth c G A 2 0 0 Q [(mo, oB 7 [.ref mo_now, .ref mo_aside, .ref mo_past, .int res.2, .ref mo_refusals, .ref mo_text, .int length, .ref mo_vars, .ref mo_sights, .int many, .int steps, .int isCut, .ref mo_isThere, .ref mo_taints, .ref mo_known, .int taint, .ref mo_knows, .int isOther, .int at_, .int isFaulty, .int orders, .ref mo_letters, .ref mo_numbers, .long hash]), (mo_aside, aI G 104 aside), (mo_past, aI G 520 res.1)] lv pc [])
    (hf : f7_leaves_82 aside past states x1 = some res) : GG p l e rm7_leaves s m args below meth c G A 2 0 0 Q [(mo, oB 7 [.ref mo_now, .ref mo_aside, .ref mo_past, .int states, .ref mo_refusals, .ref mo_text, .int length, .ref mo_vars, .ref mo_sights, .int many, .int steps, .int isCut, .ref mo_isThere, .ref mo_taints, .ref mo_known, .int taint, .ref mo_knows, .int isOther, .int at_, .int isFaulty, .int orders, .ref mo_letters, .ref mo_numbers, .long hash]), (mo_aside, aI G 104 aside), (mo_past, aI G 520 past)] [(0, .ref mo), (1, .int x1)] 82 [] := by
  unfold f7_leaves_82 at hf
  refine g_aload_n C dX7_leaves_82 rfl 0 rfl ?_
  refine g_dup C dX7_leaves_83 rfl ?_
  refine g_get (C0 := RX7) (T := TX7) (N := 24) (ci := 7) (v := .int states) C hm7_leaves_0 0 rfl rfl 3 (by decide) hm7_leaves_1 rfl dX7_leaves_84 ?_
  refine g_iconst (v := (1 : Int32)) C dX7_leaves_87 (by decide +kernel) ?_
  refine g_iadd C dX7_leaves_88 ?_
  refine g_put (C0 := RX7) (T := TX7) (N := 24) (ci := 7) (ty := .int) (WS' := [(mo, oB 7 [.ref mo_now, .ref mo_aside, .ref mo_past, .int (states + (1 : Int32)), .ref mo_refusals, .ref mo_text, .int length, .ref mo_vars, .ref mo_sights, .int many, .int steps, .int isCut, .ref mo_isThere, .ref mo_taints, .ref mo_known, .int taint, .ref mo_knows, .int isOther, .int at_, .int isFaulty, .int orders, .ref mo_letters, .ref mo_numbers, .long hash]), (mo_aside, aI G 104 aside), (mo_past, aI G 520 past)]) C hm7_leaves_0 tyX7 tyX7_ok nmX7 0 rfl rfl 3 (by decide) hm7_leaves_1 rfl rfl rfl rfl (Nat.le_of_ble_eq_true rfl) dX7_leaves_89 rfl ?_
  obtain rfl := Option.some.inj hf
  exact hR _ _ dX7_leaves_92
set_option maxHeartbeats 4000000 in
set_option maxRecDepth 100000 in
theorem k7_leaves_50b {p : Program} {l : Launch} {e : Env} {s : State} {m : MethodId} {args : Array Value} {below : List Frame} {meth : Method} {c : Code} {G : gG} {A : Nat → Prop} {Q : State → Prop} {mo mo_now mo_aside mo_past mo_refusals mo_text mo_vars mo_sights mo_isThere mo_taints mo_known mo_knows mo_letters mo_numbers : Nat} (C : CX p s m args meth c G A cX7_leaves 2 RX7 wsX7_leaves) {length : Int32} {many : Int32} {steps : Int32} {isCut : Int32} {taint : Int32} {isOther : Int32} {at_ : Int32} {isFaulty : Int32} {orders : Int32} {hash : Int64} {aside : Nat → Int32} {k50 : (Nat → Int32) × Int32 × Int32 → Option ((Nat → Int32) × Int32)} {past : Nat → Int32} {states : Int32} {x1 : Int32} {res : (Nat → Int32) × Int32} (hR : ∀ (lv : List (Nat × Value)) (pc : Nat), decode cX7_leaves pc = .ok (.return_, 1) → GG p l e rm7_leaves s m args below meth c G A 2 0 0 Q [(mo, oB 7 [.ref mo_now, .ref mo_aside, .ref mo_past, .int res.2, .ref mo_refusals, .ref mo_text, .int length, .ref mo_vars, .ref mo_sights, .int many, .int steps, .int isCut, .ref mo_isThere, .ref mo_taints, .ref mo_known, .int taint, .ref mo_knows, .int isOther, .int at_, .int isFaulty, .int orders, .ref mo_letters, .ref mo_numbers, .long hash]), (mo_aside, aI G 104 aside), (mo_past, aI G 520 res.1)] lv pc [])
    (hk50 : ∀ s', k50 s' = some res → GG p l e rm7_leaves s m args below meth c G A 2 0 0 Q [(mo, oB 7 [.ref mo_now, .ref mo_aside, .ref mo_past, .int s'.2.1, .ref mo_refusals, .ref mo_text, .int length, .ref mo_vars, .ref mo_sights, .int many, .int steps, .int isCut, .ref mo_isThere, .ref mo_taints, .ref mo_known, .int taint, .ref mo_knows, .int isOther, .int at_, .int isFaulty, .int orders, .ref mo_letters, .ref mo_numbers, .long hash]), (mo_aside, aI G 104 aside), (mo_past, aI G 520 s'.1)] [(0, .ref mo), (1, .int s'.2.2)] 50 [])
    (hf : f7_leaves_50b aside k50 past states x1 = some res) : GG p l e rm7_leaves s m args below meth c G A 2 0 0 Q [(mo, oB 7 [.ref mo_now, .ref mo_aside, .ref mo_past, .int states, .ref mo_refusals, .ref mo_text, .int length, .ref mo_vars, .ref mo_sights, .int many, .int steps, .int isCut, .ref mo_isThere, .ref mo_taints, .ref mo_known, .int taint, .ref mo_knows, .int isOther, .int at_, .int isFaulty, .int orders, .ref mo_letters, .ref mo_numbers, .long hash]), (mo_aside, aI G 104 aside), (mo_past, aI G 520 past)] [(0, .ref mo), (1, .int x1)] 50 [] := by
  unfold f7_leaves_50b at hf
  refine g_iload_n C dX7_leaves_50 rfl 1 rfl ?_
  refine g_bipush (v := (104 : Int32)) C dX7_leaves_51 (by decide +kernel) ?_
  refine g_icmp_ge (tgt := 82) C dX7_leaves_53 (by decide) (fun c1 => ?_) (fun c1 => ?_)
  · replace hf := ite_t c1 hf
    exact k7_leaves_82 C hR hf
  · replace hf := ite_f c1 hf
    refine g_aload_n C dX7_leaves_56 rfl 0 rfl ?_
    refine g_get (C0 := RX7) (T := TX7) (N := 24) (ci := 7) (v := .ref mo_past) C hm7_leaves_0 0 rfl rfl 2 (by decide) hm7_leaves_2 rfl dX7_leaves_57 ?_
    refine g_bipush (v := (104 : Int32)) C dX7_leaves_60 (by decide +kernel) ?_
    refine g_aload_n C dX7_leaves_62 rfl 0 rfl ?_
    refine g_get (C0 := RX7) (T := TX7) (N := 24) (ci := 7) (v := .int states) C hm7_leaves_0 0 rfl rfl 3 (by decide) hm7_leaves_1 rfl dX7_leaves_63 ?_
    refine g_imul C dX7_leaves_66 ?_
    refine g_iload_n C dX7_leaves_67 rfl 1 rfl ?_
    refine g_iadd C dX7_leaves_68 ?_
    refine g_aload_n C dX7_leaves_69 rfl 0 rfl ?_
    refine g_get (C0 := RX7) (T := TX7) (N := 24) (ci := 7) (v := .ref mo_aside) C hm7_leaves_0 0 rfl rfl 1 (by decide) hm7_leaves_3 rfl dX7_leaves_70 ?_
    refine g_iload_n C dX7_leaves_73 rfl 1 rfl ?_
    obtain ⟨h2, hf⟩ := ck_some hf
    refine g_iald (n := 104) (v := (aside x1.toNatClampNeg)) C 1 rfl h2 rfl rfl dX7_leaves_74 ?_
    obtain ⟨h3, hf⟩ := ck_some hf
    refine g_iast (n := 520) (WS' := [(mo, oB 7 [.ref mo_now, .ref mo_aside, .ref mo_past, .int states, .ref mo_refusals, .ref mo_text, .int length, .ref mo_vars, .ref mo_sights, .int many, .int steps, .int isCut, .ref mo_isThere, .ref mo_taints, .ref mo_known, .int taint, .ref mo_knows, .int isOther, .int at_, .int isFaulty, .int orders, .ref mo_letters, .ref mo_numbers, .long hash]), (mo_aside, aI G 104 aside), (mo_past, aI G 520 (upd past (((104 : Int32) * states) + x1).toNatClampNeg (aside x1.toNatClampNeg)))]) C 2 rfl h3 rfl dX7_leaves_75 rfl ?_
    refine g_iinc (v := (x1 + (1 : Int32))) (lv' := [(0, .ref mo), (1, .int (x1 + (1 : Int32)))]) C dX7_leaves_76 1 rfl rfl (by decide) [1, 0] rfl ?_
    refine g_goto (tgt := 50) C dX7_leaves_79 (by decide) ?_
    exact hk50 _ hf
set_option maxHeartbeats 4000000 in
set_option maxRecDepth 100000 in
theorem k7_leaves_50 {p : Program} {l : Launch} {e : Env} {s : State} {m : MethodId} {args : Array Value} {below : List Frame} {meth : Method} {c : Code} {G : gG} {A : Nat → Prop} {Q : State → Prop} {mo mo_now mo_aside mo_past mo_refusals mo_text mo_vars mo_sights mo_isThere mo_taints mo_known mo_knows mo_letters mo_numbers : Nat} (C : CX p s m args meth c G A cX7_leaves 2 RX7 wsX7_leaves) {length : Int32} {many : Int32} {steps : Int32} {isCut : Int32} {taint : Int32} {isOther : Int32} {at_ : Int32} {isFaulty : Int32} {orders : Int32} {hash : Int64} {aside : Nat → Int32} {res : (Nat → Int32) × Int32} (hR : ∀ (lv : List (Nat × Value)) (pc : Nat), decode cX7_leaves pc = .ok (.return_, 1) → GG p l e rm7_leaves s m args below meth c G A 2 0 0 Q [(mo, oB 7 [.ref mo_now, .ref mo_aside, .ref mo_past, .int res.2, .ref mo_refusals, .ref mo_text, .int length, .ref mo_vars, .ref mo_sights, .int many, .int steps, .int isCut, .ref mo_isThere, .ref mo_taints, .ref mo_known, .int taint, .ref mo_knows, .int isOther, .int at_, .int isFaulty, .int orders, .ref mo_letters, .ref mo_numbers, .long hash]), (mo_aside, aI G 104 aside), (mo_past, aI G 520 res.1)] lv pc []) : ∀ (n : Nat) (s1 : (Nat → Int32) × Int32 × Int32), f7_leaves_50 aside n s1 = some res → GG p l e rm7_leaves s m args below meth c G A 2 0 0 Q [(mo, oB 7 [.ref mo_now, .ref mo_aside, .ref mo_past, .int s1.2.1, .ref mo_refusals, .ref mo_text, .int length, .ref mo_vars, .ref mo_sights, .int many, .int steps, .int isCut, .ref mo_isThere, .ref mo_taints, .ref mo_known, .int taint, .ref mo_knows, .int isOther, .int at_, .int isFaulty, .int orders, .ref mo_letters, .ref mo_numbers, .long hash]), (mo_aside, aI G 104 aside), (mo_past, aI G 520 s1.1)] [(0, .ref mo), (1, .int s1.2.2)] 50 [] :=
  itf_ind (fun k s1 ih hf => k7_leaves_50b C hR ih hf)
set_option maxHeartbeats 4000000 in
set_option maxRecDepth 100000 in
theorem k7_leaves_38 {p : Program} {l : Launch} {e : Env} {s : State} {m : MethodId} {args : Array Value} {below : List Frame} {meth : Method} {c : Code} {G : gG} {A : Nat → Prop} {Q : State → Prop} {mo mo_now mo_aside mo_past mo_refusals mo_text mo_vars mo_sights mo_isThere mo_taints mo_known mo_knows mo_letters mo_numbers : Nat} (C : CX p s m args meth c G A cX7_leaves 2 RX7 wsX7_leaves) {length : Int32} {many : Int32} {steps : Int32} {isCut : Int32} {taint : Int32} {isOther : Int32} {at_ : Int32} {isFaulty : Int32} {orders : Int32} {hash : Int64} {aside : Nat → Int32} {past : Nat → Int32} {states : Int32} {x1 : Int32} {res : (Nat → Int32) × Int32} (hR : ∀ (lv : List (Nat × Value)) (pc : Nat), decode cX7_leaves pc = .ok (.return_, 1) → GG p l e rm7_leaves s m args below meth c G A 2 0 0 Q [(mo, oB 7 [.ref mo_now, .ref mo_aside, .ref mo_past, .int res.2, .ref mo_refusals, .ref mo_text, .int length, .ref mo_vars, .ref mo_sights, .int many, .int steps, .int isCut, .ref mo_isThere, .ref mo_taints, .ref mo_known, .int taint, .ref mo_knows, .int isOther, .int at_, .int isFaulty, .int orders, .ref mo_letters, .ref mo_numbers, .long hash]), (mo_aside, aI G 104 aside), (mo_past, aI G 520 res.1)] lv pc [])
    (hf : f7_leaves_38 aside past states x1 = some res) : GG p l e rm7_leaves s m args below meth c G A 2 0 0 Q [(mo, oB 7 [.ref mo_now, .ref mo_aside, .ref mo_past, .int states, .ref mo_refusals, .ref mo_text, .int length, .ref mo_vars, .ref mo_sights, .int many, .int steps, .int isCut, .ref mo_isThere, .ref mo_taints, .ref mo_known, .int taint, .ref mo_knows, .int isOther, .int at_, .int isFaulty, .int orders, .ref mo_letters, .ref mo_numbers, .long hash]), (mo_aside, aI G 104 aside), (mo_past, aI G 520 past)] [(0, .ref mo), (1, .int x1)] 38 [] := by
  unfold f7_leaves_38 at hf
  refine g_aload_n C dX7_leaves_38 rfl 0 rfl ?_
  refine g_dup C dX7_leaves_39 rfl ?_
  refine g_get (C0 := RX7) (T := TX7) (N := 24) (ci := 7) (v := .int states) C hm7_leaves_0 0 rfl rfl 3 (by decide) hm7_leaves_1 rfl dX7_leaves_40 ?_
  refine g_iconst (v := (1 : Int32)) C dX7_leaves_43 (by decide +kernel) ?_
  refine g_isub C dX7_leaves_44 ?_
  refine g_put (C0 := RX7) (T := TX7) (N := 24) (ci := 7) (ty := .int) (WS' := [(mo, oB 7 [.ref mo_now, .ref mo_aside, .ref mo_past, .int (states - (1 : Int32)), .ref mo_refusals, .ref mo_text, .int length, .ref mo_vars, .ref mo_sights, .int many, .int steps, .int isCut, .ref mo_isThere, .ref mo_taints, .ref mo_known, .int taint, .ref mo_knows, .int isOther, .int at_, .int isFaulty, .int orders, .ref mo_letters, .ref mo_numbers, .long hash]), (mo_aside, aI G 104 aside), (mo_past, aI G 520 past)]) C hm7_leaves_0 tyX7 tyX7_ok nmX7 0 rfl rfl 3 (by decide) hm7_leaves_1 rfl rfl rfl rfl (Nat.le_of_ble_eq_true rfl) dX7_leaves_45 rfl ?_
  refine g_iconst (v := (0 : Int32)) C dX7_leaves_48 (by decide +kernel) ?_
  refine g_istore_n (lv' := [(0, .ref mo), (1, .int (0 : Int32))]) C dX7_leaves_49 rfl (by decide) [1, 0] rfl ?_
  exact k7_leaves_50 C hR _ _ hf
set_option maxHeartbeats 4000000 in
set_option maxRecDepth 100000 in
theorem k7_leaves_10b {p : Program} {l : Launch} {e : Env} {s : State} {m : MethodId} {args : Array Value} {below : List Frame} {meth : Method} {c : Code} {G : gG} {A : Nat → Prop} {Q : State → Prop} {mo mo_now mo_aside mo_past mo_refusals mo_text mo_vars mo_sights mo_isThere mo_taints mo_known mo_knows mo_letters mo_numbers : Nat} (C : CX p s m args meth c G A cX7_leaves 2 RX7 wsX7_leaves) {length : Int32} {many : Int32} {steps : Int32} {isCut : Int32} {taint : Int32} {isOther : Int32} {at_ : Int32} {isFaulty : Int32} {orders : Int32} {hash : Int64} {aside : Nat → Int32} {k10 : (Nat → Int32) × Int32 × Int32 → Option ((Nat → Int32) × Int32)} {past : Nat → Int32} {states : Int32} {x1 : Int32} {res : (Nat → Int32) × Int32} (hR : ∀ (lv : List (Nat × Value)) (pc : Nat), decode cX7_leaves pc = .ok (.return_, 1) → GG p l e rm7_leaves s m args below meth c G A 2 0 0 Q [(mo, oB 7 [.ref mo_now, .ref mo_aside, .ref mo_past, .int res.2, .ref mo_refusals, .ref mo_text, .int length, .ref mo_vars, .ref mo_sights, .int many, .int steps, .int isCut, .ref mo_isThere, .ref mo_taints, .ref mo_known, .int taint, .ref mo_knows, .int isOther, .int at_, .int isFaulty, .int orders, .ref mo_letters, .ref mo_numbers, .long hash]), (mo_aside, aI G 104 aside), (mo_past, aI G 520 res.1)] lv pc [])
    (hk10 : ∀ s', k10 s' = some res → GG p l e rm7_leaves s m args below meth c G A 2 0 0 Q [(mo, oB 7 [.ref mo_now, .ref mo_aside, .ref mo_past, .int s'.2.1, .ref mo_refusals, .ref mo_text, .int length, .ref mo_vars, .ref mo_sights, .int many, .int steps, .int isCut, .ref mo_isThere, .ref mo_taints, .ref mo_known, .int taint, .ref mo_knows, .int isOther, .int at_, .int isFaulty, .int orders, .ref mo_letters, .ref mo_numbers, .long hash]), (mo_aside, aI G 104 aside), (mo_past, aI G 520 s'.1)] [(0, .ref mo), (1, .int s'.2.2)] 10 [])
    (hf : f7_leaves_10b aside k10 past states x1 = some res) : GG p l e rm7_leaves s m args below meth c G A 2 0 0 Q [(mo, oB 7 [.ref mo_now, .ref mo_aside, .ref mo_past, .int states, .ref mo_refusals, .ref mo_text, .int length, .ref mo_vars, .ref mo_sights, .int many, .int steps, .int isCut, .ref mo_isThere, .ref mo_taints, .ref mo_known, .int taint, .ref mo_knows, .int isOther, .int at_, .int isFaulty, .int orders, .ref mo_letters, .ref mo_numbers, .long hash]), (mo_aside, aI G 104 aside), (mo_past, aI G 520 past)] [(0, .ref mo), (1, .int x1)] 10 [] := by
  unfold f7_leaves_10b at hf
  refine g_iload_n C dX7_leaves_10 rfl 1 rfl ?_
  refine g_sipush (v := (416 : Int32)) C dX7_leaves_11 (by decide +kernel) ?_
  refine g_icmp_ge (tgt := 38) C dX7_leaves_14 (by decide) (fun c4 => ?_) (fun c4 => ?_)
  · replace hf := ite_t c4 hf
    exact k7_leaves_38 C hR hf
  · replace hf := ite_f c4 hf
    refine g_aload_n C dX7_leaves_17 rfl 0 rfl ?_
    refine g_get (C0 := RX7) (T := TX7) (N := 24) (ci := 7) (v := .ref mo_past) C hm7_leaves_0 0 rfl rfl 2 (by decide) hm7_leaves_2 rfl dX7_leaves_18 ?_
    refine g_iload_n C dX7_leaves_21 rfl 1 rfl ?_
    refine g_aload_n C dX7_leaves_22 rfl 0 rfl ?_
    refine g_get (C0 := RX7) (T := TX7) (N := 24) (ci := 7) (v := .ref mo_past) C hm7_leaves_0 0 rfl rfl 2 (by decide) hm7_leaves_2 rfl dX7_leaves_23 ?_
    refine g_iload_n C dX7_leaves_26 rfl 1 rfl ?_
    refine g_bipush (v := (104 : Int32)) C dX7_leaves_27 (by decide +kernel) ?_
    refine g_iadd C dX7_leaves_29 ?_
    obtain ⟨h5, hf⟩ := ck_some hf
    refine g_iald (n := 520) (v := (past (x1 + (104 : Int32)).toNatClampNeg)) C 2 rfl h5 rfl rfl dX7_leaves_30 ?_
    obtain ⟨h6, hf⟩ := ck_some hf
    refine g_iast (n := 520) (WS' := [(mo, oB 7 [.ref mo_now, .ref mo_aside, .ref mo_past, .int states, .ref mo_refusals, .ref mo_text, .int length, .ref mo_vars, .ref mo_sights, .int many, .int steps, .int isCut, .ref mo_isThere, .ref mo_taints, .ref mo_known, .int taint, .ref mo_knows, .int isOther, .int at_, .int isFaulty, .int orders, .ref mo_letters, .ref mo_numbers, .long hash]), (mo_aside, aI G 104 aside), (mo_past, aI G 520 (upd past x1.toNatClampNeg (past (x1 + (104 : Int32)).toNatClampNeg)))]) C 2 rfl h6 rfl dX7_leaves_31 rfl ?_
    refine g_iinc (v := (x1 + (1 : Int32))) (lv' := [(0, .ref mo), (1, .int (x1 + (1 : Int32)))]) C dX7_leaves_32 1 rfl rfl (by decide) [1, 0] rfl ?_
    refine g_goto (tgt := 10) C dX7_leaves_35 (by decide) ?_
    exact hk10 _ hf
set_option maxHeartbeats 4000000 in
set_option maxRecDepth 100000 in
theorem k7_leaves_10 {p : Program} {l : Launch} {e : Env} {s : State} {m : MethodId} {args : Array Value} {below : List Frame} {meth : Method} {c : Code} {G : gG} {A : Nat → Prop} {Q : State → Prop} {mo mo_now mo_aside mo_past mo_refusals mo_text mo_vars mo_sights mo_isThere mo_taints mo_known mo_knows mo_letters mo_numbers : Nat} (C : CX p s m args meth c G A cX7_leaves 2 RX7 wsX7_leaves) {length : Int32} {many : Int32} {steps : Int32} {isCut : Int32} {taint : Int32} {isOther : Int32} {at_ : Int32} {isFaulty : Int32} {orders : Int32} {hash : Int64} {aside : Nat → Int32} {res : (Nat → Int32) × Int32} (hR : ∀ (lv : List (Nat × Value)) (pc : Nat), decode cX7_leaves pc = .ok (.return_, 1) → GG p l e rm7_leaves s m args below meth c G A 2 0 0 Q [(mo, oB 7 [.ref mo_now, .ref mo_aside, .ref mo_past, .int res.2, .ref mo_refusals, .ref mo_text, .int length, .ref mo_vars, .ref mo_sights, .int many, .int steps, .int isCut, .ref mo_isThere, .ref mo_taints, .ref mo_known, .int taint, .ref mo_knows, .int isOther, .int at_, .int isFaulty, .int orders, .ref mo_letters, .ref mo_numbers, .long hash]), (mo_aside, aI G 104 aside), (mo_past, aI G 520 res.1)] lv pc []) : ∀ (n : Nat) (s1 : (Nat → Int32) × Int32 × Int32), f7_leaves_10 aside n s1 = some res → GG p l e rm7_leaves s m args below meth c G A 2 0 0 Q [(mo, oB 7 [.ref mo_now, .ref mo_aside, .ref mo_past, .int s1.2.1, .ref mo_refusals, .ref mo_text, .int length, .ref mo_vars, .ref mo_sights, .int many, .int steps, .int isCut, .ref mo_isThere, .ref mo_taints, .ref mo_known, .int taint, .ref mo_knows, .int isOther, .int at_, .int isFaulty, .int orders, .ref mo_letters, .ref mo_numbers, .long hash]), (mo_aside, aI G 104 aside), (mo_past, aI G 520 s1.1)] [(0, .ref mo), (1, .int s1.2.2)] 10 [] :=
  itf_ind (fun k s1 ih hf => k7_leaves_10b C hR ih hf)
set_option maxHeartbeats 4000000 in
set_option maxRecDepth 100000 in
theorem c7_leaves {l : Launch} {G : gG} {mo mo_now mo_aside mo_past mo_refusals mo_text mo_vars mo_sights mo_isThere mo_taints mo_known mo_knows mo_letters mo_numbers : Nat} {aside : Nat → Int32} {past : Nat → Int32} {states : Int32} {length : Int32} {many : Int32} {steps : Int32} {isCut : Int32} {taint : Int32} {isOther : Int32} {at_ : Int32} {isFaulty : Int32} {orders : Int32} {hash : Int64} {res : (Nat → Int32) × Int32} (hf : f7_leaves aside past states = some res) : MV l yX7_leaves wsX7_leaves rm7_leaves G [.ref mo] [(mo, oB 7 [.ref mo_now, .ref mo_aside, .ref mo_past, .int states, .ref mo_refusals, .ref mo_text, .int length, .ref mo_vars, .ref mo_sights, .int many, .int steps, .int isCut, .ref mo_isThere, .ref mo_taints, .ref mo_known, .int taint, .ref mo_knows, .int isOther, .int at_, .int isFaulty, .int orders, .ref mo_letters, .ref mo_numbers, .long hash]), (mo_aside, aI G 104 aside), (mo_past, aI G 520 past)] [(mo, oB 7 [.ref mo_now, .ref mo_aside, .ref mo_past, .int res.2, .ref mo_refusals, .ref mo_text, .int length, .ref mo_vars, .ref mo_sights, .int many, .int steps, .int isCut, .ref mo_isThere, .ref mo_taints, .ref mo_known, .int taint, .ref mo_knows, .int isOther, .int at_, .int isFaulty, .int orders, .ref mo_letters, .ref mo_numbers, .long hash]), (mo_aside, aI G 104 aside), (mo_past, aI G 520 res.1)] := by
  refine MV_of (cc := cX7_leaves) (nL := 2) (lv := [(0, .ref mo)]) (by decide +kernel) rfl (Nat.le_of_ble_eq_true rfl) rfl ?_
  intro p e s m args below meth c A Q C hR
  unfold f7_leaves at hf
  refine g_aload_n C dX7_leaves_0 rfl 0 rfl ?_
  refine g_get (C0 := RX7) (T := TX7) (N := 24) (ci := 7) (v := .int states) C hm7_leaves_0 0 rfl rfl 3 (by decide) hm7_leaves_1 rfl dX7_leaves_1 ?_
  refine g_iconst (v := (5 : Int32)) C dX7_leaves_4 (by decide +kernel) ?_
  refine g_icmp_ne (tgt := 48) C dX7_leaves_5 (by decide) (fun c7 => ?_) (fun c7 => ?_)
  · replace hf := ite_f c7 hf
    refine g_iconst (v := (0 : Int32)) C dX7_leaves_48 (by decide +kernel) ?_
    refine g_istore_n (lv' := [(0, .ref mo), (1, .int (0 : Int32))]) C dX7_leaves_49 rfl (by decide) [1, 0] rfl ?_
    exact k7_leaves_50 C hR _ _ hf
  · replace hf := ite_t c7 hf
    refine g_iconst (v := (0 : Int32)) C dX7_leaves_8 (by decide +kernel) ?_
    refine g_istore_n (lv' := [(0, .ref mo), (1, .int (0 : Int32))]) C dX7_leaves_9 rfl (by decide) [1, 0] rfl ?_
    exact k7_leaves_10 C hR _ _ hf

-- X7_back
def f7_back_24b (past : Nat → Int32) (k24 : (Nat → Int32) × Int32 × (Nat → Int32) × Int32 → Option (Int32 × (Nat → Int32) × Int32 × (Nat → Int32))) (now : Nat → Int32) (states : Int32) (refusals : Nat → Int32) (x1 : Int32) : Option (Int32 × (Nat → Int32) × Int32 × (Nat → Int32)) :=
  if (104 : Int32) ≤ x1 then
    (some (states, now, states, refusals))
    else (ck (inb (((104 : Int32) * states) + x1) 520) <|
    ck (inb x1 104) <|
    k24 ((upd now x1.toNatClampNeg (past (((104 : Int32) * states) + x1).toNatClampNeg)), states, refusals, (x1 + (1 : Int32))))
def f7_back_24 (past : Nat → Int32) (n : Nat) (s : (Nat → Int32) × Int32 × (Nat → Int32) × Int32) : Option (Int32 × (Nat → Int32) × Int32 × (Nat → Int32)) := itf (fun k s => f7_back_24b past k s.1 s.2.1 s.2.2.1 s.2.2.2) n s
def f7_back (past : Nat → Int32) (now : Nat → Int32) (states : Int32) (refusals : Nat → Int32) : Option (Int32 × (Nat → Int32) × Int32 × (Nat → Int32)) :=
  if states = 0 then
    ((f7_no refusals).bind <| fun q5 =>
    some (q5.1, now, states, q5.2))
    else (f7_back_24 past 1000 (now, (states - (1 : Int32)), refusals, (0 : Int32)))
def rm7_back : Room := { frames := 1, cells := 0, slots := 0, locals := 20 }
theorem hm7_back_0 : ∀ w ∈ u_ws RX7 TX7 24, w ∈ wsX7_back := by decide +kernel
theorem hm7_back_1 : Cond.fieldLink RX7 54 "SecretStepsModel" "states" "I" ∈ wsX7_back := by decide +kernel
theorem hm7_back_2 : Cond.fieldLink RX7 7 "SecretStepsModel" "now" "[I" ∈ wsX7_back := by decide +kernel
theorem hm7_back_3 : Cond.fieldLink RX7 16 "SecretStepsModel" "past" "[I" ∈ wsX7_back := by decide +kernel
set_option maxHeartbeats 4000000 in
set_option maxRecDepth 100000 in
theorem k7_back_24b {p : Program} {l : Launch} {e : Env} {s : State} {m : MethodId} {args : Array Value} {below : List Frame} {meth : Method} {c : Code} {G : gG} {A : Nat → Prop} {Q : State → Prop} {mo mo_now mo_aside mo_past mo_refusals mo_text mo_vars mo_sights mo_isThere mo_taints mo_known mo_knows mo_letters mo_numbers : Nat} (C : CX p s m args meth c G A cX7_back 2 RX7 wsX7_back) {length : Int32} {many : Int32} {steps : Int32} {isCut : Int32} {taint : Int32} {isOther : Int32} {at_ : Int32} {isFaulty : Int32} {orders : Int32} {hash : Int64} {past : Nat → Int32} {k24 : (Nat → Int32) × Int32 × (Nat → Int32) × Int32 → Option (Int32 × (Nat → Int32) × Int32 × (Nat → Int32))} {now : Nat → Int32} {states : Int32} {refusals : Nat → Int32} {x1 : Int32} {res : Int32 × (Nat → Int32) × Int32 × (Nat → Int32)} (hR : ∀ (lv : List (Nat × Value)) (pc : Nat), decode cX7_back pc = .ok (.ireturn, 1) → GG p l e rm7_back s m args below meth c G A 2 0 0 Q [(mo, oB 7 [.ref mo_now, .ref mo_aside, .ref mo_past, .int res.2.2.1, .ref mo_refusals, .ref mo_text, .int length, .ref mo_vars, .ref mo_sights, .int many, .int steps, .int isCut, .ref mo_isThere, .ref mo_taints, .ref mo_known, .int taint, .ref mo_knows, .int isOther, .int at_, .int isFaulty, .int orders, .ref mo_letters, .ref mo_numbers, .long hash]), (mo_now, aI G 104 res.2.1), (mo_past, aI G 520 past), (mo_refusals, aI G 3 res.2.2.2)] lv pc [.int res.1])
    (hk24 : ∀ s', k24 s' = some res → GG p l e rm7_back s m args below meth c G A 2 0 0 Q [(mo, oB 7 [.ref mo_now, .ref mo_aside, .ref mo_past, .int s'.2.1, .ref mo_refusals, .ref mo_text, .int length, .ref mo_vars, .ref mo_sights, .int many, .int steps, .int isCut, .ref mo_isThere, .ref mo_taints, .ref mo_known, .int taint, .ref mo_knows, .int isOther, .int at_, .int isFaulty, .int orders, .ref mo_letters, .ref mo_numbers, .long hash]), (mo_now, aI G 104 s'.1), (mo_past, aI G 520 past), (mo_refusals, aI G 3 s'.2.2.1)] [(0, .ref mo), (1, .int s'.2.2.2)] 24 [])
    (hf : f7_back_24b past k24 now states refusals x1 = some res) : GG p l e rm7_back s m args below meth c G A 2 0 0 Q [(mo, oB 7 [.ref mo_now, .ref mo_aside, .ref mo_past, .int states, .ref mo_refusals, .ref mo_text, .int length, .ref mo_vars, .ref mo_sights, .int many, .int steps, .int isCut, .ref mo_isThere, .ref mo_taints, .ref mo_known, .int taint, .ref mo_knows, .int isOther, .int at_, .int isFaulty, .int orders, .ref mo_letters, .ref mo_numbers, .long hash]), (mo_now, aI G 104 now), (mo_past, aI G 520 past), (mo_refusals, aI G 3 refusals)] [(0, .ref mo), (1, .int x1)] 24 [] := by
  unfold f7_back_24b at hf
  refine g_iload_n C dX7_back_24 rfl 1 rfl ?_
  refine g_bipush (v := (104 : Int32)) C dX7_back_25 (by decide +kernel) ?_
  refine g_icmp_ge (tgt := 56) C dX7_back_27 (by decide) (fun c1 => ?_) (fun c1 => ?_)
  · replace hf := ite_t c1 hf
    refine g_aload_n C dX7_back_56 rfl 0 rfl ?_
    refine g_get (C0 := RX7) (T := TX7) (N := 24) (ci := 7) (v := .int states) C hm7_back_0 0 rfl rfl 3 (by decide) hm7_back_1 rfl dX7_back_57 ?_
    obtain rfl := Option.some.inj hf
    exact hR _ _ dX7_back_60
  · replace hf := ite_f c1 hf
    refine g_aload_n C dX7_back_30 rfl 0 rfl ?_
    refine g_get (C0 := RX7) (T := TX7) (N := 24) (ci := 7) (v := .ref mo_now) C hm7_back_0 0 rfl rfl 0 (by decide) hm7_back_2 rfl dX7_back_31 ?_
    refine g_iload_n C dX7_back_34 rfl 1 rfl ?_
    refine g_aload_n C dX7_back_35 rfl 0 rfl ?_
    refine g_get (C0 := RX7) (T := TX7) (N := 24) (ci := 7) (v := .ref mo_past) C hm7_back_0 0 rfl rfl 2 (by decide) hm7_back_3 rfl dX7_back_36 ?_
    refine g_bipush (v := (104 : Int32)) C dX7_back_39 (by decide +kernel) ?_
    refine g_aload_n C dX7_back_41 rfl 0 rfl ?_
    refine g_get (C0 := RX7) (T := TX7) (N := 24) (ci := 7) (v := .int states) C hm7_back_0 0 rfl rfl 3 (by decide) hm7_back_1 rfl dX7_back_42 ?_
    refine g_imul C dX7_back_45 ?_
    refine g_iload_n C dX7_back_46 rfl 1 rfl ?_
    refine g_iadd C dX7_back_47 ?_
    obtain ⟨h2, hf⟩ := ck_some hf
    refine g_iald (n := 520) (v := (past (((104 : Int32) * states) + x1).toNatClampNeg)) C 2 rfl h2 rfl rfl dX7_back_48 ?_
    obtain ⟨h3, hf⟩ := ck_some hf
    refine g_iast (n := 104) (WS' := [(mo, oB 7 [.ref mo_now, .ref mo_aside, .ref mo_past, .int states, .ref mo_refusals, .ref mo_text, .int length, .ref mo_vars, .ref mo_sights, .int many, .int steps, .int isCut, .ref mo_isThere, .ref mo_taints, .ref mo_known, .int taint, .ref mo_knows, .int isOther, .int at_, .int isFaulty, .int orders, .ref mo_letters, .ref mo_numbers, .long hash]), (mo_now, aI G 104 (upd now x1.toNatClampNeg (past (((104 : Int32) * states) + x1).toNatClampNeg))), (mo_past, aI G 520 past), (mo_refusals, aI G 3 refusals)]) C 1 rfl h3 rfl dX7_back_49 rfl ?_
    refine g_iinc (v := (x1 + (1 : Int32))) (lv' := [(0, .ref mo), (1, .int (x1 + (1 : Int32)))]) C dX7_back_50 1 rfl rfl (by decide) [1, 0] rfl ?_
    refine g_goto (tgt := 24) C dX7_back_53 (by decide) ?_
    exact hk24 _ hf
set_option maxHeartbeats 4000000 in
set_option maxRecDepth 100000 in
theorem k7_back_24 {p : Program} {l : Launch} {e : Env} {s : State} {m : MethodId} {args : Array Value} {below : List Frame} {meth : Method} {c : Code} {G : gG} {A : Nat → Prop} {Q : State → Prop} {mo mo_now mo_aside mo_past mo_refusals mo_text mo_vars mo_sights mo_isThere mo_taints mo_known mo_knows mo_letters mo_numbers : Nat} (C : CX p s m args meth c G A cX7_back 2 RX7 wsX7_back) {length : Int32} {many : Int32} {steps : Int32} {isCut : Int32} {taint : Int32} {isOther : Int32} {at_ : Int32} {isFaulty : Int32} {orders : Int32} {hash : Int64} {past : Nat → Int32} {res : Int32 × (Nat → Int32) × Int32 × (Nat → Int32)} (hR : ∀ (lv : List (Nat × Value)) (pc : Nat), decode cX7_back pc = .ok (.ireturn, 1) → GG p l e rm7_back s m args below meth c G A 2 0 0 Q [(mo, oB 7 [.ref mo_now, .ref mo_aside, .ref mo_past, .int res.2.2.1, .ref mo_refusals, .ref mo_text, .int length, .ref mo_vars, .ref mo_sights, .int many, .int steps, .int isCut, .ref mo_isThere, .ref mo_taints, .ref mo_known, .int taint, .ref mo_knows, .int isOther, .int at_, .int isFaulty, .int orders, .ref mo_letters, .ref mo_numbers, .long hash]), (mo_now, aI G 104 res.2.1), (mo_past, aI G 520 past), (mo_refusals, aI G 3 res.2.2.2)] lv pc [.int res.1]) : ∀ (n : Nat) (s1 : (Nat → Int32) × Int32 × (Nat → Int32) × Int32), f7_back_24 past n s1 = some res → GG p l e rm7_back s m args below meth c G A 2 0 0 Q [(mo, oB 7 [.ref mo_now, .ref mo_aside, .ref mo_past, .int s1.2.1, .ref mo_refusals, .ref mo_text, .int length, .ref mo_vars, .ref mo_sights, .int many, .int steps, .int isCut, .ref mo_isThere, .ref mo_taints, .ref mo_known, .int taint, .ref mo_knows, .int isOther, .int at_, .int isFaulty, .int orders, .ref mo_letters, .ref mo_numbers, .long hash]), (mo_now, aI G 104 s1.1), (mo_past, aI G 520 past), (mo_refusals, aI G 3 s1.2.2.1)] [(0, .ref mo), (1, .int s1.2.2.2)] 24 [] :=
  itf_ind (fun k s1 ih hf => k7_back_24b C hR ih hf)
set_option maxHeartbeats 4000000 in
set_option maxRecDepth 100000 in
theorem c7_back {l : Launch} {G : gG} {mo mo_now mo_aside mo_past mo_refusals mo_text mo_vars mo_sights mo_isThere mo_taints mo_known mo_knows mo_letters mo_numbers : Nat} {now : Nat → Int32} {past : Nat → Int32} {states : Int32} {refusals : Nat → Int32} {length : Int32} {many : Int32} {steps : Int32} {isCut : Int32} {taint : Int32} {isOther : Int32} {at_ : Int32} {isFaulty : Int32} {orders : Int32} {hash : Int64} {res : Int32 × (Nat → Int32) × Int32 × (Nat → Int32)} (hf : f7_back past now states refusals = some res) : MI l yX7_back wsX7_back rm7_back G [.ref mo] [(mo, oB 7 [.ref mo_now, .ref mo_aside, .ref mo_past, .int states, .ref mo_refusals, .ref mo_text, .int length, .ref mo_vars, .ref mo_sights, .int many, .int steps, .int isCut, .ref mo_isThere, .ref mo_taints, .ref mo_known, .int taint, .ref mo_knows, .int isOther, .int at_, .int isFaulty, .int orders, .ref mo_letters, .ref mo_numbers, .long hash]), (mo_now, aI G 104 now), (mo_past, aI G 520 past), (mo_refusals, aI G 3 refusals)] (res.1) [(mo, oB 7 [.ref mo_now, .ref mo_aside, .ref mo_past, .int res.2.2.1, .ref mo_refusals, .ref mo_text, .int length, .ref mo_vars, .ref mo_sights, .int many, .int steps, .int isCut, .ref mo_isThere, .ref mo_taints, .ref mo_known, .int taint, .ref mo_knows, .int isOther, .int at_, .int isFaulty, .int orders, .ref mo_letters, .ref mo_numbers, .long hash]), (mo_now, aI G 104 res.2.1), (mo_past, aI G 520 past), (mo_refusals, aI G 3 res.2.2.2)] := by
  refine MI_of (res.1) (cc := cX7_back) (nL := 2) (lv := [(0, .ref mo)]) (by decide +kernel) rfl (Nat.le_of_ble_eq_true rfl) rfl ?_
  intro p e s m args below meth c A Q C hR
  unfold f7_back at hf
  refine g_aload_n C dX7_back_0 rfl 0 rfl ?_
  refine g_get (C0 := RX7) (T := TX7) (N := 24) (ci := 7) (v := .int states) C hm7_back_0 0 rfl rfl 3 (by decide) hm7_back_1 rfl dX7_back_1 ?_
  refine g_if_ne (tgt := 12) C dX7_back_4 (by decide) (fun c4 => ?_) (fun c4 => ?_)
  · replace hf := ite_f c4 hf
    refine g_aload_n C dX7_back_12 rfl 0 rfl ?_
    refine g_dup C dX7_back_13 rfl ?_
    refine g_get (C0 := RX7) (T := TX7) (N := 24) (ci := 7) (v := .int states) C hm7_back_0 0 rfl rfl 3 (by decide) hm7_back_1 rfl dX7_back_14 ?_
    refine g_iconst (v := (1 : Int32)) C dX7_back_17 (by decide +kernel) ?_
    refine g_isub C dX7_back_18 ?_
    refine g_put (C0 := RX7) (T := TX7) (N := 24) (ci := 7) (ty := .int) (WS' := [(mo, oB 7 [.ref mo_now, .ref mo_aside, .ref mo_past, .int (states - (1 : Int32)), .ref mo_refusals, .ref mo_text, .int length, .ref mo_vars, .ref mo_sights, .int many, .int steps, .int isCut, .ref mo_isThere, .ref mo_taints, .ref mo_known, .int taint, .ref mo_knows, .int isOther, .int at_, .int isFaulty, .int orders, .ref mo_letters, .ref mo_numbers, .long hash]), (mo_now, aI G 104 now), (mo_past, aI G 520 past), (mo_refusals, aI G 3 refusals)]) C hm7_back_0 tyX7 tyX7_ok nmX7 0 rfl rfl 3 (by decide) hm7_back_1 rfl rfl rfl rfl (Nat.le_of_ble_eq_true rfl) dX7_back_19 rfl ?_
    refine g_iconst (v := (0 : Int32)) C dX7_back_22 (by decide +kernel) ?_
    refine g_istore_n (lv' := [(0, .ref mo), (1, .int (0 : Int32))]) C dX7_back_23 rfl (by decide) [1, 0] rfl ?_
    exact k7_back_24 C hR _ _ hf
  · replace hf := ite_t c4 hf
    refine g_aload_n C dX7_back_7 rfl 0 rfl ?_
    obtain ⟨q5, hq5, hf⟩ := bs hf
    refine g_callVi (n := 0) (As := []) (rest := []) (wc := [(mo, oB 7 [.ref mo_now, .ref mo_aside, .ref mo_past, .int states, .ref mo_refusals, .ref mo_text, .int length, .ref mo_vars, .ref mo_sights, .int many, .int steps, .int isCut, .ref mo_isThere, .ref mo_taints, .ref mo_known, .int taint, .ref mo_knows, .int isOther, .int at_, .int isFaulty, .int orders, .ref mo_letters, .ref mo_numbers, .long hash]), (mo_refusals, aI G 3 refusals)]) (w1 := [(mo, oB 7 [.ref mo_now, .ref mo_aside, .ref mo_past, .int states, .ref mo_refusals, .ref mo_text, .int length, .ref mo_vars, .ref mo_sights, .int many, .int steps, .int isCut, .ref mo_isThere, .ref mo_taints, .ref mo_known, .int taint, .ref mo_knows, .int isOther, .int at_, .int isFaulty, .int orders, .ref mo_letters, .ref mo_numbers, .long hash]), (mo_refusals, aI G 3 q5.2)]) (wr := [(mo_now, aI G 104 now), (mo_past, aI G 520 past)]) (WS' := [(mo, oB 7 [.ref mo_now, .ref mo_aside, .ref mo_past, .int states, .ref mo_refusals, .ref mo_text, .int length, .ref mo_vars, .ref mo_sights, .int many, .int steps, .int isCut, .ref mo_isThere, .ref mo_taints, .ref mo_known, .int taint, .ref mo_knows, .int isOther, .int at_, .int isFaulty, .int orders, .ref mo_letters, .ref mo_numbers, .long hash]), (mo_now, aI G 104 now), (mo_past, aI G 520 past), (mo_refusals, aI G 3 q5.2)]) C (c7_no hq5) gX7_back_X7_no (by decide +kernel) rfl rfl rfl rfl rfl rfl ⟨by decide, by decide⟩ rfl [0, 3] [1, 2] [2, 0, 1, 3] rfl (by decide) rfl (by decide) (by decide) rfl (by decide) (Nat.le_of_ble_eq_true rfl) ⟨Nat.zero_le _, Nat.zero_le _⟩ rfl dX7_back_8 ?_
    obtain rfl := Option.some.inj hf
    exact hR _ _ dX7_back_11

-- X7_answers
def f7_answers (aside : Nat → Int32) (past : Nat → Int32) (states : Int32) (refusals : Nat → Int32) (v0 : Int32) : Option (Int32 × (Nat → Int32) × Int32 × (Nat → Int32)) :=
  if v0 < 0 then
    (if v0 = (-4 : Int32) then
    ((f7_full refusals).bind <| fun q4 =>
    some (q4.1, past, states, q4.2))
    else ((f7_bad refusals).bind <| fun q3 =>
    some (q3.1, past, states, q3.2)))
    else ((f7_leaves aside past states).bind <| fun q5 =>
    some (v0, q5.1, q5.2, refusals))
def rm7_answers : Room := { frames := 1, cells := 0, slots := 0, locals := 21 }
set_option maxHeartbeats 4000000 in
set_option maxRecDepth 100000 in
theorem c7_answers {l : Launch} {G : gG} {mo mo_now mo_aside mo_past mo_refusals mo_text mo_vars mo_sights mo_isThere mo_taints mo_known mo_knows mo_letters mo_numbers : Nat} {aside : Nat → Int32} {past : Nat → Int32} {states : Int32} {refusals : Nat → Int32} {length : Int32} {many : Int32} {steps : Int32} {isCut : Int32} {taint : Int32} {isOther : Int32} {at_ : Int32} {isFaulty : Int32} {orders : Int32} {hash : Int64} {v0 : Int32} {res : Int32 × (Nat → Int32) × Int32 × (Nat → Int32)} (hf : f7_answers aside past states refusals v0 = some res) : MI l yX7_answers wsX7_answers rm7_answers G [.ref mo, .int v0] [(mo, oB 7 [.ref mo_now, .ref mo_aside, .ref mo_past, .int states, .ref mo_refusals, .ref mo_text, .int length, .ref mo_vars, .ref mo_sights, .int many, .int steps, .int isCut, .ref mo_isThere, .ref mo_taints, .ref mo_known, .int taint, .ref mo_knows, .int isOther, .int at_, .int isFaulty, .int orders, .ref mo_letters, .ref mo_numbers, .long hash]), (mo_aside, aI G 104 aside), (mo_past, aI G 520 past), (mo_refusals, aI G 3 refusals)] (res.1) [(mo, oB 7 [.ref mo_now, .ref mo_aside, .ref mo_past, .int res.2.2.1, .ref mo_refusals, .ref mo_text, .int length, .ref mo_vars, .ref mo_sights, .int many, .int steps, .int isCut, .ref mo_isThere, .ref mo_taints, .ref mo_known, .int taint, .ref mo_knows, .int isOther, .int at_, .int isFaulty, .int orders, .ref mo_letters, .ref mo_numbers, .long hash]), (mo_aside, aI G 104 aside), (mo_past, aI G 520 res.2.1), (mo_refusals, aI G 3 res.2.2.2)] := by
  refine MI_of (res.1) (cc := cX7_answers) (nL := 2) (lv := [(0, .ref mo), (1, .int v0)]) (by decide +kernel) rfl (Nat.le_of_ble_eq_true rfl) rfl ?_
  intro p e s m args below meth c A Q C hR
  unfold f7_answers at hf
  refine g_iload_n C dX7_answers_0 rfl 1 rfl ?_
  refine g_if_lt (tgt := 10) C dX7_answers_1 (by decide) (fun c1 => ?_) (fun c1 => ?_)
  · replace hf := ite_t c1 hf
    refine g_iload_n C dX7_answers_10 rfl 1 rfl ?_
    refine g_bipush (v := (-4 : Int32)) C dX7_answers_11 (by decide +kernel) ?_
    refine g_icmp_ne (tgt := 23) C dX7_answers_13 (by decide) (fun c2 => ?_) (fun c2 => ?_)
    · replace hf := ite_f c2 hf
      refine g_aload_n C dX7_answers_23 rfl 0 rfl ?_
      obtain ⟨q3, hq3, hf⟩ := bs hf
      refine g_callVi (n := 0) (As := []) (rest := []) (wc := [(mo, oB 7 [.ref mo_now, .ref mo_aside, .ref mo_past, .int states, .ref mo_refusals, .ref mo_text, .int length, .ref mo_vars, .ref mo_sights, .int many, .int steps, .int isCut, .ref mo_isThere, .ref mo_taints, .ref mo_known, .int taint, .ref mo_knows, .int isOther, .int at_, .int isFaulty, .int orders, .ref mo_letters, .ref mo_numbers, .long hash]), (mo_refusals, aI G 3 refusals)]) (w1 := [(mo, oB 7 [.ref mo_now, .ref mo_aside, .ref mo_past, .int states, .ref mo_refusals, .ref mo_text, .int length, .ref mo_vars, .ref mo_sights, .int many, .int steps, .int isCut, .ref mo_isThere, .ref mo_taints, .ref mo_known, .int taint, .ref mo_knows, .int isOther, .int at_, .int isFaulty, .int orders, .ref mo_letters, .ref mo_numbers, .long hash]), (mo_refusals, aI G 3 q3.2)]) (wr := [(mo_aside, aI G 104 aside), (mo_past, aI G 520 past)]) (WS' := [(mo, oB 7 [.ref mo_now, .ref mo_aside, .ref mo_past, .int states, .ref mo_refusals, .ref mo_text, .int length, .ref mo_vars, .ref mo_sights, .int many, .int steps, .int isCut, .ref mo_isThere, .ref mo_taints, .ref mo_known, .int taint, .ref mo_knows, .int isOther, .int at_, .int isFaulty, .int orders, .ref mo_letters, .ref mo_numbers, .long hash]), (mo_aside, aI G 104 aside), (mo_past, aI G 520 past), (mo_refusals, aI G 3 q3.2)]) C (c7_bad hq3) gX7_answers_X7_bad (by decide +kernel) rfl rfl rfl rfl rfl rfl ⟨by decide, by decide⟩ rfl [0, 3] [1, 2] [2, 0, 1, 3] rfl (by decide) rfl (by decide) (by decide) rfl (by decide) (Nat.le_of_ble_eq_true rfl) ⟨Nat.zero_le _, Nat.zero_le _⟩ rfl dX7_answers_24 ?_
      obtain rfl := Option.some.inj hf
      exact hR _ _ dX7_answers_27
    · replace hf := ite_t c2 hf
      refine g_aload_n C dX7_answers_16 rfl 0 rfl ?_
      obtain ⟨q4, hq4, hf⟩ := bs hf
      refine g_callVi (n := 0) (As := []) (rest := []) (wc := [(mo, oB 7 [.ref mo_now, .ref mo_aside, .ref mo_past, .int states, .ref mo_refusals, .ref mo_text, .int length, .ref mo_vars, .ref mo_sights, .int many, .int steps, .int isCut, .ref mo_isThere, .ref mo_taints, .ref mo_known, .int taint, .ref mo_knows, .int isOther, .int at_, .int isFaulty, .int orders, .ref mo_letters, .ref mo_numbers, .long hash]), (mo_refusals, aI G 3 refusals)]) (w1 := [(mo, oB 7 [.ref mo_now, .ref mo_aside, .ref mo_past, .int states, .ref mo_refusals, .ref mo_text, .int length, .ref mo_vars, .ref mo_sights, .int many, .int steps, .int isCut, .ref mo_isThere, .ref mo_taints, .ref mo_known, .int taint, .ref mo_knows, .int isOther, .int at_, .int isFaulty, .int orders, .ref mo_letters, .ref mo_numbers, .long hash]), (mo_refusals, aI G 3 q4.2)]) (wr := [(mo_aside, aI G 104 aside), (mo_past, aI G 520 past)]) (WS' := [(mo, oB 7 [.ref mo_now, .ref mo_aside, .ref mo_past, .int states, .ref mo_refusals, .ref mo_text, .int length, .ref mo_vars, .ref mo_sights, .int many, .int steps, .int isCut, .ref mo_isThere, .ref mo_taints, .ref mo_known, .int taint, .ref mo_knows, .int isOther, .int at_, .int isFaulty, .int orders, .ref mo_letters, .ref mo_numbers, .long hash]), (mo_aside, aI G 104 aside), (mo_past, aI G 520 past), (mo_refusals, aI G 3 q4.2)]) C (c7_full hq4) gX7_answers_X7_full (by decide +kernel) rfl rfl rfl rfl rfl rfl ⟨by decide, by decide⟩ rfl [0, 3] [1, 2] [2, 0, 1, 3] rfl (by decide) rfl (by decide) (by decide) rfl (by decide) (Nat.le_of_ble_eq_true rfl) ⟨Nat.zero_le _, Nat.zero_le _⟩ rfl dX7_answers_17 ?_
      refine g_goto (tgt := 27) C dX7_answers_20 (by decide) ?_
      obtain rfl := Option.some.inj hf
      exact hR _ _ dX7_answers_27
  · replace hf := ite_f c1 hf
    refine g_aload_n C dX7_answers_4 rfl 0 rfl ?_
    obtain ⟨q5, hq5, hf⟩ := bs hf
    refine g_callVv (n := 0) (As := []) (rest := []) (wc := [(mo, oB 7 [.ref mo_now, .ref mo_aside, .ref mo_past, .int states, .ref mo_refusals, .ref mo_text, .int length, .ref mo_vars, .ref mo_sights, .int many, .int steps, .int isCut, .ref mo_isThere, .ref mo_taints, .ref mo_known, .int taint, .ref mo_knows, .int isOther, .int at_, .int isFaulty, .int orders, .ref mo_letters, .ref mo_numbers, .long hash]), (mo_aside, aI G 104 aside), (mo_past, aI G 520 past)]) (w1 := [(mo, oB 7 [.ref mo_now, .ref mo_aside, .ref mo_past, .int q5.2, .ref mo_refusals, .ref mo_text, .int length, .ref mo_vars, .ref mo_sights, .int many, .int steps, .int isCut, .ref mo_isThere, .ref mo_taints, .ref mo_known, .int taint, .ref mo_knows, .int isOther, .int at_, .int isFaulty, .int orders, .ref mo_letters, .ref mo_numbers, .long hash]), (mo_aside, aI G 104 aside), (mo_past, aI G 520 q5.1)]) (wr := [(mo_refusals, aI G 3 refusals)]) (WS' := [(mo, oB 7 [.ref mo_now, .ref mo_aside, .ref mo_past, .int q5.2, .ref mo_refusals, .ref mo_text, .int length, .ref mo_vars, .ref mo_sights, .int many, .int steps, .int isCut, .ref mo_isThere, .ref mo_taints, .ref mo_known, .int taint, .ref mo_knows, .int isOther, .int at_, .int isFaulty, .int orders, .ref mo_letters, .ref mo_numbers, .long hash]), (mo_aside, aI G 104 aside), (mo_past, aI G 520 q5.1), (mo_refusals, aI G 3 refusals)]) C (c7_leaves hq5) gX7_answers_X7_leaves (by decide +kernel) rfl rfl rfl rfl rfl rfl ⟨by decide, by decide⟩ rfl [0, 1, 2] [3] [1, 2, 3, 0] rfl (by decide) rfl (by decide) (by decide) rfl (by decide) (Nat.le_of_ble_eq_true rfl) ⟨Nat.zero_le _, Nat.zero_le _⟩ rfl dX7_answers_5 ?_
    refine g_iload_n C dX7_answers_8 rfl 1 rfl ?_
    obtain rfl := Option.some.inj hf
    exact hR _ _ dX7_answers_9

-- X7_isY
def f7_isY (v0 : Int32) (v1 : Int32) : Option (Int32) :=
  if v0 = 0 then
    ((f7_isNumber v1).bind <| fun q7 =>
    ck (isb q7) <|
    some q7)
    else (if v0 = (7 : Int32) then
    ((f7_within v1 (0 : Int32) (20 : Int32)).bind <| fun q5 =>
    ck (isb q5) <|
    some q5)
    else ((f7_isVariable v1).bind <| fun q3 =>
    ck (isb q3) <|
    some q3))
def rm7_isY : Room := { frames := 2, cells := 0, slots := 0, locals := 42 }
set_option maxHeartbeats 4000000 in
set_option maxRecDepth 100000 in
theorem c7_isY {l : Launch} {G : gG} {v0 : Int32} {v1 : Int32} {res : Int32} (hf : f7_isY v0 v1 = some res) : MI l yX7_isY wsX7_isY rm7_isY G [.int v0, .int v1] [] (res) [] := by
  refine MZ_of (res) (cc := cX7_isY) (nL := 2) (lv := [(0, .int v0), (1, .int v1)]) (by decide +kernel) rfl (Nat.le_of_ble_eq_true rfl) rfl ?_
  intro p e s m args below meth c A Q C hR
  unfold f7_isY at hf
  refine g_iload_n C dX7_isY_0 rfl 0 rfl ?_
  refine g_if_ne (tgt := 11) C dX7_isY_1 (by decide) (fun c1 => ?_) (fun c1 => ?_)
  · replace hf := ite_f c1 hf
    refine g_iload_n C dX7_isY_11 rfl 0 rfl ?_
    refine g_bipush (v := (7 : Int32)) C dX7_isY_12 (by decide +kernel) ?_
    refine g_icmp_ne (tgt := 27) C dX7_isY_14 (by decide) (fun c2 => ?_) (fun c2 => ?_)
    · replace hf := ite_f c2 hf
      refine g_iload_n C dX7_isY_27 rfl 1 rfl ?_
      obtain ⟨q3, hq3, hf⟩ := bs hf
      refine g_callSi (n := 1) (As := [.int v1]) (rest := []) (wc := []) (w1 := []) (wr := []) (WS' := []) C (c7_isVariable hq3) gX7_isY_X7_isVariable (by decide +kernel) rfl rfl rfl ⟨by decide, by decide⟩ rfl [] [] [] rfl (by decide) rfl (by decide) (by decide) rfl (by decide) (Nat.le_of_ble_eq_true rfl) ⟨Nat.zero_le _, Nat.zero_le _⟩ rfl dX7_isY_28 ?_
      obtain ⟨h4, hf⟩ := ck_some hf
      obtain rfl := Option.some.inj hf
      exact hR _ _ dX7_isY_31 h4
    · replace hf := ite_t c2 hf
      refine g_iload_n C dX7_isY_17 rfl 1 rfl ?_
      refine g_iconst (v := (0 : Int32)) C dX7_isY_18 (by decide +kernel) ?_
      refine g_bipush (v := (20 : Int32)) C dX7_isY_19 (by decide +kernel) ?_
      obtain ⟨q5, hq5, hf⟩ := bs hf
      refine g_callSi (n := 3) (As := [.int v1, .int (0 : Int32), .int (20 : Int32)]) (rest := []) (wc := []) (w1 := []) (wr := []) (WS' := []) C (c7_within hq5) gX7_isY_X7_within (by decide +kernel) rfl rfl rfl ⟨by decide, by decide⟩ rfl [] [] [] rfl (by decide) rfl (by decide) (by decide) rfl (by decide) (Nat.le_of_ble_eq_true rfl) ⟨Nat.zero_le _, Nat.zero_le _⟩ rfl dX7_isY_21 ?_
      refine g_goto (tgt := 31) C dX7_isY_24 (by decide) ?_
      obtain ⟨h6, hf⟩ := ck_some hf
      obtain rfl := Option.some.inj hf
      exact hR _ _ dX7_isY_31 h6
  · replace hf := ite_t c1 hf
    refine g_iload_n C dX7_isY_4 rfl 1 rfl ?_
    obtain ⟨q7, hq7, hf⟩ := bs hf
    refine g_callSi (n := 1) (As := [.int v1]) (rest := []) (wc := []) (w1 := []) (wr := []) (WS' := []) C (c7_isNumber hq7) gX7_isY_X7_isNumber (by decide +kernel) rfl rfl rfl ⟨by decide, by decide⟩ rfl [] [] [] rfl (by decide) rfl (by decide) (by decide) rfl (by decide) (Nat.le_of_ble_eq_true rfl) ⟨Nat.zero_le _, Nat.zero_le _⟩ rfl dX7_isY_5 ?_
    refine g_goto (tgt := 31) C dX7_isY_8 (by decide) ?_
    obtain ⟨h8, hf⟩ := ck_some hf
    obtain rfl := Option.some.inj hf
    exact hR _ _ dX7_isY_31 h8

-- X7_addsLine
def f7_addsLine_62 (now : Nat → Int32) (x1 : Int32) (x2 : Int32) (x3 : Int32) (x4 : Int32) (x5 : Int32) : Option (Int32 × (Nat → Int32)) :=
  if (now 0) = (20 : Int32) then
    (some ((-4 : Int32), now))
    else (ck (inb ((24 : Int32) + ((4 : Int32) * (now 0))) 104) <|
    ck (inb (((24 : Int32) + ((4 : Int32) * (now 0))) + (1 : Int32)) 104) <|
    ck (inb (((24 : Int32) + ((4 : Int32) * (now 0))) + (2 : Int32)) 104) <|
    ck (inb (((24 : Int32) + ((4 : Int32) * (now 0))) + (3 : Int32)) 104) <|
    some ((((upd (upd (upd (upd (upd now ((24 : Int32) + ((4 : Int32) * (now 0))).toNatClampNeg x1) (((24 : Int32) + ((4 : Int32) * (now 0))) + (1 : Int32)).toNatClampNeg x2) (((24 : Int32) + ((4 : Int32) * (now 0))) + (2 : Int32)).toNatClampNeg x3) (((24 : Int32) + ((4 : Int32) * (now 0))) + (3 : Int32)).toNatClampNeg x4) 0 (((upd (upd (upd (upd now ((24 : Int32) + ((4 : Int32) * (now 0))).toNatClampNeg x1) (((24 : Int32) + ((4 : Int32) * (now 0))) + (1 : Int32)).toNatClampNeg x2) (((24 : Int32) + ((4 : Int32) * (now 0))) + (2 : Int32)).toNatClampNeg x3) (((24 : Int32) + ((4 : Int32) * (now 0))) + (3 : Int32)).toNatClampNeg x4) 0) + (1 : Int32))) 0) - (1 : Int32)), (upd (upd (upd (upd (upd now ((24 : Int32) + ((4 : Int32) * (now 0))).toNatClampNeg x1) (((24 : Int32) + ((4 : Int32) * (now 0))) + (1 : Int32)).toNatClampNeg x2) (((24 : Int32) + ((4 : Int32) * (now 0))) + (2 : Int32)).toNatClampNeg x3) (((24 : Int32) + ((4 : Int32) * (now 0))) + (3 : Int32)).toNatClampNeg x4) 0 (((upd (upd (upd (upd now ((24 : Int32) + ((4 : Int32) * (now 0))).toNatClampNeg x1) (((24 : Int32) + ((4 : Int32) * (now 0))) + (1 : Int32)).toNatClampNeg x2) (((24 : Int32) + ((4 : Int32) * (now 0))) + (2 : Int32)).toNatClampNeg x3) (((24 : Int32) + ((4 : Int32) * (now 0))) + (3 : Int32)).toNatClampNeg x4) 0) + (1 : Int32)))))
def f7_addsLine_32 (now : Nat → Int32) (x1 : Int32) (x2 : Int32) (x3 : Int32) (x4 : Int32) (x5 : Int32) : Option (Int32 × (Nat → Int32)) :=
  if x5 = 0 then
    (some ((-2 : Int32), now))
    else (if x1 = (8 : Int32) then
    ((f7_isVariable x4).bind <| fun q9 =>
    if q9 = 0 then
    (some ((-2 : Int32), now))
    else (f7_addsLine_62 now x1 x2 x3 x4 x5))
    else (if x4 = 0 then
    (f7_addsLine_62 now x1 x2 x3 x4 x5)
    else (some ((-2 : Int32), now))))
def f7_addsLine_29 (now : Nat → Int32) (x1 : Int32) (x2 : Int32) (x3 : Int32) (x4 : Int32) : Option (Int32 × (Nat → Int32)) :=
  f7_addsLine_32 now x1 x2 x3 x4 (0 : Int32)
def f7_addsLine (now : Nat → Int32) (v0 : Int32) (v1 : Int32) (v2 : Int32) (v3 : Int32) : Option (Int32 × (Nat → Int32)) :=
  (f7_within v0 (0 : Int32) (8 : Int32)).bind <| fun q11 =>
    if q11 = 0 then
    (f7_addsLine_29 now v0 v1 v2 v3)
    else ((f7_isVariable v1).bind <| fun q13 =>
    if q13 = 0 then
    (f7_addsLine_29 now v0 v1 v2 v3)
    else ((f7_isY v0 v2).bind <| fun q15 =>
    if q15 = 0 then
    (f7_addsLine_29 now v0 v1 v2 v3)
    else (f7_addsLine_32 now v0 v1 v2 v3 (1 : Int32))))
def rm7_addsLine : Room := { frames := 3, cells := 0, slots := 0, locals := 63 }
theorem hm7_addsLine_0 : ∀ w ∈ u_ws RX7 TX7 24, w ∈ wsX7_addsLine := by decide +kernel
theorem hm7_addsLine_1 : Cond.fieldLink RX7 7 "SecretStepsModel" "now" "[I" ∈ wsX7_addsLine := by decide +kernel
set_option maxHeartbeats 4000000 in
set_option maxRecDepth 100000 in
theorem k7_addsLine_62 {p : Program} {l : Launch} {e : Env} {s : State} {m : MethodId} {args : Array Value} {below : List Frame} {meth : Method} {c : Code} {G : gG} {A : Nat → Prop} {Q : State → Prop} {mo mo_now mo_aside mo_past mo_refusals mo_text mo_vars mo_sights mo_isThere mo_taints mo_known mo_knows mo_letters mo_numbers : Nat} (C : CX p s m args meth c G A cX7_addsLine 7 RX7 wsX7_addsLine) {states : Int32} {length : Int32} {many : Int32} {steps : Int32} {isCut : Int32} {taint : Int32} {isOther : Int32} {at_ : Int32} {isFaulty : Int32} {orders : Int32} {hash : Int64} {now : Nat → Int32} {x1 : Int32} {x2 : Int32} {x3 : Int32} {x4 : Int32} {x5 : Int32} {res : Int32 × (Nat → Int32)} (hR : ∀ (lv : List (Nat × Value)) (pc : Nat), decode cX7_addsLine pc = .ok (.ireturn, 1) → GG p l e rm7_addsLine s m args below meth c G A 7 0 0 Q [(mo, oB 7 [.ref mo_now, .ref mo_aside, .ref mo_past, .int states, .ref mo_refusals, .ref mo_text, .int length, .ref mo_vars, .ref mo_sights, .int many, .int steps, .int isCut, .ref mo_isThere, .ref mo_taints, .ref mo_known, .int taint, .ref mo_knows, .int isOther, .int at_, .int isFaulty, .int orders, .ref mo_letters, .ref mo_numbers, .long hash]), (mo_now, aI G 104 res.2)] lv pc [.int res.1])
    (hf : f7_addsLine_62 now x1 x2 x3 x4 x5 = some res) : GG p l e rm7_addsLine s m args below meth c G A 7 0 0 Q [(mo, oB 7 [.ref mo_now, .ref mo_aside, .ref mo_past, .int states, .ref mo_refusals, .ref mo_text, .int length, .ref mo_vars, .ref mo_sights, .int many, .int steps, .int isCut, .ref mo_isThere, .ref mo_taints, .ref mo_known, .int taint, .ref mo_knows, .int isOther, .int at_, .int isFaulty, .int orders, .ref mo_letters, .ref mo_numbers, .long hash]), (mo_now, aI G 104 now)] [(0, .ref mo), (1, .int x1), (2, .int x2), (3, .int x3), (4, .int x4), (5, .int x5)] 62 [] := by
  unfold f7_addsLine_62 at hf
  refine g_aload_n C dX7_addsLine_62 rfl 0 rfl ?_
  refine g_get (C0 := RX7) (T := TX7) (N := 24) (ci := 7) (v := .ref mo_now) C hm7_addsLine_0 0 rfl rfl 0 (by decide) hm7_addsLine_1 rfl dX7_addsLine_63 ?_
  refine g_iconst (v := (0 : Int32)) C dX7_addsLine_66 (by decide +kernel) ?_
  refine g_iald (n := 104) (v := (now 0)) C 1 rfl (by decide +kernel) (by decide +kernel) rfl dX7_addsLine_67 ?_
  refine g_bipush (v := (20 : Int32)) C dX7_addsLine_68 (by decide +kernel) ?_
  refine g_icmp_ne (tgt := 76) C dX7_addsLine_70 (by decide) (fun c1 => ?_) (fun c1 => ?_)
  · replace hf := ite_f c1 hf
    refine g_bipush (v := (24 : Int32)) C dX7_addsLine_76 (by decide +kernel) ?_
    refine g_iconst (v := (4 : Int32)) C dX7_addsLine_78 (by decide +kernel) ?_
    refine g_aload_n C dX7_addsLine_79 rfl 0 rfl ?_
    refine g_get (C0 := RX7) (T := TX7) (N := 24) (ci := 7) (v := .ref mo_now) C hm7_addsLine_0 0 rfl rfl 0 (by decide) hm7_addsLine_1 rfl dX7_addsLine_80 ?_
    refine g_iconst (v := (0 : Int32)) C dX7_addsLine_83 (by decide +kernel) ?_
    refine g_iald (n := 104) (v := (now 0)) C 1 rfl (by decide +kernel) (by decide +kernel) rfl dX7_addsLine_84 ?_
    refine g_imul C dX7_addsLine_85 ?_
    refine g_iadd C dX7_addsLine_86 ?_
    refine g_istore (lv' := [(0, .ref mo), (1, .int x1), (2, .int x2), (3, .int x3), (4, .int x4), (5, .int x5), (6, .int ((24 : Int32) + ((4 : Int32) * (now 0))))]) C dX7_addsLine_87 (by decide) [1, 2, 3, 4, 5, 6, 0] rfl ?_
    refine g_aload_n C dX7_addsLine_89 rfl 0 rfl ?_
    refine g_get (C0 := RX7) (T := TX7) (N := 24) (ci := 7) (v := .ref mo_now) C hm7_addsLine_0 0 rfl rfl 0 (by decide) hm7_addsLine_1 rfl dX7_addsLine_90 ?_
    refine g_iload C dX7_addsLine_93 6 rfl ?_
    refine g_iload_n C dX7_addsLine_95 rfl 1 rfl ?_
    obtain ⟨h2, hf⟩ := ck_some hf
    refine g_iast (n := 104) (WS' := [(mo, oB 7 [.ref mo_now, .ref mo_aside, .ref mo_past, .int states, .ref mo_refusals, .ref mo_text, .int length, .ref mo_vars, .ref mo_sights, .int many, .int steps, .int isCut, .ref mo_isThere, .ref mo_taints, .ref mo_known, .int taint, .ref mo_knows, .int isOther, .int at_, .int isFaulty, .int orders, .ref mo_letters, .ref mo_numbers, .long hash]), (mo_now, aI G 104 (upd now ((24 : Int32) + ((4 : Int32) * (now 0))).toNatClampNeg x1))]) C 1 rfl h2 rfl dX7_addsLine_96 rfl ?_
    refine g_aload_n C dX7_addsLine_97 rfl 0 rfl ?_
    refine g_get (C0 := RX7) (T := TX7) (N := 24) (ci := 7) (v := .ref mo_now) C hm7_addsLine_0 0 rfl rfl 0 (by decide) hm7_addsLine_1 rfl dX7_addsLine_98 ?_
    refine g_iload C dX7_addsLine_101 6 rfl ?_
    refine g_iconst (v := (1 : Int32)) C dX7_addsLine_103 (by decide +kernel) ?_
    refine g_iadd C dX7_addsLine_104 ?_
    refine g_iload_n C dX7_addsLine_105 rfl 2 rfl ?_
    obtain ⟨h3, hf⟩ := ck_some hf
    refine g_iast (n := 104) (WS' := [(mo, oB 7 [.ref mo_now, .ref mo_aside, .ref mo_past, .int states, .ref mo_refusals, .ref mo_text, .int length, .ref mo_vars, .ref mo_sights, .int many, .int steps, .int isCut, .ref mo_isThere, .ref mo_taints, .ref mo_known, .int taint, .ref mo_knows, .int isOther, .int at_, .int isFaulty, .int orders, .ref mo_letters, .ref mo_numbers, .long hash]), (mo_now, aI G 104 (upd (upd now ((24 : Int32) + ((4 : Int32) * (now 0))).toNatClampNeg x1) (((24 : Int32) + ((4 : Int32) * (now 0))) + (1 : Int32)).toNatClampNeg x2))]) C 1 rfl h3 rfl dX7_addsLine_106 rfl ?_
    refine g_aload_n C dX7_addsLine_107 rfl 0 rfl ?_
    refine g_get (C0 := RX7) (T := TX7) (N := 24) (ci := 7) (v := .ref mo_now) C hm7_addsLine_0 0 rfl rfl 0 (by decide) hm7_addsLine_1 rfl dX7_addsLine_108 ?_
    refine g_iload C dX7_addsLine_111 6 rfl ?_
    refine g_iconst (v := (2 : Int32)) C dX7_addsLine_113 (by decide +kernel) ?_
    refine g_iadd C dX7_addsLine_114 ?_
    refine g_iload_n C dX7_addsLine_115 rfl 3 rfl ?_
    obtain ⟨h4, hf⟩ := ck_some hf
    refine g_iast (n := 104) (WS' := [(mo, oB 7 [.ref mo_now, .ref mo_aside, .ref mo_past, .int states, .ref mo_refusals, .ref mo_text, .int length, .ref mo_vars, .ref mo_sights, .int many, .int steps, .int isCut, .ref mo_isThere, .ref mo_taints, .ref mo_known, .int taint, .ref mo_knows, .int isOther, .int at_, .int isFaulty, .int orders, .ref mo_letters, .ref mo_numbers, .long hash]), (mo_now, aI G 104 (upd (upd (upd now ((24 : Int32) + ((4 : Int32) * (now 0))).toNatClampNeg x1) (((24 : Int32) + ((4 : Int32) * (now 0))) + (1 : Int32)).toNatClampNeg x2) (((24 : Int32) + ((4 : Int32) * (now 0))) + (2 : Int32)).toNatClampNeg x3))]) C 1 rfl h4 rfl dX7_addsLine_116 rfl ?_
    refine g_aload_n C dX7_addsLine_117 rfl 0 rfl ?_
    refine g_get (C0 := RX7) (T := TX7) (N := 24) (ci := 7) (v := .ref mo_now) C hm7_addsLine_0 0 rfl rfl 0 (by decide) hm7_addsLine_1 rfl dX7_addsLine_118 ?_
    refine g_iload C dX7_addsLine_121 6 rfl ?_
    refine g_iconst (v := (3 : Int32)) C dX7_addsLine_123 (by decide +kernel) ?_
    refine g_iadd C dX7_addsLine_124 ?_
    refine g_iload C dX7_addsLine_125 4 rfl ?_
    obtain ⟨h5, hf⟩ := ck_some hf
    refine g_iast (n := 104) (WS' := [(mo, oB 7 [.ref mo_now, .ref mo_aside, .ref mo_past, .int states, .ref mo_refusals, .ref mo_text, .int length, .ref mo_vars, .ref mo_sights, .int many, .int steps, .int isCut, .ref mo_isThere, .ref mo_taints, .ref mo_known, .int taint, .ref mo_knows, .int isOther, .int at_, .int isFaulty, .int orders, .ref mo_letters, .ref mo_numbers, .long hash]), (mo_now, aI G 104 (upd (upd (upd (upd now ((24 : Int32) + ((4 : Int32) * (now 0))).toNatClampNeg x1) (((24 : Int32) + ((4 : Int32) * (now 0))) + (1 : Int32)).toNatClampNeg x2) (((24 : Int32) + ((4 : Int32) * (now 0))) + (2 : Int32)).toNatClampNeg x3) (((24 : Int32) + ((4 : Int32) * (now 0))) + (3 : Int32)).toNatClampNeg x4))]) C 1 rfl h5 rfl dX7_addsLine_127 rfl ?_
    refine g_aload_n C dX7_addsLine_128 rfl 0 rfl ?_
    refine g_get (C0 := RX7) (T := TX7) (N := 24) (ci := 7) (v := .ref mo_now) C hm7_addsLine_0 0 rfl rfl 0 (by decide) hm7_addsLine_1 rfl dX7_addsLine_129 ?_
    refine g_iconst (v := (0 : Int32)) C dX7_addsLine_132 (by decide +kernel) ?_
    refine g_dup2 C dX7_addsLine_133 rfl rfl ?_
    refine g_iald (n := 104) (v := ((upd (upd (upd (upd now ((24 : Int32) + ((4 : Int32) * (now 0))).toNatClampNeg x1) (((24 : Int32) + ((4 : Int32) * (now 0))) + (1 : Int32)).toNatClampNeg x2) (((24 : Int32) + ((4 : Int32) * (now 0))) + (2 : Int32)).toNatClampNeg x3) (((24 : Int32) + ((4 : Int32) * (now 0))) + (3 : Int32)).toNatClampNeg x4) 0)) C 1 rfl (by decide +kernel) (by decide +kernel) rfl dX7_addsLine_134 ?_
    refine g_iconst (v := (1 : Int32)) C dX7_addsLine_135 (by decide +kernel) ?_
    refine g_iadd C dX7_addsLine_136 ?_
    refine g_iast (n := 104) (WS' := [(mo, oB 7 [.ref mo_now, .ref mo_aside, .ref mo_past, .int states, .ref mo_refusals, .ref mo_text, .int length, .ref mo_vars, .ref mo_sights, .int many, .int steps, .int isCut, .ref mo_isThere, .ref mo_taints, .ref mo_known, .int taint, .ref mo_knows, .int isOther, .int at_, .int isFaulty, .int orders, .ref mo_letters, .ref mo_numbers, .long hash]), (mo_now, aI G 104 (upd (upd (upd (upd (upd now ((24 : Int32) + ((4 : Int32) * (now 0))).toNatClampNeg x1) (((24 : Int32) + ((4 : Int32) * (now 0))) + (1 : Int32)).toNatClampNeg x2) (((24 : Int32) + ((4 : Int32) * (now 0))) + (2 : Int32)).toNatClampNeg x3) (((24 : Int32) + ((4 : Int32) * (now 0))) + (3 : Int32)).toNatClampNeg x4) 0 (((upd (upd (upd (upd now ((24 : Int32) + ((4 : Int32) * (now 0))).toNatClampNeg x1) (((24 : Int32) + ((4 : Int32) * (now 0))) + (1 : Int32)).toNatClampNeg x2) (((24 : Int32) + ((4 : Int32) * (now 0))) + (2 : Int32)).toNatClampNeg x3) (((24 : Int32) + ((4 : Int32) * (now 0))) + (3 : Int32)).toNatClampNeg x4) 0) + (1 : Int32))))]) C 1 rfl (by decide +kernel) (by decide +kernel) dX7_addsLine_137 rfl ?_
    refine g_aload_n C dX7_addsLine_138 rfl 0 rfl ?_
    refine g_get (C0 := RX7) (T := TX7) (N := 24) (ci := 7) (v := .ref mo_now) C hm7_addsLine_0 0 rfl rfl 0 (by decide) hm7_addsLine_1 rfl dX7_addsLine_139 ?_
    refine g_iconst (v := (0 : Int32)) C dX7_addsLine_142 (by decide +kernel) ?_
    refine g_iald (n := 104) (v := ((upd (upd (upd (upd (upd now ((24 : Int32) + ((4 : Int32) * (now 0))).toNatClampNeg x1) (((24 : Int32) + ((4 : Int32) * (now 0))) + (1 : Int32)).toNatClampNeg x2) (((24 : Int32) + ((4 : Int32) * (now 0))) + (2 : Int32)).toNatClampNeg x3) (((24 : Int32) + ((4 : Int32) * (now 0))) + (3 : Int32)).toNatClampNeg x4) 0 (((upd (upd (upd (upd now ((24 : Int32) + ((4 : Int32) * (now 0))).toNatClampNeg x1) (((24 : Int32) + ((4 : Int32) * (now 0))) + (1 : Int32)).toNatClampNeg x2) (((24 : Int32) + ((4 : Int32) * (now 0))) + (2 : Int32)).toNatClampNeg x3) (((24 : Int32) + ((4 : Int32) * (now 0))) + (3 : Int32)).toNatClampNeg x4) 0) + (1 : Int32))) 0)) C 1 rfl (by decide +kernel) (by decide +kernel) rfl dX7_addsLine_143 ?_
    refine g_iconst (v := (1 : Int32)) C dX7_addsLine_144 (by decide +kernel) ?_
    refine g_isub C dX7_addsLine_145 ?_
    obtain rfl := Option.some.inj hf
    exact hR _ _ dX7_addsLine_146
  · replace hf := ite_t c1 hf
    refine g_bipush (v := (-4 : Int32)) C dX7_addsLine_73 (by decide +kernel) ?_
    obtain rfl := Option.some.inj hf
    exact hR _ _ dX7_addsLine_75
set_option maxHeartbeats 4000000 in
set_option maxRecDepth 100000 in
theorem k7_addsLine_32 {p : Program} {l : Launch} {e : Env} {s : State} {m : MethodId} {args : Array Value} {below : List Frame} {meth : Method} {c : Code} {G : gG} {A : Nat → Prop} {Q : State → Prop} {mo mo_now mo_aside mo_past mo_refusals mo_text mo_vars mo_sights mo_isThere mo_taints mo_known mo_knows mo_letters mo_numbers : Nat} (C : CX p s m args meth c G A cX7_addsLine 7 RX7 wsX7_addsLine) {states : Int32} {length : Int32} {many : Int32} {steps : Int32} {isCut : Int32} {taint : Int32} {isOther : Int32} {at_ : Int32} {isFaulty : Int32} {orders : Int32} {hash : Int64} {now : Nat → Int32} {x1 : Int32} {x2 : Int32} {x3 : Int32} {x4 : Int32} {x5 : Int32} {res : Int32 × (Nat → Int32)} (hR : ∀ (lv : List (Nat × Value)) (pc : Nat), decode cX7_addsLine pc = .ok (.ireturn, 1) → GG p l e rm7_addsLine s m args below meth c G A 7 0 0 Q [(mo, oB 7 [.ref mo_now, .ref mo_aside, .ref mo_past, .int states, .ref mo_refusals, .ref mo_text, .int length, .ref mo_vars, .ref mo_sights, .int many, .int steps, .int isCut, .ref mo_isThere, .ref mo_taints, .ref mo_known, .int taint, .ref mo_knows, .int isOther, .int at_, .int isFaulty, .int orders, .ref mo_letters, .ref mo_numbers, .long hash]), (mo_now, aI G 104 res.2)] lv pc [.int res.1])
    (hf : f7_addsLine_32 now x1 x2 x3 x4 x5 = some res) : GG p l e rm7_addsLine s m args below meth c G A 7 0 0 Q [(mo, oB 7 [.ref mo_now, .ref mo_aside, .ref mo_past, .int states, .ref mo_refusals, .ref mo_text, .int length, .ref mo_vars, .ref mo_sights, .int many, .int steps, .int isCut, .ref mo_isThere, .ref mo_taints, .ref mo_known, .int taint, .ref mo_knows, .int isOther, .int at_, .int isFaulty, .int orders, .ref mo_letters, .ref mo_numbers, .long hash]), (mo_now, aI G 104 now)] [(0, .ref mo), (1, .int x1), (2, .int x2), (3, .int x3), (4, .int x4), (5, .int x5)] 32 [] := by
  unfold f7_addsLine_32 at hf
  refine g_iload C dX7_addsLine_32 5 rfl ?_
  refine g_if_eq (tgt := 59) C dX7_addsLine_34 (by decide) (fun c6 => ?_) (fun c6 => ?_)
  · replace hf := ite_t c6 hf
    refine g_bipush (v := (-2 : Int32)) C dX7_addsLine_59 (by decide +kernel) ?_
    obtain rfl := Option.some.inj hf
    exact hR _ _ dX7_addsLine_61
  · replace hf := ite_f c6 hf
    refine g_iload_n C dX7_addsLine_37 rfl 1 rfl ?_
    refine g_bipush (v := (8 : Int32)) C dX7_addsLine_38 (by decide +kernel) ?_
    refine g_icmp_ne (tgt := 54) C dX7_addsLine_40 (by decide) (fun c7 => ?_) (fun c7 => ?_)
    · replace hf := ite_f c7 hf
      refine g_iload C dX7_addsLine_54 4 rfl ?_
      refine g_if_eq (tgt := 62) C dX7_addsLine_56 (by decide) (fun c8 => ?_) (fun c8 => ?_)
      · replace hf := ite_t c8 hf
        exact k7_addsLine_62 C hR hf
      · replace hf := ite_f c8 hf
        refine g_bipush (v := (-2 : Int32)) C dX7_addsLine_59 (by decide +kernel) ?_
        obtain rfl := Option.some.inj hf
        exact hR _ _ dX7_addsLine_61
    · replace hf := ite_t c7 hf
      refine g_iload C dX7_addsLine_43 4 rfl ?_
      obtain ⟨q9, hq9, hf⟩ := bs hf
      refine g_callSi (n := 1) (As := [.int x4]) (rest := []) (wc := []) (w1 := []) (wr := [(mo, oB 7 [.ref mo_now, .ref mo_aside, .ref mo_past, .int states, .ref mo_refusals, .ref mo_text, .int length, .ref mo_vars, .ref mo_sights, .int many, .int steps, .int isCut, .ref mo_isThere, .ref mo_taints, .ref mo_known, .int taint, .ref mo_knows, .int isOther, .int at_, .int isFaulty, .int orders, .ref mo_letters, .ref mo_numbers, .long hash]), (mo_now, aI G 104 now)]) (WS' := [(mo, oB 7 [.ref mo_now, .ref mo_aside, .ref mo_past, .int states, .ref mo_refusals, .ref mo_text, .int length, .ref mo_vars, .ref mo_sights, .int many, .int steps, .int isCut, .ref mo_isThere, .ref mo_taints, .ref mo_known, .int taint, .ref mo_knows, .int isOther, .int at_, .int isFaulty, .int orders, .ref mo_letters, .ref mo_numbers, .long hash]), (mo_now, aI G 104 now)]) C (c7_isVariable hq9) gX7_addsLine_X7_isVariable (by decide +kernel) rfl rfl rfl ⟨by decide, by decide⟩ rfl [] [0, 1] [0, 1] rfl (by decide) rfl (by decide) (by decide) rfl (by decide) (Nat.le_of_ble_eq_true rfl) ⟨Nat.zero_le _, Nat.zero_le _⟩ rfl dX7_addsLine_45 ?_
      refine g_if_ne (tgt := 62) C dX7_addsLine_48 (by decide) (fun c10 => ?_) (fun c10 => ?_)
      · replace hf := ite_f c10 hf
        exact k7_addsLine_62 C hR hf
      · replace hf := ite_t c10 hf
        refine g_goto (tgt := 59) C dX7_addsLine_51 (by decide) ?_
        refine g_bipush (v := (-2 : Int32)) C dX7_addsLine_59 (by decide +kernel) ?_
        obtain rfl := Option.some.inj hf
        exact hR _ _ dX7_addsLine_61
set_option maxHeartbeats 4000000 in
set_option maxRecDepth 100000 in
theorem k7_addsLine_29 {p : Program} {l : Launch} {e : Env} {s : State} {m : MethodId} {args : Array Value} {below : List Frame} {meth : Method} {c : Code} {G : gG} {A : Nat → Prop} {Q : State → Prop} {mo mo_now mo_aside mo_past mo_refusals mo_text mo_vars mo_sights mo_isThere mo_taints mo_known mo_knows mo_letters mo_numbers : Nat} (C : CX p s m args meth c G A cX7_addsLine 7 RX7 wsX7_addsLine) {states : Int32} {length : Int32} {many : Int32} {steps : Int32} {isCut : Int32} {taint : Int32} {isOther : Int32} {at_ : Int32} {isFaulty : Int32} {orders : Int32} {hash : Int64} {now : Nat → Int32} {x1 : Int32} {x2 : Int32} {x3 : Int32} {x4 : Int32} {res : Int32 × (Nat → Int32)} (hR : ∀ (lv : List (Nat × Value)) (pc : Nat), decode cX7_addsLine pc = .ok (.ireturn, 1) → GG p l e rm7_addsLine s m args below meth c G A 7 0 0 Q [(mo, oB 7 [.ref mo_now, .ref mo_aside, .ref mo_past, .int states, .ref mo_refusals, .ref mo_text, .int length, .ref mo_vars, .ref mo_sights, .int many, .int steps, .int isCut, .ref mo_isThere, .ref mo_taints, .ref mo_known, .int taint, .ref mo_knows, .int isOther, .int at_, .int isFaulty, .int orders, .ref mo_letters, .ref mo_numbers, .long hash]), (mo_now, aI G 104 res.2)] lv pc [.int res.1])
    (hf : f7_addsLine_29 now x1 x2 x3 x4 = some res) : GG p l e rm7_addsLine s m args below meth c G A 7 0 0 Q [(mo, oB 7 [.ref mo_now, .ref mo_aside, .ref mo_past, .int states, .ref mo_refusals, .ref mo_text, .int length, .ref mo_vars, .ref mo_sights, .int many, .int steps, .int isCut, .ref mo_isThere, .ref mo_taints, .ref mo_known, .int taint, .ref mo_knows, .int isOther, .int at_, .int isFaulty, .int orders, .ref mo_letters, .ref mo_numbers, .long hash]), (mo_now, aI G 104 now)] [(0, .ref mo), (1, .int x1), (2, .int x2), (3, .int x3), (4, .int x4)] 29 [] := by
  unfold f7_addsLine_29 at hf
  refine g_iconst (v := (0 : Int32)) C dX7_addsLine_29 (by decide +kernel) ?_
  refine g_istore (lv' := [(0, .ref mo), (1, .int x1), (2, .int x2), (3, .int x3), (4, .int x4), (5, .int (0 : Int32))]) C dX7_addsLine_30 (by decide) [1, 2, 3, 4, 5, 0] rfl ?_
  exact k7_addsLine_32 C hR hf
set_option maxHeartbeats 4000000 in
set_option maxRecDepth 100000 in
theorem c7_addsLine {l : Launch} {G : gG} {mo mo_now mo_aside mo_past mo_refusals mo_text mo_vars mo_sights mo_isThere mo_taints mo_known mo_knows mo_letters mo_numbers : Nat} {now : Nat → Int32} {states : Int32} {length : Int32} {many : Int32} {steps : Int32} {isCut : Int32} {taint : Int32} {isOther : Int32} {at_ : Int32} {isFaulty : Int32} {orders : Int32} {hash : Int64} {v0 : Int32} {v1 : Int32} {v2 : Int32} {v3 : Int32} {res : Int32 × (Nat → Int32)} (hf : f7_addsLine now v0 v1 v2 v3 = some res) : MI l yX7_addsLine wsX7_addsLine rm7_addsLine G [.ref mo, .int v0, .int v1, .int v2, .int v3] [(mo, oB 7 [.ref mo_now, .ref mo_aside, .ref mo_past, .int states, .ref mo_refusals, .ref mo_text, .int length, .ref mo_vars, .ref mo_sights, .int many, .int steps, .int isCut, .ref mo_isThere, .ref mo_taints, .ref mo_known, .int taint, .ref mo_knows, .int isOther, .int at_, .int isFaulty, .int orders, .ref mo_letters, .ref mo_numbers, .long hash]), (mo_now, aI G 104 now)] (res.1) [(mo, oB 7 [.ref mo_now, .ref mo_aside, .ref mo_past, .int states, .ref mo_refusals, .ref mo_text, .int length, .ref mo_vars, .ref mo_sights, .int many, .int steps, .int isCut, .ref mo_isThere, .ref mo_taints, .ref mo_known, .int taint, .ref mo_knows, .int isOther, .int at_, .int isFaulty, .int orders, .ref mo_letters, .ref mo_numbers, .long hash]), (mo_now, aI G 104 res.2)] := by
  refine MI_of (res.1) (cc := cX7_addsLine) (nL := 7) (lv := [(0, .ref mo), (1, .int v0), (2, .int v1), (3, .int v2), (4, .int v3)]) (by decide +kernel) rfl (Nat.le_of_ble_eq_true rfl) rfl ?_
  intro p e s m args below meth c A Q C hR
  unfold f7_addsLine at hf
  refine g_iload_n C dX7_addsLine_0 rfl 1 rfl ?_
  refine g_iconst (v := (0 : Int32)) C dX7_addsLine_1 (by decide +kernel) ?_
  refine g_bipush (v := (8 : Int32)) C dX7_addsLine_2 (by decide +kernel) ?_
  obtain ⟨q11, hq11, hf⟩ := bs hf
  refine g_callSi (n := 3) (As := [.int v0, .int (0 : Int32), .int (8 : Int32)]) (rest := []) (wc := []) (w1 := []) (wr := [(mo, oB 7 [.ref mo_now, .ref mo_aside, .ref mo_past, .int states, .ref mo_refusals, .ref mo_text, .int length, .ref mo_vars, .ref mo_sights, .int many, .int steps, .int isCut, .ref mo_isThere, .ref mo_taints, .ref mo_known, .int taint, .ref mo_knows, .int isOther, .int at_, .int isFaulty, .int orders, .ref mo_letters, .ref mo_numbers, .long hash]), (mo_now, aI G 104 now)]) (WS' := [(mo, oB 7 [.ref mo_now, .ref mo_aside, .ref mo_past, .int states, .ref mo_refusals, .ref mo_text, .int length, .ref mo_vars, .ref mo_sights, .int many, .int steps, .int isCut, .ref mo_isThere, .ref mo_taints, .ref mo_known, .int taint, .ref mo_knows, .int isOther, .int at_, .int isFaulty, .int orders, .ref mo_letters, .ref mo_numbers, .long hash]), (mo_now, aI G 104 now)]) C (c7_within hq11) gX7_addsLine_X7_within (by decide +kernel) rfl rfl rfl ⟨by decide, by decide⟩ rfl [] [0, 1] [0, 1] rfl (by decide) rfl (by decide) (by decide) rfl (by decide) (Nat.le_of_ble_eq_true rfl) ⟨Nat.zero_le _, Nat.zero_le _⟩ rfl dX7_addsLine_4 ?_
  refine g_if_eq (tgt := 29) C dX7_addsLine_7 (by decide) (fun c12 => ?_) (fun c12 => ?_)
  · replace hf := ite_t c12 hf
    exact k7_addsLine_29 C hR hf
  · replace hf := ite_f c12 hf
    refine g_iload_n C dX7_addsLine_10 rfl 2 rfl ?_
    obtain ⟨q13, hq13, hf⟩ := bs hf
    refine g_callSi (n := 1) (As := [.int v1]) (rest := []) (wc := []) (w1 := []) (wr := [(mo, oB 7 [.ref mo_now, .ref mo_aside, .ref mo_past, .int states, .ref mo_refusals, .ref mo_text, .int length, .ref mo_vars, .ref mo_sights, .int many, .int steps, .int isCut, .ref mo_isThere, .ref mo_taints, .ref mo_known, .int taint, .ref mo_knows, .int isOther, .int at_, .int isFaulty, .int orders, .ref mo_letters, .ref mo_numbers, .long hash]), (mo_now, aI G 104 now)]) (WS' := [(mo, oB 7 [.ref mo_now, .ref mo_aside, .ref mo_past, .int states, .ref mo_refusals, .ref mo_text, .int length, .ref mo_vars, .ref mo_sights, .int many, .int steps, .int isCut, .ref mo_isThere, .ref mo_taints, .ref mo_known, .int taint, .ref mo_knows, .int isOther, .int at_, .int isFaulty, .int orders, .ref mo_letters, .ref mo_numbers, .long hash]), (mo_now, aI G 104 now)]) C (c7_isVariable hq13) gX7_addsLine_X7_isVariable (by decide +kernel) rfl rfl rfl ⟨by decide, by decide⟩ rfl [] [0, 1] [0, 1] rfl (by decide) rfl (by decide) (by decide) rfl (by decide) (Nat.le_of_ble_eq_true rfl) ⟨Nat.zero_le _, Nat.zero_le _⟩ rfl dX7_addsLine_11 ?_
    refine g_if_eq (tgt := 29) C dX7_addsLine_14 (by decide) (fun c14 => ?_) (fun c14 => ?_)
    · replace hf := ite_t c14 hf
      exact k7_addsLine_29 C hR hf
    · replace hf := ite_f c14 hf
      refine g_iload_n C dX7_addsLine_17 rfl 1 rfl ?_
      refine g_iload_n C dX7_addsLine_18 rfl 3 rfl ?_
      obtain ⟨q15, hq15, hf⟩ := bs hf
      refine g_callSi (n := 2) (As := [.int v0, .int v2]) (rest := []) (wc := []) (w1 := []) (wr := [(mo, oB 7 [.ref mo_now, .ref mo_aside, .ref mo_past, .int states, .ref mo_refusals, .ref mo_text, .int length, .ref mo_vars, .ref mo_sights, .int many, .int steps, .int isCut, .ref mo_isThere, .ref mo_taints, .ref mo_known, .int taint, .ref mo_knows, .int isOther, .int at_, .int isFaulty, .int orders, .ref mo_letters, .ref mo_numbers, .long hash]), (mo_now, aI G 104 now)]) (WS' := [(mo, oB 7 [.ref mo_now, .ref mo_aside, .ref mo_past, .int states, .ref mo_refusals, .ref mo_text, .int length, .ref mo_vars, .ref mo_sights, .int many, .int steps, .int isCut, .ref mo_isThere, .ref mo_taints, .ref mo_known, .int taint, .ref mo_knows, .int isOther, .int at_, .int isFaulty, .int orders, .ref mo_letters, .ref mo_numbers, .long hash]), (mo_now, aI G 104 now)]) C (c7_isY hq15) gX7_addsLine_X7_isY (by decide +kernel) rfl rfl rfl ⟨by decide, by decide⟩ rfl [] [0, 1] [0, 1] rfl (by decide) rfl (by decide) (by decide) rfl (by decide) (Nat.le_of_ble_eq_true rfl) ⟨Nat.zero_le _, Nat.zero_le _⟩ rfl dX7_addsLine_19 ?_
      refine g_if_eq (tgt := 29) C dX7_addsLine_22 (by decide) (fun c16 => ?_) (fun c16 => ?_)
      · replace hf := ite_t c16 hf
        exact k7_addsLine_29 C hR hf
      · replace hf := ite_f c16 hf
        refine g_iconst (v := (1 : Int32)) C dX7_addsLine_25 (by decide +kernel) ?_
        refine g_goto (tgt := 30) C dX7_addsLine_26 (by decide) ?_
        refine g_istore (lv' := [(0, .ref mo), (1, .int v0), (2, .int v1), (3, .int v2), (4, .int v3), (5, .int (1 : Int32))]) C dX7_addsLine_30 (by decide) [1, 2, 3, 4, 5, 0] rfl ?_
        exact k7_addsLine_32 C hR hf

-- X7_dropsLine
def f7_dropsLine_63 (now : Nat → Int32) (x1 : Int32) (x2 : Int32) : Option (Int32 × (Nat → Int32)) :=
  some ((now 0), now)
def f7_dropsLine_28b (k28 : (Nat → Int32) × Int32 × Int32 → Option (Int32 × (Nat → Int32))) (now : Nat → Int32) (x1 : Int32) (x2 : Int32) : Option (Int32 × (Nat → Int32)) :=
  if ((24 : Int32) + ((4 : Int32) * (now 0))) ≤ x2 then
    (f7_dropsLine_63 now x1 x2)
    else (ck (inb (x2 + (4 : Int32)) 104) <|
    ck (inb x2 104) <|
    k28 ((upd now x2.toNatClampNeg (now (x2 + (4 : Int32)).toNatClampNeg)), x1, (x2 + (1 : Int32))))
def f7_dropsLine_28 (n : Nat) (s : (Nat → Int32) × Int32 × Int32) : Option (Int32 × (Nat → Int32)) := itf (fun k s => f7_dropsLine_28b k s.1 s.2.1 s.2.2) n s
def f7_dropsLine (now : Nat → Int32) (v0 : Int32) : Option (Int32 × (Nat → Int32)) :=
  (f7_isLine now v0).bind <| fun q4 =>
    if q4 = 0 then
    (some ((-2 : Int32), now))
    else (f7_dropsLine_28 1000 ((upd now 0 ((now 0) - (1 : Int32))), v0, ((24 : Int32) + ((4 : Int32) * v0))))
def rm7_dropsLine : Room := { frames := 2, cells := 0, slots := 0, locals := 43 }
theorem hm7_dropsLine_0 : ∀ w ∈ u_ws RX7 TX7 24, w ∈ wsX7_dropsLine := by decide +kernel
theorem hm7_dropsLine_1 : Cond.fieldLink RX7 7 "SecretStepsModel" "now" "[I" ∈ wsX7_dropsLine := by decide +kernel
set_option maxHeartbeats 4000000 in
set_option maxRecDepth 100000 in
theorem k7_dropsLine_63 {p : Program} {l : Launch} {e : Env} {s : State} {m : MethodId} {args : Array Value} {below : List Frame} {meth : Method} {c : Code} {G : gG} {A : Nat → Prop} {Q : State → Prop} {mo mo_now mo_aside mo_past mo_refusals mo_text mo_vars mo_sights mo_isThere mo_taints mo_known mo_knows mo_letters mo_numbers : Nat} (C : CX p s m args meth c G A cX7_dropsLine 3 RX7 wsX7_dropsLine) {states : Int32} {length : Int32} {many : Int32} {steps : Int32} {isCut : Int32} {taint : Int32} {isOther : Int32} {at_ : Int32} {isFaulty : Int32} {orders : Int32} {hash : Int64} {now : Nat → Int32} {x1 : Int32} {x2 : Int32} {res : Int32 × (Nat → Int32)} (hR : ∀ (lv : List (Nat × Value)) (pc : Nat), decode cX7_dropsLine pc = .ok (.ireturn, 1) → GG p l e rm7_dropsLine s m args below meth c G A 3 0 0 Q [(mo, oB 7 [.ref mo_now, .ref mo_aside, .ref mo_past, .int states, .ref mo_refusals, .ref mo_text, .int length, .ref mo_vars, .ref mo_sights, .int many, .int steps, .int isCut, .ref mo_isThere, .ref mo_taints, .ref mo_known, .int taint, .ref mo_knows, .int isOther, .int at_, .int isFaulty, .int orders, .ref mo_letters, .ref mo_numbers, .long hash]), (mo_now, aI G 104 res.2)] lv pc [.int res.1])
    (hf : f7_dropsLine_63 now x1 x2 = some res) : GG p l e rm7_dropsLine s m args below meth c G A 3 0 0 Q [(mo, oB 7 [.ref mo_now, .ref mo_aside, .ref mo_past, .int states, .ref mo_refusals, .ref mo_text, .int length, .ref mo_vars, .ref mo_sights, .int many, .int steps, .int isCut, .ref mo_isThere, .ref mo_taints, .ref mo_known, .int taint, .ref mo_knows, .int isOther, .int at_, .int isFaulty, .int orders, .ref mo_letters, .ref mo_numbers, .long hash]), (mo_now, aI G 104 now)] [(0, .ref mo), (1, .int x1), (2, .int x2)] 63 [] := by
  unfold f7_dropsLine_63 at hf
  refine g_aload_n C dX7_dropsLine_63 rfl 0 rfl ?_
  refine g_get (C0 := RX7) (T := TX7) (N := 24) (ci := 7) (v := .ref mo_now) C hm7_dropsLine_0 0 rfl rfl 0 (by decide) hm7_dropsLine_1 rfl dX7_dropsLine_64 ?_
  refine g_iconst (v := (0 : Int32)) C dX7_dropsLine_67 (by decide +kernel) ?_
  refine g_iald (n := 104) (v := (now 0)) C 1 rfl (by decide +kernel) (by decide +kernel) rfl dX7_dropsLine_68 ?_
  obtain rfl := Option.some.inj hf
  exact hR _ _ dX7_dropsLine_69
set_option maxHeartbeats 4000000 in
set_option maxRecDepth 100000 in
theorem k7_dropsLine_28b {p : Program} {l : Launch} {e : Env} {s : State} {m : MethodId} {args : Array Value} {below : List Frame} {meth : Method} {c : Code} {G : gG} {A : Nat → Prop} {Q : State → Prop} {mo mo_now mo_aside mo_past mo_refusals mo_text mo_vars mo_sights mo_isThere mo_taints mo_known mo_knows mo_letters mo_numbers : Nat} (C : CX p s m args meth c G A cX7_dropsLine 3 RX7 wsX7_dropsLine) {states : Int32} {length : Int32} {many : Int32} {steps : Int32} {isCut : Int32} {taint : Int32} {isOther : Int32} {at_ : Int32} {isFaulty : Int32} {orders : Int32} {hash : Int64} {k28 : (Nat → Int32) × Int32 × Int32 → Option (Int32 × (Nat → Int32))} {now : Nat → Int32} {x1 : Int32} {x2 : Int32} {res : Int32 × (Nat → Int32)} (hR : ∀ (lv : List (Nat × Value)) (pc : Nat), decode cX7_dropsLine pc = .ok (.ireturn, 1) → GG p l e rm7_dropsLine s m args below meth c G A 3 0 0 Q [(mo, oB 7 [.ref mo_now, .ref mo_aside, .ref mo_past, .int states, .ref mo_refusals, .ref mo_text, .int length, .ref mo_vars, .ref mo_sights, .int many, .int steps, .int isCut, .ref mo_isThere, .ref mo_taints, .ref mo_known, .int taint, .ref mo_knows, .int isOther, .int at_, .int isFaulty, .int orders, .ref mo_letters, .ref mo_numbers, .long hash]), (mo_now, aI G 104 res.2)] lv pc [.int res.1])
    (hk28 : ∀ s', k28 s' = some res → GG p l e rm7_dropsLine s m args below meth c G A 3 0 0 Q [(mo, oB 7 [.ref mo_now, .ref mo_aside, .ref mo_past, .int states, .ref mo_refusals, .ref mo_text, .int length, .ref mo_vars, .ref mo_sights, .int many, .int steps, .int isCut, .ref mo_isThere, .ref mo_taints, .ref mo_known, .int taint, .ref mo_knows, .int isOther, .int at_, .int isFaulty, .int orders, .ref mo_letters, .ref mo_numbers, .long hash]), (mo_now, aI G 104 s'.1)] [(0, .ref mo), (1, .int s'.2.1), (2, .int s'.2.2)] 28 [])
    (hf : f7_dropsLine_28b k28 now x1 x2 = some res) : GG p l e rm7_dropsLine s m args below meth c G A 3 0 0 Q [(mo, oB 7 [.ref mo_now, .ref mo_aside, .ref mo_past, .int states, .ref mo_refusals, .ref mo_text, .int length, .ref mo_vars, .ref mo_sights, .int many, .int steps, .int isCut, .ref mo_isThere, .ref mo_taints, .ref mo_known, .int taint, .ref mo_knows, .int isOther, .int at_, .int isFaulty, .int orders, .ref mo_letters, .ref mo_numbers, .long hash]), (mo_now, aI G 104 now)] [(0, .ref mo), (1, .int x1), (2, .int x2)] 28 [] := by
  unfold f7_dropsLine_28b at hf
  refine g_iload_n C dX7_dropsLine_28 rfl 2 rfl ?_
  refine g_bipush (v := (24 : Int32)) C dX7_dropsLine_29 (by decide +kernel) ?_
  refine g_iconst (v := (4 : Int32)) C dX7_dropsLine_31 (by decide +kernel) ?_
  refine g_aload_n C dX7_dropsLine_32 rfl 0 rfl ?_
  refine g_get (C0 := RX7) (T := TX7) (N := 24) (ci := 7) (v := .ref mo_now) C hm7_dropsLine_0 0 rfl rfl 0 (by decide) hm7_dropsLine_1 rfl dX7_dropsLine_33 ?_
  refine g_iconst (v := (0 : Int32)) C dX7_dropsLine_36 (by decide +kernel) ?_
  refine g_iald (n := 104) (v := (now 0)) C 1 rfl (by decide +kernel) (by decide +kernel) rfl dX7_dropsLine_37 ?_
  refine g_imul C dX7_dropsLine_38 ?_
  refine g_iadd C dX7_dropsLine_39 ?_
  refine g_icmp_ge (tgt := 63) C dX7_dropsLine_40 (by decide) (fun c1 => ?_) (fun c1 => ?_)
  · replace hf := ite_t c1 hf
    exact k7_dropsLine_63 C hR hf
  · replace hf := ite_f c1 hf
    refine g_aload_n C dX7_dropsLine_43 rfl 0 rfl ?_
    refine g_get (C0 := RX7) (T := TX7) (N := 24) (ci := 7) (v := .ref mo_now) C hm7_dropsLine_0 0 rfl rfl 0 (by decide) hm7_dropsLine_1 rfl dX7_dropsLine_44 ?_
    refine g_iload_n C dX7_dropsLine_47 rfl 2 rfl ?_
    refine g_aload_n C dX7_dropsLine_48 rfl 0 rfl ?_
    refine g_get (C0 := RX7) (T := TX7) (N := 24) (ci := 7) (v := .ref mo_now) C hm7_dropsLine_0 0 rfl rfl 0 (by decide) hm7_dropsLine_1 rfl dX7_dropsLine_49 ?_
    refine g_iload_n C dX7_dropsLine_52 rfl 2 rfl ?_
    refine g_iconst (v := (4 : Int32)) C dX7_dropsLine_53 (by decide +kernel) ?_
    refine g_iadd C dX7_dropsLine_54 ?_
    obtain ⟨h2, hf⟩ := ck_some hf
    refine g_iald (n := 104) (v := (now (x2 + (4 : Int32)).toNatClampNeg)) C 1 rfl h2 rfl rfl dX7_dropsLine_55 ?_
    obtain ⟨h3, hf⟩ := ck_some hf
    refine g_iast (n := 104) (WS' := [(mo, oB 7 [.ref mo_now, .ref mo_aside, .ref mo_past, .int states, .ref mo_refusals, .ref mo_text, .int length, .ref mo_vars, .ref mo_sights, .int many, .int steps, .int isCut, .ref mo_isThere, .ref mo_taints, .ref mo_known, .int taint, .ref mo_knows, .int isOther, .int at_, .int isFaulty, .int orders, .ref mo_letters, .ref mo_numbers, .long hash]), (mo_now, aI G 104 (upd now x2.toNatClampNeg (now (x2 + (4 : Int32)).toNatClampNeg)))]) C 1 rfl h3 rfl dX7_dropsLine_56 rfl ?_
    refine g_iinc (v := (x2 + (1 : Int32))) (lv' := [(0, .ref mo), (1, .int x1), (2, .int (x2 + (1 : Int32)))]) C dX7_dropsLine_57 2 rfl rfl (by decide) [1, 2, 0] rfl ?_
    refine g_goto (tgt := 28) C dX7_dropsLine_60 (by decide) ?_
    exact hk28 _ hf
set_option maxHeartbeats 4000000 in
set_option maxRecDepth 100000 in
theorem k7_dropsLine_28 {p : Program} {l : Launch} {e : Env} {s : State} {m : MethodId} {args : Array Value} {below : List Frame} {meth : Method} {c : Code} {G : gG} {A : Nat → Prop} {Q : State → Prop} {mo mo_now mo_aside mo_past mo_refusals mo_text mo_vars mo_sights mo_isThere mo_taints mo_known mo_knows mo_letters mo_numbers : Nat} (C : CX p s m args meth c G A cX7_dropsLine 3 RX7 wsX7_dropsLine) {states : Int32} {length : Int32} {many : Int32} {steps : Int32} {isCut : Int32} {taint : Int32} {isOther : Int32} {at_ : Int32} {isFaulty : Int32} {orders : Int32} {hash : Int64} {res : Int32 × (Nat → Int32)} (hR : ∀ (lv : List (Nat × Value)) (pc : Nat), decode cX7_dropsLine pc = .ok (.ireturn, 1) → GG p l e rm7_dropsLine s m args below meth c G A 3 0 0 Q [(mo, oB 7 [.ref mo_now, .ref mo_aside, .ref mo_past, .int states, .ref mo_refusals, .ref mo_text, .int length, .ref mo_vars, .ref mo_sights, .int many, .int steps, .int isCut, .ref mo_isThere, .ref mo_taints, .ref mo_known, .int taint, .ref mo_knows, .int isOther, .int at_, .int isFaulty, .int orders, .ref mo_letters, .ref mo_numbers, .long hash]), (mo_now, aI G 104 res.2)] lv pc [.int res.1]) : ∀ (n : Nat) (s1 : (Nat → Int32) × Int32 × Int32), f7_dropsLine_28 n s1 = some res → GG p l e rm7_dropsLine s m args below meth c G A 3 0 0 Q [(mo, oB 7 [.ref mo_now, .ref mo_aside, .ref mo_past, .int states, .ref mo_refusals, .ref mo_text, .int length, .ref mo_vars, .ref mo_sights, .int many, .int steps, .int isCut, .ref mo_isThere, .ref mo_taints, .ref mo_known, .int taint, .ref mo_knows, .int isOther, .int at_, .int isFaulty, .int orders, .ref mo_letters, .ref mo_numbers, .long hash]), (mo_now, aI G 104 s1.1)] [(0, .ref mo), (1, .int s1.2.1), (2, .int s1.2.2)] 28 [] :=
  itf_ind (fun k s1 ih hf => k7_dropsLine_28b C hR ih hf)
set_option maxHeartbeats 4000000 in
set_option maxRecDepth 100000 in
theorem c7_dropsLine {l : Launch} {G : gG} {mo mo_now mo_aside mo_past mo_refusals mo_text mo_vars mo_sights mo_isThere mo_taints mo_known mo_knows mo_letters mo_numbers : Nat} {now : Nat → Int32} {states : Int32} {length : Int32} {many : Int32} {steps : Int32} {isCut : Int32} {taint : Int32} {isOther : Int32} {at_ : Int32} {isFaulty : Int32} {orders : Int32} {hash : Int64} {v0 : Int32} {res : Int32 × (Nat → Int32)} (hf : f7_dropsLine now v0 = some res) : MI l yX7_dropsLine wsX7_dropsLine rm7_dropsLine G [.ref mo, .int v0] [(mo, oB 7 [.ref mo_now, .ref mo_aside, .ref mo_past, .int states, .ref mo_refusals, .ref mo_text, .int length, .ref mo_vars, .ref mo_sights, .int many, .int steps, .int isCut, .ref mo_isThere, .ref mo_taints, .ref mo_known, .int taint, .ref mo_knows, .int isOther, .int at_, .int isFaulty, .int orders, .ref mo_letters, .ref mo_numbers, .long hash]), (mo_now, aI G 104 now)] (res.1) [(mo, oB 7 [.ref mo_now, .ref mo_aside, .ref mo_past, .int states, .ref mo_refusals, .ref mo_text, .int length, .ref mo_vars, .ref mo_sights, .int many, .int steps, .int isCut, .ref mo_isThere, .ref mo_taints, .ref mo_known, .int taint, .ref mo_knows, .int isOther, .int at_, .int isFaulty, .int orders, .ref mo_letters, .ref mo_numbers, .long hash]), (mo_now, aI G 104 res.2)] := by
  refine MI_of (res.1) (cc := cX7_dropsLine) (nL := 3) (lv := [(0, .ref mo), (1, .int v0)]) (by decide +kernel) rfl (Nat.le_of_ble_eq_true rfl) rfl ?_
  intro p e s m args below meth c A Q C hR
  unfold f7_dropsLine at hf
  refine g_aload_n C dX7_dropsLine_0 rfl 0 rfl ?_
  refine g_iload_n C dX7_dropsLine_1 rfl 1 rfl ?_
  obtain ⟨q4, hq4, hf⟩ := bs hf
  refine g_callVi (n := 1) (As := [.int v0]) (rest := []) (wc := [(mo, oB 7 [.ref mo_now, .ref mo_aside, .ref mo_past, .int states, .ref mo_refusals, .ref mo_text, .int length, .ref mo_vars, .ref mo_sights, .int many, .int steps, .int isCut, .ref mo_isThere, .ref mo_taints, .ref mo_known, .int taint, .ref mo_knows, .int isOther, .int at_, .int isFaulty, .int orders, .ref mo_letters, .ref mo_numbers, .long hash]), (mo_now, aI G 104 now)]) (w1 := [(mo, oB 7 [.ref mo_now, .ref mo_aside, .ref mo_past, .int states, .ref mo_refusals, .ref mo_text, .int length, .ref mo_vars, .ref mo_sights, .int many, .int steps, .int isCut, .ref mo_isThere, .ref mo_taints, .ref mo_known, .int taint, .ref mo_knows, .int isOther, .int at_, .int isFaulty, .int orders, .ref mo_letters, .ref mo_numbers, .long hash]), (mo_now, aI G 104 now)]) (wr := []) (WS' := [(mo, oB 7 [.ref mo_now, .ref mo_aside, .ref mo_past, .int states, .ref mo_refusals, .ref mo_text, .int length, .ref mo_vars, .ref mo_sights, .int many, .int steps, .int isCut, .ref mo_isThere, .ref mo_taints, .ref mo_known, .int taint, .ref mo_knows, .int isOther, .int at_, .int isFaulty, .int orders, .ref mo_letters, .ref mo_numbers, .long hash]), (mo_now, aI G 104 now)]) C (c7_isLine hq4) gX7_dropsLine_X7_isLine (by decide +kernel) rfl rfl rfl rfl rfl rfl ⟨by decide, by decide⟩ rfl [0, 1] [] [0, 1] rfl (by decide) rfl (by decide) (by decide) rfl (by decide) (Nat.le_of_ble_eq_true rfl) ⟨Nat.zero_le _, Nat.zero_le _⟩ rfl dX7_dropsLine_2 ?_
  refine g_if_ne (tgt := 11) C dX7_dropsLine_5 (by decide) (fun c5 => ?_) (fun c5 => ?_)
  · replace hf := ite_f c5 hf
    refine g_aload_n C dX7_dropsLine_11 rfl 0 rfl ?_
    refine g_get (C0 := RX7) (T := TX7) (N := 24) (ci := 7) (v := .ref mo_now) C hm7_dropsLine_0 0 rfl rfl 0 (by decide) hm7_dropsLine_1 rfl dX7_dropsLine_12 ?_
    refine g_iconst (v := (0 : Int32)) C dX7_dropsLine_15 (by decide +kernel) ?_
    refine g_dup2 C dX7_dropsLine_16 rfl rfl ?_
    refine g_iald (n := 104) (v := (now 0)) C 1 rfl (by decide +kernel) (by decide +kernel) rfl dX7_dropsLine_17 ?_
    refine g_iconst (v := (1 : Int32)) C dX7_dropsLine_18 (by decide +kernel) ?_
    refine g_isub C dX7_dropsLine_19 ?_
    refine g_iast (n := 104) (WS' := [(mo, oB 7 [.ref mo_now, .ref mo_aside, .ref mo_past, .int states, .ref mo_refusals, .ref mo_text, .int length, .ref mo_vars, .ref mo_sights, .int many, .int steps, .int isCut, .ref mo_isThere, .ref mo_taints, .ref mo_known, .int taint, .ref mo_knows, .int isOther, .int at_, .int isFaulty, .int orders, .ref mo_letters, .ref mo_numbers, .long hash]), (mo_now, aI G 104 (upd now 0 ((now 0) - (1 : Int32))))]) C 1 rfl (by decide +kernel) (by decide +kernel) dX7_dropsLine_20 rfl ?_
    refine g_bipush (v := (24 : Int32)) C dX7_dropsLine_21 (by decide +kernel) ?_
    refine g_iconst (v := (4 : Int32)) C dX7_dropsLine_23 (by decide +kernel) ?_
    refine g_iload_n C dX7_dropsLine_24 rfl 1 rfl ?_
    refine g_imul C dX7_dropsLine_25 ?_
    refine g_iadd C dX7_dropsLine_26 ?_
    refine g_istore_n (lv' := [(0, .ref mo), (1, .int v0), (2, .int ((24 : Int32) + ((4 : Int32) * v0)))]) C dX7_dropsLine_27 rfl (by decide) [1, 2, 0] rfl ?_
    exact k7_dropsLine_28 C hR _ _ hf
  · replace hf := ite_t c5 hf
    refine g_bipush (v := (-2 : Int32)) C dX7_dropsLine_8 (by decide +kernel) ?_
    obtain rfl := Option.some.inj hf
    exact hR _ _ dX7_dropsLine_10

-- X7_becomes
def f7_becomes (now : Nat → Int32) (v0 : Int32) (v1 : Int32) : Option (Int32 × (Nat → Int32)) :=
  ck (inb v0 104) <|
    ck (inb v0 104) <|
    some ((now v0.toNatClampNeg), (upd now v0.toNatClampNeg v1))
def rm7_becomes : Room := { frames := 0, cells := 0, slots := 0, locals := 0 }
theorem hm7_becomes_0 : ∀ w ∈ u_ws RX7 TX7 24, w ∈ wsX7_becomes := by decide +kernel
theorem hm7_becomes_1 : Cond.fieldLink RX7 7 "SecretStepsModel" "now" "[I" ∈ wsX7_becomes := by decide +kernel
set_option maxHeartbeats 4000000 in
set_option maxRecDepth 100000 in
theorem c7_becomes {l : Launch} {G : gG} {mo mo_now mo_aside mo_past mo_refusals mo_text mo_vars mo_sights mo_isThere mo_taints mo_known mo_knows mo_letters mo_numbers : Nat} {now : Nat → Int32} {states : Int32} {length : Int32} {many : Int32} {steps : Int32} {isCut : Int32} {taint : Int32} {isOther : Int32} {at_ : Int32} {isFaulty : Int32} {orders : Int32} {hash : Int64} {v0 : Int32} {v1 : Int32} {res : Int32 × (Nat → Int32)} (hf : f7_becomes now v0 v1 = some res) : MI l yX7_becomes wsX7_becomes rm7_becomes G [.ref mo, .int v0, .int v1] [(mo, oB 7 [.ref mo_now, .ref mo_aside, .ref mo_past, .int states, .ref mo_refusals, .ref mo_text, .int length, .ref mo_vars, .ref mo_sights, .int many, .int steps, .int isCut, .ref mo_isThere, .ref mo_taints, .ref mo_known, .int taint, .ref mo_knows, .int isOther, .int at_, .int isFaulty, .int orders, .ref mo_letters, .ref mo_numbers, .long hash]), (mo_now, aI G 104 now)] (res.1) [(mo, oB 7 [.ref mo_now, .ref mo_aside, .ref mo_past, .int states, .ref mo_refusals, .ref mo_text, .int length, .ref mo_vars, .ref mo_sights, .int many, .int steps, .int isCut, .ref mo_isThere, .ref mo_taints, .ref mo_known, .int taint, .ref mo_knows, .int isOther, .int at_, .int isFaulty, .int orders, .ref mo_letters, .ref mo_numbers, .long hash]), (mo_now, aI G 104 res.2)] := by
  refine MI_of (res.1) (cc := cX7_becomes) (nL := 4) (lv := [(0, .ref mo), (1, .int v0), (2, .int v1)]) (by decide +kernel) rfl (Nat.le_of_ble_eq_true rfl) rfl ?_
  intro p e s m args below meth c A Q C hR
  unfold f7_becomes at hf
  refine g_aload_n C dX7_becomes_0 rfl 0 rfl ?_
  refine g_get (C0 := RX7) (T := TX7) (N := 24) (ci := 7) (v := .ref mo_now) C hm7_becomes_0 0 rfl rfl 0 (by decide) hm7_becomes_1 rfl dX7_becomes_1 ?_
  refine g_iload_n C dX7_becomes_4 rfl 1 rfl ?_
  obtain ⟨h1, hf⟩ := ck_some hf
  refine g_iald (n := 104) (v := (now v0.toNatClampNeg)) C 1 rfl h1 rfl rfl dX7_becomes_5 ?_
  refine g_istore_n (lv' := [(0, .ref mo), (1, .int v0), (2, .int v1), (3, .int (now v0.toNatClampNeg))]) C dX7_becomes_6 rfl (by decide) [1, 2, 3, 0] rfl ?_
  refine g_aload_n C dX7_becomes_7 rfl 0 rfl ?_
  refine g_get (C0 := RX7) (T := TX7) (N := 24) (ci := 7) (v := .ref mo_now) C hm7_becomes_0 0 rfl rfl 0 (by decide) hm7_becomes_1 rfl dX7_becomes_8 ?_
  refine g_iload_n C dX7_becomes_11 rfl 1 rfl ?_
  refine g_iload_n C dX7_becomes_12 rfl 2 rfl ?_
  obtain ⟨h2, hf⟩ := ck_some hf
  refine g_iast (n := 104) (WS' := [(mo, oB 7 [.ref mo_now, .ref mo_aside, .ref mo_past, .int states, .ref mo_refusals, .ref mo_text, .int length, .ref mo_vars, .ref mo_sights, .int many, .int steps, .int isCut, .ref mo_isThere, .ref mo_taints, .ref mo_known, .int taint, .ref mo_knows, .int isOther, .int at_, .int isFaulty, .int orders, .ref mo_letters, .ref mo_numbers, .long hash]), (mo_now, aI G 104 (upd now v0.toNatClampNeg v1))]) C 1 rfl h2 rfl dX7_becomes_13 rfl ?_
  refine g_iload_n C dX7_becomes_14 rfl 3 rfl ?_
  obtain rfl := Option.some.inj hf
  exact hR _ _ dX7_becomes_15

-- X7_setsTable
def f7_setsTable (now : Nat → Int32) (v0 : Int32) (v1 : Int32) : Option (Int32 × (Nat → Int32)) :=
  (f7_isNumber v0).bind <| fun q1 =>
    if q1 = 0 then
    (some ((-2 : Int32), now))
    else ((f7_isNumber v1).bind <| fun q3 =>
    if q3 = 0 then
    (some ((-2 : Int32), now))
    else ((f7_becomes now ((8 : Int32) + v0) v1).bind <| fun q5 =>
    some (q5.1, q5.2)))
def rm7_setsTable : Room := { frames := 2, cells := 0, slots := 0, locals := 42 }
set_option maxHeartbeats 4000000 in
set_option maxRecDepth 100000 in
theorem c7_setsTable {l : Launch} {G : gG} {mo mo_now mo_aside mo_past mo_refusals mo_text mo_vars mo_sights mo_isThere mo_taints mo_known mo_knows mo_letters mo_numbers : Nat} {now : Nat → Int32} {states : Int32} {length : Int32} {many : Int32} {steps : Int32} {isCut : Int32} {taint : Int32} {isOther : Int32} {at_ : Int32} {isFaulty : Int32} {orders : Int32} {hash : Int64} {v0 : Int32} {v1 : Int32} {res : Int32 × (Nat → Int32)} (hf : f7_setsTable now v0 v1 = some res) : MI l yX7_setsTable wsX7_setsTable rm7_setsTable G [.ref mo, .int v0, .int v1] [(mo, oB 7 [.ref mo_now, .ref mo_aside, .ref mo_past, .int states, .ref mo_refusals, .ref mo_text, .int length, .ref mo_vars, .ref mo_sights, .int many, .int steps, .int isCut, .ref mo_isThere, .ref mo_taints, .ref mo_known, .int taint, .ref mo_knows, .int isOther, .int at_, .int isFaulty, .int orders, .ref mo_letters, .ref mo_numbers, .long hash]), (mo_now, aI G 104 now)] (res.1) [(mo, oB 7 [.ref mo_now, .ref mo_aside, .ref mo_past, .int states, .ref mo_refusals, .ref mo_text, .int length, .ref mo_vars, .ref mo_sights, .int many, .int steps, .int isCut, .ref mo_isThere, .ref mo_taints, .ref mo_known, .int taint, .ref mo_knows, .int isOther, .int at_, .int isFaulty, .int orders, .ref mo_letters, .ref mo_numbers, .long hash]), (mo_now, aI G 104 res.2)] := by
  refine MI_of (res.1) (cc := cX7_setsTable) (nL := 3) (lv := [(0, .ref mo), (1, .int v0), (2, .int v1)]) (by decide +kernel) rfl (Nat.le_of_ble_eq_true rfl) rfl ?_
  intro p e s m args below meth c A Q C hR
  unfold f7_setsTable at hf
  refine g_iload_n C dX7_setsTable_0 rfl 1 rfl ?_
  obtain ⟨q1, hq1, hf⟩ := bs hf
  refine g_callSi (n := 1) (As := [.int v0]) (rest := []) (wc := []) (w1 := []) (wr := [(mo, oB 7 [.ref mo_now, .ref mo_aside, .ref mo_past, .int states, .ref mo_refusals, .ref mo_text, .int length, .ref mo_vars, .ref mo_sights, .int many, .int steps, .int isCut, .ref mo_isThere, .ref mo_taints, .ref mo_known, .int taint, .ref mo_knows, .int isOther, .int at_, .int isFaulty, .int orders, .ref mo_letters, .ref mo_numbers, .long hash]), (mo_now, aI G 104 now)]) (WS' := [(mo, oB 7 [.ref mo_now, .ref mo_aside, .ref mo_past, .int states, .ref mo_refusals, .ref mo_text, .int length, .ref mo_vars, .ref mo_sights, .int many, .int steps, .int isCut, .ref mo_isThere, .ref mo_taints, .ref mo_known, .int taint, .ref mo_knows, .int isOther, .int at_, .int isFaulty, .int orders, .ref mo_letters, .ref mo_numbers, .long hash]), (mo_now, aI G 104 now)]) C (c7_isNumber hq1) gX7_setsTable_X7_isNumber (by decide +kernel) rfl rfl rfl ⟨by decide, by decide⟩ rfl [] [0, 1] [0, 1] rfl (by decide) rfl (by decide) (by decide) rfl (by decide) (Nat.le_of_ble_eq_true rfl) ⟨Nat.zero_le _, Nat.zero_le _⟩ rfl dX7_setsTable_1 ?_
  refine g_if_eq (tgt := 26) C dX7_setsTable_4 (by decide) (fun c2 => ?_) (fun c2 => ?_)
  · replace hf := ite_t c2 hf
    refine g_bipush (v := (-2 : Int32)) C dX7_setsTable_26 (by decide +kernel) ?_
    obtain rfl := Option.some.inj hf
    exact hR _ _ dX7_setsTable_28
  · replace hf := ite_f c2 hf
    refine g_iload_n C dX7_setsTable_7 rfl 2 rfl ?_
    obtain ⟨q3, hq3, hf⟩ := bs hf
    refine g_callSi (n := 1) (As := [.int v1]) (rest := []) (wc := []) (w1 := []) (wr := [(mo, oB 7 [.ref mo_now, .ref mo_aside, .ref mo_past, .int states, .ref mo_refusals, .ref mo_text, .int length, .ref mo_vars, .ref mo_sights, .int many, .int steps, .int isCut, .ref mo_isThere, .ref mo_taints, .ref mo_known, .int taint, .ref mo_knows, .int isOther, .int at_, .int isFaulty, .int orders, .ref mo_letters, .ref mo_numbers, .long hash]), (mo_now, aI G 104 now)]) (WS' := [(mo, oB 7 [.ref mo_now, .ref mo_aside, .ref mo_past, .int states, .ref mo_refusals, .ref mo_text, .int length, .ref mo_vars, .ref mo_sights, .int many, .int steps, .int isCut, .ref mo_isThere, .ref mo_taints, .ref mo_known, .int taint, .ref mo_knows, .int isOther, .int at_, .int isFaulty, .int orders, .ref mo_letters, .ref mo_numbers, .long hash]), (mo_now, aI G 104 now)]) C (c7_isNumber hq3) gX7_setsTable_X7_isNumber (by decide +kernel) rfl rfl rfl ⟨by decide, by decide⟩ rfl [] [0, 1] [0, 1] rfl (by decide) rfl (by decide) (by decide) rfl (by decide) (Nat.le_of_ble_eq_true rfl) ⟨Nat.zero_le _, Nat.zero_le _⟩ rfl dX7_setsTable_8 ?_
    refine g_if_eq (tgt := 26) C dX7_setsTable_11 (by decide) (fun c4 => ?_) (fun c4 => ?_)
    · replace hf := ite_t c4 hf
      refine g_bipush (v := (-2 : Int32)) C dX7_setsTable_26 (by decide +kernel) ?_
      obtain rfl := Option.some.inj hf
      exact hR _ _ dX7_setsTable_28
    · replace hf := ite_f c4 hf
      refine g_aload_n C dX7_setsTable_14 rfl 0 rfl ?_
      refine g_bipush (v := (8 : Int32)) C dX7_setsTable_15 (by decide +kernel) ?_
      refine g_iload_n C dX7_setsTable_17 rfl 1 rfl ?_
      refine g_iadd C dX7_setsTable_18 ?_
      refine g_iload_n C dX7_setsTable_19 rfl 2 rfl ?_
      obtain ⟨q5, hq5, hf⟩ := bs hf
      refine g_callVi (n := 2) (As := [.int ((8 : Int32) + v0), .int v1]) (rest := []) (wc := [(mo, oB 7 [.ref mo_now, .ref mo_aside, .ref mo_past, .int states, .ref mo_refusals, .ref mo_text, .int length, .ref mo_vars, .ref mo_sights, .int many, .int steps, .int isCut, .ref mo_isThere, .ref mo_taints, .ref mo_known, .int taint, .ref mo_knows, .int isOther, .int at_, .int isFaulty, .int orders, .ref mo_letters, .ref mo_numbers, .long hash]), (mo_now, aI G 104 now)]) (w1 := [(mo, oB 7 [.ref mo_now, .ref mo_aside, .ref mo_past, .int states, .ref mo_refusals, .ref mo_text, .int length, .ref mo_vars, .ref mo_sights, .int many, .int steps, .int isCut, .ref mo_isThere, .ref mo_taints, .ref mo_known, .int taint, .ref mo_knows, .int isOther, .int at_, .int isFaulty, .int orders, .ref mo_letters, .ref mo_numbers, .long hash]), (mo_now, aI G 104 q5.2)]) (wr := []) (WS' := [(mo, oB 7 [.ref mo_now, .ref mo_aside, .ref mo_past, .int states, .ref mo_refusals, .ref mo_text, .int length, .ref mo_vars, .ref mo_sights, .int many, .int steps, .int isCut, .ref mo_isThere, .ref mo_taints, .ref mo_known, .int taint, .ref mo_knows, .int isOther, .int at_, .int isFaulty, .int orders, .ref mo_letters, .ref mo_numbers, .long hash]), (mo_now, aI G 104 q5.2)]) C (c7_becomes hq5) gX7_setsTable_X7_becomes (by decide +kernel) rfl rfl rfl rfl rfl rfl ⟨by decide, by decide⟩ rfl [0, 1] [] [0, 1] rfl (by decide) rfl (by decide) (by decide) rfl (by decide) (Nat.le_of_ble_eq_true rfl) ⟨Nat.zero_le _, Nat.zero_le _⟩ rfl dX7_setsTable_20 ?_
      refine g_goto (tgt := 28) C dX7_setsTable_23 (by decide) ?_
      obtain rfl := Option.some.inj hf
      exact hR _ _ dX7_setsTable_28

-- X7_setsStart
def f7_setsStart (now : Nat → Int32) (v0 : Int32) (v1 : Int32) : Option (Int32 × (Nat → Int32)) :=
  (f7_isVariable v0).bind <| fun q1 =>
    if q1 = 0 then
    (some ((-2 : Int32), now))
    else ((f7_isNumber v1).bind <| fun q3 =>
    if q3 = 0 then
    (some ((-2 : Int32), now))
    else ((f7_becomes now ((2 : Int32) + v0) v1).bind <| fun q5 =>
    some (q5.1, q5.2)))
def rm7_setsStart : Room := { frames := 2, cells := 0, slots := 0, locals := 42 }
set_option maxHeartbeats 4000000 in
set_option maxRecDepth 100000 in
theorem c7_setsStart {l : Launch} {G : gG} {mo mo_now mo_aside mo_past mo_refusals mo_text mo_vars mo_sights mo_isThere mo_taints mo_known mo_knows mo_letters mo_numbers : Nat} {now : Nat → Int32} {states : Int32} {length : Int32} {many : Int32} {steps : Int32} {isCut : Int32} {taint : Int32} {isOther : Int32} {at_ : Int32} {isFaulty : Int32} {orders : Int32} {hash : Int64} {v0 : Int32} {v1 : Int32} {res : Int32 × (Nat → Int32)} (hf : f7_setsStart now v0 v1 = some res) : MI l yX7_setsStart wsX7_setsStart rm7_setsStart G [.ref mo, .int v0, .int v1] [(mo, oB 7 [.ref mo_now, .ref mo_aside, .ref mo_past, .int states, .ref mo_refusals, .ref mo_text, .int length, .ref mo_vars, .ref mo_sights, .int many, .int steps, .int isCut, .ref mo_isThere, .ref mo_taints, .ref mo_known, .int taint, .ref mo_knows, .int isOther, .int at_, .int isFaulty, .int orders, .ref mo_letters, .ref mo_numbers, .long hash]), (mo_now, aI G 104 now)] (res.1) [(mo, oB 7 [.ref mo_now, .ref mo_aside, .ref mo_past, .int states, .ref mo_refusals, .ref mo_text, .int length, .ref mo_vars, .ref mo_sights, .int many, .int steps, .int isCut, .ref mo_isThere, .ref mo_taints, .ref mo_known, .int taint, .ref mo_knows, .int isOther, .int at_, .int isFaulty, .int orders, .ref mo_letters, .ref mo_numbers, .long hash]), (mo_now, aI G 104 res.2)] := by
  refine MI_of (res.1) (cc := cX7_setsStart) (nL := 3) (lv := [(0, .ref mo), (1, .int v0), (2, .int v1)]) (by decide +kernel) rfl (Nat.le_of_ble_eq_true rfl) rfl ?_
  intro p e s m args below meth c A Q C hR
  unfold f7_setsStart at hf
  refine g_iload_n C dX7_setsStart_0 rfl 1 rfl ?_
  obtain ⟨q1, hq1, hf⟩ := bs hf
  refine g_callSi (n := 1) (As := [.int v0]) (rest := []) (wc := []) (w1 := []) (wr := [(mo, oB 7 [.ref mo_now, .ref mo_aside, .ref mo_past, .int states, .ref mo_refusals, .ref mo_text, .int length, .ref mo_vars, .ref mo_sights, .int many, .int steps, .int isCut, .ref mo_isThere, .ref mo_taints, .ref mo_known, .int taint, .ref mo_knows, .int isOther, .int at_, .int isFaulty, .int orders, .ref mo_letters, .ref mo_numbers, .long hash]), (mo_now, aI G 104 now)]) (WS' := [(mo, oB 7 [.ref mo_now, .ref mo_aside, .ref mo_past, .int states, .ref mo_refusals, .ref mo_text, .int length, .ref mo_vars, .ref mo_sights, .int many, .int steps, .int isCut, .ref mo_isThere, .ref mo_taints, .ref mo_known, .int taint, .ref mo_knows, .int isOther, .int at_, .int isFaulty, .int orders, .ref mo_letters, .ref mo_numbers, .long hash]), (mo_now, aI G 104 now)]) C (c7_isVariable hq1) gX7_setsStart_X7_isVariable (by decide +kernel) rfl rfl rfl ⟨by decide, by decide⟩ rfl [] [0, 1] [0, 1] rfl (by decide) rfl (by decide) (by decide) rfl (by decide) (Nat.le_of_ble_eq_true rfl) ⟨Nat.zero_le _, Nat.zero_le _⟩ rfl dX7_setsStart_1 ?_
  refine g_if_eq (tgt := 25) C dX7_setsStart_4 (by decide) (fun c2 => ?_) (fun c2 => ?_)
  · replace hf := ite_t c2 hf
    refine g_bipush (v := (-2 : Int32)) C dX7_setsStart_25 (by decide +kernel) ?_
    obtain rfl := Option.some.inj hf
    exact hR _ _ dX7_setsStart_27
  · replace hf := ite_f c2 hf
    refine g_iload_n C dX7_setsStart_7 rfl 2 rfl ?_
    obtain ⟨q3, hq3, hf⟩ := bs hf
    refine g_callSi (n := 1) (As := [.int v1]) (rest := []) (wc := []) (w1 := []) (wr := [(mo, oB 7 [.ref mo_now, .ref mo_aside, .ref mo_past, .int states, .ref mo_refusals, .ref mo_text, .int length, .ref mo_vars, .ref mo_sights, .int many, .int steps, .int isCut, .ref mo_isThere, .ref mo_taints, .ref mo_known, .int taint, .ref mo_knows, .int isOther, .int at_, .int isFaulty, .int orders, .ref mo_letters, .ref mo_numbers, .long hash]), (mo_now, aI G 104 now)]) (WS' := [(mo, oB 7 [.ref mo_now, .ref mo_aside, .ref mo_past, .int states, .ref mo_refusals, .ref mo_text, .int length, .ref mo_vars, .ref mo_sights, .int many, .int steps, .int isCut, .ref mo_isThere, .ref mo_taints, .ref mo_known, .int taint, .ref mo_knows, .int isOther, .int at_, .int isFaulty, .int orders, .ref mo_letters, .ref mo_numbers, .long hash]), (mo_now, aI G 104 now)]) C (c7_isNumber hq3) gX7_setsStart_X7_isNumber (by decide +kernel) rfl rfl rfl ⟨by decide, by decide⟩ rfl [] [0, 1] [0, 1] rfl (by decide) rfl (by decide) (by decide) rfl (by decide) (Nat.le_of_ble_eq_true rfl) ⟨Nat.zero_le _, Nat.zero_le _⟩ rfl dX7_setsStart_8 ?_
    refine g_if_eq (tgt := 25) C dX7_setsStart_11 (by decide) (fun c4 => ?_) (fun c4 => ?_)
    · replace hf := ite_t c4 hf
      refine g_bipush (v := (-2 : Int32)) C dX7_setsStart_25 (by decide +kernel) ?_
      obtain rfl := Option.some.inj hf
      exact hR _ _ dX7_setsStart_27
    · replace hf := ite_f c4 hf
      refine g_aload_n C dX7_setsStart_14 rfl 0 rfl ?_
      refine g_iconst (v := (2 : Int32)) C dX7_setsStart_15 (by decide +kernel) ?_
      refine g_iload_n C dX7_setsStart_16 rfl 1 rfl ?_
      refine g_iadd C dX7_setsStart_17 ?_
      refine g_iload_n C dX7_setsStart_18 rfl 2 rfl ?_
      obtain ⟨q5, hq5, hf⟩ := bs hf
      refine g_callVi (n := 2) (As := [.int ((2 : Int32) + v0), .int v1]) (rest := []) (wc := [(mo, oB 7 [.ref mo_now, .ref mo_aside, .ref mo_past, .int states, .ref mo_refusals, .ref mo_text, .int length, .ref mo_vars, .ref mo_sights, .int many, .int steps, .int isCut, .ref mo_isThere, .ref mo_taints, .ref mo_known, .int taint, .ref mo_knows, .int isOther, .int at_, .int isFaulty, .int orders, .ref mo_letters, .ref mo_numbers, .long hash]), (mo_now, aI G 104 now)]) (w1 := [(mo, oB 7 [.ref mo_now, .ref mo_aside, .ref mo_past, .int states, .ref mo_refusals, .ref mo_text, .int length, .ref mo_vars, .ref mo_sights, .int many, .int steps, .int isCut, .ref mo_isThere, .ref mo_taints, .ref mo_known, .int taint, .ref mo_knows, .int isOther, .int at_, .int isFaulty, .int orders, .ref mo_letters, .ref mo_numbers, .long hash]), (mo_now, aI G 104 q5.2)]) (wr := []) (WS' := [(mo, oB 7 [.ref mo_now, .ref mo_aside, .ref mo_past, .int states, .ref mo_refusals, .ref mo_text, .int length, .ref mo_vars, .ref mo_sights, .int many, .int steps, .int isCut, .ref mo_isThere, .ref mo_taints, .ref mo_known, .int taint, .ref mo_knows, .int isOther, .int at_, .int isFaulty, .int orders, .ref mo_letters, .ref mo_numbers, .long hash]), (mo_now, aI G 104 q5.2)]) C (c7_becomes hq5) gX7_setsStart_X7_becomes (by decide +kernel) rfl rfl rfl rfl rfl rfl ⟨by decide, by decide⟩ rfl [0, 1] [] [0, 1] rfl (by decide) rfl (by decide) (by decide) rfl (by decide) (Nat.le_of_ble_eq_true rfl) ⟨Nat.zero_le _, Nat.zero_le _⟩ rfl dX7_setsStart_19 ?_
      refine g_goto (tgt := 27) C dX7_setsStart_22 (by decide) ?_
      obtain rfl := Option.some.inj hf
      exact hR _ _ dX7_setsStart_27

-- X7_ones
def f7_ones_4b (k4 : Int32 × Int32 × Int32 → Option (Int32)) (x0 : Int32) (x1 : Int32) (x2 : Int32) : Option (Int32) :=
  if (6 : Int32) ≤ x2 then
    (some x1)
    else (k4 (x0, (x1 + ((sr32 x0 x2) &&& (1 : Int32))), (x2 + (1 : Int32))))
def f7_ones_4 (n : Nat) (s : Int32 × Int32 × Int32) : Option (Int32) := itf (fun k s => f7_ones_4b k s.1 s.2.1 s.2.2) n s
def f7_ones (v0 : Int32) : Option (Int32) :=
  f7_ones_4 1000 (v0, (0 : Int32), (0 : Int32))
def rm7_ones : Room := { frames := 0, cells := 0, slots := 0, locals := 0 }
set_option maxHeartbeats 4000000 in
set_option maxRecDepth 100000 in
theorem k7_ones_4b {p : Program} {l : Launch} {e : Env} {s : State} {m : MethodId} {args : Array Value} {below : List Frame} {meth : Method} {c : Code} {G : gG} {A : Nat → Prop} {Q : State → Prop} (C : CX p s m args meth c G A cX7_ones 3 RX7 wsX7_ones) {k4 : Int32 × Int32 × Int32 → Option (Int32)} {x0 : Int32} {x1 : Int32} {x2 : Int32} {res : Int32} (hR : ∀ (lv : List (Nat × Value)) (pc : Nat), decode cX7_ones pc = .ok (.ireturn, 1) → GG p l e rm7_ones s m args below meth c G A 3 0 0 Q [] lv pc [.int res])
    (hk4 : ∀ s', k4 s' = some res → GG p l e rm7_ones s m args below meth c G A 3 0 0 Q [] [(0, .int s'.1), (1, .int s'.2.1), (2, .int s'.2.2)] 4 [])
    (hf : f7_ones_4b k4 x0 x1 x2 = some res) : GG p l e rm7_ones s m args below meth c G A 3 0 0 Q [] [(0, .int x0), (1, .int x1), (2, .int x2)] 4 [] := by
  unfold f7_ones_4b at hf
  refine g_iload_n C dX7_ones_4 rfl 2 rfl ?_
  refine g_bipush (v := (6 : Int32)) C dX7_ones_5 (by decide +kernel) ?_
  refine g_icmp_ge (tgt := 24) C dX7_ones_7 (by decide) (fun c1 => ?_) (fun c1 => ?_)
  · replace hf := ite_t c1 hf
    refine g_iload_n C dX7_ones_24 rfl 1 rfl ?_
    obtain rfl := Option.some.inj hf
    exact hR _ _ dX7_ones_25
  · replace hf := ite_f c1 hf
    refine g_iload_n C dX7_ones_10 rfl 1 rfl ?_
    refine g_iload_n C dX7_ones_11 rfl 0 rfl ?_
    refine g_iload_n C dX7_ones_12 rfl 2 rfl ?_
    refine g_ishr C dX7_ones_13 ?_
    refine g_iconst (v := (1 : Int32)) C dX7_ones_14 (by decide +kernel) ?_
    refine g_iand C dX7_ones_15 ?_
    refine g_iadd C dX7_ones_16 ?_
    refine g_istore_n (lv' := [(0, .int x0), (1, .int (x1 + ((sr32 x0 x2) &&& (1 : Int32)))), (2, .int x2)]) C dX7_ones_17 rfl (by decide) [1, 0, 2] rfl ?_
    refine g_iinc (v := (x2 + (1 : Int32))) (lv' := [(0, .int x0), (1, .int (x1 + ((sr32 x0 x2) &&& (1 : Int32)))), (2, .int (x2 + (1 : Int32)))]) C dX7_ones_18 2 rfl rfl (by decide) [1, 2, 0] rfl ?_
    refine g_goto (tgt := 4) C dX7_ones_21 (by decide) ?_
    exact hk4 _ hf
set_option maxHeartbeats 4000000 in
set_option maxRecDepth 100000 in
theorem k7_ones_4 {p : Program} {l : Launch} {e : Env} {s : State} {m : MethodId} {args : Array Value} {below : List Frame} {meth : Method} {c : Code} {G : gG} {A : Nat → Prop} {Q : State → Prop} (C : CX p s m args meth c G A cX7_ones 3 RX7 wsX7_ones) {res : Int32} (hR : ∀ (lv : List (Nat × Value)) (pc : Nat), decode cX7_ones pc = .ok (.ireturn, 1) → GG p l e rm7_ones s m args below meth c G A 3 0 0 Q [] lv pc [.int res]) : ∀ (n : Nat) (s1 : Int32 × Int32 × Int32), f7_ones_4 n s1 = some res → GG p l e rm7_ones s m args below meth c G A 3 0 0 Q [] [(0, .int s1.1), (1, .int s1.2.1), (2, .int s1.2.2)] 4 [] :=
  itf_ind (fun k s1 ih hf => k7_ones_4b C hR ih hf)
set_option maxHeartbeats 4000000 in
set_option maxRecDepth 100000 in
theorem c7_ones {l : Launch} {G : gG} {v0 : Int32} {res : Int32} (hf : f7_ones v0 = some res) : MI l yX7_ones wsX7_ones rm7_ones G [.int v0] [] (res) [] := by
  refine MI_of (res) (cc := cX7_ones) (nL := 3) (lv := [(0, .int v0)]) (by decide +kernel) rfl (Nat.le_of_ble_eq_true rfl) rfl ?_
  intro p e s m args below meth c A Q C hR
  unfold f7_ones at hf
  refine g_iconst (v := (0 : Int32)) C dX7_ones_0 (by decide +kernel) ?_
  refine g_istore_n (lv' := [(0, .int v0), (1, .int (0 : Int32))]) C dX7_ones_1 rfl (by decide) [1, 0] rfl ?_
  refine g_iconst (v := (0 : Int32)) C dX7_ones_2 (by decide +kernel) ?_
  refine g_istore_n (lv' := [(0, .int v0), (1, .int (0 : Int32)), (2, .int (0 : Int32))]) C dX7_ones_3 rfl (by decide) [1, 2, 0] rfl ?_
  exact k7_ones_4 C hR _ _ hf

-- X7_setsSecret
def f7_setsSecret_48 (now : Nat → Int32) (x1 : Int32) (x2 : Int32) (x3 : Int32) : Option (Int32 × (Nat → Int32)) :=
  some (((sr32 (now 1) x1) &&& (1 : Int32)), (upd now 1 (x3 ||| (sl32 x2 x1))))
def f7_setsSecret_32 (now : Nat → Int32) (x1 : Int32) (x2 : Int32) (x3 : Int32) : Option (Int32 × (Nat → Int32)) :=
  if x2 = (1 : Int32) then
    ((f7_ones x3).bind <| fun q2 =>
    if q2 = (2 : Int32) then
    (some ((-4 : Int32), now))
    else (f7_setsSecret_48 now x1 x2 x3))
    else (f7_setsSecret_48 now x1 x2 x3)
def f7_setsSecret (now : Nat → Int32) (v0 : Int32) (v1 : Int32) : Option (Int32 × (Nat → Int32)) :=
  (f7_isVariable v0).bind <| fun q4 =>
    if q4 = 0 then
    (some ((-2 : Int32), now))
    else ((f7_within v1 (0 : Int32) (1 : Int32)).bind <| fun q6 =>
    if q6 = 0 then
    (some ((-2 : Int32), now))
    else (f7_setsSecret_32 now v0 v1 ((now 1) &&& ((sl32 (1 : Int32) v0) ^^^ (-1 : Int32)))))
def rm7_setsSecret : Room := { frames := 2, cells := 0, slots := 0, locals := 42 }
theorem hm7_setsSecret_0 : ∀ w ∈ u_ws RX7 TX7 24, w ∈ wsX7_setsSecret := by decide +kernel
theorem hm7_setsSecret_1 : Cond.fieldLink RX7 7 "SecretStepsModel" "now" "[I" ∈ wsX7_setsSecret := by decide +kernel
set_option maxHeartbeats 4000000 in
set_option maxRecDepth 100000 in
theorem k7_setsSecret_48 {p : Program} {l : Launch} {e : Env} {s : State} {m : MethodId} {args : Array Value} {below : List Frame} {meth : Method} {c : Code} {G : gG} {A : Nat → Prop} {Q : State → Prop} {mo mo_now mo_aside mo_past mo_refusals mo_text mo_vars mo_sights mo_isThere mo_taints mo_known mo_knows mo_letters mo_numbers : Nat} (C : CX p s m args meth c G A cX7_setsSecret 5 RX7 wsX7_setsSecret) {states : Int32} {length : Int32} {many : Int32} {steps : Int32} {isCut : Int32} {taint : Int32} {isOther : Int32} {at_ : Int32} {isFaulty : Int32} {orders : Int32} {hash : Int64} {now : Nat → Int32} {x1 : Int32} {x2 : Int32} {x3 : Int32} {res : Int32 × (Nat → Int32)} (hR : ∀ (lv : List (Nat × Value)) (pc : Nat), decode cX7_setsSecret pc = .ok (.ireturn, 1) → GG p l e rm7_setsSecret s m args below meth c G A 5 0 0 Q [(mo, oB 7 [.ref mo_now, .ref mo_aside, .ref mo_past, .int states, .ref mo_refusals, .ref mo_text, .int length, .ref mo_vars, .ref mo_sights, .int many, .int steps, .int isCut, .ref mo_isThere, .ref mo_taints, .ref mo_known, .int taint, .ref mo_knows, .int isOther, .int at_, .int isFaulty, .int orders, .ref mo_letters, .ref mo_numbers, .long hash]), (mo_now, aI G 104 res.2)] lv pc [.int res.1])
    (hf : f7_setsSecret_48 now x1 x2 x3 = some res) : GG p l e rm7_setsSecret s m args below meth c G A 5 0 0 Q [(mo, oB 7 [.ref mo_now, .ref mo_aside, .ref mo_past, .int states, .ref mo_refusals, .ref mo_text, .int length, .ref mo_vars, .ref mo_sights, .int many, .int steps, .int isCut, .ref mo_isThere, .ref mo_taints, .ref mo_known, .int taint, .ref mo_knows, .int isOther, .int at_, .int isFaulty, .int orders, .ref mo_letters, .ref mo_numbers, .long hash]), (mo_now, aI G 104 now)] [(0, .ref mo), (1, .int x1), (2, .int x2), (3, .int x3)] 48 [] := by
  unfold f7_setsSecret_48 at hf
  refine g_aload_n C dX7_setsSecret_48 rfl 0 rfl ?_
  refine g_get (C0 := RX7) (T := TX7) (N := 24) (ci := 7) (v := .ref mo_now) C hm7_setsSecret_0 0 rfl rfl 0 (by decide) hm7_setsSecret_1 rfl dX7_setsSecret_49 ?_
  refine g_iconst (v := (1 : Int32)) C dX7_setsSecret_52 (by decide +kernel) ?_
  refine g_iald (n := 104) (v := (now 1)) C 1 rfl (by decide +kernel) (by decide +kernel) rfl dX7_setsSecret_53 ?_
  refine g_iload_n C dX7_setsSecret_54 rfl 1 rfl ?_
  refine g_ishr C dX7_setsSecret_55 ?_
  refine g_iconst (v := (1 : Int32)) C dX7_setsSecret_56 (by decide +kernel) ?_
  refine g_iand C dX7_setsSecret_57 ?_
  refine g_istore (lv' := [(0, .ref mo), (1, .int x1), (2, .int x2), (3, .int x3), (4, .int ((sr32 (now 1) x1) &&& (1 : Int32)))]) C dX7_setsSecret_58 (by decide) [1, 2, 3, 4, 0] rfl ?_
  refine g_aload_n C dX7_setsSecret_60 rfl 0 rfl ?_
  refine g_get (C0 := RX7) (T := TX7) (N := 24) (ci := 7) (v := .ref mo_now) C hm7_setsSecret_0 0 rfl rfl 0 (by decide) hm7_setsSecret_1 rfl dX7_setsSecret_61 ?_
  refine g_iconst (v := (1 : Int32)) C dX7_setsSecret_64 (by decide +kernel) ?_
  refine g_iload_n C dX7_setsSecret_65 rfl 3 rfl ?_
  refine g_iload_n C dX7_setsSecret_66 rfl 2 rfl ?_
  refine g_iload_n C dX7_setsSecret_67 rfl 1 rfl ?_
  refine g_ishl C dX7_setsSecret_68 ?_
  refine g_ior C dX7_setsSecret_69 ?_
  refine g_iast (n := 104) (WS' := [(mo, oB 7 [.ref mo_now, .ref mo_aside, .ref mo_past, .int states, .ref mo_refusals, .ref mo_text, .int length, .ref mo_vars, .ref mo_sights, .int many, .int steps, .int isCut, .ref mo_isThere, .ref mo_taints, .ref mo_known, .int taint, .ref mo_knows, .int isOther, .int at_, .int isFaulty, .int orders, .ref mo_letters, .ref mo_numbers, .long hash]), (mo_now, aI G 104 (upd now 1 (x3 ||| (sl32 x2 x1))))]) C 1 rfl (by decide +kernel) (by decide +kernel) dX7_setsSecret_70 rfl ?_
  refine g_iload C dX7_setsSecret_71 4 rfl ?_
  obtain rfl := Option.some.inj hf
  exact hR _ _ dX7_setsSecret_73
set_option maxHeartbeats 4000000 in
set_option maxRecDepth 100000 in
theorem k7_setsSecret_32 {p : Program} {l : Launch} {e : Env} {s : State} {m : MethodId} {args : Array Value} {below : List Frame} {meth : Method} {c : Code} {G : gG} {A : Nat → Prop} {Q : State → Prop} {mo mo_now mo_aside mo_past mo_refusals mo_text mo_vars mo_sights mo_isThere mo_taints mo_known mo_knows mo_letters mo_numbers : Nat} (C : CX p s m args meth c G A cX7_setsSecret 5 RX7 wsX7_setsSecret) {states : Int32} {length : Int32} {many : Int32} {steps : Int32} {isCut : Int32} {taint : Int32} {isOther : Int32} {at_ : Int32} {isFaulty : Int32} {orders : Int32} {hash : Int64} {now : Nat → Int32} {x1 : Int32} {x2 : Int32} {x3 : Int32} {res : Int32 × (Nat → Int32)} (hR : ∀ (lv : List (Nat × Value)) (pc : Nat), decode cX7_setsSecret pc = .ok (.ireturn, 1) → GG p l e rm7_setsSecret s m args below meth c G A 5 0 0 Q [(mo, oB 7 [.ref mo_now, .ref mo_aside, .ref mo_past, .int states, .ref mo_refusals, .ref mo_text, .int length, .ref mo_vars, .ref mo_sights, .int many, .int steps, .int isCut, .ref mo_isThere, .ref mo_taints, .ref mo_known, .int taint, .ref mo_knows, .int isOther, .int at_, .int isFaulty, .int orders, .ref mo_letters, .ref mo_numbers, .long hash]), (mo_now, aI G 104 res.2)] lv pc [.int res.1])
    (hf : f7_setsSecret_32 now x1 x2 x3 = some res) : GG p l e rm7_setsSecret s m args below meth c G A 5 0 0 Q [(mo, oB 7 [.ref mo_now, .ref mo_aside, .ref mo_past, .int states, .ref mo_refusals, .ref mo_text, .int length, .ref mo_vars, .ref mo_sights, .int many, .int steps, .int isCut, .ref mo_isThere, .ref mo_taints, .ref mo_known, .int taint, .ref mo_knows, .int isOther, .int at_, .int isFaulty, .int orders, .ref mo_letters, .ref mo_numbers, .long hash]), (mo_now, aI G 104 now)] [(0, .ref mo), (1, .int x1), (2, .int x2), (3, .int x3)] 32 [] := by
  unfold f7_setsSecret_32 at hf
  refine g_iload_n C dX7_setsSecret_32 rfl 2 rfl ?_
  refine g_iconst (v := (1 : Int32)) C dX7_setsSecret_33 (by decide +kernel) ?_
  refine g_icmp_ne (tgt := 48) C dX7_setsSecret_34 (by decide) (fun c1 => ?_) (fun c1 => ?_)
  · replace hf := ite_f c1 hf
    exact k7_setsSecret_48 C hR hf
  · replace hf := ite_t c1 hf
    refine g_iload_n C dX7_setsSecret_37 rfl 3 rfl ?_
    obtain ⟨q2, hq2, hf⟩ := bs hf
    refine g_callSi (n := 1) (As := [.int x3]) (rest := []) (wc := []) (w1 := []) (wr := [(mo, oB 7 [.ref mo_now, .ref mo_aside, .ref mo_past, .int states, .ref mo_refusals, .ref mo_text, .int length, .ref mo_vars, .ref mo_sights, .int many, .int steps, .int isCut, .ref mo_isThere, .ref mo_taints, .ref mo_known, .int taint, .ref mo_knows, .int isOther, .int at_, .int isFaulty, .int orders, .ref mo_letters, .ref mo_numbers, .long hash]), (mo_now, aI G 104 now)]) (WS' := [(mo, oB 7 [.ref mo_now, .ref mo_aside, .ref mo_past, .int states, .ref mo_refusals, .ref mo_text, .int length, .ref mo_vars, .ref mo_sights, .int many, .int steps, .int isCut, .ref mo_isThere, .ref mo_taints, .ref mo_known, .int taint, .ref mo_knows, .int isOther, .int at_, .int isFaulty, .int orders, .ref mo_letters, .ref mo_numbers, .long hash]), (mo_now, aI G 104 now)]) C (c7_ones hq2) gX7_setsSecret_X7_ones (by decide +kernel) rfl rfl rfl ⟨by decide, by decide⟩ rfl [] [0, 1] [0, 1] rfl (by decide) rfl (by decide) (by decide) rfl (by decide) (Nat.le_of_ble_eq_true rfl) ⟨Nat.zero_le _, Nat.zero_le _⟩ rfl dX7_setsSecret_38 ?_
    refine g_iconst (v := (2 : Int32)) C dX7_setsSecret_41 (by decide +kernel) ?_
    refine g_icmp_ne (tgt := 48) C dX7_setsSecret_42 (by decide) (fun c3 => ?_) (fun c3 => ?_)
    · replace hf := ite_f c3 hf
      exact k7_setsSecret_48 C hR hf
    · replace hf := ite_t c3 hf
      refine g_bipush (v := (-4 : Int32)) C dX7_setsSecret_45 (by decide +kernel) ?_
      obtain rfl := Option.some.inj hf
      exact hR _ _ dX7_setsSecret_47
set_option maxHeartbeats 4000000 in
set_option maxRecDepth 100000 in
theorem c7_setsSecret {l : Launch} {G : gG} {mo mo_now mo_aside mo_past mo_refusals mo_text mo_vars mo_sights mo_isThere mo_taints mo_known mo_knows mo_letters mo_numbers : Nat} {now : Nat → Int32} {states : Int32} {length : Int32} {many : Int32} {steps : Int32} {isCut : Int32} {taint : Int32} {isOther : Int32} {at_ : Int32} {isFaulty : Int32} {orders : Int32} {hash : Int64} {v0 : Int32} {v1 : Int32} {res : Int32 × (Nat → Int32)} (hf : f7_setsSecret now v0 v1 = some res) : MI l yX7_setsSecret wsX7_setsSecret rm7_setsSecret G [.ref mo, .int v0, .int v1] [(mo, oB 7 [.ref mo_now, .ref mo_aside, .ref mo_past, .int states, .ref mo_refusals, .ref mo_text, .int length, .ref mo_vars, .ref mo_sights, .int many, .int steps, .int isCut, .ref mo_isThere, .ref mo_taints, .ref mo_known, .int taint, .ref mo_knows, .int isOther, .int at_, .int isFaulty, .int orders, .ref mo_letters, .ref mo_numbers, .long hash]), (mo_now, aI G 104 now)] (res.1) [(mo, oB 7 [.ref mo_now, .ref mo_aside, .ref mo_past, .int states, .ref mo_refusals, .ref mo_text, .int length, .ref mo_vars, .ref mo_sights, .int many, .int steps, .int isCut, .ref mo_isThere, .ref mo_taints, .ref mo_known, .int taint, .ref mo_knows, .int isOther, .int at_, .int isFaulty, .int orders, .ref mo_letters, .ref mo_numbers, .long hash]), (mo_now, aI G 104 res.2)] := by
  refine MI_of (res.1) (cc := cX7_setsSecret) (nL := 5) (lv := [(0, .ref mo), (1, .int v0), (2, .int v1)]) (by decide +kernel) rfl (Nat.le_of_ble_eq_true rfl) rfl ?_
  intro p e s m args below meth c A Q C hR
  unfold f7_setsSecret at hf
  refine g_iload_n C dX7_setsSecret_0 rfl 1 rfl ?_
  obtain ⟨q4, hq4, hf⟩ := bs hf
  refine g_callSi (n := 1) (As := [.int v0]) (rest := []) (wc := []) (w1 := []) (wr := [(mo, oB 7 [.ref mo_now, .ref mo_aside, .ref mo_past, .int states, .ref mo_refusals, .ref mo_text, .int length, .ref mo_vars, .ref mo_sights, .int many, .int steps, .int isCut, .ref mo_isThere, .ref mo_taints, .ref mo_known, .int taint, .ref mo_knows, .int isOther, .int at_, .int isFaulty, .int orders, .ref mo_letters, .ref mo_numbers, .long hash]), (mo_now, aI G 104 now)]) (WS' := [(mo, oB 7 [.ref mo_now, .ref mo_aside, .ref mo_past, .int states, .ref mo_refusals, .ref mo_text, .int length, .ref mo_vars, .ref mo_sights, .int many, .int steps, .int isCut, .ref mo_isThere, .ref mo_taints, .ref mo_known, .int taint, .ref mo_knows, .int isOther, .int at_, .int isFaulty, .int orders, .ref mo_letters, .ref mo_numbers, .long hash]), (mo_now, aI G 104 now)]) C (c7_isVariable hq4) gX7_setsSecret_X7_isVariable (by decide +kernel) rfl rfl rfl ⟨by decide, by decide⟩ rfl [] [0, 1] [0, 1] rfl (by decide) rfl (by decide) (by decide) rfl (by decide) (Nat.le_of_ble_eq_true rfl) ⟨Nat.zero_le _, Nat.zero_le _⟩ rfl dX7_setsSecret_1 ?_
  refine g_if_eq (tgt := 16) C dX7_setsSecret_4 (by decide) (fun c5 => ?_) (fun c5 => ?_)
  · replace hf := ite_t c5 hf
    refine g_bipush (v := (-2 : Int32)) C dX7_setsSecret_16 (by decide +kernel) ?_
    obtain rfl := Option.some.inj hf
    exact hR _ _ dX7_setsSecret_18
  · replace hf := ite_f c5 hf
    refine g_iload_n C dX7_setsSecret_7 rfl 2 rfl ?_
    refine g_iconst (v := (0 : Int32)) C dX7_setsSecret_8 (by decide +kernel) ?_
    refine g_iconst (v := (1 : Int32)) C dX7_setsSecret_9 (by decide +kernel) ?_
    obtain ⟨q6, hq6, hf⟩ := bs hf
    refine g_callSi (n := 3) (As := [.int v1, .int (0 : Int32), .int (1 : Int32)]) (rest := []) (wc := []) (w1 := []) (wr := [(mo, oB 7 [.ref mo_now, .ref mo_aside, .ref mo_past, .int states, .ref mo_refusals, .ref mo_text, .int length, .ref mo_vars, .ref mo_sights, .int many, .int steps, .int isCut, .ref mo_isThere, .ref mo_taints, .ref mo_known, .int taint, .ref mo_knows, .int isOther, .int at_, .int isFaulty, .int orders, .ref mo_letters, .ref mo_numbers, .long hash]), (mo_now, aI G 104 now)]) (WS' := [(mo, oB 7 [.ref mo_now, .ref mo_aside, .ref mo_past, .int states, .ref mo_refusals, .ref mo_text, .int length, .ref mo_vars, .ref mo_sights, .int many, .int steps, .int isCut, .ref mo_isThere, .ref mo_taints, .ref mo_known, .int taint, .ref mo_knows, .int isOther, .int at_, .int isFaulty, .int orders, .ref mo_letters, .ref mo_numbers, .long hash]), (mo_now, aI G 104 now)]) C (c7_within hq6) gX7_setsSecret_X7_within (by decide +kernel) rfl rfl rfl ⟨by decide, by decide⟩ rfl [] [0, 1] [0, 1] rfl (by decide) rfl (by decide) (by decide) rfl (by decide) (Nat.le_of_ble_eq_true rfl) ⟨Nat.zero_le _, Nat.zero_le _⟩ rfl dX7_setsSecret_10 ?_
    refine g_if_ne (tgt := 19) C dX7_setsSecret_13 (by decide) (fun c7 => ?_) (fun c7 => ?_)
    · replace hf := ite_f c7 hf
      refine g_aload_n C dX7_setsSecret_19 rfl 0 rfl ?_
      refine g_get (C0 := RX7) (T := TX7) (N := 24) (ci := 7) (v := .ref mo_now) C hm7_setsSecret_0 0 rfl rfl 0 (by decide) hm7_setsSecret_1 rfl dX7_setsSecret_20 ?_
      refine g_iconst (v := (1 : Int32)) C dX7_setsSecret_23 (by decide +kernel) ?_
      refine g_iald (n := 104) (v := (now 1)) C 1 rfl (by decide +kernel) (by decide +kernel) rfl dX7_setsSecret_24 ?_
      refine g_iconst (v := (1 : Int32)) C dX7_setsSecret_25 (by decide +kernel) ?_
      refine g_iload_n C dX7_setsSecret_26 rfl 1 rfl ?_
      refine g_ishl C dX7_setsSecret_27 ?_
      refine g_iconst (v := (-1 : Int32)) C dX7_setsSecret_28 (by decide +kernel) ?_
      refine g_ixor C dX7_setsSecret_29 ?_
      refine g_iand C dX7_setsSecret_30 ?_
      refine g_istore_n (lv' := [(0, .ref mo), (1, .int v0), (2, .int v1), (3, .int ((now 1) &&& ((sl32 (1 : Int32) v0) ^^^ (-1 : Int32))))]) C dX7_setsSecret_31 rfl (by decide) [1, 2, 3, 0] rfl ?_
      exact k7_setsSecret_32 C hR hf
    · replace hf := ite_t c7 hf
      refine g_bipush (v := (-2 : Int32)) C dX7_setsSecret_16 (by decide +kernel) ?_
      obtain rfl := Option.some.inj hf
      exact hR _ _ dX7_setsSecret_18

-- X7_line
def f7_line (now : Nat → Int32) (aside : Nat → Int32) (past : Nat → Int32) (states : Int32) (refusals : Nat → Int32) (v0 : Int32) (v1 : Int32) (v2 : Int32) (v3 : Int32) : Option (Int32 × (Nat → Int32) × (Nat → Int32) × (Nat → Int32) × Int32 × (Nat → Int32)) :=
  (f7_laysAside now aside).bind <| fun q1 =>
    (f7_addsLine now v0 v1 v2 v3).bind <| fun q2 =>
    (f7_answers q1 past states refusals q2.1).bind <| fun q3 =>
    some (q3.1, q2.2, q1, q3.2.1, q3.2.2.1, q3.2.2.2)
def rm7_line : Room := { frames := 4, cells := 0, slots := 0, locals := 89 }
set_option maxHeartbeats 4000000 in
set_option maxRecDepth 100000 in
theorem c7_line {l : Launch} {G : gG} {mo mo_now mo_aside mo_past mo_refusals mo_text mo_vars mo_sights mo_isThere mo_taints mo_known mo_knows mo_letters mo_numbers : Nat} {now : Nat → Int32} {aside : Nat → Int32} {past : Nat → Int32} {states : Int32} {refusals : Nat → Int32} {length : Int32} {many : Int32} {steps : Int32} {isCut : Int32} {taint : Int32} {isOther : Int32} {at_ : Int32} {isFaulty : Int32} {orders : Int32} {hash : Int64} {v0 : Int32} {v1 : Int32} {v2 : Int32} {v3 : Int32} {res : Int32 × (Nat → Int32) × (Nat → Int32) × (Nat → Int32) × Int32 × (Nat → Int32)} (hf : f7_line now aside past states refusals v0 v1 v2 v3 = some res) : MI l yX7_line wsX7_line rm7_line G [.ref mo, .int v0, .int v1, .int v2, .int v3] [(mo, oB 7 [.ref mo_now, .ref mo_aside, .ref mo_past, .int states, .ref mo_refusals, .ref mo_text, .int length, .ref mo_vars, .ref mo_sights, .int many, .int steps, .int isCut, .ref mo_isThere, .ref mo_taints, .ref mo_known, .int taint, .ref mo_knows, .int isOther, .int at_, .int isFaulty, .int orders, .ref mo_letters, .ref mo_numbers, .long hash]), (mo_now, aI G 104 now), (mo_aside, aI G 104 aside), (mo_past, aI G 520 past), (mo_refusals, aI G 3 refusals)] (res.1) [(mo, oB 7 [.ref mo_now, .ref mo_aside, .ref mo_past, .int res.2.2.2.2.1, .ref mo_refusals, .ref mo_text, .int length, .ref mo_vars, .ref mo_sights, .int many, .int steps, .int isCut, .ref mo_isThere, .ref mo_taints, .ref mo_known, .int taint, .ref mo_knows, .int isOther, .int at_, .int isFaulty, .int orders, .ref mo_letters, .ref mo_numbers, .long hash]), (mo_now, aI G 104 res.2.1), (mo_aside, aI G 104 res.2.2.1), (mo_past, aI G 520 res.2.2.2.1), (mo_refusals, aI G 3 res.2.2.2.2.2)] := by
  refine MI_of (res.1) (cc := cX7_line) (nL := 5) (lv := [(0, .ref mo), (1, .int v0), (2, .int v1), (3, .int v2), (4, .int v3)]) (by decide +kernel) rfl (Nat.le_of_ble_eq_true rfl) rfl ?_
  intro p e s m args below meth c A Q C hR
  unfold f7_line at hf
  refine g_aload_n C dX7_line_0 rfl 0 rfl ?_
  obtain ⟨q1, hq1, hf⟩ := bs hf
  refine g_callVv (n := 0) (As := []) (rest := []) (wc := [(mo, oB 7 [.ref mo_now, .ref mo_aside, .ref mo_past, .int states, .ref mo_refusals, .ref mo_text, .int length, .ref mo_vars, .ref mo_sights, .int many, .int steps, .int isCut, .ref mo_isThere, .ref mo_taints, .ref mo_known, .int taint, .ref mo_knows, .int isOther, .int at_, .int isFaulty, .int orders, .ref mo_letters, .ref mo_numbers, .long hash]), (mo_now, aI G 104 now), (mo_aside, aI G 104 aside)]) (w1 := [(mo, oB 7 [.ref mo_now, .ref mo_aside, .ref mo_past, .int states, .ref mo_refusals, .ref mo_text, .int length, .ref mo_vars, .ref mo_sights, .int many, .int steps, .int isCut, .ref mo_isThere, .ref mo_taints, .ref mo_known, .int taint, .ref mo_knows, .int isOther, .int at_, .int isFaulty, .int orders, .ref mo_letters, .ref mo_numbers, .long hash]), (mo_now, aI G 104 now), (mo_aside, aI G 104 q1)]) (wr := [(mo_past, aI G 520 past), (mo_refusals, aI G 3 refusals)]) (WS' := [(mo, oB 7 [.ref mo_now, .ref mo_aside, .ref mo_past, .int states, .ref mo_refusals, .ref mo_text, .int length, .ref mo_vars, .ref mo_sights, .int many, .int steps, .int isCut, .ref mo_isThere, .ref mo_taints, .ref mo_known, .int taint, .ref mo_knows, .int isOther, .int at_, .int isFaulty, .int orders, .ref mo_letters, .ref mo_numbers, .long hash]), (mo_now, aI G 104 now), (mo_aside, aI G 104 q1), (mo_past, aI G 520 past), (mo_refusals, aI G 3 refusals)]) C (c7_laysAside hq1) gX7_line_X7_laysAside (by decide +kernel) rfl rfl rfl rfl rfl rfl ⟨by decide, by decide⟩ rfl [0, 1, 2] [3, 4] [2, 3, 4, 0, 1] rfl (by decide) rfl (by decide) (by decide) rfl (by decide) (Nat.le_of_ble_eq_true rfl) ⟨Nat.zero_le _, Nat.zero_le _⟩ rfl dX7_line_1 ?_
  refine g_aload_n C dX7_line_4 rfl 0 rfl ?_
  refine g_aload_n C dX7_line_5 rfl 0 rfl ?_
  refine g_iload_n C dX7_line_6 rfl 1 rfl ?_
  refine g_iload_n C dX7_line_7 rfl 2 rfl ?_
  refine g_iload_n C dX7_line_8 rfl 3 rfl ?_
  refine g_iload C dX7_line_9 4 rfl ?_
  obtain ⟨q2, hq2, hf⟩ := bs hf
  refine g_callVi (n := 4) (As := [.int v0, .int v1, .int v2, .int v3]) (rest := [.ref mo]) (wc := [(mo, oB 7 [.ref mo_now, .ref mo_aside, .ref mo_past, .int states, .ref mo_refusals, .ref mo_text, .int length, .ref mo_vars, .ref mo_sights, .int many, .int steps, .int isCut, .ref mo_isThere, .ref mo_taints, .ref mo_known, .int taint, .ref mo_knows, .int isOther, .int at_, .int isFaulty, .int orders, .ref mo_letters, .ref mo_numbers, .long hash]), (mo_now, aI G 104 now)]) (w1 := [(mo, oB 7 [.ref mo_now, .ref mo_aside, .ref mo_past, .int states, .ref mo_refusals, .ref mo_text, .int length, .ref mo_vars, .ref mo_sights, .int many, .int steps, .int isCut, .ref mo_isThere, .ref mo_taints, .ref mo_known, .int taint, .ref mo_knows, .int isOther, .int at_, .int isFaulty, .int orders, .ref mo_letters, .ref mo_numbers, .long hash]), (mo_now, aI G 104 q2.2)]) (wr := [(mo_aside, aI G 104 q1), (mo_past, aI G 520 past), (mo_refusals, aI G 3 refusals)]) (WS' := [(mo, oB 7 [.ref mo_now, .ref mo_aside, .ref mo_past, .int states, .ref mo_refusals, .ref mo_text, .int length, .ref mo_vars, .ref mo_sights, .int many, .int steps, .int isCut, .ref mo_isThere, .ref mo_taints, .ref mo_known, .int taint, .ref mo_knows, .int isOther, .int at_, .int isFaulty, .int orders, .ref mo_letters, .ref mo_numbers, .long hash]), (mo_now, aI G 104 q2.2), (mo_aside, aI G 104 q1), (mo_past, aI G 520 past), (mo_refusals, aI G 3 refusals)]) C (c7_addsLine hq2) gX7_line_X7_addsLine (by decide +kernel) rfl rfl rfl rfl rfl rfl ⟨by decide, by decide⟩ rfl [0, 1] [2, 3, 4] [3, 4, 0, 1, 2] rfl (by decide) rfl (by decide) (by decide) rfl (by decide) (Nat.le_of_ble_eq_true rfl) ⟨Nat.zero_le _, Nat.zero_le _⟩ rfl dX7_line_11 ?_
  obtain ⟨q3, hq3, hf⟩ := bs hf
  refine g_callVi (n := 1) (As := [.int q2.1]) (rest := []) (wc := [(mo, oB 7 [.ref mo_now, .ref mo_aside, .ref mo_past, .int states, .ref mo_refusals, .ref mo_text, .int length, .ref mo_vars, .ref mo_sights, .int many, .int steps, .int isCut, .ref mo_isThere, .ref mo_taints, .ref mo_known, .int taint, .ref mo_knows, .int isOther, .int at_, .int isFaulty, .int orders, .ref mo_letters, .ref mo_numbers, .long hash]), (mo_aside, aI G 104 q1), (mo_past, aI G 520 past), (mo_refusals, aI G 3 refusals)]) (w1 := [(mo, oB 7 [.ref mo_now, .ref mo_aside, .ref mo_past, .int q3.2.2.1, .ref mo_refusals, .ref mo_text, .int length, .ref mo_vars, .ref mo_sights, .int many, .int steps, .int isCut, .ref mo_isThere, .ref mo_taints, .ref mo_known, .int taint, .ref mo_knows, .int isOther, .int at_, .int isFaulty, .int orders, .ref mo_letters, .ref mo_numbers, .long hash]), (mo_aside, aI G 104 q1), (mo_past, aI G 520 q3.2.1), (mo_refusals, aI G 3 q3.2.2.2)]) (wr := [(mo_now, aI G 104 q2.2)]) (WS' := [(mo, oB 7 [.ref mo_now, .ref mo_aside, .ref mo_past, .int q3.2.2.1, .ref mo_refusals, .ref mo_text, .int length, .ref mo_vars, .ref mo_sights, .int many, .int steps, .int isCut, .ref mo_isThere, .ref mo_taints, .ref mo_known, .int taint, .ref mo_knows, .int isOther, .int at_, .int isFaulty, .int orders, .ref mo_letters, .ref mo_numbers, .long hash]), (mo_now, aI G 104 q2.2), (mo_aside, aI G 104 q1), (mo_past, aI G 520 q3.2.1), (mo_refusals, aI G 3 q3.2.2.2)]) C (c7_answers hq3) gX7_line_X7_answers (by decide +kernel) rfl rfl rfl rfl rfl rfl ⟨by decide, by decide⟩ rfl [0, 2, 3, 4] [1] [1, 0, 2, 3, 4] rfl (by decide) rfl (by decide) (by decide) rfl (by decide) (Nat.le_of_ble_eq_true rfl) ⟨Nat.zero_le _, Nat.zero_le _⟩ rfl dX7_line_14 ?_
  obtain rfl := Option.some.inj hf
  exact hR _ _ dX7_line_17

-- X7_drops
def f7_drops (now : Nat → Int32) (aside : Nat → Int32) (past : Nat → Int32) (states : Int32) (refusals : Nat → Int32) (v0 : Int32) : Option (Int32 × (Nat → Int32) × (Nat → Int32) × (Nat → Int32) × Int32 × (Nat → Int32)) :=
  (f7_laysAside now aside).bind <| fun q1 =>
    (f7_dropsLine now v0).bind <| fun q2 =>
    (f7_answers q1 past states refusals q2.1).bind <| fun q3 =>
    some (q3.1, q2.2, q1, q3.2.1, q3.2.2.1, q3.2.2.2)
def rm7_drops : Room := { frames := 3, cells := 0, slots := 0, locals := 65 }
set_option maxHeartbeats 4000000 in
set_option maxRecDepth 100000 in
theorem c7_drops {l : Launch} {G : gG} {mo mo_now mo_aside mo_past mo_refusals mo_text mo_vars mo_sights mo_isThere mo_taints mo_known mo_knows mo_letters mo_numbers : Nat} {now : Nat → Int32} {aside : Nat → Int32} {past : Nat → Int32} {states : Int32} {refusals : Nat → Int32} {length : Int32} {many : Int32} {steps : Int32} {isCut : Int32} {taint : Int32} {isOther : Int32} {at_ : Int32} {isFaulty : Int32} {orders : Int32} {hash : Int64} {v0 : Int32} {res : Int32 × (Nat → Int32) × (Nat → Int32) × (Nat → Int32) × Int32 × (Nat → Int32)} (hf : f7_drops now aside past states refusals v0 = some res) : MI l yX7_drops wsX7_drops rm7_drops G [.ref mo, .int v0] [(mo, oB 7 [.ref mo_now, .ref mo_aside, .ref mo_past, .int states, .ref mo_refusals, .ref mo_text, .int length, .ref mo_vars, .ref mo_sights, .int many, .int steps, .int isCut, .ref mo_isThere, .ref mo_taints, .ref mo_known, .int taint, .ref mo_knows, .int isOther, .int at_, .int isFaulty, .int orders, .ref mo_letters, .ref mo_numbers, .long hash]), (mo_now, aI G 104 now), (mo_aside, aI G 104 aside), (mo_past, aI G 520 past), (mo_refusals, aI G 3 refusals)] (res.1) [(mo, oB 7 [.ref mo_now, .ref mo_aside, .ref mo_past, .int res.2.2.2.2.1, .ref mo_refusals, .ref mo_text, .int length, .ref mo_vars, .ref mo_sights, .int many, .int steps, .int isCut, .ref mo_isThere, .ref mo_taints, .ref mo_known, .int taint, .ref mo_knows, .int isOther, .int at_, .int isFaulty, .int orders, .ref mo_letters, .ref mo_numbers, .long hash]), (mo_now, aI G 104 res.2.1), (mo_aside, aI G 104 res.2.2.1), (mo_past, aI G 520 res.2.2.2.1), (mo_refusals, aI G 3 res.2.2.2.2.2)] := by
  refine MI_of (res.1) (cc := cX7_drops) (nL := 2) (lv := [(0, .ref mo), (1, .int v0)]) (by decide +kernel) rfl (Nat.le_of_ble_eq_true rfl) rfl ?_
  intro p e s m args below meth c A Q C hR
  unfold f7_drops at hf
  refine g_aload_n C dX7_drops_0 rfl 0 rfl ?_
  obtain ⟨q1, hq1, hf⟩ := bs hf
  refine g_callVv (n := 0) (As := []) (rest := []) (wc := [(mo, oB 7 [.ref mo_now, .ref mo_aside, .ref mo_past, .int states, .ref mo_refusals, .ref mo_text, .int length, .ref mo_vars, .ref mo_sights, .int many, .int steps, .int isCut, .ref mo_isThere, .ref mo_taints, .ref mo_known, .int taint, .ref mo_knows, .int isOther, .int at_, .int isFaulty, .int orders, .ref mo_letters, .ref mo_numbers, .long hash]), (mo_now, aI G 104 now), (mo_aside, aI G 104 aside)]) (w1 := [(mo, oB 7 [.ref mo_now, .ref mo_aside, .ref mo_past, .int states, .ref mo_refusals, .ref mo_text, .int length, .ref mo_vars, .ref mo_sights, .int many, .int steps, .int isCut, .ref mo_isThere, .ref mo_taints, .ref mo_known, .int taint, .ref mo_knows, .int isOther, .int at_, .int isFaulty, .int orders, .ref mo_letters, .ref mo_numbers, .long hash]), (mo_now, aI G 104 now), (mo_aside, aI G 104 q1)]) (wr := [(mo_past, aI G 520 past), (mo_refusals, aI G 3 refusals)]) (WS' := [(mo, oB 7 [.ref mo_now, .ref mo_aside, .ref mo_past, .int states, .ref mo_refusals, .ref mo_text, .int length, .ref mo_vars, .ref mo_sights, .int many, .int steps, .int isCut, .ref mo_isThere, .ref mo_taints, .ref mo_known, .int taint, .ref mo_knows, .int isOther, .int at_, .int isFaulty, .int orders, .ref mo_letters, .ref mo_numbers, .long hash]), (mo_now, aI G 104 now), (mo_aside, aI G 104 q1), (mo_past, aI G 520 past), (mo_refusals, aI G 3 refusals)]) C (c7_laysAside hq1) gX7_drops_X7_laysAside (by decide +kernel) rfl rfl rfl rfl rfl rfl ⟨by decide, by decide⟩ rfl [0, 1, 2] [3, 4] [2, 3, 4, 0, 1] rfl (by decide) rfl (by decide) (by decide) rfl (by decide) (Nat.le_of_ble_eq_true rfl) ⟨Nat.zero_le _, Nat.zero_le _⟩ rfl dX7_drops_1 ?_
  refine g_aload_n C dX7_drops_4 rfl 0 rfl ?_
  refine g_aload_n C dX7_drops_5 rfl 0 rfl ?_
  refine g_iload_n C dX7_drops_6 rfl 1 rfl ?_
  obtain ⟨q2, hq2, hf⟩ := bs hf
  refine g_callVi (n := 1) (As := [.int v0]) (rest := [.ref mo]) (wc := [(mo, oB 7 [.ref mo_now, .ref mo_aside, .ref mo_past, .int states, .ref mo_refusals, .ref mo_text, .int length, .ref mo_vars, .ref mo_sights, .int many, .int steps, .int isCut, .ref mo_isThere, .ref mo_taints, .ref mo_known, .int taint, .ref mo_knows, .int isOther, .int at_, .int isFaulty, .int orders, .ref mo_letters, .ref mo_numbers, .long hash]), (mo_now, aI G 104 now)]) (w1 := [(mo, oB 7 [.ref mo_now, .ref mo_aside, .ref mo_past, .int states, .ref mo_refusals, .ref mo_text, .int length, .ref mo_vars, .ref mo_sights, .int many, .int steps, .int isCut, .ref mo_isThere, .ref mo_taints, .ref mo_known, .int taint, .ref mo_knows, .int isOther, .int at_, .int isFaulty, .int orders, .ref mo_letters, .ref mo_numbers, .long hash]), (mo_now, aI G 104 q2.2)]) (wr := [(mo_aside, aI G 104 q1), (mo_past, aI G 520 past), (mo_refusals, aI G 3 refusals)]) (WS' := [(mo, oB 7 [.ref mo_now, .ref mo_aside, .ref mo_past, .int states, .ref mo_refusals, .ref mo_text, .int length, .ref mo_vars, .ref mo_sights, .int many, .int steps, .int isCut, .ref mo_isThere, .ref mo_taints, .ref mo_known, .int taint, .ref mo_knows, .int isOther, .int at_, .int isFaulty, .int orders, .ref mo_letters, .ref mo_numbers, .long hash]), (mo_now, aI G 104 q2.2), (mo_aside, aI G 104 q1), (mo_past, aI G 520 past), (mo_refusals, aI G 3 refusals)]) C (c7_dropsLine hq2) gX7_drops_X7_dropsLine (by decide +kernel) rfl rfl rfl rfl rfl rfl ⟨by decide, by decide⟩ rfl [0, 1] [2, 3, 4] [3, 4, 0, 1, 2] rfl (by decide) rfl (by decide) (by decide) rfl (by decide) (Nat.le_of_ble_eq_true rfl) ⟨Nat.zero_le _, Nat.zero_le _⟩ rfl dX7_drops_7 ?_
  obtain ⟨q3, hq3, hf⟩ := bs hf
  refine g_callVi (n := 1) (As := [.int q2.1]) (rest := []) (wc := [(mo, oB 7 [.ref mo_now, .ref mo_aside, .ref mo_past, .int states, .ref mo_refusals, .ref mo_text, .int length, .ref mo_vars, .ref mo_sights, .int many, .int steps, .int isCut, .ref mo_isThere, .ref mo_taints, .ref mo_known, .int taint, .ref mo_knows, .int isOther, .int at_, .int isFaulty, .int orders, .ref mo_letters, .ref mo_numbers, .long hash]), (mo_aside, aI G 104 q1), (mo_past, aI G 520 past), (mo_refusals, aI G 3 refusals)]) (w1 := [(mo, oB 7 [.ref mo_now, .ref mo_aside, .ref mo_past, .int q3.2.2.1, .ref mo_refusals, .ref mo_text, .int length, .ref mo_vars, .ref mo_sights, .int many, .int steps, .int isCut, .ref mo_isThere, .ref mo_taints, .ref mo_known, .int taint, .ref mo_knows, .int isOther, .int at_, .int isFaulty, .int orders, .ref mo_letters, .ref mo_numbers, .long hash]), (mo_aside, aI G 104 q1), (mo_past, aI G 520 q3.2.1), (mo_refusals, aI G 3 q3.2.2.2)]) (wr := [(mo_now, aI G 104 q2.2)]) (WS' := [(mo, oB 7 [.ref mo_now, .ref mo_aside, .ref mo_past, .int q3.2.2.1, .ref mo_refusals, .ref mo_text, .int length, .ref mo_vars, .ref mo_sights, .int many, .int steps, .int isCut, .ref mo_isThere, .ref mo_taints, .ref mo_known, .int taint, .ref mo_knows, .int isOther, .int at_, .int isFaulty, .int orders, .ref mo_letters, .ref mo_numbers, .long hash]), (mo_now, aI G 104 q2.2), (mo_aside, aI G 104 q1), (mo_past, aI G 520 q3.2.1), (mo_refusals, aI G 3 q3.2.2.2)]) C (c7_answers hq3) gX7_drops_X7_answers (by decide +kernel) rfl rfl rfl rfl rfl rfl ⟨by decide, by decide⟩ rfl [0, 2, 3, 4] [1] [1, 0, 2, 3, 4] rfl (by decide) rfl (by decide) (by decide) rfl (by decide) (Nat.le_of_ble_eq_true rfl) ⟨Nat.zero_le _, Nat.zero_le _⟩ rfl dX7_drops_10 ?_
  obtain rfl := Option.some.inj hf
  exact hR _ _ dX7_drops_13

-- X7_table
def f7_table (now : Nat → Int32) (aside : Nat → Int32) (past : Nat → Int32) (states : Int32) (refusals : Nat → Int32) (v0 : Int32) (v1 : Int32) : Option (Int32 × (Nat → Int32) × (Nat → Int32) × (Nat → Int32) × Int32 × (Nat → Int32)) :=
  (f7_laysAside now aside).bind <| fun q1 =>
    (f7_setsTable now v0 v1).bind <| fun q2 =>
    (f7_answers q1 past states refusals q2.1).bind <| fun q3 =>
    some (q3.1, q2.2, q1, q3.2.1, q3.2.2.1, q3.2.2.2)
def rm7_table : Room := { frames := 3, cells := 0, slots := 0, locals := 64 }
set_option maxHeartbeats 4000000 in
set_option maxRecDepth 100000 in
theorem c7_table {l : Launch} {G : gG} {mo mo_now mo_aside mo_past mo_refusals mo_text mo_vars mo_sights mo_isThere mo_taints mo_known mo_knows mo_letters mo_numbers : Nat} {now : Nat → Int32} {aside : Nat → Int32} {past : Nat → Int32} {states : Int32} {refusals : Nat → Int32} {length : Int32} {many : Int32} {steps : Int32} {isCut : Int32} {taint : Int32} {isOther : Int32} {at_ : Int32} {isFaulty : Int32} {orders : Int32} {hash : Int64} {v0 : Int32} {v1 : Int32} {res : Int32 × (Nat → Int32) × (Nat → Int32) × (Nat → Int32) × Int32 × (Nat → Int32)} (hf : f7_table now aside past states refusals v0 v1 = some res) : MI l yX7_table wsX7_table rm7_table G [.ref mo, .int v0, .int v1] [(mo, oB 7 [.ref mo_now, .ref mo_aside, .ref mo_past, .int states, .ref mo_refusals, .ref mo_text, .int length, .ref mo_vars, .ref mo_sights, .int many, .int steps, .int isCut, .ref mo_isThere, .ref mo_taints, .ref mo_known, .int taint, .ref mo_knows, .int isOther, .int at_, .int isFaulty, .int orders, .ref mo_letters, .ref mo_numbers, .long hash]), (mo_now, aI G 104 now), (mo_aside, aI G 104 aside), (mo_past, aI G 520 past), (mo_refusals, aI G 3 refusals)] (res.1) [(mo, oB 7 [.ref mo_now, .ref mo_aside, .ref mo_past, .int res.2.2.2.2.1, .ref mo_refusals, .ref mo_text, .int length, .ref mo_vars, .ref mo_sights, .int many, .int steps, .int isCut, .ref mo_isThere, .ref mo_taints, .ref mo_known, .int taint, .ref mo_knows, .int isOther, .int at_, .int isFaulty, .int orders, .ref mo_letters, .ref mo_numbers, .long hash]), (mo_now, aI G 104 res.2.1), (mo_aside, aI G 104 res.2.2.1), (mo_past, aI G 520 res.2.2.2.1), (mo_refusals, aI G 3 res.2.2.2.2.2)] := by
  refine MI_of (res.1) (cc := cX7_table) (nL := 3) (lv := [(0, .ref mo), (1, .int v0), (2, .int v1)]) (by decide +kernel) rfl (Nat.le_of_ble_eq_true rfl) rfl ?_
  intro p e s m args below meth c A Q C hR
  unfold f7_table at hf
  refine g_aload_n C dX7_table_0 rfl 0 rfl ?_
  obtain ⟨q1, hq1, hf⟩ := bs hf
  refine g_callVv (n := 0) (As := []) (rest := []) (wc := [(mo, oB 7 [.ref mo_now, .ref mo_aside, .ref mo_past, .int states, .ref mo_refusals, .ref mo_text, .int length, .ref mo_vars, .ref mo_sights, .int many, .int steps, .int isCut, .ref mo_isThere, .ref mo_taints, .ref mo_known, .int taint, .ref mo_knows, .int isOther, .int at_, .int isFaulty, .int orders, .ref mo_letters, .ref mo_numbers, .long hash]), (mo_now, aI G 104 now), (mo_aside, aI G 104 aside)]) (w1 := [(mo, oB 7 [.ref mo_now, .ref mo_aside, .ref mo_past, .int states, .ref mo_refusals, .ref mo_text, .int length, .ref mo_vars, .ref mo_sights, .int many, .int steps, .int isCut, .ref mo_isThere, .ref mo_taints, .ref mo_known, .int taint, .ref mo_knows, .int isOther, .int at_, .int isFaulty, .int orders, .ref mo_letters, .ref mo_numbers, .long hash]), (mo_now, aI G 104 now), (mo_aside, aI G 104 q1)]) (wr := [(mo_past, aI G 520 past), (mo_refusals, aI G 3 refusals)]) (WS' := [(mo, oB 7 [.ref mo_now, .ref mo_aside, .ref mo_past, .int states, .ref mo_refusals, .ref mo_text, .int length, .ref mo_vars, .ref mo_sights, .int many, .int steps, .int isCut, .ref mo_isThere, .ref mo_taints, .ref mo_known, .int taint, .ref mo_knows, .int isOther, .int at_, .int isFaulty, .int orders, .ref mo_letters, .ref mo_numbers, .long hash]), (mo_now, aI G 104 now), (mo_aside, aI G 104 q1), (mo_past, aI G 520 past), (mo_refusals, aI G 3 refusals)]) C (c7_laysAside hq1) gX7_table_X7_laysAside (by decide +kernel) rfl rfl rfl rfl rfl rfl ⟨by decide, by decide⟩ rfl [0, 1, 2] [3, 4] [2, 3, 4, 0, 1] rfl (by decide) rfl (by decide) (by decide) rfl (by decide) (Nat.le_of_ble_eq_true rfl) ⟨Nat.zero_le _, Nat.zero_le _⟩ rfl dX7_table_1 ?_
  refine g_aload_n C dX7_table_4 rfl 0 rfl ?_
  refine g_aload_n C dX7_table_5 rfl 0 rfl ?_
  refine g_iload_n C dX7_table_6 rfl 1 rfl ?_
  refine g_iload_n C dX7_table_7 rfl 2 rfl ?_
  obtain ⟨q2, hq2, hf⟩ := bs hf
  refine g_callVi (n := 2) (As := [.int v0, .int v1]) (rest := [.ref mo]) (wc := [(mo, oB 7 [.ref mo_now, .ref mo_aside, .ref mo_past, .int states, .ref mo_refusals, .ref mo_text, .int length, .ref mo_vars, .ref mo_sights, .int many, .int steps, .int isCut, .ref mo_isThere, .ref mo_taints, .ref mo_known, .int taint, .ref mo_knows, .int isOther, .int at_, .int isFaulty, .int orders, .ref mo_letters, .ref mo_numbers, .long hash]), (mo_now, aI G 104 now)]) (w1 := [(mo, oB 7 [.ref mo_now, .ref mo_aside, .ref mo_past, .int states, .ref mo_refusals, .ref mo_text, .int length, .ref mo_vars, .ref mo_sights, .int many, .int steps, .int isCut, .ref mo_isThere, .ref mo_taints, .ref mo_known, .int taint, .ref mo_knows, .int isOther, .int at_, .int isFaulty, .int orders, .ref mo_letters, .ref mo_numbers, .long hash]), (mo_now, aI G 104 q2.2)]) (wr := [(mo_aside, aI G 104 q1), (mo_past, aI G 520 past), (mo_refusals, aI G 3 refusals)]) (WS' := [(mo, oB 7 [.ref mo_now, .ref mo_aside, .ref mo_past, .int states, .ref mo_refusals, .ref mo_text, .int length, .ref mo_vars, .ref mo_sights, .int many, .int steps, .int isCut, .ref mo_isThere, .ref mo_taints, .ref mo_known, .int taint, .ref mo_knows, .int isOther, .int at_, .int isFaulty, .int orders, .ref mo_letters, .ref mo_numbers, .long hash]), (mo_now, aI G 104 q2.2), (mo_aside, aI G 104 q1), (mo_past, aI G 520 past), (mo_refusals, aI G 3 refusals)]) C (c7_setsTable hq2) gX7_table_X7_setsTable (by decide +kernel) rfl rfl rfl rfl rfl rfl ⟨by decide, by decide⟩ rfl [0, 1] [2, 3, 4] [3, 4, 0, 1, 2] rfl (by decide) rfl (by decide) (by decide) rfl (by decide) (Nat.le_of_ble_eq_true rfl) ⟨Nat.zero_le _, Nat.zero_le _⟩ rfl dX7_table_8 ?_
  obtain ⟨q3, hq3, hf⟩ := bs hf
  refine g_callVi (n := 1) (As := [.int q2.1]) (rest := []) (wc := [(mo, oB 7 [.ref mo_now, .ref mo_aside, .ref mo_past, .int states, .ref mo_refusals, .ref mo_text, .int length, .ref mo_vars, .ref mo_sights, .int many, .int steps, .int isCut, .ref mo_isThere, .ref mo_taints, .ref mo_known, .int taint, .ref mo_knows, .int isOther, .int at_, .int isFaulty, .int orders, .ref mo_letters, .ref mo_numbers, .long hash]), (mo_aside, aI G 104 q1), (mo_past, aI G 520 past), (mo_refusals, aI G 3 refusals)]) (w1 := [(mo, oB 7 [.ref mo_now, .ref mo_aside, .ref mo_past, .int q3.2.2.1, .ref mo_refusals, .ref mo_text, .int length, .ref mo_vars, .ref mo_sights, .int many, .int steps, .int isCut, .ref mo_isThere, .ref mo_taints, .ref mo_known, .int taint, .ref mo_knows, .int isOther, .int at_, .int isFaulty, .int orders, .ref mo_letters, .ref mo_numbers, .long hash]), (mo_aside, aI G 104 q1), (mo_past, aI G 520 q3.2.1), (mo_refusals, aI G 3 q3.2.2.2)]) (wr := [(mo_now, aI G 104 q2.2)]) (WS' := [(mo, oB 7 [.ref mo_now, .ref mo_aside, .ref mo_past, .int q3.2.2.1, .ref mo_refusals, .ref mo_text, .int length, .ref mo_vars, .ref mo_sights, .int many, .int steps, .int isCut, .ref mo_isThere, .ref mo_taints, .ref mo_known, .int taint, .ref mo_knows, .int isOther, .int at_, .int isFaulty, .int orders, .ref mo_letters, .ref mo_numbers, .long hash]), (mo_now, aI G 104 q2.2), (mo_aside, aI G 104 q1), (mo_past, aI G 520 q3.2.1), (mo_refusals, aI G 3 q3.2.2.2)]) C (c7_answers hq3) gX7_table_X7_answers (by decide +kernel) rfl rfl rfl rfl rfl rfl ⟨by decide, by decide⟩ rfl [0, 2, 3, 4] [1] [1, 0, 2, 3, 4] rfl (by decide) rfl (by decide) (by decide) rfl (by decide) (Nat.le_of_ble_eq_true rfl) ⟨Nat.zero_le _, Nat.zero_le _⟩ rfl dX7_table_11 ?_
  obtain rfl := Option.some.inj hf
  exact hR _ _ dX7_table_14

-- X7_start
def f7_start (now : Nat → Int32) (aside : Nat → Int32) (past : Nat → Int32) (states : Int32) (refusals : Nat → Int32) (v0 : Int32) (v1 : Int32) : Option (Int32 × (Nat → Int32) × (Nat → Int32) × (Nat → Int32) × Int32 × (Nat → Int32)) :=
  (f7_laysAside now aside).bind <| fun q1 =>
    (f7_setsStart now v0 v1).bind <| fun q2 =>
    (f7_answers q1 past states refusals q2.1).bind <| fun q3 =>
    some (q3.1, q2.2, q1, q3.2.1, q3.2.2.1, q3.2.2.2)
def rm7_start : Room := { frames := 3, cells := 0, slots := 0, locals := 64 }
set_option maxHeartbeats 4000000 in
set_option maxRecDepth 100000 in
theorem c7_start {l : Launch} {G : gG} {mo mo_now mo_aside mo_past mo_refusals mo_text mo_vars mo_sights mo_isThere mo_taints mo_known mo_knows mo_letters mo_numbers : Nat} {now : Nat → Int32} {aside : Nat → Int32} {past : Nat → Int32} {states : Int32} {refusals : Nat → Int32} {length : Int32} {many : Int32} {steps : Int32} {isCut : Int32} {taint : Int32} {isOther : Int32} {at_ : Int32} {isFaulty : Int32} {orders : Int32} {hash : Int64} {v0 : Int32} {v1 : Int32} {res : Int32 × (Nat → Int32) × (Nat → Int32) × (Nat → Int32) × Int32 × (Nat → Int32)} (hf : f7_start now aside past states refusals v0 v1 = some res) : MI l yX7_start wsX7_start rm7_start G [.ref mo, .int v0, .int v1] [(mo, oB 7 [.ref mo_now, .ref mo_aside, .ref mo_past, .int states, .ref mo_refusals, .ref mo_text, .int length, .ref mo_vars, .ref mo_sights, .int many, .int steps, .int isCut, .ref mo_isThere, .ref mo_taints, .ref mo_known, .int taint, .ref mo_knows, .int isOther, .int at_, .int isFaulty, .int orders, .ref mo_letters, .ref mo_numbers, .long hash]), (mo_now, aI G 104 now), (mo_aside, aI G 104 aside), (mo_past, aI G 520 past), (mo_refusals, aI G 3 refusals)] (res.1) [(mo, oB 7 [.ref mo_now, .ref mo_aside, .ref mo_past, .int res.2.2.2.2.1, .ref mo_refusals, .ref mo_text, .int length, .ref mo_vars, .ref mo_sights, .int many, .int steps, .int isCut, .ref mo_isThere, .ref mo_taints, .ref mo_known, .int taint, .ref mo_knows, .int isOther, .int at_, .int isFaulty, .int orders, .ref mo_letters, .ref mo_numbers, .long hash]), (mo_now, aI G 104 res.2.1), (mo_aside, aI G 104 res.2.2.1), (mo_past, aI G 520 res.2.2.2.1), (mo_refusals, aI G 3 res.2.2.2.2.2)] := by
  refine MI_of (res.1) (cc := cX7_start) (nL := 3) (lv := [(0, .ref mo), (1, .int v0), (2, .int v1)]) (by decide +kernel) rfl (Nat.le_of_ble_eq_true rfl) rfl ?_
  intro p e s m args below meth c A Q C hR
  unfold f7_start at hf
  refine g_aload_n C dX7_start_0 rfl 0 rfl ?_
  obtain ⟨q1, hq1, hf⟩ := bs hf
  refine g_callVv (n := 0) (As := []) (rest := []) (wc := [(mo, oB 7 [.ref mo_now, .ref mo_aside, .ref mo_past, .int states, .ref mo_refusals, .ref mo_text, .int length, .ref mo_vars, .ref mo_sights, .int many, .int steps, .int isCut, .ref mo_isThere, .ref mo_taints, .ref mo_known, .int taint, .ref mo_knows, .int isOther, .int at_, .int isFaulty, .int orders, .ref mo_letters, .ref mo_numbers, .long hash]), (mo_now, aI G 104 now), (mo_aside, aI G 104 aside)]) (w1 := [(mo, oB 7 [.ref mo_now, .ref mo_aside, .ref mo_past, .int states, .ref mo_refusals, .ref mo_text, .int length, .ref mo_vars, .ref mo_sights, .int many, .int steps, .int isCut, .ref mo_isThere, .ref mo_taints, .ref mo_known, .int taint, .ref mo_knows, .int isOther, .int at_, .int isFaulty, .int orders, .ref mo_letters, .ref mo_numbers, .long hash]), (mo_now, aI G 104 now), (mo_aside, aI G 104 q1)]) (wr := [(mo_past, aI G 520 past), (mo_refusals, aI G 3 refusals)]) (WS' := [(mo, oB 7 [.ref mo_now, .ref mo_aside, .ref mo_past, .int states, .ref mo_refusals, .ref mo_text, .int length, .ref mo_vars, .ref mo_sights, .int many, .int steps, .int isCut, .ref mo_isThere, .ref mo_taints, .ref mo_known, .int taint, .ref mo_knows, .int isOther, .int at_, .int isFaulty, .int orders, .ref mo_letters, .ref mo_numbers, .long hash]), (mo_now, aI G 104 now), (mo_aside, aI G 104 q1), (mo_past, aI G 520 past), (mo_refusals, aI G 3 refusals)]) C (c7_laysAside hq1) gX7_start_X7_laysAside (by decide +kernel) rfl rfl rfl rfl rfl rfl ⟨by decide, by decide⟩ rfl [0, 1, 2] [3, 4] [2, 3, 4, 0, 1] rfl (by decide) rfl (by decide) (by decide) rfl (by decide) (Nat.le_of_ble_eq_true rfl) ⟨Nat.zero_le _, Nat.zero_le _⟩ rfl dX7_start_1 ?_
  refine g_aload_n C dX7_start_4 rfl 0 rfl ?_
  refine g_aload_n C dX7_start_5 rfl 0 rfl ?_
  refine g_iload_n C dX7_start_6 rfl 1 rfl ?_
  refine g_iload_n C dX7_start_7 rfl 2 rfl ?_
  obtain ⟨q2, hq2, hf⟩ := bs hf
  refine g_callVi (n := 2) (As := [.int v0, .int v1]) (rest := [.ref mo]) (wc := [(mo, oB 7 [.ref mo_now, .ref mo_aside, .ref mo_past, .int states, .ref mo_refusals, .ref mo_text, .int length, .ref mo_vars, .ref mo_sights, .int many, .int steps, .int isCut, .ref mo_isThere, .ref mo_taints, .ref mo_known, .int taint, .ref mo_knows, .int isOther, .int at_, .int isFaulty, .int orders, .ref mo_letters, .ref mo_numbers, .long hash]), (mo_now, aI G 104 now)]) (w1 := [(mo, oB 7 [.ref mo_now, .ref mo_aside, .ref mo_past, .int states, .ref mo_refusals, .ref mo_text, .int length, .ref mo_vars, .ref mo_sights, .int many, .int steps, .int isCut, .ref mo_isThere, .ref mo_taints, .ref mo_known, .int taint, .ref mo_knows, .int isOther, .int at_, .int isFaulty, .int orders, .ref mo_letters, .ref mo_numbers, .long hash]), (mo_now, aI G 104 q2.2)]) (wr := [(mo_aside, aI G 104 q1), (mo_past, aI G 520 past), (mo_refusals, aI G 3 refusals)]) (WS' := [(mo, oB 7 [.ref mo_now, .ref mo_aside, .ref mo_past, .int states, .ref mo_refusals, .ref mo_text, .int length, .ref mo_vars, .ref mo_sights, .int many, .int steps, .int isCut, .ref mo_isThere, .ref mo_taints, .ref mo_known, .int taint, .ref mo_knows, .int isOther, .int at_, .int isFaulty, .int orders, .ref mo_letters, .ref mo_numbers, .long hash]), (mo_now, aI G 104 q2.2), (mo_aside, aI G 104 q1), (mo_past, aI G 520 past), (mo_refusals, aI G 3 refusals)]) C (c7_setsStart hq2) gX7_start_X7_setsStart (by decide +kernel) rfl rfl rfl rfl rfl rfl ⟨by decide, by decide⟩ rfl [0, 1] [2, 3, 4] [3, 4, 0, 1, 2] rfl (by decide) rfl (by decide) (by decide) rfl (by decide) (Nat.le_of_ble_eq_true rfl) ⟨Nat.zero_le _, Nat.zero_le _⟩ rfl dX7_start_8 ?_
  obtain ⟨q3, hq3, hf⟩ := bs hf
  refine g_callVi (n := 1) (As := [.int q2.1]) (rest := []) (wc := [(mo, oB 7 [.ref mo_now, .ref mo_aside, .ref mo_past, .int states, .ref mo_refusals, .ref mo_text, .int length, .ref mo_vars, .ref mo_sights, .int many, .int steps, .int isCut, .ref mo_isThere, .ref mo_taints, .ref mo_known, .int taint, .ref mo_knows, .int isOther, .int at_, .int isFaulty, .int orders, .ref mo_letters, .ref mo_numbers, .long hash]), (mo_aside, aI G 104 q1), (mo_past, aI G 520 past), (mo_refusals, aI G 3 refusals)]) (w1 := [(mo, oB 7 [.ref mo_now, .ref mo_aside, .ref mo_past, .int q3.2.2.1, .ref mo_refusals, .ref mo_text, .int length, .ref mo_vars, .ref mo_sights, .int many, .int steps, .int isCut, .ref mo_isThere, .ref mo_taints, .ref mo_known, .int taint, .ref mo_knows, .int isOther, .int at_, .int isFaulty, .int orders, .ref mo_letters, .ref mo_numbers, .long hash]), (mo_aside, aI G 104 q1), (mo_past, aI G 520 q3.2.1), (mo_refusals, aI G 3 q3.2.2.2)]) (wr := [(mo_now, aI G 104 q2.2)]) (WS' := [(mo, oB 7 [.ref mo_now, .ref mo_aside, .ref mo_past, .int q3.2.2.1, .ref mo_refusals, .ref mo_text, .int length, .ref mo_vars, .ref mo_sights, .int many, .int steps, .int isCut, .ref mo_isThere, .ref mo_taints, .ref mo_known, .int taint, .ref mo_knows, .int isOther, .int at_, .int isFaulty, .int orders, .ref mo_letters, .ref mo_numbers, .long hash]), (mo_now, aI G 104 q2.2), (mo_aside, aI G 104 q1), (mo_past, aI G 520 q3.2.1), (mo_refusals, aI G 3 q3.2.2.2)]) C (c7_answers hq3) gX7_start_X7_answers (by decide +kernel) rfl rfl rfl rfl rfl rfl ⟨by decide, by decide⟩ rfl [0, 2, 3, 4] [1] [1, 0, 2, 3, 4] rfl (by decide) rfl (by decide) (by decide) rfl (by decide) (Nat.le_of_ble_eq_true rfl) ⟨Nat.zero_le _, Nat.zero_le _⟩ rfl dX7_start_11 ?_
  obtain rfl := Option.some.inj hf
  exact hR _ _ dX7_start_14

-- X7_secret
def f7_secret (now : Nat → Int32) (aside : Nat → Int32) (past : Nat → Int32) (states : Int32) (refusals : Nat → Int32) (v0 : Int32) (v1 : Int32) : Option (Int32 × (Nat → Int32) × (Nat → Int32) × (Nat → Int32) × Int32 × (Nat → Int32)) :=
  (f7_laysAside now aside).bind <| fun q1 =>
    (f7_setsSecret now v0 v1).bind <| fun q2 =>
    (f7_answers q1 past states refusals q2.1).bind <| fun q3 =>
    some (q3.1, q2.2, q1, q3.2.1, q3.2.2.1, q3.2.2.2)
def rm7_secret : Room := { frames := 3, cells := 0, slots := 0, locals := 66 }
set_option maxHeartbeats 4000000 in
set_option maxRecDepth 100000 in
theorem c7_secret {l : Launch} {G : gG} {mo mo_now mo_aside mo_past mo_refusals mo_text mo_vars mo_sights mo_isThere mo_taints mo_known mo_knows mo_letters mo_numbers : Nat} {now : Nat → Int32} {aside : Nat → Int32} {past : Nat → Int32} {states : Int32} {refusals : Nat → Int32} {length : Int32} {many : Int32} {steps : Int32} {isCut : Int32} {taint : Int32} {isOther : Int32} {at_ : Int32} {isFaulty : Int32} {orders : Int32} {hash : Int64} {v0 : Int32} {v1 : Int32} {res : Int32 × (Nat → Int32) × (Nat → Int32) × (Nat → Int32) × Int32 × (Nat → Int32)} (hf : f7_secret now aside past states refusals v0 v1 = some res) : MI l yX7_secret wsX7_secret rm7_secret G [.ref mo, .int v0, .int v1] [(mo, oB 7 [.ref mo_now, .ref mo_aside, .ref mo_past, .int states, .ref mo_refusals, .ref mo_text, .int length, .ref mo_vars, .ref mo_sights, .int many, .int steps, .int isCut, .ref mo_isThere, .ref mo_taints, .ref mo_known, .int taint, .ref mo_knows, .int isOther, .int at_, .int isFaulty, .int orders, .ref mo_letters, .ref mo_numbers, .long hash]), (mo_now, aI G 104 now), (mo_aside, aI G 104 aside), (mo_past, aI G 520 past), (mo_refusals, aI G 3 refusals)] (res.1) [(mo, oB 7 [.ref mo_now, .ref mo_aside, .ref mo_past, .int res.2.2.2.2.1, .ref mo_refusals, .ref mo_text, .int length, .ref mo_vars, .ref mo_sights, .int many, .int steps, .int isCut, .ref mo_isThere, .ref mo_taints, .ref mo_known, .int taint, .ref mo_knows, .int isOther, .int at_, .int isFaulty, .int orders, .ref mo_letters, .ref mo_numbers, .long hash]), (mo_now, aI G 104 res.2.1), (mo_aside, aI G 104 res.2.2.1), (mo_past, aI G 520 res.2.2.2.1), (mo_refusals, aI G 3 res.2.2.2.2.2)] := by
  refine MI_of (res.1) (cc := cX7_secret) (nL := 3) (lv := [(0, .ref mo), (1, .int v0), (2, .int v1)]) (by decide +kernel) rfl (Nat.le_of_ble_eq_true rfl) rfl ?_
  intro p e s m args below meth c A Q C hR
  unfold f7_secret at hf
  refine g_aload_n C dX7_secret_0 rfl 0 rfl ?_
  obtain ⟨q1, hq1, hf⟩ := bs hf
  refine g_callVv (n := 0) (As := []) (rest := []) (wc := [(mo, oB 7 [.ref mo_now, .ref mo_aside, .ref mo_past, .int states, .ref mo_refusals, .ref mo_text, .int length, .ref mo_vars, .ref mo_sights, .int many, .int steps, .int isCut, .ref mo_isThere, .ref mo_taints, .ref mo_known, .int taint, .ref mo_knows, .int isOther, .int at_, .int isFaulty, .int orders, .ref mo_letters, .ref mo_numbers, .long hash]), (mo_now, aI G 104 now), (mo_aside, aI G 104 aside)]) (w1 := [(mo, oB 7 [.ref mo_now, .ref mo_aside, .ref mo_past, .int states, .ref mo_refusals, .ref mo_text, .int length, .ref mo_vars, .ref mo_sights, .int many, .int steps, .int isCut, .ref mo_isThere, .ref mo_taints, .ref mo_known, .int taint, .ref mo_knows, .int isOther, .int at_, .int isFaulty, .int orders, .ref mo_letters, .ref mo_numbers, .long hash]), (mo_now, aI G 104 now), (mo_aside, aI G 104 q1)]) (wr := [(mo_past, aI G 520 past), (mo_refusals, aI G 3 refusals)]) (WS' := [(mo, oB 7 [.ref mo_now, .ref mo_aside, .ref mo_past, .int states, .ref mo_refusals, .ref mo_text, .int length, .ref mo_vars, .ref mo_sights, .int many, .int steps, .int isCut, .ref mo_isThere, .ref mo_taints, .ref mo_known, .int taint, .ref mo_knows, .int isOther, .int at_, .int isFaulty, .int orders, .ref mo_letters, .ref mo_numbers, .long hash]), (mo_now, aI G 104 now), (mo_aside, aI G 104 q1), (mo_past, aI G 520 past), (mo_refusals, aI G 3 refusals)]) C (c7_laysAside hq1) gX7_secret_X7_laysAside (by decide +kernel) rfl rfl rfl rfl rfl rfl ⟨by decide, by decide⟩ rfl [0, 1, 2] [3, 4] [2, 3, 4, 0, 1] rfl (by decide) rfl (by decide) (by decide) rfl (by decide) (Nat.le_of_ble_eq_true rfl) ⟨Nat.zero_le _, Nat.zero_le _⟩ rfl dX7_secret_1 ?_
  refine g_aload_n C dX7_secret_4 rfl 0 rfl ?_
  refine g_aload_n C dX7_secret_5 rfl 0 rfl ?_
  refine g_iload_n C dX7_secret_6 rfl 1 rfl ?_
  refine g_iload_n C dX7_secret_7 rfl 2 rfl ?_
  obtain ⟨q2, hq2, hf⟩ := bs hf
  refine g_callVi (n := 2) (As := [.int v0, .int v1]) (rest := [.ref mo]) (wc := [(mo, oB 7 [.ref mo_now, .ref mo_aside, .ref mo_past, .int states, .ref mo_refusals, .ref mo_text, .int length, .ref mo_vars, .ref mo_sights, .int many, .int steps, .int isCut, .ref mo_isThere, .ref mo_taints, .ref mo_known, .int taint, .ref mo_knows, .int isOther, .int at_, .int isFaulty, .int orders, .ref mo_letters, .ref mo_numbers, .long hash]), (mo_now, aI G 104 now)]) (w1 := [(mo, oB 7 [.ref mo_now, .ref mo_aside, .ref mo_past, .int states, .ref mo_refusals, .ref mo_text, .int length, .ref mo_vars, .ref mo_sights, .int many, .int steps, .int isCut, .ref mo_isThere, .ref mo_taints, .ref mo_known, .int taint, .ref mo_knows, .int isOther, .int at_, .int isFaulty, .int orders, .ref mo_letters, .ref mo_numbers, .long hash]), (mo_now, aI G 104 q2.2)]) (wr := [(mo_aside, aI G 104 q1), (mo_past, aI G 520 past), (mo_refusals, aI G 3 refusals)]) (WS' := [(mo, oB 7 [.ref mo_now, .ref mo_aside, .ref mo_past, .int states, .ref mo_refusals, .ref mo_text, .int length, .ref mo_vars, .ref mo_sights, .int many, .int steps, .int isCut, .ref mo_isThere, .ref mo_taints, .ref mo_known, .int taint, .ref mo_knows, .int isOther, .int at_, .int isFaulty, .int orders, .ref mo_letters, .ref mo_numbers, .long hash]), (mo_now, aI G 104 q2.2), (mo_aside, aI G 104 q1), (mo_past, aI G 520 past), (mo_refusals, aI G 3 refusals)]) C (c7_setsSecret hq2) gX7_secret_X7_setsSecret (by decide +kernel) rfl rfl rfl rfl rfl rfl ⟨by decide, by decide⟩ rfl [0, 1] [2, 3, 4] [3, 4, 0, 1, 2] rfl (by decide) rfl (by decide) (by decide) rfl (by decide) (Nat.le_of_ble_eq_true rfl) ⟨Nat.zero_le _, Nat.zero_le _⟩ rfl dX7_secret_8 ?_
  obtain ⟨q3, hq3, hf⟩ := bs hf
  refine g_callVi (n := 1) (As := [.int q2.1]) (rest := []) (wc := [(mo, oB 7 [.ref mo_now, .ref mo_aside, .ref mo_past, .int states, .ref mo_refusals, .ref mo_text, .int length, .ref mo_vars, .ref mo_sights, .int many, .int steps, .int isCut, .ref mo_isThere, .ref mo_taints, .ref mo_known, .int taint, .ref mo_knows, .int isOther, .int at_, .int isFaulty, .int orders, .ref mo_letters, .ref mo_numbers, .long hash]), (mo_aside, aI G 104 q1), (mo_past, aI G 520 past), (mo_refusals, aI G 3 refusals)]) (w1 := [(mo, oB 7 [.ref mo_now, .ref mo_aside, .ref mo_past, .int q3.2.2.1, .ref mo_refusals, .ref mo_text, .int length, .ref mo_vars, .ref mo_sights, .int many, .int steps, .int isCut, .ref mo_isThere, .ref mo_taints, .ref mo_known, .int taint, .ref mo_knows, .int isOther, .int at_, .int isFaulty, .int orders, .ref mo_letters, .ref mo_numbers, .long hash]), (mo_aside, aI G 104 q1), (mo_past, aI G 520 q3.2.1), (mo_refusals, aI G 3 q3.2.2.2)]) (wr := [(mo_now, aI G 104 q2.2)]) (WS' := [(mo, oB 7 [.ref mo_now, .ref mo_aside, .ref mo_past, .int q3.2.2.1, .ref mo_refusals, .ref mo_text, .int length, .ref mo_vars, .ref mo_sights, .int many, .int steps, .int isCut, .ref mo_isThere, .ref mo_taints, .ref mo_known, .int taint, .ref mo_knows, .int isOther, .int at_, .int isFaulty, .int orders, .ref mo_letters, .ref mo_numbers, .long hash]), (mo_now, aI G 104 q2.2), (mo_aside, aI G 104 q1), (mo_past, aI G 520 q3.2.1), (mo_refusals, aI G 3 q3.2.2.2)]) C (c7_answers hq3) gX7_secret_X7_answers (by decide +kernel) rfl rfl rfl rfl rfl rfl ⟨by decide, by decide⟩ rfl [0, 2, 3, 4] [1] [1, 0, 2, 3, 4] rfl (by decide) rfl (by decide) (by decide) rfl (by decide) (Nat.le_of_ble_eq_true rfl) ⟨Nat.zero_le _, Nat.zero_le _⟩ rfl dX7_secret_11 ?_
  obtain rfl := Option.some.inj hf
  exact hR _ _ dX7_secret_14

-- X7_secrets
def f7_secrets (now : Nat → Int32) : Option (Int32) :=
  (f7_ones (now 1)).bind <| fun q1 =>
    if q1 = 0 then
    (some (1 : Int32))
    else (if q1 = (1 : Int32) then
    (some (16 : Int32))
    else (some (256 : Int32)))
def rm7_secrets : Room := { frames := 1, cells := 0, slots := 0, locals := 22 }
theorem hm7_secrets_0 : ∀ w ∈ u_ws RX7 TX7 24, w ∈ wsX7_secrets := by decide +kernel
theorem hm7_secrets_1 : Cond.fieldLink RX7 7 "SecretStepsModel" "now" "[I" ∈ wsX7_secrets := by decide +kernel
set_option maxHeartbeats 4000000 in
set_option maxRecDepth 100000 in
theorem c7_secrets {l : Launch} {G : gG} {mo mo_now mo_aside mo_past mo_refusals mo_text mo_vars mo_sights mo_isThere mo_taints mo_known mo_knows mo_letters mo_numbers : Nat} {now : Nat → Int32} {states : Int32} {length : Int32} {many : Int32} {steps : Int32} {isCut : Int32} {taint : Int32} {isOther : Int32} {at_ : Int32} {isFaulty : Int32} {orders : Int32} {hash : Int64} {res : Int32} (hf : f7_secrets now = some res) : MI l yX7_secrets wsX7_secrets rm7_secrets G [.ref mo] [(mo, oB 7 [.ref mo_now, .ref mo_aside, .ref mo_past, .int states, .ref mo_refusals, .ref mo_text, .int length, .ref mo_vars, .ref mo_sights, .int many, .int steps, .int isCut, .ref mo_isThere, .ref mo_taints, .ref mo_known, .int taint, .ref mo_knows, .int isOther, .int at_, .int isFaulty, .int orders, .ref mo_letters, .ref mo_numbers, .long hash]), (mo_now, aI G 104 now)] (res) [(mo, oB 7 [.ref mo_now, .ref mo_aside, .ref mo_past, .int states, .ref mo_refusals, .ref mo_text, .int length, .ref mo_vars, .ref mo_sights, .int many, .int steps, .int isCut, .ref mo_isThere, .ref mo_taints, .ref mo_known, .int taint, .ref mo_knows, .int isOther, .int at_, .int isFaulty, .int orders, .ref mo_letters, .ref mo_numbers, .long hash]), (mo_now, aI G 104 now)] := by
  refine MI_of (res) (cc := cX7_secrets) (nL := 2) (lv := [(0, .ref mo)]) (by decide +kernel) rfl (Nat.le_of_ble_eq_true rfl) rfl ?_
  intro p e s m args below meth c A Q C hR
  unfold f7_secrets at hf
  refine g_aload_n C dX7_secrets_0 rfl 0 rfl ?_
  refine g_get (C0 := RX7) (T := TX7) (N := 24) (ci := 7) (v := .ref mo_now) C hm7_secrets_0 0 rfl rfl 0 (by decide) hm7_secrets_1 rfl dX7_secrets_1 ?_
  refine g_iconst (v := (1 : Int32)) C dX7_secrets_4 (by decide +kernel) ?_
  refine g_iald (n := 104) (v := (now 1)) C 1 rfl (by decide +kernel) (by decide +kernel) rfl dX7_secrets_5 ?_
  obtain ⟨q1, hq1, hf⟩ := bs hf
  refine g_callSi (n := 1) (As := [.int (now 1)]) (rest := []) (wc := []) (w1 := []) (wr := [(mo, oB 7 [.ref mo_now, .ref mo_aside, .ref mo_past, .int states, .ref mo_refusals, .ref mo_text, .int length, .ref mo_vars, .ref mo_sights, .int many, .int steps, .int isCut, .ref mo_isThere, .ref mo_taints, .ref mo_known, .int taint, .ref mo_knows, .int isOther, .int at_, .int isFaulty, .int orders, .ref mo_letters, .ref mo_numbers, .long hash]), (mo_now, aI G 104 now)]) (WS' := [(mo, oB 7 [.ref mo_now, .ref mo_aside, .ref mo_past, .int states, .ref mo_refusals, .ref mo_text, .int length, .ref mo_vars, .ref mo_sights, .int many, .int steps, .int isCut, .ref mo_isThere, .ref mo_taints, .ref mo_known, .int taint, .ref mo_knows, .int isOther, .int at_, .int isFaulty, .int orders, .ref mo_letters, .ref mo_numbers, .long hash]), (mo_now, aI G 104 now)]) C (c7_ones hq1) gX7_secrets_X7_ones (by decide +kernel) rfl rfl rfl ⟨by decide, by decide⟩ rfl [] [0, 1] [0, 1] rfl (by decide) rfl (by decide) (by decide) rfl (by decide) (Nat.le_of_ble_eq_true rfl) ⟨Nat.zero_le _, Nat.zero_le _⟩ rfl dX7_secrets_6 ?_
  refine g_istore_n (lv' := [(0, .ref mo), (1, .int q1)]) C dX7_secrets_9 rfl (by decide) [1, 0] rfl ?_
  refine g_iload_n C dX7_secrets_10 rfl 1 rfl ?_
  refine g_if_ne (tgt := 18) C dX7_secrets_11 (by decide) (fun c2 => ?_) (fun c2 => ?_)
  · replace hf := ite_f c2 hf
    refine g_iload_n C dX7_secrets_18 rfl 1 rfl ?_
    refine g_iconst (v := (1 : Int32)) C dX7_secrets_19 (by decide +kernel) ?_
    refine g_icmp_ne (tgt := 28) C dX7_secrets_20 (by decide) (fun c3 => ?_) (fun c3 => ?_)
    · replace hf := ite_f c3 hf
      refine g_sipush (v := (256 : Int32)) C dX7_secrets_28 (by decide +kernel) ?_
      obtain rfl := Option.some.inj hf
      exact hR _ _ dX7_secrets_31
    · replace hf := ite_t c3 hf
      refine g_bipush (v := (16 : Int32)) C dX7_secrets_23 (by decide +kernel) ?_
      refine g_goto (tgt := 31) C dX7_secrets_25 (by decide) ?_
      obtain rfl := Option.some.inj hf
      exact hR _ _ dX7_secrets_31
  · replace hf := ite_t c2 hf
    refine g_iconst (v := (1 : Int32)) C dX7_secrets_14 (by decide +kernel) ?_
    refine g_goto (tgt := 31) C dX7_secrets_15 (by decide) ?_
    obtain rfl := Option.some.inj hf
    exact hR _ _ dX7_secrets_31

-- X7_isSecrets
def f7_isSecrets (now : Nat → Int32) (v0 : Int32) : Option (Int32) :=
  (f7_secrets now).bind <| fun q1 =>
    (f7_within v0 (0 : Int32) (q1 - (1 : Int32))).bind <| fun q2 =>
    ck (isb q2) <|
    some q2
def rm7_isSecrets : Room := { frames := 2, cells := 0, slots := 0, locals := 43 }
set_option maxHeartbeats 4000000 in
set_option maxRecDepth 100000 in
theorem c7_isSecrets {l : Launch} {G : gG} {mo mo_now mo_aside mo_past mo_refusals mo_text mo_vars mo_sights mo_isThere mo_taints mo_known mo_knows mo_letters mo_numbers : Nat} {now : Nat → Int32} {states : Int32} {length : Int32} {many : Int32} {steps : Int32} {isCut : Int32} {taint : Int32} {isOther : Int32} {at_ : Int32} {isFaulty : Int32} {orders : Int32} {hash : Int64} {v0 : Int32} {res : Int32} (hf : f7_isSecrets now v0 = some res) : MI l yX7_isSecrets wsX7_isSecrets rm7_isSecrets G [.ref mo, .int v0] [(mo, oB 7 [.ref mo_now, .ref mo_aside, .ref mo_past, .int states, .ref mo_refusals, .ref mo_text, .int length, .ref mo_vars, .ref mo_sights, .int many, .int steps, .int isCut, .ref mo_isThere, .ref mo_taints, .ref mo_known, .int taint, .ref mo_knows, .int isOther, .int at_, .int isFaulty, .int orders, .ref mo_letters, .ref mo_numbers, .long hash]), (mo_now, aI G 104 now)] (res) [(mo, oB 7 [.ref mo_now, .ref mo_aside, .ref mo_past, .int states, .ref mo_refusals, .ref mo_text, .int length, .ref mo_vars, .ref mo_sights, .int many, .int steps, .int isCut, .ref mo_isThere, .ref mo_taints, .ref mo_known, .int taint, .ref mo_knows, .int isOther, .int at_, .int isFaulty, .int orders, .ref mo_letters, .ref mo_numbers, .long hash]), (mo_now, aI G 104 now)] := by
  refine MZ_of (res) (cc := cX7_isSecrets) (nL := 2) (lv := [(0, .ref mo), (1, .int v0)]) (by decide +kernel) rfl (Nat.le_of_ble_eq_true rfl) rfl ?_
  intro p e s m args below meth c A Q C hR
  unfold f7_isSecrets at hf
  refine g_iload_n C dX7_isSecrets_0 rfl 1 rfl ?_
  refine g_iconst (v := (0 : Int32)) C dX7_isSecrets_1 (by decide +kernel) ?_
  refine g_aload_n C dX7_isSecrets_2 rfl 0 rfl ?_
  obtain ⟨q1, hq1, hf⟩ := bs hf
  refine g_callVi (n := 0) (As := []) (rest := [.int (0 : Int32), .int v0]) (wc := [(mo, oB 7 [.ref mo_now, .ref mo_aside, .ref mo_past, .int states, .ref mo_refusals, .ref mo_text, .int length, .ref mo_vars, .ref mo_sights, .int many, .int steps, .int isCut, .ref mo_isThere, .ref mo_taints, .ref mo_known, .int taint, .ref mo_knows, .int isOther, .int at_, .int isFaulty, .int orders, .ref mo_letters, .ref mo_numbers, .long hash]), (mo_now, aI G 104 now)]) (w1 := [(mo, oB 7 [.ref mo_now, .ref mo_aside, .ref mo_past, .int states, .ref mo_refusals, .ref mo_text, .int length, .ref mo_vars, .ref mo_sights, .int many, .int steps, .int isCut, .ref mo_isThere, .ref mo_taints, .ref mo_known, .int taint, .ref mo_knows, .int isOther, .int at_, .int isFaulty, .int orders, .ref mo_letters, .ref mo_numbers, .long hash]), (mo_now, aI G 104 now)]) (wr := []) (WS' := [(mo, oB 7 [.ref mo_now, .ref mo_aside, .ref mo_past, .int states, .ref mo_refusals, .ref mo_text, .int length, .ref mo_vars, .ref mo_sights, .int many, .int steps, .int isCut, .ref mo_isThere, .ref mo_taints, .ref mo_known, .int taint, .ref mo_knows, .int isOther, .int at_, .int isFaulty, .int orders, .ref mo_letters, .ref mo_numbers, .long hash]), (mo_now, aI G 104 now)]) C (c7_secrets hq1) gX7_isSecrets_X7_secrets (by decide +kernel) rfl rfl rfl rfl rfl rfl ⟨by decide, by decide⟩ rfl [0, 1] [] [0, 1] rfl (by decide) rfl (by decide) (by decide) rfl (by decide) (Nat.le_of_ble_eq_true rfl) ⟨Nat.zero_le _, Nat.zero_le _⟩ rfl dX7_isSecrets_3 ?_
  refine g_iconst (v := (1 : Int32)) C dX7_isSecrets_6 (by decide +kernel) ?_
  refine g_isub C dX7_isSecrets_7 ?_
  obtain ⟨q2, hq2, hf⟩ := bs hf
  refine g_callSi (n := 3) (As := [.int v0, .int (0 : Int32), .int (q1 - (1 : Int32))]) (rest := []) (wc := []) (w1 := []) (wr := [(mo, oB 7 [.ref mo_now, .ref mo_aside, .ref mo_past, .int states, .ref mo_refusals, .ref mo_text, .int length, .ref mo_vars, .ref mo_sights, .int many, .int steps, .int isCut, .ref mo_isThere, .ref mo_taints, .ref mo_known, .int taint, .ref mo_knows, .int isOther, .int at_, .int isFaulty, .int orders, .ref mo_letters, .ref mo_numbers, .long hash]), (mo_now, aI G 104 now)]) (WS' := [(mo, oB 7 [.ref mo_now, .ref mo_aside, .ref mo_past, .int states, .ref mo_refusals, .ref mo_text, .int length, .ref mo_vars, .ref mo_sights, .int many, .int steps, .int isCut, .ref mo_isThere, .ref mo_taints, .ref mo_known, .int taint, .ref mo_knows, .int isOther, .int at_, .int isFaulty, .int orders, .ref mo_letters, .ref mo_numbers, .long hash]), (mo_now, aI G 104 now)]) C (c7_within hq2) gX7_isSecrets_X7_within (by decide +kernel) rfl rfl rfl ⟨by decide, by decide⟩ rfl [] [0, 1] [0, 1] rfl (by decide) rfl (by decide) (by decide) rfl (by decide) (Nat.le_of_ble_eq_true rfl) ⟨Nat.zero_le _, Nat.zero_le _⟩ rfl dX7_isSecrets_8 ?_
  obtain ⟨h3, hf⟩ := ck_some hf
  obtain rfl := Option.some.inj hf
  exact hR _ _ dX7_isSecrets_11 h3
