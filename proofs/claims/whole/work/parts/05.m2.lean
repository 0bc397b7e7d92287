-- X7_begins
def f7_begins_4b (now : Nat → Int32) (k4 : (Nat → Int32) × Int32 × Int32 × Int32 → Option ((Nat → Int32))) (vars : Nat → Int32) (x1 : Int32) (x2 : Int32) (x3 : Int32) : Option ((Nat → Int32)) :=
  if (6 : Int32) ≤ x3 then
    (some vars)
    else ((f7_has (now 1) x3).bind <| fun q2 =>
    if q2 = 0 then
    (ck (inb ((2 : Int32) + x3) 104) <|
    ck (inb x3 6) <|
    if q2 = 0 then
    (k4 ((upd vars x3.toNatClampNeg (now ((2 : Int32) + x3).toNatClampNeg)), x1, x2, (x3 + (1 : Int32))))
    else (k4 ((upd vars x3.toNatClampNeg (now ((2 : Int32) + x3).toNatClampNeg)), x1, (x2 / (16 : Int32)), (x3 + (1 : Int32)))))
    else (ck (inb x3 6) <|
    if q2 = 0 then
    (k4 ((upd vars x3.toNatClampNeg (irm x2 (16 : Int32))), x1, x2, (x3 + (1 : Int32))))
    else (k4 ((upd vars x3.toNatClampNeg (irm x2 (16 : Int32))), x1, (x2 / (16 : Int32)), (x3 + (1 : Int32))))))
def f7_begins_4 (now : Nat → Int32) (n : Nat) (s : (Nat → Int32) × Int32 × Int32 × Int32) : Option ((Nat → Int32)) := itf (fun k s => f7_begins_4b now k s.1 s.2.1 s.2.2.1 s.2.2.2) n s
def f7_begins (now : Nat → Int32) (vars : Nat → Int32) (v0 : Int32) : Option ((Nat → Int32)) :=
  f7_begins_4 now 1000 (vars, v0, v0, (0 : Int32))
def rm7_begins : Room := { frames := 1, cells := 0, slots := 0, locals := 21 }
theorem hm7_begins_0 : ∀ w ∈ u_ws RX7 TX7 24, w ∈ wsX7_begins := by decide +kernel
theorem hm7_begins_1 : Cond.fieldLink RX7 7 "SecretStepsModel" "now" "[I" ∈ wsX7_begins := by decide +kernel
theorem hm7_begins_2 : Cond.fieldLink RX7 25 "SecretStepsModel" "vars" "[I" ∈ wsX7_begins := by decide +kernel
set_option maxHeartbeats 4000000 in
set_option maxRecDepth 100000 in
theorem k7_begins_4b {p : Program} {l : Launch} {e : Env} {s : State} {m : MethodId} {args : Array Value} {below : List Frame} {meth : Method} {c : Code} {G : gG} {A : Nat → Prop} {Q : State → Prop} {mo mo_now mo_aside mo_past mo_refusals mo_text mo_vars mo_sights mo_isThere mo_taints mo_known mo_knows mo_letters mo_numbers : Nat} (C : CX p s m args meth c G A cX7_begins 5 RX7 wsX7_begins) {states : Int32} {length : Int32} {many : Int32} {steps : Int32} {isCut : Int32} {taint : Int32} {isOther : Int32} {at_ : Int32} {isFaulty : Int32} {orders : Int32} {hash : Int64} {now : Nat → Int32} {k4 : (Nat → Int32) × Int32 × Int32 × Int32 → Option ((Nat → Int32))} {vars : Nat → Int32} {x1 : Int32} {x2 : Int32} {x3 : Int32} {res : (Nat → Int32)} (hR : ∀ (lv : List (Nat × Value)) (pc : Nat), decode cX7_begins pc = .ok (.return_, 1) → GG p l e rm7_begins s m args below meth c G A 5 0 0 Q [(mo, oB 7 [.ref mo_now, .ref mo_aside, .ref mo_past, .int states, .ref mo_refusals, .ref mo_text, .int length, .ref mo_vars, .ref mo_sights, .int many, .int steps, .int isCut, .ref mo_isThere, .ref mo_taints, .ref mo_known, .int taint, .ref mo_knows, .int isOther, .int at_, .int isFaulty, .int orders, .ref mo_letters, .ref mo_numbers, .long hash]), (mo_now, aI G 104 now), (mo_vars, aI G 6 res)] lv pc [])
    (hk4 : ∀ s', k4 s' = some res → GG p l e rm7_begins s m args below meth c G A 5 0 0 Q [(mo, oB 7 [.ref mo_now, .ref mo_aside, .ref mo_past, .int states, .ref mo_refusals, .ref mo_text, .int length, .ref mo_vars, .ref mo_sights, .int many, .int steps, .int isCut, .ref mo_isThere, .ref mo_taints, .ref mo_known, .int taint, .ref mo_knows, .int isOther, .int at_, .int isFaulty, .int orders, .ref mo_letters, .ref mo_numbers, .long hash]), (mo_now, aI G 104 now), (mo_vars, aI G 6 s'.1)] [(0, .ref mo), (1, .int s'.2.1), (2, .int s'.2.2.1), (3, .int s'.2.2.2)] 4 [])
    (hf : f7_begins_4b now k4 vars x1 x2 x3 = some res) : GG p l e rm7_begins s m args below meth c G A 5 0 0 Q [(mo, oB 7 [.ref mo_now, .ref mo_aside, .ref mo_past, .int states, .ref mo_refusals, .ref mo_text, .int length, .ref mo_vars, .ref mo_sights, .int many, .int steps, .int isCut, .ref mo_isThere, .ref mo_taints, .ref mo_known, .int taint, .ref mo_knows, .int isOther, .int at_, .int isFaulty, .int orders, .ref mo_letters, .ref mo_numbers, .long hash]), (mo_now, aI G 104 now), (mo_vars, aI G 6 vars)] [(0, .ref mo), (1, .int x1), (2, .int x2), (3, .int x3)] 4 [] := by
  unfold f7_begins_4b at hf
  refine g_iload_n C dX7_begins_4 rfl 3 rfl ?_
  refine g_bipush (v := (6 : Int32)) C dX7_begins_5 (by decide +kernel) ?_
  refine g_icmp_ge (tgt := 68) C dX7_begins_7 (by decide) (fun c1 => ?_) (fun c1 => ?_)
  · replace hf := ite_t c1 hf
    obtain rfl := Option.some.inj hf
    exact hR _ _ dX7_begins_68
  · replace hf := ite_f c1 hf
    refine g_aload_n C dX7_begins_10 rfl 0 rfl ?_
    refine g_get (C0 := RX7) (T := TX7) (N := 24) (ci := 7) (v := .ref mo_now) C hm7_begins_0 0 rfl rfl 0 (by decide) hm7_begins_1 rfl dX7_begins_11 ?_
    refine g_iconst (v := (1 : Int32)) C dX7_begins_14 (by decide +kernel) ?_
    refine g_iald (n := 104) (v := (now 1)) C 1 rfl (by decide +kernel) (by decide +kernel) rfl dX7_begins_15 ?_
    refine g_iload_n C dX7_begins_16 rfl 3 rfl ?_
    obtain ⟨q2, hq2, hf⟩ := bs hf
    refine g_callSi (n := 2) (As := [.int (now 1), .int x3]) (rest := []) (wc := []) (w1 := []) (wr := [(mo, oB 7 [.ref mo_now, .ref mo_aside, .ref mo_past, .int states, .ref mo_refusals, .ref mo_text, .int length, .ref mo_vars, .ref mo_sights, .int many, .int steps, .int isCut, .ref mo_isThere, .ref mo_taints, .ref mo_known, .int taint, .ref mo_knows, .int isOther, .int at_, .int isFaulty, .int orders, .ref mo_letters, .ref mo_numbers, .long hash]), (mo_now, aI G 104 now), (mo_vars, aI G 6 vars)]) (WS' := [(mo, oB 7 [.ref mo_now, .ref mo_aside, .ref mo_past, .int states, .ref mo_refusals, .ref mo_text, .int length, .ref mo_vars, .ref mo_sights, .int many, .int steps, .int isCut, .ref mo_isThere, .ref mo_taints, .ref mo_known, .int taint, .ref mo_knows, .int isOther, .int at_, .int isFaulty, .int orders, .ref mo_letters, .ref mo_numbers, .long hash]), (mo_now, aI G 104 now), (mo_vars, aI G 6 vars)]) C (c7_has hq2) gX7_begins_X7_has (by decide +kernel) rfl rfl rfl ⟨by decide, by decide⟩ rfl [] [0, 1, 2] [0, 1, 2] rfl (by decide) rfl (by decide) (by decide) rfl (by decide) (Nat.le_of_ble_eq_true rfl) ⟨Nat.zero_le _, Nat.zero_le _⟩ rfl dX7_begins_17 ?_
    refine g_istore (lv' := [(0, .ref mo), (1, .int x1), (2, .int x2), (3, .int x3), (4, .int q2)]) C dX7_begins_20 (by decide) [1, 2, 3, 4, 0] rfl ?_
    refine g_aload_n C dX7_begins_22 rfl 0 rfl ?_
    refine g_get (C0 := RX7) (T := TX7) (N := 24) (ci := 7) (v := .ref mo_vars) C hm7_begins_0 0 rfl rfl 7 (by decide) hm7_begins_2 rfl dX7_begins_23 ?_
    refine g_iload_n C dX7_begins_26 rfl 3 rfl ?_
    refine g_iload C dX7_begins_27 4 rfl ?_
    refine g_if_eq (tgt := 39) C dX7_begins_29 (by decide) (fun c3 => ?_) (fun c3 => ?_)
    · replace hf := ite_t c3 hf
      refine g_aload_n C dX7_begins_39 rfl 0 rfl ?_
      refine g_get (C0 := RX7) (T := TX7) (N := 24) (ci := 7) (v := .ref mo_now) C hm7_begins_0 0 rfl rfl 0 (by decide) hm7_begins_1 rfl dX7_begins_40 ?_
      refine g_iconst (v := (2 : Int32)) C dX7_begins_43 (by decide +kernel) ?_
      refine g_iload_n C dX7_begins_44 rfl 3 rfl ?_
      refine g_iadd C dX7_begins_45 ?_
      obtain ⟨h4, hf⟩ := ck_some hf
      refine g_iald (n := 104) (v := (now ((2 : Int32) + x3).toNatClampNeg)) C 1 rfl h4 rfl rfl dX7_begins_46 ?_
      obtain ⟨h5, hf⟩ := ck_some hf
      refine g_iast (n := 6) (WS' := [(mo, oB 7 [.ref mo_now, .ref mo_aside, .ref mo_past, .int states, .ref mo_refusals, .ref mo_text, .int length, .ref mo_vars, .ref mo_sights, .int many, .int steps, .int isCut, .ref mo_isThere, .ref mo_taints, .ref mo_known, .int taint, .ref mo_knows, .int isOther, .int at_, .int isFaulty, .int orders, .ref mo_letters, .ref mo_numbers, .long hash]), (mo_now, aI G 104 now), (mo_vars, aI G 6 (upd vars x3.toNatClampNeg (now ((2 : Int32) + x3).toNatClampNeg)))]) C 2 rfl h5 rfl dX7_begins_47 rfl ?_
      refine g_iload C dX7_begins_48 4 rfl ?_
      refine g_if_eq (tgt := 60) C dX7_begins_50 (by decide) (fun c6 => ?_) (fun c6 => ?_)
      · replace hf := ite_t c6 hf
        refine g_iload_n C dX7_begins_60 rfl 2 rfl ?_
        refine g_istore_n (lv' := [(0, .ref mo), (1, .int x1), (2, .int x2), (3, .int x3), (4, .int q2)]) C dX7_begins_61 rfl (by decide) [1, 2, 0, 3, 4] rfl ?_
        refine g_iinc (v := (x3 + (1 : Int32))) (lv' := [(0, .ref mo), (1, .int x1), (2, .int x2), (3, .int (x3 + (1 : Int32))), (4, .int q2)]) C dX7_begins_62 3 rfl rfl (by decide) [1, 2, 3, 0, 4] rfl ?_
        refine g_goto (tgt := 4) C dX7_begins_65 (by decide) ?_
        refine g_lv (lv' := [(0, .ref mo), (1, .int x1), (2, .int x2), (3, .int (x3 + (1 : Int32)))]) [0, 1, 2, 3] rfl ?_
        exact hk4 _ hf
      · replace hf := ite_f c6 hf
        refine g_iload_n C dX7_begins_53 rfl 2 rfl ?_
        refine g_bipush (v := (16 : Int32)) C dX7_begins_54 (by decide +kernel) ?_
        refine g_idiv C dX7_begins_56 (by decide +kernel) ?_
        refine g_goto (tgt := 61) C dX7_begins_57 (by decide) ?_
        refine g_istore_n (lv' := [(0, .ref mo), (1, .int x1), (2, .int (x2 / (16 : Int32))), (3, .int x3), (4, .int q2)]) C dX7_begins_61 rfl (by decide) [1, 2, 0, 3, 4] rfl ?_
        refine g_iinc (v := (x3 + (1 : Int32))) (lv' := [(0, .ref mo), (1, .int x1), (2, .int (x2 / (16 : Int32))), (3, .int (x3 + (1 : Int32))), (4, .int q2)]) C dX7_begins_62 3 rfl rfl (by decide) [1, 2, 3, 0, 4] rfl ?_
        refine g_goto (tgt := 4) C dX7_begins_65 (by decide) ?_
        refine g_lv (lv' := [(0, .ref mo), (1, .int x1), (2, .int (x2 / (16 : Int32))), (3, .int (x3 + (1 : Int32)))]) [0, 1, 2, 3] rfl ?_
        exact hk4 _ hf
    · replace hf := ite_f c3 hf
      refine g_iload_n C dX7_begins_32 rfl 2 rfl ?_
      refine g_bipush (v := (16 : Int32)) C dX7_begins_33 (by decide +kernel) ?_
      refine g_irem C dX7_begins_35 (by decide +kernel) ?_
      refine g_goto (tgt := 47) C dX7_begins_36 (by decide) ?_
      obtain ⟨h7, hf⟩ := ck_some hf
      refine g_iast (n := 6) (WS' := [(mo, oB 7 [.ref mo_now, .ref mo_aside, .ref mo_past, .int states, .ref mo_refusals, .ref mo_text, .int length, .ref mo_vars, .ref mo_sights, .int many, .int steps, .int isCut, .ref mo_isThere, .ref mo_taints, .ref mo_known, .int taint, .ref mo_knows, .int isOther, .int at_, .int isFaulty, .int orders, .ref mo_letters, .ref mo_numbers, .long hash]), (mo_now, aI G 104 now), (mo_vars, aI G 6 (upd vars x3.toNatClampNeg (irm x2 (16 : Int32))))]) C 2 rfl h7 rfl dX7_begins_47 rfl ?_
      refine g_iload C dX7_begins_48 4 rfl ?_
      refine g_if_eq (tgt := 60) C dX7_begins_50 (by decide) (fun c8 => ?_) (fun c8 => ?_)
      · replace hf := ite_t c8 hf
        refine g_iload_n C dX7_begins_60 rfl 2 rfl ?_
        refine g_istore_n (lv' := [(0, .ref mo), (1, .int x1), (2, .int x2), (3, .int x3), (4, .int q2)]) C dX7_begins_61 rfl (by decide) [1, 2, 0, 3, 4] rfl ?_
        refine g_iinc (v := (x3 + (1 : Int32))) (lv' := [(0, .ref mo), (1, .int x1), (2, .int x2), (3, .int (x3 + (1 : Int32))), (4, .int q2)]) C dX7_begins_62 3 rfl rfl (by decide) [1, 2, 3, 0, 4] rfl ?_
        refine g_goto (tgt := 4) C dX7_begins_65 (by decide) ?_
        refine g_lv (lv' := [(0, .ref mo), (1, .int x1), (2, .int x2), (3, .int (x3 + (1 : Int32)))]) [0, 1, 2, 3] rfl ?_
        exact hk4 _ hf
      · replace hf := ite_f c8 hf
        refine g_iload_n C dX7_begins_53 rfl 2 rfl ?_
        refine g_bipush (v := (16 : Int32)) C dX7_begins_54 (by decide +kernel) ?_
        refine g_idiv C dX7_begins_56 (by decide +kernel) ?_
        refine g_goto (tgt := 61) C dX7_begins_57 (by decide) ?_
        refine g_istore_n (lv' := [(0, .ref mo), (1, .int x1), (2, .int (x2 / (16 : Int32))), (3, .int x3), (4, .int q2)]) C dX7_begins_61 rfl (by decide) [1, 2, 0, 3, 4] rfl ?_
        refine g_iinc (v := (x3 + (1 : Int32))) (lv' := [(0, .ref mo), (1, .int x1), (2, .int (x2 / (16 : Int32))), (3, .int (x3 + (1 : Int32))), (4, .int q2)]) C dX7_begins_62 3 rfl rfl (by decide) [1, 2, 3, 0, 4] rfl ?_
        refine g_goto (tgt := 4) C dX7_begins_65 (by decide) ?_
        refine g_lv (lv' := [(0, .ref mo), (1, .int x1), (2, .int (x2 / (16 : Int32))), (3, .int (x3 + (1 : Int32)))]) [0, 1, 2, 3] rfl ?_
        exact hk4 _ hf
set_option maxHeartbeats 4000000 in
set_option maxRecDepth 100000 in
theorem k7_begins_4 {p : Program} {l : Launch} {e : Env} {s : State} {m : MethodId} {args : Array Value} {below : List Frame} {meth : Method} {c : Code} {G : gG} {A : Nat → Prop} {Q : State → Prop} {mo mo_now mo_aside mo_past mo_refusals mo_text mo_vars mo_sights mo_isThere mo_taints mo_known mo_knows mo_letters mo_numbers : Nat} (C : CX p s m args meth c G A cX7_begins 5 RX7 wsX7_begins) {states : Int32} {length : Int32} {many : Int32} {steps : Int32} {isCut : Int32} {taint : Int32} {isOther : Int32} {at_ : Int32} {isFaulty : Int32} {orders : Int32} {hash : Int64} {now : Nat → Int32} {res : (Nat → Int32)} (hR : ∀ (lv : List (Nat × Value)) (pc : Nat), decode cX7_begins pc = .ok (.return_, 1) → GG p l e rm7_begins s m args below meth c G A 5 0 0 Q [(mo, oB 7 [.ref mo_now, .ref mo_aside, .ref mo_past, .int states, .ref mo_refusals, .ref mo_text, .int length, .ref mo_vars, .ref mo_sights, .int many, .int steps, .int isCut, .ref mo_isThere, .ref mo_taints, .ref mo_known, .int taint, .ref mo_knows, .int isOther, .int at_, .int isFaulty, .int orders, .ref mo_letters, .ref mo_numbers, .long hash]), (mo_now, aI G 104 now), (mo_vars, aI G 6 res)] lv pc []) : ∀ (n : Nat) (s1 : (Nat → Int32) × Int32 × Int32 × Int32), f7_begins_4 now n s1 = some res → GG p l e rm7_begins s m args below meth c G A 5 0 0 Q [(mo, oB 7 [.ref mo_now, .ref mo_aside, .ref mo_past, .int states, .ref mo_refusals, .ref mo_text, .int length, .ref mo_vars, .ref mo_sights, .int many, .int steps, .int isCut, .ref mo_isThere, .ref mo_taints, .ref mo_known, .int taint, .ref mo_knows, .int isOther, .int at_, .int isFaulty, .int orders, .ref mo_letters, .ref mo_numbers, .long hash]), (mo_now, aI G 104 now), (mo_vars, aI G 6 s1.1)] [(0, .ref mo), (1, .int s1.2.1), (2, .int s1.2.2.1), (3, .int s1.2.2.2)] 4 [] :=
  itf_ind (fun k s1 ih hf => k7_begins_4b C hR ih hf)
set_option maxHeartbeats 4000000 in
set_option maxRecDepth 100000 in
theorem c7_begins {l : Launch} {G : gG} {mo mo_now mo_aside mo_past mo_refusals mo_text mo_vars mo_sights mo_isThere mo_taints mo_known mo_knows mo_letters mo_numbers : Nat} {now : Nat → Int32} {states : Int32} {length : Int32} {vars : Nat → Int32} {many : Int32} {steps : Int32} {isCut : Int32} {taint : Int32} {isOther : Int32} {at_ : Int32} {isFaulty : Int32} {orders : Int32} {hash : Int64} {v0 : Int32} {res : (Nat → Int32)} (hf : f7_begins now vars v0 = some res) : MV l yX7_begins wsX7_begins rm7_begins G [.ref mo, .int v0] [(mo, oB 7 [.ref mo_now, .ref mo_aside, .ref mo_past, .int states, .ref mo_refusals, .ref mo_text, .int length, .ref mo_vars, .ref mo_sights, .int many, .int steps, .int isCut, .ref mo_isThere, .ref mo_taints, .ref mo_known, .int taint, .ref mo_knows, .int isOther, .int at_, .int isFaulty, .int orders, .ref mo_letters, .ref mo_numbers, .long hash]), (mo_now, aI G 104 now), (mo_vars, aI G 6 vars)] [(mo, oB 7 [.ref mo_now, .ref mo_aside, .ref mo_past, .int states, .ref mo_refusals, .ref mo_text, .int length, .ref mo_vars, .ref mo_sights, .int many, .int steps, .int isCut, .ref mo_isThere, .ref mo_taints, .ref mo_known, .int taint, .ref mo_knows, .int isOther, .int at_, .int isFaulty, .int orders, .ref mo_letters, .ref mo_numbers, .long hash]), (mo_now, aI G 104 now), (mo_vars, aI G 6 res)] := by
  refine MV_of (cc := cX7_begins) (nL := 5) (lv := [(0, .ref mo), (1, .int v0)]) (by decide +kernel) rfl (Nat.le_of_ble_eq_true rfl) rfl ?_
  intro p e s m args below meth c A Q C hR
  unfold f7_begins at hf
  refine g_iload_n C dX7_begins_0 rfl 1 rfl ?_
  refine g_istore_n (lv' := [(0, .ref mo), (1, .int v0), (2, .int v0)]) C dX7_begins_1 rfl (by decide) [1, 2, 0] rfl ?_
  refine g_iconst (v := (0 : Int32)) C dX7_begins_2 (by decide +kernel) ?_
  refine g_istore_n (lv' := [(0, .ref mo), (1, .int v0), (2, .int v0), (3, .int (0 : Int32))]) C dX7_begins_3 rfl (by decide) [1, 2, 3, 0] rfl ?_
  exact k7_begins_4 C hR _ _ hf

-- X7_sees
def f7_sees (sights : Nat → Int32) (many : Int32) (v0 : Int32) (v1 : Int32) : Option ((Nat → Int32) × Int32) :=
  ck (inb (((61 : Int32) * v0) + many) 15616) <|
    some ((upd sights (((61 : Int32) * v0) + many).toNatClampNeg v1), (many + (1 : Int32)))
def rm7_sees : Room := { frames := 0, cells := 0, slots := 0, locals := 0 }
theorem hm7_sees_0 : ∀ w ∈ u_ws RX7 TX7 24, w ∈ wsX7_sees := by decide +kernel
theorem hm7_sees_1 : Cond.fieldLink RX7 28 "SecretStepsModel" "sights" "[I" ∈ wsX7_sees := by decide +kernel
theorem hm7_sees_2 : Cond.fieldLink RX7 121 "SecretStepsModel" "many" "I" ∈ wsX7_sees := by decide +kernel
set_option maxHeartbeats 4000000 in
set_option maxRecDepth 100000 in
theorem c7_sees {l : Launch} {G : gG} {mo mo_now mo_aside mo_past mo_refusals mo_text mo_vars mo_sights mo_isThere mo_taints mo_known mo_knows mo_letters mo_numbers : Nat} {states : Int32} {length : Int32} {sights : Nat → Int32} {many : Int32} {steps : Int32} {isCut : Int32} {taint : Int32} {isOther : Int32} {at_ : Int32} {isFaulty : Int32} {orders : Int32} {hash : Int64} {v0 : Int32} {v1 : Int32} {res : (Nat → Int32) × Int32} (hf : f7_sees sights many v0 v1 = some res) : MV l yX7_sees wsX7_sees rm7_sees G [.ref mo, .int v0, .int v1] [(mo, oB 7 [.ref mo_now, .ref mo_aside, .ref mo_past, .int states, .ref mo_refusals, .ref mo_text, .int length, .ref mo_vars, .ref mo_sights, .int many, .int steps, .int isCut, .ref mo_isThere, .ref mo_taints, .ref mo_known, .int taint, .ref mo_knows, .int isOther, .int at_, .int isFaulty, .int orders, .ref mo_letters, .ref mo_numbers, .long hash]), (mo_sights, aI G 15616 sights)] [(mo, oB 7 [.ref mo_now, .ref mo_aside, .ref mo_past, .int states, .ref mo_refusals, .ref mo_text, .int length, .ref mo_vars, .ref mo_sights, .int res.2, .int steps, .int isCut, .ref mo_isThere, .ref mo_taints, .ref mo_known, .int taint, .ref mo_knows, .int isOther, .int at_, .int isFaulty, .int orders, .ref mo_letters, .ref mo_numbers, .long hash]), (mo_sights, aI G 15616 res.1)] := by
  refine MV_of (cc := cX7_sees) (nL := 3) (lv := [(0, .ref mo), (1, .int v0), (2, .int v1)]) (by decide +kernel) rfl (Nat.le_of_ble_eq_true rfl) rfl ?_
  intro p e s m args below meth c A Q C hR
  unfold f7_sees at hf
  refine g_aload_n C dX7_sees_0 rfl 0 rfl ?_
  refine g_get (C0 := RX7) (T := TX7) (N := 24) (ci := 7) (v := .ref mo_sights) C hm7_sees_0 0 rfl rfl 8 (by decide) hm7_sees_1 rfl dX7_sees_1 ?_
  refine g_bipush (v := (61 : Int32)) C dX7_sees_4 (by decide +kernel) ?_
  refine g_iload_n C dX7_sees_6 rfl 1 rfl ?_
  refine g_imul C dX7_sees_7 ?_
  refine g_aload_n C dX7_sees_8 rfl 0 rfl ?_
  refine g_get (C0 := RX7) (T := TX7) (N := 24) (ci := 7) (v := .int many) C hm7_sees_0 0 rfl rfl 9 (by decide) hm7_sees_2 rfl dX7_sees_9 ?_
  refine g_iadd C dX7_sees_12 ?_
  refine g_iload_n C dX7_sees_13 rfl 2 rfl ?_
  obtain ⟨h1, hf⟩ := ck_some hf
  refine g_iast (n := 15616) (WS' := [(mo, oB 7 [.ref mo_now, .ref mo_aside, .ref mo_past, .int states, .ref mo_refusals, .ref mo_text, .int length, .ref mo_vars, .ref mo_sights, .int many, .int steps, .int isCut, .ref mo_isThere, .ref mo_taints, .ref mo_known, .int taint, .ref mo_knows, .int isOther, .int at_, .int isFaulty, .int orders, .ref mo_letters, .ref mo_numbers, .long hash]), (mo_sights, aI G 15616 (upd sights (((61 : Int32) * v0) + many).toNatClampNeg v1))]) C 1 rfl h1 rfl dX7_sees_14 rfl ?_
  refine g_aload_n C dX7_sees_15 rfl 0 rfl ?_
  refine g_dup C dX7_sees_16 rfl ?_
  refine g_get (C0 := RX7) (T := TX7) (N := 24) (ci := 7) (v := .int many) C hm7_sees_0 0 rfl rfl 9 (by decide) hm7_sees_2 rfl dX7_sees_17 ?_
  refine g_iconst (v := (1 : Int32)) C dX7_sees_20 (by decide +kernel) ?_
  refine g_iadd C dX7_sees_21 ?_
  refine g_put (C0 := RX7) (T := TX7) (N := 24) (ci := 7) (ty := .int) (WS' := [(mo, oB 7 [.ref mo_now, .ref mo_aside, .ref mo_past, .int states, .ref mo_refusals, .ref mo_text, .int length, .ref mo_vars, .ref mo_sights, .int (many + (1 : Int32)), .int steps, .int isCut, .ref mo_isThere, .ref mo_taints, .ref mo_known, .int taint, .ref mo_knows, .int isOther, .int at_, .int isFaulty, .int orders, .ref mo_letters, .ref mo_numbers, .long hash]), (mo_sights, aI G 15616 (upd sights (((61 : Int32) * v0) + many).toNatClampNeg v1))]) C hm7_sees_0 tyX7 tyX7_ok nmX7 0 rfl rfl 9 (by decide) hm7_sees_2 rfl rfl rfl rfl (Nat.le_of_ble_eq_true rfl) dX7_sees_22 rfl ?_
  obtain rfl := Option.some.inj hf
  exact hR _ _ dX7_sees_25

-- X7_divided
def f7_divided (v0 : Int32) (v1 : Int32) : Option (Int32) :=
  if v1 = 0 then
    (some (15 : Int32))
    else (ck (!decide (v1 = 0)) <|
    some (v0 / v1))
def rm7_divided : Room := { frames := 0, cells := 0, slots := 0, locals := 0 }
set_option maxHeartbeats 4000000 in
set_option maxRecDepth 100000 in
theorem c7_divided {l : Launch} {G : gG} {v0 : Int32} {v1 : Int32} {res : Int32} (hf : f7_divided v0 v1 = some res) : MI l yX7_divided wsX7_divided rm7_divided G [.int v0, .int v1] [] (res) [] := by
  refine MI_of (res) (cc := cX7_divided) (nL := 2) (lv := [(0, .int v0), (1, .int v1)]) (by decide +kernel) rfl (Nat.le_of_ble_eq_true rfl) rfl ?_
  intro p e s m args below meth c A Q C hR
  unfold f7_divided at hf
  refine g_iload_n C dX7_divided_0 rfl 1 rfl ?_
  refine g_if_ne (tgt := 9) C dX7_divided_1 (by decide) (fun c1 => ?_) (fun c1 => ?_)
  · replace hf := ite_f c1 hf
    refine g_iload_n C dX7_divided_9 rfl 0 rfl ?_
    refine g_iload_n C dX7_divided_10 rfl 1 rfl ?_
    obtain ⟨h2, hf⟩ := ck_some hf
    refine g_idiv C dX7_divided_11 (fun h9 => by rw [h9] at h2; cases h2) ?_
    obtain rfl := Option.some.inj hf
    exact hR _ _ dX7_divided_12
  · replace hf := ite_t c1 hf
    refine g_bipush (v := (15 : Int32)) C dX7_divided_4 (by decide +kernel) ?_
    refine g_goto (tgt := 12) C dX7_divided_6 (by decide) ?_
    obtain rfl := Option.some.inj hf
    exact hR _ _ dX7_divided_12

-- X7_comesOut
def f7_comesOut (now : Nat → Int32) (v0 : Int32) (v1 : Int32) (v2 : Int32) : Option (Int32) :=
  (if v0 = (2 : Int32) then
    (some (irm (v1 + v2) (16 : Int32)))
    else (if v0 = (3 : Int32) then
    (some (v1 &&& v2))
    else (if v0 = (4 : Int32) then
    (some (v1 ^^^ v2))
    else (if v0 = (5 : Int32) then
    (ck (inb ((8 : Int32) + v2) 104) <|
    some (now ((8 : Int32) + v2).toNatClampNeg))
    else (if v0 = (6 : Int32) then
    ((f7_divided v1 v2).bind <| fun q7 =>
    some q7)
    else (some v2))))))
def rm7_comesOut : Room := { frames := 1, cells := 0, slots := 0, locals := 21 }
theorem hm7_comesOut_0 : ∀ w ∈ u_ws RX7 TX7 24, w ∈ wsX7_comesOut := by decide +kernel
theorem hm7_comesOut_1 : Cond.fieldLink RX7 7 "SecretStepsModel" "now" "[I" ∈ wsX7_comesOut := by decide +kernel
set_option maxHeartbeats 4000000 in
set_option maxRecDepth 100000 in
theorem c7_comesOut {l : Launch} {G : gG} {mo mo_now mo_aside mo_past mo_refusals mo_text mo_vars mo_sights mo_isThere mo_taints mo_known mo_knows mo_letters mo_numbers : Nat} {now : Nat → Int32} {states : Int32} {length : Int32} {many : Int32} {steps : Int32} {isCut : Int32} {taint : Int32} {isOther : Int32} {at_ : Int32} {isFaulty : Int32} {orders : Int32} {hash : Int64} {v0 : Int32} {v1 : Int32} {v2 : Int32} {res : Int32} (hf : f7_comesOut now v0 v1 v2 = some res) : MI l yX7_comesOut wsX7_comesOut rm7_comesOut G [.ref mo, .int v0, .int v1, .int v2] [(mo, oB 7 [.ref mo_now, .ref mo_aside, .ref mo_past, .int states, .ref mo_refusals, .ref mo_text, .int length, .ref mo_vars, .ref mo_sights, .int many, .int steps, .int isCut, .ref mo_isThere, .ref mo_taints, .ref mo_known, .int taint, .ref mo_knows, .int isOther, .int at_, .int isFaulty, .int orders, .ref mo_letters, .ref mo_numbers, .long hash]), (mo_now, aI G 104 now)] (res) [(mo, oB 7 [.ref mo_now, .ref mo_aside, .ref mo_past, .int states, .ref mo_refusals, .ref mo_text, .int length, .ref mo_vars, .ref mo_sights, .int many, .int steps, .int isCut, .ref mo_isThere, .ref mo_taints, .ref mo_known, .int taint, .ref mo_knows, .int isOther, .int at_, .int isFaulty, .int orders, .ref mo_letters, .ref mo_numbers, .long hash]), (mo_now, aI G 104 now)] := by
  refine MI_of (res) (cc := cX7_comesOut) (nL := 4) (lv := [(0, .ref mo), (1, .int v0), (2, .int v1), (3, .int v2)]) (by decide +kernel) rfl (Nat.le_of_ble_eq_true rfl) rfl ?_
  intro p e s m args below meth c A Q C hR
  unfold f7_comesOut at hf
  refine g_iload_n C dX7_comesOut_0 rfl 1 rfl ?_
  by_cases c1 : v0 = (2 : Int32)
  · replace hf := ite_t c1 hf
    refine g_tableIn (off := 35) (tgt := 36) C dX7_comesOut_1 (by rw [c1]; decide +kernel) (by rw [c1]; decide +kernel) (by rw [c1]; decide +kernel) (by decide) ?_
    refine g_iload_n C dX7_comesOut_36 rfl 2 rfl ?_
    refine g_iload_n C dX7_comesOut_37 rfl 3 rfl ?_
    refine g_iadd C dX7_comesOut_38 ?_
    refine g_bipush (v := (16 : Int32)) C dX7_comesOut_39 (by decide +kernel) ?_
    refine g_irem C dX7_comesOut_41 (by decide +kernel) ?_
    obtain rfl := Option.some.inj hf
    exact hR _ _ dX7_comesOut_42
  replace hf := ite_f c1 hf
  by_cases c2 : v0 = (3 : Int32)
  · replace hf := ite_t c2 hf
    refine g_tableIn (off := 42) (tgt := 43) C dX7_comesOut_1 (by rw [c2]; decide +kernel) (by rw [c2]; decide +kernel) (by rw [c2]; decide +kernel) (by decide) ?_
    refine g_iload_n C dX7_comesOut_43 rfl 2 rfl ?_
    refine g_iload_n C dX7_comesOut_44 rfl 3 rfl ?_
    refine g_iand C dX7_comesOut_45 ?_
    obtain rfl := Option.some.inj hf
    exact hR _ _ dX7_comesOut_46
  replace hf := ite_f c2 hf
  by_cases c3 : v0 = (4 : Int32)
  · replace hf := ite_t c3 hf
    refine g_tableIn (off := 46) (tgt := 47) C dX7_comesOut_1 (by rw [c3]; decide +kernel) (by rw [c3]; decide +kernel) (by rw [c3]; decide +kernel) (by decide) ?_
    refine g_iload_n C dX7_comesOut_47 rfl 2 rfl ?_
    refine g_iload_n C dX7_comesOut_48 rfl 3 rfl ?_
    refine g_ixor C dX7_comesOut_49 ?_
    obtain rfl := Option.some.inj hf
    exact hR _ _ dX7_comesOut_50
  replace hf := ite_f c3 hf
  by_cases c4 : v0 = (5 : Int32)
  · replace hf := ite_t c4 hf
    refine g_tableIn (off := 56) (tgt := 57) C dX7_comesOut_1 (by rw [c4]; decide +kernel) (by rw [c4]; decide +kernel) (by rw [c4]; decide +kernel) (by decide) ?_
    refine g_aload_n C dX7_comesOut_57 rfl 0 rfl ?_
    refine g_get (C0 := RX7) (T := TX7) (N := 24) (ci := 7) (v := .ref mo_now) C hm7_comesOut_0 0 rfl rfl 0 (by decide) hm7_comesOut_1 rfl dX7_comesOut_58 ?_
    refine g_bipush (v := (8 : Int32)) C dX7_comesOut_61 (by decide +kernel) ?_
    refine g_iload_n C dX7_comesOut_63 rfl 3 rfl ?_
    refine g_iadd C dX7_comesOut_64 ?_
    obtain ⟨h5, hf⟩ := ck_some hf
    refine g_iald (n := 104) (v := (now ((8 : Int32) + v2).toNatClampNeg)) C 1 rfl h5 rfl rfl dX7_comesOut_65 ?_
    obtain rfl := Option.some.inj hf
    exact hR _ _ dX7_comesOut_66
  replace hf := ite_f c4 hf
  by_cases c6 : v0 = (6 : Int32)
  · replace hf := ite_t c6 hf
    refine g_tableIn (off := 50) (tgt := 51) C dX7_comesOut_1 (by rw [c6]; decide +kernel) (by rw [c6]; decide +kernel) (by rw [c6]; decide +kernel) (by decide) ?_
    refine g_iload_n C dX7_comesOut_51 rfl 2 rfl ?_
    refine g_iload_n C dX7_comesOut_52 rfl 3 rfl ?_
    obtain ⟨q7, hq7, hf⟩ := bs hf
    refine g_callSi (n := 2) (As := [.int v1, .int v2]) (rest := []) (wc := []) (w1 := []) (wr := [(mo, oB 7 [.ref mo_now, .ref mo_aside, .ref mo_past, .int states, .ref mo_refusals, .ref mo_text, .int length, .ref mo_vars, .ref mo_sights, .int many, .int steps, .int isCut, .ref mo_isThere, .ref mo_taints, .ref mo_known, .int taint, .ref mo_knows, .int isOther, .int at_, .int isFaulty, .int orders, .ref mo_letters, .ref mo_numbers, .long hash]), (mo_now, aI G 104 now)]) (WS' := [(mo, oB 7 [.ref mo_now, .ref mo_aside, .ref mo_past, .int states, .ref mo_refusals, .ref mo_text, .int length, .ref mo_vars, .ref mo_sights, .int many, .int steps, .int isCut, .ref mo_isThere, .ref mo_taints, .ref mo_known, .int taint, .ref mo_knows, .int isOther, .int at_, .int isFaulty, .int orders, .ref mo_letters, .ref mo_numbers, .long hash]), (mo_now, aI G 104 now)]) C (c7_divided hq7) gX7_comesOut_X7_divided (by decide +kernel) rfl rfl rfl ⟨by decide, by decide⟩ rfl [] [0, 1] [0, 1] rfl (by decide) rfl (by decide) (by decide) rfl (by decide) (Nat.le_of_ble_eq_true rfl) ⟨Nat.zero_le _, Nat.zero_le _⟩ rfl dX7_comesOut_53 ?_
    obtain rfl := Option.some.inj hf
    exact hR _ _ dX7_comesOut_56
  replace hf := ite_f c6 hf
  refine g_tableOut (tgt := 67) C dX7_comesOut_1 (by have e0 := lv_neT (a := 2) c1 (by decide +kernel); have e1 := lv_neT (a := 3) c2 (by decide +kernel); have e2 := lv_neT (a := 4) c3 (by decide +kernel); have e3 := lv_neT (a := 5) c4 (by decide +kernel); have e4 := lv_neT (a := 6) c6 (by decide +kernel); omega) (by decide) ?_
  refine g_iload_n C dX7_comesOut_67 rfl 3 rfl ?_
  obtain rfl := Option.some.inj hf
  exact hR _ _ dX7_comesOut_68

-- X7_stepsOn
def f7_stepsOn_204 (now : Nat → Int32) (vars : Nat → Int32) (sights : Nat → Int32) (many : Int32) (x1 : Int32) (x2 : Int32) (x3 : Int32) (x4 : Int32) (x5 : Int32) : Option (Int32 × (Nat → Int32) × (Nat → Int32) × Int32) :=
  ck (inb x4 6) <|
    ck (inb x5 6) <|
    (f7_comesOut now x3 (vars x4.toNatClampNeg) (vars x5.toNatClampNeg)).bind <| fun q3 =>
    ck (inb x4 6) <|
    some ((x2 + (1 : Int32)), (upd vars x4.toNatClampNeg q3), sights, many)
def f7_stepsOn_143 (now : Nat → Int32) (vars : Nat → Int32) (sights : Nat → Int32) (many : Int32) (x1 : Int32) (x2 : Int32) (x3 : Int32) (x4 : Int32) (x5 : Int32) (y1 : Int32) (y2 : Int32) : Option (Int32 × (Nat → Int32) × (Nat → Int32) × Int32) :=
  ck (inb y1 6) <|
    some ((x2 + (1 : Int32)), (upd vars y1.toNatClampNeg y2), sights, many)
def f7_stepsOn_65 (now : Nat → Int32) (vars : Nat → Int32) (sights : Nat → Int32) (many : Int32) (x1 : Int32) (x2 : Int32) (x3 : Int32) (x4 : Int32) (x5 : Int32) (x6 : Int32) (y1 : Int32) (y2 : Int32) (y3 : Int32) : Option (Int32 × (Nat → Int32) × (Nat → Int32) × Int32) :=
  (f7_sees sights many y1 (y2 + y3)).bind <| fun q6 =>
    if x6 = 0 then
    (some ((x2 + (1 : Int32)), vars, q6.1, q6.2))
    else (some (x5, vars, q6.1, q6.2))
def f7_stepsOn_44 (now : Nat → Int32) (vars : Nat → Int32) (sights : Nat → Int32) (many : Int32) (x1 : Int32) (x2 : Int32) (x3 : Int32) (x4 : Int32) (x5 : Int32) (y0 : Int32) : Option (Int32 × (Nat → Int32) × (Nat → Int32) × Int32) :=
  if y0 = 0 then
    (f7_stepsOn_65 now vars sights many x1 x2 x3 x4 x5 y0 x1 ((500 : Int32) + ((2 : Int32) * x2)) (0 : Int32))
    else (f7_stepsOn_65 now vars sights many x1 x2 x3 x4 x5 y0 x1 ((500 : Int32) + ((2 : Int32) * x2)) (1 : Int32))
def f7_stepsOn_23 (now : Nat → Int32) (vars : Nat → Int32) (sights : Nat → Int32) (many : Int32) (x1 : Int32) (x2 : Int32) (x3 : Int32) (x4 : Int32) (x5 : Int32) : Option (Int32 × (Nat → Int32) × (Nat → Int32) × Int32) :=
  if x3 = (7 : Int32) then
    (ck (inb x4 6) <|
    if (vars x4.toNatClampNeg) = 0 then
    (f7_stepsOn_44 now vars sights many x1 x2 x3 x4 x5 (0 : Int32))
    else (f7_stepsOn_44 now vars sights many x1 x2 x3 x4 x5 (1 : Int32)))
    else (if x3 = 0 then
    (ck (inb x4 6) <|
    some ((x2 + (1 : Int32)), (upd vars x4.toNatClampNeg x5), sights, many))
    else (if x3 = (8 : Int32) then
    (ck (inb x4 6) <|
    if (vars x4.toNatClampNeg) = 0 then
    ((f7_partOf now x2 (3 : Int32)).bind <| fun q21 =>
    ck (inb q21 6) <|
    f7_stepsOn_143 now vars sights many x1 x2 x3 x4 x5 x4 (vars q21.toNatClampNeg))
    else (ck (inb x5 6) <|
    f7_stepsOn_143 now vars sights many x1 x2 x3 x4 x5 x4 (vars x5.toNatClampNeg)))
    else (if x3 = (5 : Int32) then
    (ck (inb x5 6) <|
    (f7_sees sights many x1 ((100 : Int32) + (vars x5.toNatClampNeg))).bind <| fun q18 =>
    f7_stepsOn_204 now vars q18.1 q18.2 x1 x2 x3 x4 x5)
    else (if x3 = (6 : Int32) then
    (ck (inb x4 6) <|
    ck (inb x5 6) <|
    (f7_sees sights many x1 (((200 : Int32) + ((16 : Int32) * (vars x4.toNatClampNeg))) + (vars x5.toNatClampNeg))).bind <| fun q16 =>
    f7_stepsOn_204 now vars q16.1 q16.2 x1 x2 x3 x4 x5)
    else (f7_stepsOn_204 now vars sights many x1 x2 x3 x4 x5)))))
def f7_stepsOn (now : Nat → Int32) (vars : Nat → Int32) (sights : Nat → Int32) (many : Int32) (v0 : Int32) (v1 : Int32) : Option (Int32 × (Nat → Int32) × (Nat → Int32) × Int32) :=
  (f7_partOf now v1 (0 : Int32)).bind <| fun q27 =>
    (f7_partOf now v1 (1 : Int32)).bind <| fun q28 =>
    (f7_partOf now v1 (2 : Int32)).bind <| fun q29 =>
    f7_stepsOn_23 now vars sights many v0 v1 q27 q28 q29
def rm7_stepsOn : Room := { frames := 2, cells := 0, slots := 0, locals := 44 }
theorem hm7_stepsOn_0 : ∀ w ∈ u_ws RX7 TX7 24, w ∈ wsX7_stepsOn := by decide +kernel
theorem hm7_stepsOn_1 : Cond.fieldLink RX7 25 "SecretStepsModel" "vars" "[I" ∈ wsX7_stepsOn := by decide +kernel
set_option maxHeartbeats 4000000 in
set_option maxRecDepth 100000 in
theorem k7_stepsOn_204 {p : Program} {l : Launch} {e : Env} {s : State} {m : MethodId} {args : Array Value} {below : List Frame} {meth : Method} {c : Code} {G : gG} {A : Nat → Prop} {Q : State → Prop} {mo mo_now mo_aside mo_past mo_refusals mo_text mo_vars mo_sights mo_isThere mo_taints mo_known mo_knows mo_letters mo_numbers : Nat} (C : CX p s m args meth c G A cX7_stepsOn 7 RX7 wsX7_stepsOn) {states : Int32} {length : Int32} {steps : Int32} {isCut : Int32} {taint : Int32} {isOther : Int32} {at_ : Int32} {isFaulty : Int32} {orders : Int32} {hash : Int64} {now : Nat → Int32} {vars : Nat → Int32} {sights : Nat → Int32} {many : Int32} {x1 : Int32} {x2 : Int32} {x3 : Int32} {x4 : Int32} {x5 : Int32} {res : Int32 × (Nat → Int32) × (Nat → Int32) × Int32} (hR : ∀ (lv : List (Nat × Value)) (pc : Nat), decode cX7_stepsOn pc = .ok (.ireturn, 1) → GG p l e rm7_stepsOn s m args below meth c G A 7 0 0 Q [(mo, oB 7 [.ref mo_now, .ref mo_aside, .ref mo_past, .int states, .ref mo_refusals, .ref mo_text, .int length, .ref mo_vars, .ref mo_sights, .int res.2.2.2, .int steps, .int isCut, .ref mo_isThere, .ref mo_taints, .ref mo_known, .int taint, .ref mo_knows, .int isOther, .int at_, .int isFaulty, .int orders, .ref mo_letters, .ref mo_numbers, .long hash]), (mo_now, aI G 104 now), (mo_vars, aI G 6 res.2.1), (mo_sights, aI G 15616 res.2.2.1)] lv pc [.int res.1])
    (hf : f7_stepsOn_204 now vars sights many x1 x2 x3 x4 x5 = some res) : GG p l e rm7_stepsOn s m args below meth c G A 7 0 0 Q [(mo, oB 7 [.ref mo_now, .ref mo_aside, .ref mo_past, .int states, .ref mo_refusals, .ref mo_text, .int length, .ref mo_vars, .ref mo_sights, .int many, .int steps, .int isCut, .ref mo_isThere, .ref mo_taints, .ref mo_known, .int taint, .ref mo_knows, .int isOther, .int at_, .int isFaulty, .int orders, .ref mo_letters, .ref mo_numbers, .long hash]), (mo_now, aI G 104 now), (mo_vars, aI G 6 vars), (mo_sights, aI G 15616 sights)] [(0, .ref mo), (1, .int x1), (2, .int x2), (3, .int x3), (4, .int x4), (5, .int x5)] 204 [] := by
  unfold f7_stepsOn_204 at hf
  refine g_aload_n C dX7_stepsOn_204 rfl 0 rfl ?_
  refine g_get (C0 := RX7) (T := TX7) (N := 24) (ci := 7) (v := .ref mo_vars) C hm7_stepsOn_0 0 rfl rfl 7 (by decide) hm7_stepsOn_1 rfl dX7_stepsOn_205 ?_
  refine g_iload C dX7_stepsOn_208 4 rfl ?_
  refine g_aload_n C dX7_stepsOn_210 rfl 0 rfl ?_
  refine g_iload_n C dX7_stepsOn_211 rfl 3 rfl ?_
  refine g_aload_n C dX7_stepsOn_212 rfl 0 rfl ?_
  refine g_get (C0 := RX7) (T := TX7) (N := 24) (ci := 7) (v := .ref mo_vars) C hm7_stepsOn_0 0 rfl rfl 7 (by decide) hm7_stepsOn_1 rfl dX7_stepsOn_213 ?_
  refine g_iload C dX7_stepsOn_216 4 rfl ?_
  obtain ⟨h1, hf⟩ := ck_some hf
  refine g_iald (n := 6) (v := (vars x4.toNatClampNeg)) C 2 rfl h1 rfl rfl dX7_stepsOn_218 ?_
  refine g_aload_n C dX7_stepsOn_219 rfl 0 rfl ?_
  refine g_get (C0 := RX7) (T := TX7) (N := 24) (ci := 7) (v := .ref mo_vars) C hm7_stepsOn_0 0 rfl rfl 7 (by decide) hm7_stepsOn_1 rfl dX7_stepsOn_220 ?_
  refine g_iload C dX7_stepsOn_223 5 rfl ?_
  obtain ⟨h2, hf⟩ := ck_some hf
  refine g_iald (n := 6) (v := (vars x5.toNatClampNeg)) C 2 rfl h2 rfl rfl dX7_stepsOn_225 ?_
  obtain ⟨q3, hq3, hf⟩ := bs hf
  refine g_callVi (n := 3) (As := [.int x3, .int (vars x4.toNatClampNeg), .int (vars x5.toNatClampNeg)]) (rest := [.int x4, .ref mo_vars]) (wc := [(mo, oB 7 [.ref mo_now, .ref mo_aside, .ref mo_past, .int states, .ref mo_refusals, .ref mo_text, .int length, .ref mo_vars, .ref mo_sights, .int many, .int steps, .int isCut, .ref mo_isThere, .ref mo_taints, .ref mo_known, .int taint, .ref mo_knows, .int isOther, .int at_, .int isFaulty, .int orders, .ref mo_letters, .ref mo_numbers, .long hash]), (mo_now, aI G 104 now)]) (w1 := [(mo, oB 7 [.ref mo_now, .ref mo_aside, .ref mo_past, .int states, .ref mo_refusals, .ref mo_text, .int length, .ref mo_vars, .ref mo_sights, .int many, .int steps, .int isCut, .ref mo_isThere, .ref mo_taints, .ref mo_known, .int taint, .ref mo_knows, .int isOther, .int at_, .int isFaulty, .int orders, .ref mo_letters, .ref mo_numbers, .long hash]), (mo_now, aI G 104 now)]) (wr := [(mo_vars, aI G 6 vars), (mo_sights, aI G 15616 sights)]) (WS' := [(mo, oB 7 [.ref mo_now, .ref mo_aside, .ref mo_past, .int states, .ref mo_refusals, .ref mo_text, .int length, .ref mo_vars, .ref mo_sights, .int many, .int steps, .int isCut, .ref mo_isThere, .ref mo_taints, .ref mo_known, .int taint, .ref mo_knows, .int isOther, .int at_, .int isFaulty, .int orders, .ref mo_letters, .ref mo_numbers, .long hash]), (mo_now, aI G 104 now), (mo_vars, aI G 6 vars), (mo_sights, aI G 15616 sights)]) C (c7_comesOut hq3) gX7_stepsOn_X7_comesOut (by decide +kernel) rfl rfl rfl rfl rfl rfl ⟨by decide, by decide⟩ rfl [0, 1] [2, 3] [2, 3, 0, 1] rfl (by decide) rfl (by decide) (by decide) rfl (by decide) (Nat.le_of_ble_eq_true rfl) ⟨Nat.zero_le _, Nat.zero_le _⟩ rfl dX7_stepsOn_226 ?_
  obtain ⟨h4, hf⟩ := ck_some hf
  refine g_iast (n := 6) (WS' := [(mo, oB 7 [.ref mo_now, .ref mo_aside, .ref mo_past, .int states, .ref mo_refusals, .ref mo_text, .int length, .ref mo_vars, .ref mo_sights, .int many, .int steps, .int isCut, .ref mo_isThere, .ref mo_taints, .ref mo_known, .int taint, .ref mo_knows, .int isOther, .int at_, .int isFaulty, .int orders, .ref mo_letters, .ref mo_numbers, .long hash]), (mo_now, aI G 104 now), (mo_vars, aI G 6 (upd vars x4.toNatClampNeg q3)), (mo_sights, aI G 15616 sights)]) C 2 rfl h4 rfl dX7_stepsOn_229 rfl ?_
  refine g_iload_n C dX7_stepsOn_230 rfl 2 rfl ?_
  refine g_iconst (v := (1 : Int32)) C dX7_stepsOn_231 (by decide +kernel) ?_
  refine g_iadd C dX7_stepsOn_232 ?_
  obtain rfl := Option.some.inj hf
  exact hR _ _ dX7_stepsOn_233
set_option maxHeartbeats 4000000 in
set_option maxRecDepth 100000 in
theorem k7_stepsOn_143 {p : Program} {l : Launch} {e : Env} {s : State} {m : MethodId} {args : Array Value} {below : List Frame} {meth : Method} {c : Code} {G : gG} {A : Nat → Prop} {Q : State → Prop} {mo mo_now mo_aside mo_past mo_refusals mo_text mo_vars mo_sights mo_isThere mo_taints mo_known mo_knows mo_letters mo_numbers : Nat} (C : CX p s m args meth c G A cX7_stepsOn 7 RX7 wsX7_stepsOn) {states : Int32} {length : Int32} {steps : Int32} {isCut : Int32} {taint : Int32} {isOther : Int32} {at_ : Int32} {isFaulty : Int32} {orders : Int32} {hash : Int64} {now : Nat → Int32} {vars : Nat → Int32} {sights : Nat → Int32} {many : Int32} {x1 : Int32} {x2 : Int32} {x3 : Int32} {x4 : Int32} {x5 : Int32} {y1 : Int32} {y2 : Int32} {res : Int32 × (Nat → Int32) × (Nat → Int32) × Int32} (hR : ∀ (lv : List (Nat × Value)) (pc : Nat), decode cX7_stepsOn pc = .ok (.ireturn, 1) → GG p l e rm7_stepsOn s m args below meth c G A 7 0 0 Q [(mo, oB 7 [.ref mo_now, .ref mo_aside, .ref mo_past, .int states, .ref mo_refusals, .ref mo_text, .int length, .ref mo_vars, .ref mo_sights, .int res.2.2.2, .int steps, .int isCut, .ref mo_isThere, .ref mo_taints, .ref mo_known, .int taint, .ref mo_knows, .int isOther, .int at_, .int isFaulty, .int orders, .ref mo_letters, .ref mo_numbers, .long hash]), (mo_now, aI G 104 now), (mo_vars, aI G 6 res.2.1), (mo_sights, aI G 15616 res.2.2.1)] lv pc [.int res.1])
    (hf : f7_stepsOn_143 now vars sights many x1 x2 x3 x4 x5 y1 y2 = some res) : GG p l e rm7_stepsOn s m args below meth c G A 7 0 0 Q [(mo, oB 7 [.ref mo_now, .ref mo_aside, .ref mo_past, .int states, .ref mo_refusals, .ref mo_text, .int length, .ref mo_vars, .ref mo_sights, .int many, .int steps, .int isCut, .ref mo_isThere, .ref mo_taints, .ref mo_known, .int taint, .ref mo_knows, .int isOther, .int at_, .int isFaulty, .int orders, .ref mo_letters, .ref mo_numbers, .long hash]), (mo_now, aI G 104 now), (mo_vars, aI G 6 vars), (mo_sights, aI G 15616 sights)] [(0, .ref mo), (1, .int x1), (2, .int x2), (3, .int x3), (4, .int x4), (5, .int x5)] 143 [.int y2, .int y1, .ref mo_vars] := by
  unfold f7_stepsOn_143 at hf
  obtain ⟨h5, hf⟩ := ck_some hf
  refine g_iast (n := 6) (WS' := [(mo, oB 7 [.ref mo_now, .ref mo_aside, .ref mo_past, .int states, .ref mo_refusals, .ref mo_text, .int length, .ref mo_vars, .ref mo_sights, .int many, .int steps, .int isCut, .ref mo_isThere, .ref mo_taints, .ref mo_known, .int taint, .ref mo_knows, .int isOther, .int at_, .int isFaulty, .int orders, .ref mo_letters, .ref mo_numbers, .long hash]), (mo_now, aI G 104 now), (mo_vars, aI G 6 (upd vars y1.toNatClampNeg y2)), (mo_sights, aI G 15616 sights)]) C 2 rfl h5 rfl dX7_stepsOn_143 rfl ?_
  refine g_iload_n C dX7_stepsOn_144 rfl 2 rfl ?_
  refine g_iconst (v := (1 : Int32)) C dX7_stepsOn_145 (by decide +kernel) ?_
  refine g_iadd C dX7_stepsOn_146 ?_
  obtain rfl := Option.some.inj hf
  exact hR _ _ dX7_stepsOn_147
set_option maxHeartbeats 4000000 in
set_option maxRecDepth 100000 in
theorem k7_stepsOn_65 {p : Program} {l : Launch} {e : Env} {s : State} {m : MethodId} {args : Array Value} {below : List Frame} {meth : Method} {c : Code} {G : gG} {A : Nat → Prop} {Q : State → Prop} {mo mo_now mo_aside mo_past mo_refusals mo_text mo_vars mo_sights mo_isThere mo_taints mo_known mo_knows mo_letters mo_numbers : Nat} (C : CX p s m args meth c G A cX7_stepsOn 7 RX7 wsX7_stepsOn) {states : Int32} {length : Int32} {steps : Int32} {isCut : Int32} {taint : Int32} {isOther : Int32} {at_ : Int32} {isFaulty : Int32} {orders : Int32} {hash : Int64} {now : Nat → Int32} {vars : Nat → Int32} {sights : Nat → Int32} {many : Int32} {x1 : Int32} {x2 : Int32} {x3 : Int32} {x4 : Int32} {x5 : Int32} {x6 : Int32} {y1 : Int32} {y2 : Int32} {y3 : Int32} {res : Int32 × (Nat → Int32) × (Nat → Int32) × Int32} (hR : ∀ (lv : List (Nat × Value)) (pc : Nat), decode cX7_stepsOn pc = .ok (.ireturn, 1) → GG p l e rm7_stepsOn s m args below meth c G A 7 0 0 Q [(mo, oB 7 [.ref mo_now, .ref mo_aside, .ref mo_past, .int states, .ref mo_refusals, .ref mo_text, .int length, .ref mo_vars, .ref mo_sights, .int res.2.2.2, .int steps, .int isCut, .ref mo_isThere, .ref mo_taints, .ref mo_known, .int taint, .ref mo_knows, .int isOther, .int at_, .int isFaulty, .int orders, .ref mo_letters, .ref mo_numbers, .long hash]), (mo_now, aI G 104 now), (mo_vars, aI G 6 res.2.1), (mo_sights, aI G 15616 res.2.2.1)] lv pc [.int res.1])
    (hf : f7_stepsOn_65 now vars sights many x1 x2 x3 x4 x5 x6 y1 y2 y3 = some res) : GG p l e rm7_stepsOn s m args below meth c G A 7 0 0 Q [(mo, oB 7 [.ref mo_now, .ref mo_aside, .ref mo_past, .int states, .ref mo_refusals, .ref mo_text, .int length, .ref mo_vars, .ref mo_sights, .int many, .int steps, .int isCut, .ref mo_isThere, .ref mo_taints, .ref mo_known, .int taint, .ref mo_knows, .int isOther, .int at_, .int isFaulty, .int orders, .ref mo_letters, .ref mo_numbers, .long hash]), (mo_now, aI G 104 now), (mo_vars, aI G 6 vars), (mo_sights, aI G 15616 sights)] [(0, .ref mo), (1, .int x1), (2, .int x2), (3, .int x3), (4, .int x4), (5, .int x5), (6, .int x6)] 65 [.int y3, .int y2, .int y1, .ref mo] := by
  unfold f7_stepsOn_65 at hf
  refine g_iadd C dX7_stepsOn_65 ?_
  obtain ⟨q6, hq6, hf⟩ := bs hf
  refine g_callVv (n := 2) (As := [.int y1, .int (y2 + y3)]) (rest := []) (wc := [(mo, oB 7 [.ref mo_now, .ref mo_aside, .ref mo_past, .int states, .ref mo_refusals, .ref mo_text, .int length, .ref mo_vars, .ref mo_sights, .int many, .int steps, .int isCut, .ref mo_isThere, .ref mo_taints, .ref mo_known, .int taint, .ref mo_knows, .int isOther, .int at_, .int isFaulty, .int orders, .ref mo_letters, .ref mo_numbers, .long hash]), (mo_sights, aI G 15616 sights)]) (w1 := [(mo, oB 7 [.ref mo_now, .ref mo_aside, .ref mo_past, .int states, .ref mo_refusals, .ref mo_text, .int length, .ref mo_vars, .ref mo_sights, .int q6.2, .int steps, .int isCut, .ref mo_isThere, .ref mo_taints, .ref mo_known, .int taint, .ref mo_knows, .int isOther, .int at_, .int isFaulty, .int orders, .ref mo_letters, .ref mo_numbers, .long hash]), (mo_sights, aI G 15616 q6.1)]) (wr := [(mo_now, aI G 104 now), (mo_vars, aI G 6 vars)]) (WS' := [(mo, oB 7 [.ref mo_now, .ref mo_aside, .ref mo_past, .int states, .ref mo_refusals, .ref mo_text, .int length, .ref mo_vars, .ref mo_sights, .int q6.2, .int steps, .int isCut, .ref mo_isThere, .ref mo_taints, .ref mo_known, .int taint, .ref mo_knows, .int isOther, .int at_, .int isFaulty, .int orders, .ref mo_letters, .ref mo_numbers, .long hash]), (mo_now, aI G 104 now), (mo_vars, aI G 6 vars), (mo_sights, aI G 15616 q6.1)]) C (c7_sees hq6) gX7_stepsOn_X7_sees (by decide +kernel) rfl rfl rfl rfl rfl rfl ⟨by decide, by decide⟩ rfl [0, 3] [1, 2] [2, 0, 1, 3] rfl (by decide) rfl (by decide) (by decide) rfl (by decide) (Nat.le_of_ble_eq_true rfl) ⟨Nat.zero_le _, Nat.zero_le _⟩ rfl dX7_stepsOn_66 ?_
  refine g_iload C dX7_stepsOn_69 6 rfl ?_
  refine g_if_eq (tgt := 79) C dX7_stepsOn_71 (by decide) (fun c7 => ?_) (fun c7 => ?_)
  · replace hf := ite_t c7 hf
    refine g_iload_n C dX7_stepsOn_79 rfl 2 rfl ?_
    refine g_iconst (v := (1 : Int32)) C dX7_stepsOn_80 (by decide +kernel) ?_
    refine g_iadd C dX7_stepsOn_81 ?_
    obtain rfl := Option.some.inj hf
    exact hR _ _ dX7_stepsOn_82
  · replace hf := ite_f c7 hf
    refine g_iload C dX7_stepsOn_74 5 rfl ?_
    refine g_goto (tgt := 82) C dX7_stepsOn_76 (by decide) ?_
    obtain rfl := Option.some.inj hf
    exact hR _ _ dX7_stepsOn_82
set_option maxHeartbeats 4000000 in
set_option maxRecDepth 100000 in
theorem k7_stepsOn_44 {p : Program} {l : Launch} {e : Env} {s : State} {m : MethodId} {args : Array Value} {below : List Frame} {meth : Method} {c : Code} {G : gG} {A : Nat → Prop} {Q : State → Prop} {mo mo_now mo_aside mo_past mo_refusals mo_text mo_vars mo_sights mo_isThere mo_taints mo_known mo_knows mo_letters mo_numbers : Nat} (C : CX p s m args meth c G A cX7_stepsOn 7 RX7 wsX7_stepsOn) {states : Int32} {length : Int32} {steps : Int32} {isCut : Int32} {taint : Int32} {isOther : Int32} {at_ : Int32} {isFaulty : Int32} {orders : Int32} {hash : Int64} {now : Nat → Int32} {vars : Nat → Int32} {sights : Nat → Int32} {many : Int32} {x1 : Int32} {x2 : Int32} {x3 : Int32} {x4 : Int32} {x5 : Int32} {y0 : Int32} {res : Int32 × (Nat → Int32) × (Nat → Int32) × Int32} (hR : ∀ (lv : List (Nat × Value)) (pc : Nat), decode cX7_stepsOn pc = .ok (.ireturn, 1) → GG p l e rm7_stepsOn s m args below meth c G A 7 0 0 Q [(mo, oB 7 [.ref mo_now, .ref mo_aside, .ref mo_past, .int states, .ref mo_refusals, .ref mo_text, .int length, .ref mo_vars, .ref mo_sights, .int res.2.2.2, .int steps, .int isCut, .ref mo_isThere, .ref mo_taints, .ref mo_known, .int taint, .ref mo_knows, .int isOther, .int at_, .int isFaulty, .int orders, .ref mo_letters, .ref mo_numbers, .long hash]), (mo_now, aI G 104 now), (mo_vars, aI G 6 res.2.1), (mo_sights, aI G 15616 res.2.2.1)] lv pc [.int res.1])
    (hf : f7_stepsOn_44 now vars sights many x1 x2 x3 x4 x5 y0 = some res) : GG p l e rm7_stepsOn s m args below meth c G A 7 0 0 Q [(mo, oB 7 [.ref mo_now, .ref mo_aside, .ref mo_past, .int states, .ref mo_refusals, .ref mo_text, .int length, .ref mo_vars, .ref mo_sights, .int many, .int steps, .int isCut, .ref mo_isThere, .ref mo_taints, .ref mo_known, .int taint, .ref mo_knows, .int isOther, .int at_, .int isFaulty, .int orders, .ref mo_letters, .ref mo_numbers, .long hash]), (mo_now, aI G 104 now), (mo_vars, aI G 6 vars), (mo_sights, aI G 15616 sights)] [(0, .ref mo), (1, .int x1), (2, .int x2), (3, .int x3), (4, .int x4), (5, .int x5)] 44 [.int y0] := by
  unfold f7_stepsOn_44 at hf
  refine g_istore (lv' := [(0, .ref mo), (1, .int x1), (2, .int x2), (3, .int x3), (4, .int x4), (5, .int x5), (6, .int y0)]) C dX7_stepsOn_44 (by decide) [1, 2, 3, 4, 5, 6, 0] rfl ?_
  refine g_aload_n C dX7_stepsOn_46 rfl 0 rfl ?_
  refine g_iload_n C dX7_stepsOn_47 rfl 1 rfl ?_
  refine g_sipush (v := (500 : Int32)) C dX7_stepsOn_48 (by decide +kernel) ?_
  refine g_iconst (v := (2 : Int32)) C dX7_stepsOn_51 (by decide +kernel) ?_
  refine g_iload_n C dX7_stepsOn_52 rfl 2 rfl ?_
  refine g_imul C dX7_stepsOn_53 ?_
  refine g_iadd C dX7_stepsOn_54 ?_
  refine g_iload C dX7_stepsOn_55 6 rfl ?_
  refine g_if_eq (tgt := 64) C dX7_stepsOn_57 (by decide) (fun c8 => ?_) (fun c8 => ?_)
  · replace hf := ite_t c8 hf
    refine g_iconst (v := (0 : Int32)) C dX7_stepsOn_64 (by decide +kernel) ?_
    exact k7_stepsOn_65 C hR hf
  · replace hf := ite_f c8 hf
    refine g_iconst (v := (1 : Int32)) C dX7_stepsOn_60 (by decide +kernel) ?_
    refine g_goto (tgt := 65) C dX7_stepsOn_61 (by decide) ?_
    exact k7_stepsOn_65 C hR hf
set_option maxHeartbeats 4000000 in
set_option maxRecDepth 100000 in
theorem k7_stepsOn_23 {p : Program} {l : Launch} {e : Env} {s : State} {m : MethodId} {args : Array Value} {below : List Frame} {meth : Method} {c : Code} {G : gG} {A : Nat → Prop} {Q : State → Prop} {mo mo_now mo_aside mo_past mo_refusals mo_text mo_vars mo_sights mo_isThere mo_taints mo_known mo_knows mo_letters mo_numbers : Nat} (C : CX p s m args meth c G A cX7_stepsOn 7 RX7 wsX7_stepsOn) {states : Int32} {length : Int32} {steps : Int32} {isCut : Int32} {taint : Int32} {isOther : Int32} {at_ : Int32} {isFaulty : Int32} {orders : Int32} {hash : Int64} {now : Nat → Int32} {vars : Nat → Int32} {sights : Nat → Int32} {many : Int32} {x1 : Int32} {x2 : Int32} {x3 : Int32} {x4 : Int32} {x5 : Int32} {res : Int32 × (Nat → Int32) × (Nat → Int32) × Int32} (hR : ∀ (lv : List (Nat × Value)) (pc : Nat), decode cX7_stepsOn pc = .ok (.ireturn, 1) → GG p l e rm7_stepsOn s m args below meth c G A 7 0 0 Q [(mo, oB 7 [.ref mo_now, .ref mo_aside, .ref mo_past, .int states, .ref mo_refusals, .ref mo_text, .int length, .ref mo_vars, .ref mo_sights, .int res.2.2.2, .int steps, .int isCut, .ref mo_isThere, .ref mo_taints, .ref mo_known, .int taint, .ref mo_knows, .int isOther, .int at_, .int isFaulty, .int orders, .ref mo_letters, .ref mo_numbers, .long hash]), (mo_now, aI G 104 now), (mo_vars, aI G 6 res.2.1), (mo_sights, aI G 15616 res.2.2.1)] lv pc [.int res.1])
    (hf : f7_stepsOn_23 now vars sights many x1 x2 x3 x4 x5 = some res) : GG p l e rm7_stepsOn s m args below meth c G A 7 0 0 Q [(mo, oB 7 [.ref mo_now, .ref mo_aside, .ref mo_past, .int states, .ref mo_refusals, .ref mo_text, .int length, .ref mo_vars, .ref mo_sights, .int many, .int steps, .int isCut, .ref mo_isThere, .ref mo_taints, .ref mo_known, .int taint, .ref mo_knows, .int isOther, .int at_, .int isFaulty, .int orders, .ref mo_letters, .ref mo_numbers, .long hash]), (mo_now, aI G 104 now), (mo_vars, aI G 6 vars), (mo_sights, aI G 15616 sights)] [(0, .ref mo), (1, .int x1), (2, .int x2), (3, .int x3), (4, .int x4), (5, .int x5)] 23 [] := by
  unfold f7_stepsOn_23 at hf
  refine g_iload_n C dX7_stepsOn_23 rfl 3 rfl ?_
  refine g_bipush (v := (7 : Int32)) C dX7_stepsOn_24 (by decide +kernel) ?_
  refine g_icmp_ne (tgt := 83) C dX7_stepsOn_26 (by decide) (fun c9 => ?_) (fun c9 => ?_)
  · replace hf := ite_f c9 hf
    refine g_iload_n C dX7_stepsOn_83 rfl 3 rfl ?_
    refine g_if_ne (tgt := 100) C dX7_stepsOn_84 (by decide) (fun c10 => ?_) (fun c10 => ?_)
    · replace hf := ite_f c10 hf
      refine g_iload_n C dX7_stepsOn_100 rfl 3 rfl ?_
      refine g_bipush (v := (8 : Int32)) C dX7_stepsOn_101 (by decide +kernel) ?_
      refine g_icmp_ne (tgt := 148) C dX7_stepsOn_103 (by decide) (fun c11 => ?_) (fun c11 => ?_)
      · replace hf := ite_f c11 hf
        refine g_iload_n C dX7_stepsOn_148 rfl 3 rfl ?_
        refine g_iconst (v := (5 : Int32)) C dX7_stepsOn_149 (by decide +kernel) ?_
        refine g_icmp_ne (tgt := 171) C dX7_stepsOn_150 (by decide) (fun c12 => ?_) (fun c12 => ?_)
        · replace hf := ite_f c12 hf
          refine g_iload_n C dX7_stepsOn_171 rfl 3 rfl ?_
          refine g_bipush (v := (6 : Int32)) C dX7_stepsOn_172 (by decide +kernel) ?_
          refine g_icmp_ne (tgt := 204) C dX7_stepsOn_174 (by decide) (fun c13 => ?_) (fun c13 => ?_)
          · replace hf := ite_f c13 hf
            exact k7_stepsOn_204 C hR hf
          · replace hf := ite_t c13 hf
            refine g_aload_n C dX7_stepsOn_177 rfl 0 rfl ?_
            refine g_iload_n C dX7_stepsOn_178 rfl 1 rfl ?_
            refine g_sipush (v := (200 : Int32)) C dX7_stepsOn_179 (by decide +kernel) ?_
            refine g_bipush (v := (16 : Int32)) C dX7_stepsOn_182 (by decide +kernel) ?_
            refine g_aload_n C dX7_stepsOn_184 rfl 0 rfl ?_
            refine g_get (C0 := RX7) (T := TX7) (N := 24) (ci := 7) (v := .ref mo_vars) C hm7_stepsOn_0 0 rfl rfl 7 (by decide) hm7_stepsOn_1 rfl dX7_stepsOn_185 ?_
            refine g_iload C dX7_stepsOn_188 4 rfl ?_
            obtain ⟨h14, hf⟩ := ck_some hf
            refine g_iald (n := 6) (v := (vars x4.toNatClampNeg)) C 2 rfl h14 rfl rfl dX7_stepsOn_190 ?_
            refine g_imul C dX7_stepsOn_191 ?_
            refine g_iadd C dX7_stepsOn_192 ?_
            refine g_aload_n C dX7_stepsOn_193 rfl 0 rfl ?_
            refine g_get (C0 := RX7) (T := TX7) (N := 24) (ci := 7) (v := .ref mo_vars) C hm7_stepsOn_0 0 rfl rfl 7 (by decide) hm7_stepsOn_1 rfl dX7_stepsOn_194 ?_
            refine g_iload C dX7_stepsOn_197 5 rfl ?_
            obtain ⟨h15, hf⟩ := ck_some hf
            refine g_iald (n := 6) (v := (vars x5.toNatClampNeg)) C 2 rfl h15 rfl rfl dX7_stepsOn_199 ?_
            refine g_iadd C dX7_stepsOn_200 ?_
            obtain ⟨q16, hq16, hf⟩ := bs hf
            refine g_callVv (n := 2) (As := [.int x1, .int (((200 : Int32) + ((16 : Int32) * (vars x4.toNatClampNeg))) + (vars x5.toNatClampNeg))]) (rest := []) (wc := [(mo, oB 7 [.ref mo_now, .ref mo_aside, .ref mo_past, .int states, .ref mo_refusals, .ref mo_text, .int length, .ref mo_vars, .ref mo_sights, .int many, .int steps, .int isCut, .ref mo_isThere, .ref mo_taints, .ref mo_known, .int taint, .ref mo_knows, .int isOther, .int at_, .int isFaulty, .int orders, .ref mo_letters, .ref mo_numbers, .long hash]), (mo_sights, aI G 15616 sights)]) (w1 := [(mo, oB 7 [.ref mo_now, .ref mo_aside, .ref mo_past, .int states, .ref mo_refusals, .ref mo_text, .int length, .ref mo_vars, .ref mo_sights, .int q16.2, .int steps, .int isCut, .ref mo_isThere, .ref mo_taints, .ref mo_known, .int taint, .ref mo_knows, .int isOther, .int at_, .int isFaulty, .int orders, .ref mo_letters, .ref mo_numbers, .long hash]), (mo_sights, aI G 15616 q16.1)]) (wr := [(mo_now, aI G 104 now), (mo_vars, aI G 6 vars)]) (WS' := [(mo, oB 7 [.ref mo_now, .ref mo_aside, .ref mo_past, .int states, .ref mo_refusals, .ref mo_text, .int length, .ref mo_vars, .ref mo_sights, .int q16.2, .int steps, .int isCut, .ref mo_isThere, .ref mo_taints, .ref mo_known, .int taint, .ref mo_knows, .int isOther, .int at_, .int isFaulty, .int orders, .ref mo_letters, .ref mo_numbers, .long hash]), (mo_now, aI G 104 now), (mo_vars, aI G 6 vars), (mo_sights, aI G 15616 q16.1)]) C (c7_sees hq16) gX7_stepsOn_X7_sees (by decide +kernel) rfl rfl rfl rfl rfl rfl ⟨by decide, by decide⟩ rfl [0, 3] [1, 2] [2, 0, 1, 3] rfl (by decide) rfl (by decide) (by decide) rfl (by decide) (Nat.le_of_ble_eq_true rfl) ⟨Nat.zero_le _, Nat.zero_le _⟩ rfl dX7_stepsOn_201 ?_
            exact k7_stepsOn_204 C hR hf
        · replace hf := ite_t c12 hf
          refine g_aload_n C dX7_stepsOn_153 rfl 0 rfl ?_
          refine g_iload_n C dX7_stepsOn_154 rfl 1 rfl ?_
          refine g_bipush (v := (100 : Int32)) C dX7_stepsOn_155 (by decide +kernel) ?_
          refine g_aload_n C dX7_stepsOn_157 rfl 0 rfl ?_
          refine g_get (C0 := RX7) (T := TX7) (N := 24) (ci := 7) (v := .ref mo_vars) C hm7_stepsOn_0 0 rfl rfl 7 (by decide) hm7_stepsOn_1 rfl dX7_stepsOn_158 ?_
          refine g_iload C dX7_stepsOn_161 5 rfl ?_
          obtain ⟨h17, hf⟩ := ck_some hf
          refine g_iald (n := 6) (v := (vars x5.toNatClampNeg)) C 2 rfl h17 rfl rfl dX7_stepsOn_163 ?_
          refine g_iadd C dX7_stepsOn_164 ?_
          obtain ⟨q18, hq18, hf⟩ := bs hf
          refine g_callVv (n := 2) (As := [.int x1, .int ((100 : Int32) + (vars x5.toNatClampNeg))]) (rest := []) (wc := [(mo, oB 7 [.ref mo_now, .ref mo_aside, .ref mo_past, .int states, .ref mo_refusals, .ref mo_text, .int length, .ref mo_vars, .ref mo_sights, .int many, .int steps, .int isCut, .ref mo_isThere, .ref mo_taints, .ref mo_known, .int taint, .ref mo_knows, .int isOther, .int at_, .int isFaulty, .int orders, .ref mo_letters, .ref mo_numbers, .long hash]), (mo_sights, aI G 15616 sights)]) (w1 := [(mo, oB 7 [.ref mo_now, .ref mo_aside, .ref mo_past, .int states, .ref mo_refusals, .ref mo_text, .int length, .ref mo_vars, .ref mo_sights, .int q18.2, .int steps, .int isCut, .ref mo_isThere, .ref mo_taints, .ref mo_known, .int taint, .ref mo_knows, .int isOther, .int at_, .int isFaulty, .int orders, .ref mo_letters, .ref mo_numbers, .long hash]), (mo_sights, aI G 15616 q18.1)]) (wr := [(mo_now, aI G 104 now), (mo_vars, aI G 6 vars)]) (WS' := [(mo, oB 7 [.ref mo_now, .ref mo_aside, .ref mo_past, .int states, .ref mo_refusals, .ref mo_text, .int length, .ref mo_vars, .ref mo_sights, .int q18.2, .int steps, .int isCut, .ref mo_isThere, .ref mo_taints, .ref mo_known, .int taint, .ref mo_knows, .int isOther, .int at_, .int isFaulty, .int orders, .ref mo_letters, .ref mo_numbers, .long hash]), (mo_now, aI G 104 now), (mo_vars, aI G 6 vars), (mo_sights, aI G 15616 q18.1)]) C (c7_sees hq18) gX7_stepsOn_X7_sees (by decide +kernel) rfl rfl rfl rfl rfl rfl ⟨by decide, by decide⟩ rfl [0, 3] [1, 2] [2, 0, 1, 3] rfl (by decide) rfl (by decide) (by decide) rfl (by decide) (Nat.le_of_ble_eq_true rfl) ⟨Nat.zero_le _, Nat.zero_le _⟩ rfl dX7_stepsOn_165 ?_
          refine g_goto (tgt := 204) C dX7_stepsOn_168 (by decide) ?_
          exact k7_stepsOn_204 C hR hf
      · replace hf := ite_t c11 hf
        refine g_aload_n C dX7_stepsOn_106 rfl 0 rfl ?_
        refine g_get (C0 := RX7) (T := TX7) (N := 24) (ci := 7) (v := .ref mo_vars) C hm7_stepsOn_0 0 rfl rfl 7 (by decide) hm7_stepsOn_1 rfl dX7_stepsOn_107 ?_
        refine g_iload C dX7_stepsOn_110 4 rfl ?_
        refine g_aload_n C dX7_stepsOn_112 rfl 0 rfl ?_
        refine g_get (C0 := RX7) (T := TX7) (N := 24) (ci := 7) (v := .ref mo_vars) C hm7_stepsOn_0 0 rfl rfl 7 (by decide) hm7_stepsOn_1 rfl dX7_stepsOn_113 ?_
        refine g_iload C dX7_stepsOn_116 4 rfl ?_
        obtain ⟨h19, hf⟩ := ck_some hf
        refine g_iald (n := 6) (v := (vars x4.toNatClampNeg)) C 2 rfl h19 rfl rfl dX7_stepsOn_118 ?_
        refine g_if_eq (tgt := 132) C dX7_stepsOn_119 (by decide) (fun c20 => ?_) (fun c20 => ?_)
        · replace hf := ite_t c20 hf
          refine g_aload_n C dX7_stepsOn_132 rfl 0 rfl ?_
          refine g_get (C0 := RX7) (T := TX7) (N := 24) (ci := 7) (v := .ref mo_vars) C hm7_stepsOn_0 0 rfl rfl 7 (by decide) hm7_stepsOn_1 rfl dX7_stepsOn_133 ?_
          refine g_aload_n C dX7_stepsOn_136 rfl 0 rfl ?_
          refine g_iload_n C dX7_stepsOn_137 rfl 2 rfl ?_
          refine g_iconst (v := (3 : Int32)) C dX7_stepsOn_138 (by decide +kernel) ?_
          obtain ⟨q21, hq21, hf⟩ := bs hf
          refine g_callVi (n := 2) (As := [.int x2, .int (3 : Int32)]) (rest := [.ref mo_vars, .int x4, .ref mo_vars]) (wc := [(mo, oB 7 [.ref mo_now, .ref mo_aside, .ref mo_past, .int states, .ref mo_refusals, .ref mo_text, .int length, .ref mo_vars, .ref mo_sights, .int many, .int steps, .int isCut, .ref mo_isThere, .ref mo_taints, .ref mo_known, .int taint, .ref mo_knows, .int isOther, .int at_, .int isFaulty, .int orders, .ref mo_letters, .ref mo_numbers, .long hash]), (mo_now, aI G 104 now)]) (w1 := [(mo, oB 7 [.ref mo_now, .ref mo_aside, .ref mo_past, .int states, .ref mo_refusals, .ref mo_text, .int length, .ref mo_vars, .ref mo_sights, .int many, .int steps, .int isCut, .ref mo_isThere, .ref mo_taints, .ref mo_known, .int taint, .ref mo_knows, .int isOther, .int at_, .int isFaulty, .int orders, .ref mo_letters, .ref mo_numbers, .long hash]), (mo_now, aI G 104 now)]) (wr := [(mo_vars, aI G 6 vars), (mo_sights, aI G 15616 sights)]) (WS' := [(mo, oB 7 [.ref mo_now, .ref mo_aside, .ref mo_past, .int states, .ref mo_refusals, .ref mo_text, .int length, .ref mo_vars, .ref mo_sights, .int many, .int steps, .int isCut, .ref mo_isThere, .ref mo_taints, .ref mo_known, .int taint, .ref mo_knows, .int isOther, .int at_, .int isFaulty, .int orders, .ref mo_letters, .ref mo_numbers, .long hash]), (mo_now, aI G 104 now), (mo_vars, aI G 6 vars), (mo_sights, aI G 15616 sights)]) C (c7_partOf hq21) gX7_stepsOn_X7_partOf (by decide +kernel) rfl rfl rfl rfl rfl rfl ⟨by decide, by decide⟩ rfl [0, 1] [2, 3] [2, 3, 0, 1] rfl (by decide) rfl (by decide) (by decide) rfl (by decide) (Nat.le_of_ble_eq_true rfl) ⟨Nat.zero_le _, Nat.zero_le _⟩ rfl dX7_stepsOn_139 ?_
          obtain ⟨h22, hf⟩ := ck_some hf
          refine g_iald (n := 6) (v := (vars q21.toNatClampNeg)) C 2 rfl h22 rfl rfl dX7_stepsOn_142 ?_
          exact k7_stepsOn_143 C hR hf
        · replace hf := ite_f c20 hf
          refine g_aload_n C dX7_stepsOn_122 rfl 0 rfl ?_
          refine g_get (C0 := RX7) (T := TX7) (N := 24) (ci := 7) (v := .ref mo_vars) C hm7_stepsOn_0 0 rfl rfl 7 (by decide) hm7_stepsOn_1 rfl dX7_stepsOn_123 ?_
          refine g_iload C dX7_stepsOn_126 5 rfl ?_
          obtain ⟨h23, hf⟩ := ck_some hf
          refine g_iald (n := 6) (v := (vars x5.toNatClampNeg)) C 2 rfl h23 rfl rfl dX7_stepsOn_128 ?_
          refine g_goto (tgt := 143) C dX7_stepsOn_129 (by decide) ?_
          exact k7_stepsOn_143 C hR hf
    · replace hf := ite_t c10 hf
      refine g_aload_n C dX7_stepsOn_87 rfl 0 rfl ?_
      refine g_get (C0 := RX7) (T := TX7) (N := 24) (ci := 7) (v := .ref mo_vars) C hm7_stepsOn_0 0 rfl rfl 7 (by decide) hm7_stepsOn_1 rfl dX7_stepsOn_88 ?_
      refine g_iload C dX7_stepsOn_91 4 rfl ?_
      refine g_iload C dX7_stepsOn_93 5 rfl ?_
      obtain ⟨h24, hf⟩ := ck_some hf
      refine g_iast (n := 6) (WS' := [(mo, oB 7 [.ref mo_now, .ref mo_aside, .ref mo_past, .int states, .ref mo_refusals, .ref mo_text, .int length, .ref mo_vars, .ref mo_sights, .int many, .int steps, .int isCut, .ref mo_isThere, .ref mo_taints, .ref mo_known, .int taint, .ref mo_knows, .int isOther, .int at_, .int isFaulty, .int orders, .ref mo_letters, .ref mo_numbers, .long hash]), (mo_now, aI G 104 now), (mo_vars, aI G 6 (upd vars x4.toNatClampNeg x5)), (mo_sights, aI G 15616 sights)]) C 2 rfl h24 rfl dX7_stepsOn_95 rfl ?_
      refine g_iload_n C dX7_stepsOn_96 rfl 2 rfl ?_
      refine g_iconst (v := (1 : Int32)) C dX7_stepsOn_97 (by decide +kernel) ?_
      refine g_iadd C dX7_stepsOn_98 ?_
      obtain rfl := Option.some.inj hf
      exact hR _ _ dX7_stepsOn_99
  · replace hf := ite_t c9 hf
    refine g_aload_n C dX7_stepsOn_29 rfl 0 rfl ?_
    refine g_get (C0 := RX7) (T := TX7) (N := 24) (ci := 7) (v := .ref mo_vars) C hm7_stepsOn_0 0 rfl rfl 7 (by decide) hm7_stepsOn_1 rfl dX7_stepsOn_30 ?_
    refine g_iload C dX7_stepsOn_33 4 rfl ?_
    obtain ⟨h25, hf⟩ := ck_some hf
    refine g_iald (n := 6) (v := (vars x4.toNatClampNeg)) C 2 rfl h25 rfl rfl dX7_stepsOn_35 ?_
    refine g_if_eq (tgt := 43) C dX7_stepsOn_36 (by decide) (fun c26 => ?_) (fun c26 => ?_)
    · replace hf := ite_t c26 hf
      refine g_iconst (v := (0 : Int32)) C dX7_stepsOn_43 (by decide +kernel) ?_
      exact k7_stepsOn_44 C hR hf
    · replace hf := ite_f c26 hf
      refine g_iconst (v := (1 : Int32)) C dX7_stepsOn_39 (by decide +kernel) ?_
      refine g_goto (tgt := 44) C dX7_stepsOn_40 (by decide) ?_
      exact k7_stepsOn_44 C hR hf
set_option maxHeartbeats 4000000 in
set_option maxRecDepth 100000 in
theorem c7_stepsOn {l : Launch} {G : gG} {mo mo_now mo_aside mo_past mo_refusals mo_text mo_vars mo_sights mo_isThere mo_taints mo_known mo_knows mo_letters mo_numbers : Nat} {now : Nat → Int32} {states : Int32} {length : Int32} {vars : Nat → Int32} {sights : Nat → Int32} {many : Int32} {steps : Int32} {isCut : Int32} {taint : Int32} {isOther : Int32} {at_ : Int32} {isFaulty : Int32} {orders : Int32} {hash : Int64} {v0 : Int32} {v1 : Int32} {res : Int32 × (Nat → Int32) × (Nat → Int32) × Int32} (hf : f7_stepsOn now vars sights many v0 v1 = some res) : MI l yX7_stepsOn wsX7_stepsOn rm7_stepsOn G [.ref mo, .int v0, .int v1] [(mo, oB 7 [.ref mo_now, .ref mo_aside, .ref mo_past, .int states, .ref mo_refusals, .ref mo_text, .int length, .ref mo_vars, .ref mo_sights, .int many, .int steps, .int isCut, .ref mo_isThere, .ref mo_taints, .ref mo_known, .int taint, .ref mo_knows, .int isOther, .int at_, .int isFaulty, .int orders, .ref mo_letters, .ref mo_numbers, .long hash]), (mo_now, aI G 104 now), (mo_vars, aI G 6 vars), (mo_sights, aI G 15616 sights)] (res.1) [(mo, oB 7 [.ref mo_now, .ref mo_aside, .ref mo_past, .int states, .ref mo_refusals, .ref mo_text, .int length, .ref mo_vars, .ref mo_sights, .int res.2.2.2, .int steps, .int isCut, .ref mo_isThere, .ref mo_taints, .ref mo_known, .int taint, .ref mo_knows, .int isOther, .int at_, .int isFaulty, .int orders, .ref mo_letters, .ref mo_numbers, .long hash]), (mo_now, aI G 104 now), (mo_vars, aI G 6 res.2.1), (mo_sights, aI G 15616 res.2.2.1)] := by
  refine MI_of (res.1) (cc := cX7_stepsOn) (nL := 7) (lv := [(0, .ref mo), (1, .int v0), (2, .int v1)]) (by decide +kernel) rfl (Nat.le_of_ble_eq_true rfl) rfl ?_
  intro p e s m args below meth c A Q C hR
  unfold f7_stepsOn at hf
  refine g_aload_n C dX7_stepsOn_0 rfl 0 rfl ?_
  refine g_iload_n C dX7_stepsOn_1 rfl 2 rfl ?_
  refine g_iconst (v := (0 : Int32)) C dX7_stepsOn_2 (by decide +kernel) ?_
  obtain ⟨q27, hq27, hf⟩ := bs hf
  refine g_callVi (n := 2) (As := [.int v1, .int (0 : Int32)]) (rest := []) (wc := [(mo, oB 7 [.ref mo_now, .ref mo_aside, .ref mo_past, .int states, .ref mo_refusals, .ref mo_text, .int length, .ref mo_vars, .ref mo_sights, .int many, .int steps, .int isCut, .ref mo_isThere, .ref mo_taints, .ref mo_known, .int taint, .ref mo_knows, .int isOther, .int at_, .int isFaulty, .int orders, .ref mo_letters, .ref mo_numbers, .long hash]), (mo_now, aI G 104 now)]) (w1 := [(mo, oB 7 [.ref mo_now, .ref mo_aside, .ref mo_past, .int states, .ref mo_refusals, .ref mo_text, .int length, .ref mo_vars, .ref mo_sights, .int many, .int steps, .int isCut, .ref mo_isThere, .ref mo_taints, .ref mo_known, .int taint, .ref mo_knows, .int isOther, .int at_, .int isFaulty, .int orders, .ref mo_letters, .ref mo_numbers, .long hash]), (mo_now, aI G 104 now)]) (wr := [(mo_vars, aI G 6 vars), (mo_sights, aI G 15616 sights)]) (WS' := [(mo, oB 7 [.ref mo_now, .ref mo_aside, .ref mo_past, .int states, .ref mo_refusals, .ref mo_text, .int length, .ref mo_vars, .ref mo_sights, .int many, .int steps, .int isCut, .ref mo_isThere, .ref mo_taints, .ref mo_known, .int taint, .ref mo_knows, .int isOther, .int at_, .int isFaulty, .int orders, .ref mo_letters, .ref mo_numbers, .long hash]), (mo_now, aI G 104 now), (mo_vars, aI G 6 vars), (mo_sights, aI G 15616 sights)]) C (c7_partOf hq27) gX7_stepsOn_X7_partOf (by decide +kernel) rfl rfl rfl rfl rfl rfl ⟨by decide, by decide⟩ rfl [0, 1] [2, 3] [2, 3, 0, 1] rfl (by decide) rfl (by decide) (by decide) rfl (by decide) (Nat.le_of_ble_eq_true rfl) ⟨Nat.zero_le _, Nat.zero_le _⟩ rfl dX7_stepsOn_3 ?_
  refine g_istore_n (lv' := [(0, .ref mo), (1, .int v0), (2, .int v1), (3, .int q27)]) C dX7_stepsOn_6 rfl (by decide) [1, 2, 3, 0] rfl ?_
  refine g_aload_n C dX7_stepsOn_7 rfl 0 rfl ?_
  refine g_iload_n C dX7_stepsOn_8 rfl 2 rfl ?_
  refine g_iconst (v := (1 : Int32)) C dX7_stepsOn_9 (by decide +kernel) ?_
  obtain ⟨q28, hq28, hf⟩ := bs hf
  refine g_callVi (n := 2) (As := [.int v1, .int (1 : Int32)]) (rest := []) (wc := [(mo, oB 7 [.ref mo_now, .ref mo_aside, .ref mo_past, .int states, .ref mo_refusals, .ref mo_text, .int length, .ref mo_vars, .ref mo_sights, .int many, .int steps, .int isCut, .ref mo_isThere, .ref mo_taints, .ref mo_known, .int taint, .ref mo_knows, .int isOther, .int at_, .int isFaulty, .int orders, .ref mo_letters, .ref mo_numbers, .long hash]), (mo_now, aI G 104 now)]) (w1 := [(mo, oB 7 [.ref mo_now, .ref mo_aside, .ref mo_past, .int states, .ref mo_refusals, .ref mo_text, .int length, .ref mo_vars, .ref mo_sights, .int many, .int steps, .int isCut, .ref mo_isThere, .ref mo_taints, .ref mo_known, .int taint, .ref mo_knows, .int isOther, .int at_, .int isFaulty, .int orders, .ref mo_letters, .ref mo_numbers, .long hash]), (mo_now, aI G 104 now)]) (wr := [(mo_vars, aI G 6 vars), (mo_sights, aI G 15616 sights)]) (WS' := [(mo, oB 7 [.ref mo_now, .ref mo_aside, .ref mo_past, .int states, .ref mo_refusals, .ref mo_text, .int length, .ref mo_vars, .ref mo_sights, .int many, .int steps, .int isCut, .ref mo_isThere, .ref mo_taints, .ref mo_known, .int taint, .ref mo_knows, .int isOther, .int at_, .int isFaulty, .int orders, .ref mo_letters, .ref mo_numbers, .long hash]), (mo_now, aI G 104 now), (mo_vars, aI G 6 vars), (mo_sights, aI G 15616 sights)]) C (c7_partOf hq28) gX7_stepsOn_X7_partOf (by decide +kernel) rfl rfl rfl rfl rfl rfl ⟨by decide, by decide⟩ rfl [0, 1] [2, 3] [2, 3, 0, 1] rfl (by decide) rfl (by decide) (by decide) rfl (by decide) (Nat.le_of_ble_eq_true rfl) ⟨Nat.zero_le _, Nat.zero_le _⟩ rfl dX7_stepsOn_10 ?_
  refine g_istore (lv' := [(0, .ref mo), (1, .int v0), (2, .int v1), (3, .int q27), (4, .int q28)]) C dX7_stepsOn_13 (by decide) [1, 2, 3, 4, 0] rfl ?_
  refine g_aload_n C dX7_stepsOn_15 rfl 0 rfl ?_
  refine g_iload_n C dX7_stepsOn_16 rfl 2 rfl ?_
  refine g_iconst (v := (2 : Int32)) C dX7_stepsOn_17 (by decide +kernel) ?_
  obtain ⟨q29, hq29, hf⟩ := bs hf
  refine g_callVi (n := 2) (As := [.int v1, .int (2 : Int32)]) (rest := []) (wc := [(mo, oB 7 [.ref mo_now, .ref mo_aside, .ref mo_past, .int states, .ref mo_refusals, .ref mo_text, .int length, .ref mo_vars, .ref mo_sights, .int many, .int steps, .int isCut, .ref mo_isThere, .ref mo_taints, .ref mo_known, .int taint, .ref mo_knows, .int isOther, .int at_, .int isFaulty, .int orders, .ref mo_letters, .ref mo_numbers, .long hash]), (mo_now, aI G 104 now)]) (w1 := [(mo, oB 7 [.ref mo_now, .ref mo_aside, .ref mo_past, .int states, .ref mo_refusals, .ref mo_text, .int length, .ref mo_vars, .ref mo_sights, .int many, .int steps, .int isCut, .ref mo_isThere, .ref mo_taints, .ref mo_known, .int taint, .ref mo_knows, .int isOther, .int at_, .int isFaulty, .int orders, .ref mo_letters, .ref mo_numbers, .long hash]), (mo_now, aI G 104 now)]) (wr := [(mo_vars, aI G 6 vars), (mo_sights, aI G 15616 sights)]) (WS' := [(mo, oB 7 [.ref mo_now, .ref mo_aside, .ref mo_past, .int states, .ref mo_refusals, .ref mo_text, .int length, .ref mo_vars, .ref mo_sights, .int many, .int steps, .int isCut, .ref mo_isThere, .ref mo_taints, .ref mo_known, .int taint, .ref mo_knows, .int isOther, .int at_, .int isFaulty, .int orders, .ref mo_letters, .ref mo_numbers, .long hash]), (mo_now, aI G 104 now), (mo_vars, aI G 6 vars), (mo_sights, aI G 15616 sights)]) C (c7_partOf hq29) gX7_stepsOn_X7_partOf (by decide +kernel) rfl rfl rfl rfl rfl rfl ⟨by decide, by decide⟩ rfl [0, 1] [2, 3] [2, 3, 0, 1] rfl (by decide) rfl (by decide) (by decide) rfl (by decide) (Nat.le_of_ble_eq_true rfl) ⟨Nat.zero_le _, Nat.zero_le _⟩ rfl dX7_stepsOn_18 ?_
  refine g_istore (lv' := [(0, .ref mo), (1, .int v0), (2, .int v1), (3, .int q27), (4, .int q28), (5, .int q29)]) C dX7_stepsOn_21 (by decide) [1, 2, 3, 4, 5, 0] rfl ?_
  exact k7_stepsOn_23 C hR hf

-- X7_goes
def f7_goes_94b (now : Nat → Int32) (k94 : (Nat → Int32) × (Nat → Int32) × Int32 × Int32 × Int32 × Int32 × Int32 × Int32 × Int32 → Option ((Nat → Int32) × (Nat → Int32) × Int32 × Int32 × Int32)) (vars : Nat → Int32) (sights : Nat → Int32) (many : Int32) (steps : Int32) (isCut : Int32) (x1 : Int32) (x2 : Int32) (x3 : Int32) (x4 : Int32) : Option ((Nat → Int32) × (Nat → Int32) × Int32 × Int32 × Int32) :=
  if (61 : Int32) ≤ x4 then
    (some (vars, sights, many, steps, isCut))
    else (ck (inb (((61 : Int32) * x1) + x4) 15616) <|
    k94 (vars, (upd sights (((61 : Int32) * x1) + x4).toNatClampNeg (-1 : Int32)), many, steps, isCut, x1, x2, x3, (x4 + (1 : Int32))))
def f7_goes_94 (now : Nat → Int32) (n : Nat) (s : (Nat → Int32) × (Nat → Int32) × Int32 × Int32 × Int32 × Int32 × Int32 × Int32 × Int32) : Option ((Nat → Int32) × (Nat → Int32) × Int32 × Int32 × Int32) := itf (fun k s => f7_goes_94b now k s.1 s.2.1 s.2.2.1 s.2.2.2.1 s.2.2.2.2.1 s.2.2.2.2.2.1 s.2.2.2.2.2.2.1 s.2.2.2.2.2.2.2.1 s.2.2.2.2.2.2.2.2) n s
def f7_goes_72 (now : Nat → Int32) (vars : Nat → Int32) (sights : Nat → Int32) (many : Int32) (steps : Int32) (isCut : Int32) (x1 : Int32) (x2 : Int32) (x3 : Int32) (y1 : Int32) : Option ((Nat → Int32) × (Nat → Int32) × Int32 × Int32 × Int32) :=
  ck (isb y1) <|
    (f7_sees sights many x1 ((600 : Int32) + steps)).bind <| fun q4 =>
    f7_goes_94 now 1000 (vars, q4.1, q4.2, steps, y1, x1, x2, x3, q4.2)
def f7_goes_56 (now : Nat → Int32) (vars : Nat → Int32) (sights : Nat → Int32) (many : Int32) (steps : Int32) (isCut : Int32) (x1 : Int32) (x2 : Int32) (x3 : Int32) : Option ((Nat → Int32) × (Nat → Int32) × Int32 × Int32 × Int32) :=
  if (now 0) ≤ x3 then
    (f7_goes_72 now vars sights many steps isCut x1 x2 x3 (0 : Int32))
    else (f7_goes_72 now vars sights many steps isCut x1 x2 x3 (1 : Int32))
def f7_goes_17b (now : Nat → Int32) (k17 : (Nat → Int32) × (Nat → Int32) × Int32 × Int32 × Int32 × Int32 × Int32 × Int32 → Option ((Nat → Int32) × (Nat → Int32) × Int32 × Int32 × Int32)) (vars : Nat → Int32) (sights : Nat → Int32) (many : Int32) (steps : Int32) (isCut : Int32) (x1 : Int32) (x2 : Int32) (x3 : Int32) : Option ((Nat → Int32) × (Nat → Int32) × Int32 × Int32 × Int32) :=
  if (now 0) ≤ x3 then
    (f7_goes_56 now vars sights many steps isCut x1 x2 x3)
    else (if (60 : Int32) ≤ steps then
    (f7_goes_56 now vars sights many steps isCut x1 x2 x3)
    else ((f7_stepsOn now vars sights many x1 x3).bind <| fun q8 =>
    k17 (q8.2.1, q8.2.2.1, q8.2.2.2, (steps + (1 : Int32)), isCut, x1, x2, q8.1)))
def f7_goes_17 (now : Nat → Int32) (n : Nat) (s : (Nat → Int32) × (Nat → Int32) × Int32 × Int32 × Int32 × Int32 × Int32 × Int32) : Option ((Nat → Int32) × (Nat → Int32) × Int32 × Int32 × Int32) := itf (fun k s => f7_goes_17b now k s.1 s.2.1 s.2.2.1 s.2.2.2.1 s.2.2.2.2.1 s.2.2.2.2.2.1 s.2.2.2.2.2.2.1 s.2.2.2.2.2.2.2) n s
def f7_goes (now : Nat → Int32) (vars : Nat → Int32) (sights : Nat → Int32) (many : Int32) (steps : Int32) (isCut : Int32) (v0 : Int32) (v1 : Int32) : Option ((Nat → Int32) × (Nat → Int32) × Int32 × Int32 × Int32) :=
  (f7_begins now vars v1).bind <| fun q9 =>
    f7_goes_17 now 1000 (q9, sights, (0 : Int32), (0 : Int32), isCut, v0, v1, (0 : Int32))
def rm7_goes : Room := { frames := 3, cells := 0, slots := 0, locals := 70 }
theorem hm7_goes_0 : ∀ w ∈ u_ws RX7 TX7 24, w ∈ wsX7_goes := by decide +kernel
theorem hm7_goes_1 : Cond.fieldLink RX7 28 "SecretStepsModel" "sights" "[I" ∈ wsX7_goes := by decide +kernel
theorem hm7_goes_2 : Cond.fieldLink RX7 148 "SecretStepsModel" "isCut" "Z" ∈ wsX7_goes := by decide +kernel
theorem hm7_goes_3 : Cond.fieldLink RX7 142 "SecretStepsModel" "steps" "I" ∈ wsX7_goes := by decide +kernel
theorem hm7_goes_4 : Cond.fieldLink RX7 121 "SecretStepsModel" "many" "I" ∈ wsX7_goes := by decide +kernel
theorem hm7_goes_5 : Cond.fieldLink RX7 7 "SecretStepsModel" "now" "[I" ∈ wsX7_goes := by decide +kernel
set_option maxHeartbeats 4000000 in
set_option maxRecDepth 100000 in
theorem k7_goes_94b {p : Program} {l : Launch} {e : Env} {s : State} {m : MethodId} {args : Array Value} {below : List Frame} {meth : Method} {c : Code} {G : gG} {A : Nat → Prop} {Q : State → Prop} {mo mo_now mo_aside mo_past mo_refusals mo_text mo_vars mo_sights mo_isThere mo_taints mo_known mo_knows mo_letters mo_numbers : Nat} (C : CX p s m args meth c G A cX7_goes 5 RX7 wsX7_goes) {states : Int32} {length : Int32} {taint : Int32} {isOther : Int32} {at_ : Int32} {isFaulty : Int32} {orders : Int32} {hash : Int64} {now : Nat → Int32} {k94 : (Nat → Int32) × (Nat → Int32) × Int32 × Int32 × Int32 × Int32 × Int32 × Int32 × Int32 → Option ((Nat → Int32) × (Nat → Int32) × Int32 × Int32 × Int32)} {vars : Nat → Int32} {sights : Nat → Int32} {many : Int32} {steps : Int32} {isCut : Int32} {x1 : Int32} {x2 : Int32} {x3 : Int32} {x4 : Int32} {res : (Nat → Int32) × (Nat → Int32) × Int32 × Int32 × Int32} (hR : ∀ (lv : List (Nat × Value)) (pc : Nat), decode cX7_goes pc = .ok (.return_, 1) → GG p l e rm7_goes s m args below meth c G A 5 0 0 Q [(mo, oB 7 [.ref mo_now, .ref mo_aside, .ref mo_past, .int states, .ref mo_refusals, .ref mo_text, .int length, .ref mo_vars, .ref mo_sights, .int res.2.2.1, .int res.2.2.2.1, .int res.2.2.2.2, .ref mo_isThere, .ref mo_taints, .ref mo_known, .int taint, .ref mo_knows, .int isOther, .int at_, .int isFaulty, .int orders, .ref mo_letters, .ref mo_numbers, .long hash]), (mo_now, aI G 104 now), (mo_vars, aI G 6 res.1), (mo_sights, aI G 15616 res.2.1)] lv pc [])
    (hk94 : ∀ s', k94 s' = some res → GG p l e rm7_goes s m args below meth c G A 5 0 0 Q [(mo, oB 7 [.ref mo_now, .ref mo_aside, .ref mo_past, .int states, .ref mo_refusals, .ref mo_text, .int length, .ref mo_vars, .ref mo_sights, .int s'.2.2.1, .int s'.2.2.2.1, .int s'.2.2.2.2.1, .ref mo_isThere, .ref mo_taints, .ref mo_known, .int taint, .ref mo_knows, .int isOther, .int at_, .int isFaulty, .int orders, .ref mo_letters, .ref mo_numbers, .long hash]), (mo_now, aI G 104 now), (mo_vars, aI G 6 s'.1), (mo_sights, aI G 15616 s'.2.1)] [(0, .ref mo), (1, .int s'.2.2.2.2.2.1), (2, .int s'.2.2.2.2.2.2.1), (3, .int s'.2.2.2.2.2.2.2.1), (4, .int s'.2.2.2.2.2.2.2.2)] 94 [])
    (hf : f7_goes_94b now k94 vars sights many steps isCut x1 x2 x3 x4 = some res) : GG p l e rm7_goes s m args below meth c G A 5 0 0 Q [(mo, oB 7 [.ref mo_now, .ref mo_aside, .ref mo_past, .int states, .ref mo_refusals, .ref mo_text, .int length, .ref mo_vars, .ref mo_sights, .int many, .int steps, .int isCut, .ref mo_isThere, .ref mo_taints, .ref mo_known, .int taint, .ref mo_knows, .int isOther, .int at_, .int isFaulty, .int orders, .ref mo_letters, .ref mo_numbers, .long hash]), (mo_now, aI G 104 now), (mo_vars, aI G 6 vars), (mo_sights, aI G 15616 sights)] [(0, .ref mo), (1, .int x1), (2, .int x2), (3, .int x3), (4, .int x4)] 94 [] := by
  unfold f7_goes_94b at hf
  refine g_iload C dX7_goes_94 4 rfl ?_
  refine g_bipush (v := (61 : Int32)) C dX7_goes_96 (by decide +kernel) ?_
  refine g_icmp_ge (tgt := 120) C dX7_goes_98 (by decide) (fun c1 => ?_) (fun c1 => ?_)
  · replace hf := ite_t c1 hf
    obtain rfl := Option.some.inj hf
    exact hR _ _ dX7_goes_120
  · replace hf := ite_f c1 hf
    refine g_aload_n C dX7_goes_101 rfl 0 rfl ?_
    refine g_get (C0 := RX7) (T := TX7) (N := 24) (ci := 7) (v := .ref mo_sights) C hm7_goes_0 0 rfl rfl 8 (by decide) hm7_goes_1 rfl dX7_goes_102 ?_
    refine g_bipush (v := (61 : Int32)) C dX7_goes_105 (by decide +kernel) ?_
    refine g_iload_n C dX7_goes_107 rfl 1 rfl ?_
    refine g_imul C dX7_goes_108 ?_
    refine g_iload C dX7_goes_109 4 rfl ?_
    refine g_iadd C dX7_goes_111 ?_
    refine g_iconst (v := (-1 : Int32)) C dX7_goes_112 (by decide +kernel) ?_
    obtain ⟨h2, hf⟩ := ck_some hf
    refine g_iast (n := 15616) (WS' := [(mo, oB 7 [.ref mo_now, .ref mo_aside, .ref mo_past, .int states, .ref mo_refusals, .ref mo_text, .int length, .ref mo_vars, .ref mo_sights, .int many, .int steps, .int isCut, .ref mo_isThere, .ref mo_taints, .ref mo_known, .int taint, .ref mo_knows, .int isOther, .int at_, .int isFaulty, .int orders, .ref mo_letters, .ref mo_numbers, .long hash]), (mo_now, aI G 104 now), (mo_vars, aI G 6 vars), (mo_sights, aI G 15616 (upd sights (((61 : Int32) * x1) + x4).toNatClampNeg (-1 : Int32)))]) C 3 rfl h2 rfl dX7_goes_113 rfl ?_
    refine g_iinc (v := (x4 + (1 : Int32))) (lv' := [(0, .ref mo), (1, .int x1), (2, .int x2), (3, .int x3), (4, .int (x4 + (1 : Int32)))]) C dX7_goes_114 4 rfl rfl (by decide) [1, 2, 3, 4, 0] rfl ?_
    refine g_goto (tgt := 94) C dX7_goes_117 (by decide) ?_
    exact hk94 _ hf
set_option maxHeartbeats 4000000 in
set_option maxRecDepth 100000 in
theorem k7_goes_94 {p : Program} {l : Launch} {e : Env} {s : State} {m : MethodId} {args : Array Value} {below : List Frame} {meth : Method} {c : Code} {G : gG} {A : Nat → Prop} {Q : State → Prop} {mo mo_now mo_aside mo_past mo_refusals mo_text mo_vars mo_sights mo_isThere mo_taints mo_known mo_knows mo_letters mo_numbers : Nat} (C : CX p s m args meth c G A cX7_goes 5 RX7 wsX7_goes) {states : Int32} {length : Int32} {taint : Int32} {isOther : Int32} {at_ : Int32} {isFaulty : Int32} {orders : Int32} {hash : Int64} {now : Nat → Int32} {res : (Nat → Int32) × (Nat → Int32) × Int32 × Int32 × Int32} (hR : ∀ (lv : List (Nat × Value)) (pc : Nat), decode cX7_goes pc = .ok (.return_, 1) → GG p l e rm7_goes s m args below meth c G A 5 0 0 Q [(mo, oB 7 [.ref mo_now, .ref mo_aside, .ref mo_past, .int states, .ref mo_refusals, .ref mo_text, .int length, .ref mo_vars, .ref mo_sights, .int res.2.2.1, .int res.2.2.2.1, .int res.2.2.2.2, .ref mo_isThere, .ref mo_taints, .ref mo_known, .int taint, .ref mo_knows, .int isOther, .int at_, .int isFaulty, .int orders, .ref mo_letters, .ref mo_numbers, .long hash]), (mo_now, aI G 104 now), (mo_vars, aI G 6 res.1), (mo_sights, aI G 15616 res.2.1)] lv pc []) : ∀ (n : Nat) (s1 : (Nat → Int32) × (Nat → Int32) × Int32 × Int32 × Int32 × Int32 × Int32 × Int32 × Int32), f7_goes_94 now n s1 = some res → GG p l e rm7_goes s m args below meth c G A 5 0 0 Q [(mo, oB 7 [.ref mo_now, .ref mo_aside, .ref mo_past, .int states, .ref mo_refusals, .ref mo_text, .int length, .ref mo_vars, .ref mo_sights, .int s1.2.2.1, .int s1.2.2.2.1, .int s1.2.2.2.2.1, .ref mo_isThere, .ref mo_taints, .ref mo_known, .int taint, .ref mo_knows, .int isOther, .int at_, .int isFaulty, .int orders, .ref mo_letters, .ref mo_numbers, .long hash]), (mo_now, aI G 104 now), (mo_vars, aI G 6 s1.1), (mo_sights, aI G 15616 s1.2.1)] [(0, .ref mo), (1, .int s1.2.2.2.2.2.1), (2, .int s1.2.2.2.2.2.2.1), (3, .int s1.2.2.2.2.2.2.2.1), (4, .int s1.2.2.2.2.2.2.2.2)] 94 [] :=
  itf_ind (fun k s1 ih hf => k7_goes_94b C hR ih hf)
set_option maxHeartbeats 4000000 in
set_option maxRecDepth 100000 in
theorem k7_goes_72 {p : Program} {l : Launch} {e : Env} {s : State} {m : MethodId} {args : Array Value} {below : List Frame} {meth : Method} {c : Code} {G : gG} {A : Nat → Prop} {Q : State → Prop} {mo mo_now mo_aside mo_past mo_refusals mo_text mo_vars mo_sights mo_isThere mo_taints mo_known mo_knows mo_letters mo_numbers : Nat} (C : CX p s m args meth c G A cX7_goes 5 RX7 wsX7_goes) {states : Int32} {length : Int32} {taint : Int32} {isOther : Int32} {at_ : Int32} {isFaulty : Int32} {orders : Int32} {hash : Int64} {now : Nat → Int32} {vars : Nat → Int32} {sights : Nat → Int32} {many : Int32} {steps : Int32} {isCut : Int32} {x1 : Int32} {x2 : Int32} {x3 : Int32} {y1 : Int32} {res : (Nat → Int32) × (Nat → Int32) × Int32 × Int32 × Int32} (hR : ∀ (lv : List (Nat × Value)) (pc : Nat), decode cX7_goes pc = .ok (.return_, 1) → GG p l e rm7_goes s m args below meth c G A 5 0 0 Q [(mo, oB 7 [.ref mo_now, .ref mo_aside, .ref mo_past, .int states, .ref mo_refusals, .ref mo_text, .int length, .ref mo_vars, .ref mo_sights, .int res.2.2.1, .int res.2.2.2.1, .int res.2.2.2.2, .ref mo_isThere, .ref mo_taints, .ref mo_known, .int taint, .ref mo_knows, .int isOther, .int at_, .int isFaulty, .int orders, .ref mo_letters, .ref mo_numbers, .long hash]), (mo_now, aI G 104 now), (mo_vars, aI G 6 res.1), (mo_sights, aI G 15616 res.2.1)] lv pc [])
    (hf : f7_goes_72 now vars sights many steps isCut x1 x2 x3 y1 = some res) : GG p l e rm7_goes s m args below meth c G A 5 0 0 Q [(mo, oB 7 [.ref mo_now, .ref mo_aside, .ref mo_past, .int states, .ref mo_refusals, .ref mo_text, .int length, .ref mo_vars, .ref mo_sights, .int many, .int steps, .int isCut, .ref mo_isThere, .ref mo_taints, .ref mo_known, .int taint, .ref mo_knows, .int isOther, .int at_, .int isFaulty, .int orders, .ref mo_letters, .ref mo_numbers, .long hash]), (mo_now, aI G 104 now), (mo_vars, aI G 6 vars), (mo_sights, aI G 15616 sights)] [(0, .ref mo), (1, .int x1), (2, .int x2), (3, .int x3)] 72 [.int y1, .ref mo] := by
  unfold f7_goes_72 at hf
  obtain ⟨h3, hf⟩ := ck_some hf
  refine g_put (C0 := RX7) (T := TX7) (N := 24) (ci := 7) (ty := .boolean) (WS' := [(mo, oB 7 [.ref mo_now, .ref mo_aside, .ref mo_past, .int states, .ref mo_refusals, .ref mo_text, .int length, .ref mo_vars, .ref mo_sights, .int many, .int steps, .int y1, .ref mo_isThere, .ref mo_taints, .ref mo_known, .int taint, .ref mo_knows, .int isOther, .int at_, .int isFaulty, .int orders, .ref mo_letters, .ref mo_numbers, .long hash]), (mo_now, aI G 104 now), (mo_vars, aI G 6 vars), (mo_sights, aI G 15616 sights)]) C hm7_goes_0 tyX7 tyX7_ok nmX7 0 rfl rfl 11 (by decide) hm7_goes_2 rfl rfl (isb_n h3) (isb_f h3) (Nat.le_of_ble_eq_true rfl) dX7_goes_72 rfl ?_
  refine g_aload_n C dX7_goes_75 rfl 0 rfl ?_
  refine g_iload_n C dX7_goes_76 rfl 1 rfl ?_
  refine g_sipush (v := (600 : Int32)) C dX7_goes_77 (by decide +kernel) ?_
  refine g_aload_n C dX7_goes_80 rfl 0 rfl ?_
  refine g_get (C0 := RX7) (T := TX7) (N := 24) (ci := 7) (v := .int steps) C hm7_goes_0 0 rfl rfl 10 (by decide) hm7_goes_3 rfl dX7_goes_81 ?_
  refine g_iadd C dX7_goes_84 ?_
  obtain ⟨q4, hq4, hf⟩ := bs hf
  refine g_callVv (n := 2) (As := [.int x1, .int ((600 : Int32) + steps)]) (rest := []) (wc := [(mo, oB 7 [.ref mo_now, .ref mo_aside, .ref mo_past, .int states, .ref mo_refusals, .ref mo_text, .int length, .ref mo_vars, .ref mo_sights, .int many, .int steps, .int y1, .ref mo_isThere, .ref mo_taints, .ref mo_known, .int taint, .ref mo_knows, .int isOther, .int at_, .int isFaulty, .int orders, .ref mo_letters, .ref mo_numbers, .long hash]), (mo_sights, aI G 15616 sights)]) (w1 := [(mo, oB 7 [.ref mo_now, .ref mo_aside, .ref mo_past, .int states, .ref mo_refusals, .ref mo_text, .int length, .ref mo_vars, .ref mo_sights, .int q4.2, .int steps, .int y1, .ref mo_isThere, .ref mo_taints, .ref mo_known, .int taint, .ref mo_knows, .int isOther, .int at_, .int isFaulty, .int orders, .ref mo_letters, .ref mo_numbers, .long hash]), (mo_sights, aI G 15616 q4.1)]) (wr := [(mo_now, aI G 104 now), (mo_vars, aI G 6 vars)]) (WS' := [(mo, oB 7 [.ref mo_now, .ref mo_aside, .ref mo_past, .int states, .ref mo_refusals, .ref mo_text, .int length, .ref mo_vars, .ref mo_sights, .int q4.2, .int steps, .int y1, .ref mo_isThere, .ref mo_taints, .ref mo_known, .int taint, .ref mo_knows, .int isOther, .int at_, .int isFaulty, .int orders, .ref mo_letters, .ref mo_numbers, .long hash]), (mo_now, aI G 104 now), (mo_vars, aI G 6 vars), (mo_sights, aI G 15616 q4.1)]) C (c7_sees hq4) gX7_goes_X7_sees (by decide +kernel) rfl rfl rfl rfl rfl rfl ⟨by decide, by decide⟩ rfl [0, 3] [1, 2] [2, 0, 1, 3] rfl (by decide) rfl (by decide) (by decide) rfl (by decide) (Nat.le_of_ble_eq_true rfl) ⟨Nat.zero_le _, Nat.zero_le _⟩ rfl dX7_goes_85 ?_
  refine g_aload_n C dX7_goes_88 rfl 0 rfl ?_
  refine g_get (C0 := RX7) (T := TX7) (N := 24) (ci := 7) (v := .int q4.2) C hm7_goes_0 0 rfl rfl 9 (by decide) hm7_goes_4 rfl dX7_goes_89 ?_
  refine g_istore (lv' := [(0, .ref mo), (1, .int x1), (2, .int x2), (3, .int x3), (4, .int q4.2)]) C dX7_goes_92 (by decide) [1, 2, 3, 4, 0] rfl ?_
  exact k7_goes_94 C hR _ _ hf
set_option maxHeartbeats 4000000 in
set_option maxRecDepth 100000 in
theorem k7_goes_56 {p : Program} {l : Launch} {e : Env} {s : State} {m : MethodId} {args : Array Value} {below : List Frame} {meth : Method} {c : Code} {G : gG} {A : Nat → Prop} {Q : State → Prop} {mo mo_now mo_aside mo_past mo_refusals mo_text mo_vars mo_sights mo_isThere mo_taints mo_known mo_knows mo_letters mo_numbers : Nat} (C : CX p s m args meth c G A cX7_goes 5 RX7 wsX7_goes) {states : Int32} {length : Int32} {taint : Int32} {isOther : Int32} {at_ : Int32} {isFaulty : Int32} {orders : Int32} {hash : Int64} {now : Nat → Int32} {vars : Nat → Int32} {sights : Nat → Int32} {many : Int32} {steps : Int32} {isCut : Int32} {x1 : Int32} {x2 : Int32} {x3 : Int32} {res : (Nat → Int32) × (Nat → Int32) × Int32 × Int32 × Int32} (hR : ∀ (lv : List (Nat × Value)) (pc : Nat), decode cX7_goes pc = .ok (.return_, 1) → GG p l e rm7_goes s m args below meth c G A 5 0 0 Q [(mo, oB 7 [.ref mo_now, .ref mo_aside, .ref mo_past, .int states, .ref mo_refusals, .ref mo_text, .int length, .ref mo_vars, .ref mo_sights, .int res.2.2.1, .int res.2.2.2.1, .int res.2.2.2.2, .ref mo_isThere, .ref mo_taints, .ref mo_known, .int taint, .ref mo_knows, .int isOther, .int at_, .int isFaulty, .int orders, .ref mo_letters, .ref mo_numbers, .long hash]), (mo_now, aI G 104 now), (mo_vars, aI G 6 res.1), (mo_sights, aI G 15616 res.2.1)] lv pc [])
    (hf : f7_goes_56 now vars sights many steps isCut x1 x2 x3 = some res) : GG p l e rm7_goes s m args below meth c G A 5 0 0 Q [(mo, oB 7 [.ref mo_now, .ref mo_aside, .ref mo_past, .int states, .ref mo_refusals, .ref mo_text, .int length, .ref mo_vars, .ref mo_sights, .int many, .int steps, .int isCut, .ref mo_isThere, .ref mo_taints, .ref mo_known, .int taint, .ref mo_knows, .int isOther, .int at_, .int isFaulty, .int orders, .ref mo_letters, .ref mo_numbers, .long hash]), (mo_now, aI G 104 now), (mo_vars, aI G 6 vars), (mo_sights, aI G 15616 sights)] [(0, .ref mo), (1, .int x1), (2, .int x2), (3, .int x3)] 56 [] := by
  unfold f7_goes_56 at hf
  refine g_aload_n C dX7_goes_56 rfl 0 rfl ?_
  refine g_iload_n C dX7_goes_57 rfl 3 rfl ?_
  refine g_aload_n C dX7_goes_58 rfl 0 rfl ?_
  refine g_get (C0 := RX7) (T := TX7) (N := 24) (ci := 7) (v := .ref mo_now) C hm7_goes_0 0 rfl rfl 0 (by decide) hm7_goes_5 rfl dX7_goes_59 ?_
  refine g_iconst (v := (0 : Int32)) C dX7_goes_62 (by decide +kernel) ?_
  refine g_iald (n := 104) (v := (now 0)) C 1 rfl (by decide +kernel) (by decide +kernel) rfl dX7_goes_63 ?_
  refine g_icmp_ge (tgt := 71) C dX7_goes_64 (by decide) (fun c5 => ?_) (fun c5 => ?_)
  · replace hf := ite_t c5 hf
    refine g_iconst (v := (0 : Int32)) C dX7_goes_71 (by decide +kernel) ?_
    exact k7_goes_72 C hR hf
  · replace hf := ite_f c5 hf
    refine g_iconst (v := (1 : Int32)) C dX7_goes_67 (by decide +kernel) ?_
    refine g_goto (tgt := 72) C dX7_goes_68 (by decide) ?_
    exact k7_goes_72 C hR hf
set_option maxHeartbeats 4000000 in
set_option maxRecDepth 100000 in
theorem k7_goes_17b {p : Program} {l : Launch} {e : Env} {s : State} {m : MethodId} {args : Array Value} {below : List Frame} {meth : Method} {c : Code} {G : gG} {A : Nat → Prop} {Q : State → Prop} {mo mo_now mo_aside mo_past mo_refusals mo_text mo_vars mo_sights mo_isThere mo_taints mo_known mo_knows mo_letters mo_numbers : Nat} (C : CX p s m args meth c G A cX7_goes 5 RX7 wsX7_goes) {states : Int32} {length : Int32} {taint : Int32} {isOther : Int32} {at_ : Int32} {isFaulty : Int32} {orders : Int32} {hash : Int64} {now : Nat → Int32} {k17 : (Nat → Int32) × (Nat → Int32) × Int32 × Int32 × Int32 × Int32 × Int32 × Int32 → Option ((Nat → Int32) × (Nat → Int32) × Int32 × Int32 × Int32)} {vars : Nat → Int32} {sights : Nat → Int32} {many : Int32} {steps : Int32} {isCut : Int32} {x1 : Int32} {x2 : Int32} {x3 : Int32} {res : (Nat → Int32) × (Nat → Int32) × Int32 × Int32 × Int32} (hR : ∀ (lv : List (Nat × Value)) (pc : Nat), decode cX7_goes pc = .ok (.return_, 1) → GG p l e rm7_goes s m args below meth c G A 5 0 0 Q [(mo, oB 7 [.ref mo_now, .ref mo_aside, .ref mo_past, .int states, .ref mo_refusals, .ref mo_text, .int length, .ref mo_vars, .ref mo_sights, .int res.2.2.1, .int res.2.2.2.1, .int res.2.2.2.2, .ref mo_isThere, .ref mo_taints, .ref mo_known, .int taint, .ref mo_knows, .int isOther, .int at_, .int isFaulty, .int orders, .ref mo_letters, .ref mo_numbers, .long hash]), (mo_now, aI G 104 now), (mo_vars, aI G 6 res.1), (mo_sights, aI G 15616 res.2.1)] lv pc [])
    (hk17 : ∀ s', k17 s' = some res → GG p l e rm7_goes s m args below meth c G A 5 0 0 Q [(mo, oB 7 [.ref mo_now, .ref mo_aside, .ref mo_past, .int states, .ref mo_refusals, .ref mo_text, .int length, .ref mo_vars, .ref mo_sights, .int s'.2.2.1, .int s'.2.2.2.1, .int s'.2.2.2.2.1, .ref mo_isThere, .ref mo_taints, .ref mo_known, .int taint, .ref mo_knows, .int isOther, .int at_, .int isFaulty, .int orders, .ref mo_letters, .ref mo_numbers, .long hash]), (mo_now, aI G 104 now), (mo_vars, aI G 6 s'.1), (mo_sights, aI G 15616 s'.2.1)] [(0, .ref mo), (1, .int s'.2.2.2.2.2.1), (2, .int s'.2.2.2.2.2.2.1), (3, .int s'.2.2.2.2.2.2.2)] 17 [])
    (hf : f7_goes_17b now k17 vars sights many steps isCut x1 x2 x3 = some res) : GG p l e rm7_goes s m args below meth c G A 5 0 0 Q [(mo, oB 7 [.ref mo_now, .ref mo_aside, .ref mo_past, .int states, .ref mo_refusals, .ref mo_text, .int length, .ref mo_vars, .ref mo_sights, .int many, .int steps, .int isCut, .ref mo_isThere, .ref mo_taints, .ref mo_known, .int taint, .ref mo_knows, .int isOther, .int at_, .int isFaulty, .int orders, .ref mo_letters, .ref mo_numbers, .long hash]), (mo_now, aI G 104 now), (mo_vars, aI G 6 vars), (mo_sights, aI G 15616 sights)] [(0, .ref mo), (1, .int x1), (2, .int x2), (3, .int x3)] 17 [] := by
  unfold f7_goes_17b at hf
  refine g_iload_n C dX7_goes_17 rfl 3 rfl ?_
  refine g_aload_n C dX7_goes_18 rfl 0 rfl ?_
  refine g_get (C0 := RX7) (T := TX7) (N := 24) (ci := 7) (v := .ref mo_now) C hm7_goes_0 0 rfl rfl 0 (by decide) hm7_goes_5 rfl dX7_goes_19 ?_
  refine g_iconst (v := (0 : Int32)) C dX7_goes_22 (by decide +kernel) ?_
  refine g_iald (n := 104) (v := (now 0)) C 1 rfl (by decide +kernel) (by decide +kernel) rfl dX7_goes_23 ?_
  refine g_icmp_ge (tgt := 56) C dX7_goes_24 (by decide) (fun c6 => ?_) (fun c6 => ?_)
  · replace hf := ite_t c6 hf
    exact k7_goes_56 C hR hf
  · replace hf := ite_f c6 hf
    refine g_aload_n C dX7_goes_27 rfl 0 rfl ?_
    refine g_get (C0 := RX7) (T := TX7) (N := 24) (ci := 7) (v := .int steps) C hm7_goes_0 0 rfl rfl 10 (by decide) hm7_goes_3 rfl dX7_goes_28 ?_
    refine g_bipush (v := (60 : Int32)) C dX7_goes_31 (by decide +kernel) ?_
    refine g_icmp_ge (tgt := 56) C dX7_goes_33 (by decide) (fun c7 => ?_) (fun c7 => ?_)
    · replace hf := ite_t c7 hf
      exact k7_goes_56 C hR hf
    · replace hf := ite_f c7 hf
      refine g_aload_n C dX7_goes_36 rfl 0 rfl ?_
      refine g_iload_n C dX7_goes_37 rfl 1 rfl ?_
      refine g_iload_n C dX7_goes_38 rfl 3 rfl ?_
      obtain ⟨q8, hq8, hf⟩ := bs hf
      refine g_callVi (n := 2) (As := [.int x1, .int x3]) (rest := []) (wc := [(mo, oB 7 [.ref mo_now, .ref mo_aside, .ref mo_past, .int states, .ref mo_refusals, .ref mo_text, .int length, .ref mo_vars, .ref mo_sights, .int many, .int steps, .int isCut, .ref mo_isThere, .ref mo_taints, .ref mo_known, .int taint, .ref mo_knows, .int isOther, .int at_, .int isFaulty, .int orders, .ref mo_letters, .ref mo_numbers, .long hash]), (mo_now, aI G 104 now), (mo_vars, aI G 6 vars), (mo_sights, aI G 15616 sights)]) (w1 := [(mo, oB 7 [.ref mo_now, .ref mo_aside, .ref mo_past, .int states, .ref mo_refusals, .ref mo_text, .int length, .ref mo_vars, .ref mo_sights, .int q8.2.2.2, .int steps, .int isCut, .ref mo_isThere, .ref mo_taints, .ref mo_known, .int taint, .ref mo_knows, .int isOther, .int at_, .int isFaulty, .int orders, .ref mo_letters, .ref mo_numbers, .long hash]), (mo_now, aI G 104 now), (mo_vars, aI G 6 q8.2.1), (mo_sights, aI G 15616 q8.2.2.1)]) (wr := []) (WS' := [(mo, oB 7 [.ref mo_now, .ref mo_aside, .ref mo_past, .int states, .ref mo_refusals, .ref mo_text, .int length, .ref mo_vars, .ref mo_sights, .int q8.2.2.2, .int steps, .int isCut, .ref mo_isThere, .ref mo_taints, .ref mo_known, .int taint, .ref mo_knows, .int isOther, .int at_, .int isFaulty, .int orders, .ref mo_letters, .ref mo_numbers, .long hash]), (mo_now, aI G 104 now), (mo_vars, aI G 6 q8.2.1), (mo_sights, aI G 15616 q8.2.2.1)]) C (c7_stepsOn hq8) gX7_goes_X7_stepsOn (by decide +kernel) rfl rfl rfl rfl rfl rfl ⟨by decide, by decide⟩ rfl [0, 1, 2, 3] [] [0, 1, 2, 3] rfl (by decide) rfl (by decide) (by decide) rfl (by decide) (Nat.le_of_ble_eq_true rfl) ⟨Nat.zero_le _, Nat.zero_le _⟩ rfl dX7_goes_39 ?_
      refine g_istore_n (lv' := [(0, .ref mo), (1, .int x1), (2, .int x2), (3, .int q8.1)]) C dX7_goes_42 rfl (by decide) [1, 2, 3, 0] rfl ?_
      refine g_aload_n C dX7_goes_43 rfl 0 rfl ?_
      refine g_dup C dX7_goes_44 rfl ?_
      refine g_get (C0 := RX7) (T := TX7) (N := 24) (ci := 7) (v := .int steps) C hm7_goes_0 0 rfl rfl 10 (by decide) hm7_goes_3 rfl dX7_goes_45 ?_
      refine g_iconst (v := (1 : Int32)) C dX7_goes_48 (by decide +kernel) ?_
      refine g_iadd C dX7_goes_49 ?_
      refine g_put (C0 := RX7) (T := TX7) (N := 24) (ci := 7) (ty := .int) (WS' := [(mo, oB 7 [.ref mo_now, .ref mo_aside, .ref mo_past, .int states, .ref mo_refusals, .ref mo_text, .int length, .ref mo_vars, .ref mo_sights, .int q8.2.2.2, .int (steps + (1 : Int32)), .int isCut, .ref mo_isThere, .ref mo_taints, .ref mo_known, .int taint, .ref mo_knows, .int isOther, .int at_, .int isFaulty, .int orders, .ref mo_letters, .ref mo_numbers, .long hash]), (mo_now, aI G 104 now), (mo_vars, aI G 6 q8.2.1), (mo_sights, aI G 15616 q8.2.2.1)]) C hm7_goes_0 tyX7 tyX7_ok nmX7 0 rfl rfl 10 (by decide) hm7_goes_3 rfl rfl rfl rfl (Nat.le_of_ble_eq_true rfl) dX7_goes_50 rfl ?_
      refine g_goto (tgt := 17) C dX7_goes_53 (by decide) ?_
      exact hk17 _ hf
set_option maxHeartbeats 4000000 in
set_option maxRecDepth 100000 in
theorem k7_goes_17 {p : Program} {l : Launch} {e : Env} {s : State} {m : MethodId} {args : Array Value} {below : List Frame} {meth : Method} {c : Code} {G : gG} {A : Nat → Prop} {Q : State → Prop} {mo mo_now mo_aside mo_past mo_refusals mo_text mo_vars mo_sights mo_isThere mo_taints mo_known mo_knows mo_letters mo_numbers : Nat} (C : CX p s m args meth c G A cX7_goes 5 RX7 wsX7_goes) {states : Int32} {length : Int32} {taint : Int32} {isOther : Int32} {at_ : Int32} {isFaulty : Int32} {orders : Int32} {hash : Int64} {now : Nat → Int32} {res : (Nat → Int32) × (Nat → Int32) × Int32 × Int32 × Int32} (hR : ∀ (lv : List (Nat × Value)) (pc : Nat), decode cX7_goes pc = .ok (.return_, 1) → GG p l e rm7_goes s m args below meth c G A 5 0 0 Q [(mo, oB 7 [.ref mo_now, .ref mo_aside, .ref mo_past, .int states, .ref mo_refusals, .ref mo_text, .int length, .ref mo_vars, .ref mo_sights, .int res.2.2.1, .int res.2.2.2.1, .int res.2.2.2.2, .ref mo_isThere, .ref mo_taints, .ref mo_known, .int taint, .ref mo_knows, .int isOther, .int at_, .int isFaulty, .int orders, .ref mo_letters, .ref mo_numbers, .long hash]), (mo_now, aI G 104 now), (mo_vars, aI G 6 res.1), (mo_sights, aI G 15616 res.2.1)] lv pc []) : ∀ (n : Nat) (s1 : (Nat → Int32) × (Nat → Int32) × Int32 × Int32 × Int32 × Int32 × Int32 × Int32), f7_goes_17 now n s1 = some res → GG p l e rm7_goes s m args below meth c G A 5 0 0 Q [(mo, oB 7 [.ref mo_now, .ref mo_aside, .ref mo_past, .int states, .ref mo_refusals, .ref mo_text, .int length, .ref mo_vars, .ref mo_sights, .int s1.2.2.1, .int s1.2.2.2.1, .int s1.2.2.2.2.1, .ref mo_isThere, .ref mo_taints, .ref mo_known, .int taint, .ref mo_knows, .int isOther, .int at_, .int isFaulty, .int orders, .ref mo_letters, .ref mo_numbers, .long hash]), (mo_now, aI G 104 now), (mo_vars, aI G 6 s1.1), (mo_sights, aI G 15616 s1.2.1)] [(0, .ref mo), (1, .int s1.2.2.2.2.2.1), (2, .int s1.2.2.2.2.2.2.1), (3, .int s1.2.2.2.2.2.2.2)] 17 [] :=
  itf_ind (fun k s1 ih hf => k7_goes_17b C hR ih hf)
set_option maxHeartbeats 4000000 in
set_option maxRecDepth 100000 in
theorem c7_goes {l : Launch} {G : gG} {mo mo_now mo_aside mo_past mo_refusals mo_text mo_vars mo_sights mo_isThere mo_taints mo_known mo_knows mo_letters mo_numbers : Nat} {now : Nat → Int32} {states : Int32} {length : Int32} {vars : Nat → Int32} {sights : Nat → Int32} {many : Int32} {steps : Int32} {isCut : Int32} {taint : Int32} {isOther : Int32} {at_ : Int32} {isFaulty : Int32} {orders : Int32} {hash : Int64} {v0 : Int32} {v1 : Int32} {res : (Nat → Int32) × (Nat → Int32) × Int32 × Int32 × Int32} (hf : f7_goes now vars sights many steps isCut v0 v1 = some res) : MV l yX7_goes wsX7_goes rm7_goes G [.ref mo, .int v0, .int v1] [(mo, oB 7 [.ref mo_now, .ref mo_aside, .ref mo_past, .int states, .ref mo_refusals, .ref mo_text, .int length, .ref mo_vars, .ref mo_sights, .int many, .int steps, .int isCut, .ref mo_isThere, .ref mo_taints, .ref mo_known, .int taint, .ref mo_knows, .int isOther, .int at_, .int isFaulty, .int orders, .ref mo_letters, .ref mo_numbers, .long hash]), (mo_now, aI G 104 now), (mo_vars, aI G 6 vars), (mo_sights, aI G 15616 sights)] [(mo, oB 7 [.ref mo_now, .ref mo_aside, .ref mo_past, .int states, .ref mo_refusals, .ref mo_text, .int length, .ref mo_vars, .ref mo_sights, .int res.2.2.1, .int res.2.2.2.1, .int res.2.2.2.2, .ref mo_isThere, .ref mo_taints, .ref mo_known, .int taint, .ref mo_knows, .int isOther, .int at_, .int isFaulty, .int orders, .ref mo_letters, .ref mo_numbers, .long hash]), (mo_now, aI G 104 now), (mo_vars, aI G 6 res.1), (mo_sights, aI G 15616 res.2.1)] := by
  refine MV_of (cc := cX7_goes) (nL := 5) (lv := [(0, .ref mo), (1, .int v0), (2, .int v1)]) (by decide +kernel) rfl (Nat.le_of_ble_eq_true rfl) rfl ?_
  intro p e s m args below meth c A Q C hR
  unfold f7_goes at hf
  refine g_aload_n C dX7_goes_0 rfl 0 rfl ?_
  refine g_iload_n C dX7_goes_1 rfl 2 rfl ?_
  obtain ⟨q9, hq9, hf⟩ := bs hf
  refine g_callVv (n := 1) (As := [.int v1]) (rest := []) (wc := [(mo, oB 7 [.ref mo_now, .ref mo_aside, .ref mo_past, .int states, .ref mo_refusals, .ref mo_text, .int length, .ref mo_vars, .ref mo_sights, .int many, .int steps, .int isCut, .ref mo_isThere, .ref mo_taints, .ref mo_known, .int taint, .ref mo_knows, .int isOther, .int at_, .int isFaulty, .int orders, .ref mo_letters, .ref mo_numbers, .long hash]), (mo_now, aI G 104 now), (mo_vars, aI G 6 vars)]) (w1 := [(mo, oB 7 [.ref mo_now, .ref mo_aside, .ref mo_past, .int states, .ref mo_refusals, .ref mo_text, .int length, .ref mo_vars, .ref mo_sights, .int many, .int steps, .int isCut, .ref mo_isThere, .ref mo_taints, .ref mo_known, .int taint, .ref mo_knows, .int isOther, .int at_, .int isFaulty, .int orders, .ref mo_letters, .ref mo_numbers, .long hash]), (mo_now, aI G 104 now), (mo_vars, aI G 6 q9)]) (wr := [(mo_sights, aI G 15616 sights)]) (WS' := [(mo, oB 7 [.ref mo_now, .ref mo_aside, .ref mo_past, .int states, .ref mo_refusals, .ref mo_text, .int length, .ref mo_vars, .ref mo_sights, .int many, .int steps, .int isCut, .ref mo_isThere, .ref mo_taints, .ref mo_known, .int taint, .ref mo_knows, .int isOther, .int at_, .int isFaulty, .int orders, .ref mo_letters, .ref mo_numbers, .long hash]), (mo_now, aI G 104 now), (mo_vars, aI G 6 q9), (mo_sights, aI G 15616 sights)]) C (c7_begins hq9) gX7_goes_X7_begins (by decide +kernel) rfl rfl rfl rfl rfl rfl ⟨by decide, by decide⟩ rfl [0, 1, 2] [3] [1, 2, 3, 0] rfl (by decide) rfl (by decide) (by decide) rfl (by decide) (Nat.le_of_ble_eq_true rfl) ⟨Nat.zero_le _, Nat.zero_le _⟩ rfl dX7_goes_2 ?_
  refine g_aload_n C dX7_goes_5 rfl 0 rfl ?_
  refine g_iconst (v := (0 : Int32)) C dX7_goes_6 (by decide +kernel) ?_
  refine g_put (C0 := RX7) (T := TX7) (N := 24) (ci := 7) (ty := .int) (WS' := [(mo, oB 7 [.ref mo_now, .ref mo_aside, .ref mo_past, .int states, .ref mo_refusals, .ref mo_text, .int length, .ref mo_vars, .ref mo_sights, .int (0 : Int32), .int steps, .int isCut, .ref mo_isThere, .ref mo_taints, .ref mo_known, .int taint, .ref mo_knows, .int isOther, .int at_, .int isFaulty, .int orders, .ref mo_letters, .ref mo_numbers, .long hash]), (mo_now, aI G 104 now), (mo_vars, aI G 6 q9), (mo_sights, aI G 15616 sights)]) C hm7_goes_0 tyX7 tyX7_ok nmX7 0 rfl rfl 9 (by decide) hm7_goes_4 rfl rfl rfl rfl (Nat.le_of_ble_eq_true rfl) dX7_goes_7 rfl ?_
  refine g_aload_n C dX7_goes_10 rfl 0 rfl ?_
  refine g_iconst (v := (0 : Int32)) C dX7_goes_11 (by decide +kernel) ?_
  refine g_put (C0 := RX7) (T := TX7) (N := 24) (ci := 7) (ty := .int) (WS' := [(mo, oB 7 [.ref mo_now, .ref mo_aside, .ref mo_past, .int states, .ref mo_refusals, .ref mo_text, .int length, .ref mo_vars, .ref mo_sights, .int (0 : Int32), .int (0 : Int32), .int isCut, .ref mo_isThere, .ref mo_taints, .ref mo_known, .int taint, .ref mo_knows, .int isOther, .int at_, .int isFaulty, .int orders, .ref mo_letters, .ref mo_numbers, .long hash]), (mo_now, aI G 104 now), (mo_vars, aI G 6 q9), (mo_sights, aI G 15616 sights)]) C hm7_goes_0 tyX7 tyX7_ok nmX7 0 rfl rfl 10 (by decide) hm7_goes_3 rfl rfl rfl rfl (Nat.le_of_ble_eq_true rfl) dX7_goes_12 rfl ?_
  refine g_iconst (v := (0 : Int32)) C dX7_goes_15 (by decide +kernel) ?_
  refine g_istore_n (lv' := [(0, .ref mo), (1, .int v0), (2, .int v1), (3, .int (0 : Int32))]) C dX7_goes_16 rfl (by decide) [1, 2, 3, 0] rfl ?_
  exact k7_goes_17 C hR _ _ hf

-- X7_tellRun
def f7_tellRun (vars : Nat → Int32) (many : Int32) (steps : Int32) (isCut : Int32) (v0 : Int32) : Option (Int32) :=
  (if v0 = (0 : Int32) then
    (some steps)
    else (if v0 = (1 : Int32) then
    (if isCut = 0 then
    (some (0 : Int32))
    else (some (1 : Int32)))
    else (if v0 = (2 : Int32) then
    (some many)
    else (ck (inb (v0 - (3 : Int32)) 6) <|
    some (vars (v0 - (3 : Int32)).toNatClampNeg)))))
def rm7_tellRun : Room := { frames := 0, cells := 0, slots := 0, locals := 0 }
theorem hm7_tellRun_0 : ∀ w ∈ u_ws RX7 TX7 24, w ∈ wsX7_tellRun := by decide +kernel
theorem hm7_tellRun_1 : Cond.fieldLink RX7 142 "SecretStepsModel" "steps" "I" ∈ wsX7_tellRun := by decide +kernel
theorem hm7_tellRun_2 : Cond.fieldLink RX7 148 "SecretStepsModel" "isCut" "Z" ∈ wsX7_tellRun := by decide +kernel
theorem hm7_tellRun_3 : Cond.fieldLink RX7 121 "SecretStepsModel" "many" "I" ∈ wsX7_tellRun := by decide +kernel
theorem hm7_tellRun_4 : Cond.fieldLink RX7 25 "SecretStepsModel" "vars" "[I" ∈ wsX7_tellRun := by decide +kernel
set_option maxHeartbeats 4000000 in
set_option maxRecDepth 100000 in
theorem c7_tellRun {l : Launch} {G : gG} {mo mo_now mo_aside mo_past mo_refusals mo_text mo_vars mo_sights mo_isThere mo_taints mo_known mo_knows mo_letters mo_numbers : Nat} {states : Int32} {length : Int32} {vars : Nat → Int32} {many : Int32} {steps : Int32} {isCut : Int32} {taint : Int32} {isOther : Int32} {at_ : Int32} {isFaulty : Int32} {orders : Int32} {hash : Int64} {v0 : Int32} {res : Int32} (hf : f7_tellRun vars many steps isCut v0 = some res) : MI l yX7_tellRun wsX7_tellRun rm7_tellRun G [.ref mo, .int v0] [(mo, oB 7 [.ref mo_now, .ref mo_aside, .ref mo_past, .int states, .ref mo_refusals, .ref mo_text, .int length, .ref mo_vars, .ref mo_sights, .int many, .int steps, .int isCut, .ref mo_isThere, .ref mo_taints, .ref mo_known, .int taint, .ref mo_knows, .int isOther, .int at_, .int isFaulty, .int orders, .ref mo_letters, .ref mo_numbers, .long hash]), (mo_vars, aI G 6 vars)] (res) [(mo, oB 7 [.ref mo_now, .ref mo_aside, .ref mo_past, .int states, .ref mo_refusals, .ref mo_text, .int length, .ref mo_vars, .ref mo_sights, .int many, .int steps, .int isCut, .ref mo_isThere, .ref mo_taints, .ref mo_known, .int taint, .ref mo_knows, .int isOther, .int at_, .int isFaulty, .int orders, .ref mo_letters, .ref mo_numbers, .long hash]), (mo_vars, aI G 6 vars)] := by
  refine MI_of (res) (cc := cX7_tellRun) (nL := 2) (lv := [(0, .ref mo), (1, .int v0)]) (by decide +kernel) rfl (Nat.le_of_ble_eq_true rfl) rfl ?_
  intro p e s m args below meth c A Q C hR
  unfold f7_tellRun at hf
  refine g_iload_n C dX7_tellRun_0 rfl 1 rfl ?_
  by_cases c1 : v0 = (0 : Int32)
  · replace hf := ite_t c1 hf
    refine g_tableIn (off := 27) (tgt := 28) C dX7_tellRun_1 (by rw [c1]; decide +kernel) (by rw [c1]; decide +kernel) (by rw [c1]; decide +kernel) (by decide) ?_
    refine g_aload_n C dX7_tellRun_28 rfl 0 rfl ?_
    refine g_get (C0 := RX7) (T := TX7) (N := 24) (ci := 7) (v := .int steps) C hm7_tellRun_0 0 rfl rfl 10 (by decide) hm7_tellRun_1 rfl dX7_tellRun_29 ?_
    obtain rfl := Option.some.inj hf
    exact hR _ _ dX7_tellRun_32
  replace hf := ite_f c1 hf
  by_cases c2 : v0 = (1 : Int32)
  · replace hf := ite_t c2 hf
    refine g_tableIn (off := 32) (tgt := 33) C dX7_tellRun_1 (by rw [c2]; decide +kernel) (by rw [c2]; decide +kernel) (by rw [c2]; decide +kernel) (by decide) ?_
    refine g_aload_n C dX7_tellRun_33 rfl 0 rfl ?_
    refine g_get (C0 := RX7) (T := TX7) (N := 24) (ci := 7) (v := .int isCut) C hm7_tellRun_0 0 rfl rfl 11 (by decide) hm7_tellRun_2 rfl dX7_tellRun_34 ?_
    refine g_if_eq (tgt := 44) C dX7_tellRun_37 (by decide) (fun c3 => ?_) (fun c3 => ?_)
    · replace hf := ite_t c3 hf
      refine g_iconst (v := (0 : Int32)) C dX7_tellRun_44 (by decide +kernel) ?_
      obtain rfl := Option.some.inj hf
      exact hR _ _ dX7_tellRun_45
    · replace hf := ite_f c3 hf
      refine g_iconst (v := (1 : Int32)) C dX7_tellRun_40 (by decide +kernel) ?_
      refine g_goto (tgt := 45) C dX7_tellRun_41 (by decide) ?_
      obtain rfl := Option.some.inj hf
      exact hR _ _ dX7_tellRun_45
  replace hf := ite_f c2 hf
  by_cases c4 : v0 = (2 : Int32)
  · replace hf := ite_t c4 hf
    refine g_tableIn (off := 45) (tgt := 46) C dX7_tellRun_1 (by rw [c4]; decide +kernel) (by rw [c4]; decide +kernel) (by rw [c4]; decide +kernel) (by decide) ?_
    refine g_aload_n C dX7_tellRun_46 rfl 0 rfl ?_
    refine g_get (C0 := RX7) (T := TX7) (N := 24) (ci := 7) (v := .int many) C hm7_tellRun_0 0 rfl rfl 9 (by decide) hm7_tellRun_3 rfl dX7_tellRun_47 ?_
    obtain rfl := Option.some.inj hf
    exact hR _ _ dX7_tellRun_50
  replace hf := ite_f c4 hf
  refine g_tableOut (tgt := 51) C dX7_tellRun_1 (by have e0 := lv_neT (a := 0) c1 (by decide +kernel); have e1 := lv_neT (a := 1) c2 (by decide +kernel); have e2 := lv_neT (a := 2) c4 (by decide +kernel); omega) (by decide) ?_
  refine g_aload_n C dX7_tellRun_51 rfl 0 rfl ?_
  refine g_get (C0 := RX7) (T := TX7) (N := 24) (ci := 7) (v := .ref mo_vars) C hm7_tellRun_0 0 rfl rfl 7 (by decide) hm7_tellRun_4 rfl dX7_tellRun_52 ?_
  refine g_iload_n C dX7_tellRun_55 rfl 1 rfl ?_
  refine g_iconst (v := (3 : Int32)) C dX7_tellRun_56 (by decide +kernel) ?_
  refine g_isub C dX7_tellRun_57 ?_
  obtain ⟨h5, hf⟩ := ck_some hf
  refine g_iald (n := 6) (v := (vars (v0 - (3 : Int32)).toNatClampNeg)) C 1 rfl h5 rfl rfl dX7_tellRun_58 ?_
  obtain rfl := Option.some.inj hf
  exact hR _ _ dX7_tellRun_59

-- X7_run
def f7_run (now : Nat → Int32) (refusals : Nat → Int32) (vars : Nat → Int32) (sights : Nat → Int32) (many : Int32) (steps : Int32) (isCut : Int32) (v0 : Int32) (v1 : Int32) : Option (Int32 × (Nat → Int32) × (Nat → Int32) × (Nat → Int32) × Int32 × Int32 × Int32) :=
  (f7_isSecrets now v0).bind <| fun q1 =>
    if q1 = 0 then
    ((f7_bad refusals).bind <| fun q3 =>
    some (q3.1, q3.2, vars, sights, many, steps, isCut))
    else ((f7_within v1 (0 : Int32) (8 : Int32)).bind <| fun q4 =>
    if q4 = 0 then
    ((f7_bad refusals).bind <| fun q8 =>
    some (q8.1, q8.2, vars, sights, many, steps, isCut))
    else ((f7_goes now vars sights many steps isCut (0 : Int32) v0).bind <| fun q6 =>
    (f7_tellRun q6.1 q6.2.2.1 q6.2.2.2.1 q6.2.2.2.2 v1).bind <| fun q7 =>
    some (q7, refusals, q6.1, q6.2.1, q6.2.2.1, q6.2.2.2.1, q6.2.2.2.2)))
def rm7_run : Room := { frames := 4, cells := 0, slots := 0, locals := 94 }
set_option maxHeartbeats 4000000 in
set_option maxRecDepth 100000 in
theorem c7_run {l : Launch} {G : gG} {mo mo_now mo_aside mo_past mo_refusals mo_text mo_vars mo_sights mo_isThere mo_taints mo_known mo_knows mo_letters mo_numbers : Nat} {now : Nat → Int32} {states : Int32} {refusals : Nat → Int32} {length : Int32} {vars : Nat → Int32} {sights : Nat → Int32} {many : Int32} {steps : Int32} {isCut : Int32} {taint : Int32} {isOther : Int32} {at_ : Int32} {isFaulty : Int32} {orders : Int32} {hash : Int64} {v0 : Int32} {v1 : Int32} {res : Int32 × (Nat → Int32) × (Nat → Int32) × (Nat → Int32) × Int32 × Int32 × Int32} (hf : f7_run now refusals vars sights many steps isCut v0 v1 = some res) : MI l yX7_run wsX7_run rm7_run G [.ref mo, .int v0, .int v1] [(mo, oB 7 [.ref mo_now, .ref mo_aside, .ref mo_past, .int states, .ref mo_refusals, .ref mo_text, .int length, .ref mo_vars, .ref mo_sights, .int many, .int steps, .int isCut, .ref mo_isThere, .ref mo_taints, .ref mo_known, .int taint, .ref mo_knows, .int isOther, .int at_, .int isFaulty, .int orders, .ref mo_letters, .ref mo_numbers, .long hash]), (mo_now, aI G 104 now), (mo_refusals, aI G 3 refusals), (mo_vars, aI G 6 vars), (mo_sights, aI G 15616 sights)] (res.1) [(mo, oB 7 [.ref mo_now, .ref mo_aside, .ref mo_past, .int states, .ref mo_refusals, .ref mo_text, .int length, .ref mo_vars, .ref mo_sights, .int res.2.2.2.2.1, .int res.2.2.2.2.2.1, .int res.2.2.2.2.2.2, .ref mo_isThere, .ref mo_taints, .ref mo_known, .int taint, .ref mo_knows, .int isOther, .int at_, .int isFaulty, .int orders, .ref mo_letters, .ref mo_numbers, .long hash]), (mo_now, aI G 104 now), (mo_refusals, aI G 3 res.2.1), (mo_vars, aI G 6 res.2.2.1), (mo_sights, aI G 15616 res.2.2.2.1)] := by
  refine MI_of (res.1) (cc := cX7_run) (nL := 3) (lv := [(0, .ref mo), (1, .int v0), (2, .int v1)]) (by decide +kernel) rfl (Nat.le_of_ble_eq_true rfl) rfl ?_
  intro p e s m args below meth c A Q C hR
  unfold f7_run at hf
  refine g_aload_n C dX7_run_0 rfl 0 rfl ?_
  refine g_iload_n C dX7_run_1 rfl 1 rfl ?_
  obtain ⟨q1, hq1, hf⟩ := bs hf
  refine g_callVi (n := 1) (As := [.int v0]) (rest := []) (wc := [(mo, oB 7 [.ref mo_now, .ref mo_aside, .ref mo_past, .int states, .ref mo_refusals, .ref mo_text, .int length, .ref mo_vars, .ref mo_sights, .int many, .int steps, .int isCut, .ref mo_isThere, .ref mo_taints, .ref mo_known, .int taint, .ref mo_knows, .int isOther, .int at_, .int isFaulty, .int orders, .ref mo_letters, .ref mo_numbers, .long hash]), (mo_now, aI G 104 now)]) (w1 := [(mo, oB 7 [.ref mo_now, .ref mo_aside, .ref mo_past, .int states, .ref mo_refusals, .ref mo_text, .int length, .ref mo_vars, .ref mo_sights, .int many, .int steps, .int isCut, .ref mo_isThere, .ref mo_taints, .ref mo_known, .int taint, .ref mo_knows, .int isOther, .int at_, .int isFaulty, .int orders, .ref mo_letters, .ref mo_numbers, .long hash]), (mo_now, aI G 104 now)]) (wr := [(mo_refusals, aI G 3 refusals), (mo_vars, aI G 6 vars), (mo_sights, aI G 15616 sights)]) (WS' := [(mo, oB 7 [.ref mo_now, .ref mo_aside, .ref mo_past, .int states, .ref mo_refusals, .ref mo_text, .int length, .ref mo_vars, .ref mo_sights, .int many, .int steps, .int isCut, .ref mo_isThere, .ref mo_taints, .ref mo_known, .int taint, .ref mo_knows, .int isOther, .int at_, .int isFaulty, .int orders, .ref mo_letters, .ref mo_numbers, .long hash]), (mo_now, aI G 104 now), (mo_refusals, aI G 3 refusals), (mo_vars, aI G 6 vars), (mo_sights, aI G 15616 sights)]) C (c7_isSecrets hq1) gX7_run_X7_isSecrets (by decide +kernel) rfl rfl rfl rfl rfl rfl ⟨by decide, by decide⟩ rfl [0, 1] [2, 3, 4] [3, 4, 0, 1, 2] rfl (by decide) rfl (by decide) (by decide) rfl (by decide) (Nat.le_of_ble_eq_true rfl) ⟨Nat.zero_le _, Nat.zero_le _⟩ rfl dX7_run_2 ?_
  refine g_if_eq (tgt := 18) C dX7_run_5 (by decide) (fun c2 => ?_) (fun c2 => ?_)
  · replace hf := ite_t c2 hf
    refine g_aload_n C dX7_run_18 rfl 0 rfl ?_
    obtain ⟨q3, hq3, hf⟩ := bs hf
    refine g_callVi (n := 0) (As := []) (rest := []) (wc := [(mo, oB 7 [.ref mo_now, .ref mo_aside, .ref mo_past, .int states, .ref mo_refusals, .ref mo_text, .int length, .ref mo_vars, .ref mo_sights, .int many, .int steps, .int isCut, .ref mo_isThere, .ref mo_taints, .ref mo_known, .int taint, .ref mo_knows, .int isOther, .int at_, .int isFaulty, .int orders, .ref mo_letters, .ref mo_numbers, .long hash]), (mo_refusals, aI G 3 refusals)]) (w1 := [(mo, oB 7 [.ref mo_now, .ref mo_aside, .ref mo_past, .int states, .ref mo_refusals, .ref mo_text, .int length, .ref mo_vars, .ref mo_sights, .int many, .int steps, .int isCut, .ref mo_isThere, .ref mo_taints, .ref mo_known, .int taint, .ref mo_knows, .int isOther, .int at_, .int isFaulty, .int orders, .ref mo_letters, .ref mo_numbers, .long hash]), (mo_refusals, aI G 3 q3.2)]) (wr := [(mo_now, aI G 104 now), (mo_vars, aI G 6 vars), (mo_sights, aI G 15616 sights)]) (WS' := [(mo, oB 7 [.ref mo_now, .ref mo_aside, .ref mo_past, .int states, .ref mo_refusals, .ref mo_text, .int length, .ref mo_vars, .ref mo_sights, .int many, .int steps, .int isCut, .ref mo_isThere, .ref mo_taints, .ref mo_known, .int taint, .ref mo_knows, .int isOther, .int at_, .int isFaulty, .int orders, .ref mo_letters, .ref mo_numbers, .long hash]), (mo_now, aI G 104 now), (mo_refusals, aI G 3 q3.2), (mo_vars, aI G 6 vars), (mo_sights, aI G 15616 sights)]) C (c7_bad hq3) gX7_run_X7_bad (by decide +kernel) rfl rfl rfl rfl rfl rfl ⟨by decide, by decide⟩ rfl [0, 2] [1, 3, 4] [3, 0, 4, 1, 2] rfl (by decide) rfl (by decide) (by decide) rfl (by decide) (Nat.le_of_ble_eq_true rfl) ⟨Nat.zero_le _, Nat.zero_le _⟩ rfl dX7_run_19 ?_
    obtain rfl := Option.some.inj hf
    exact hR _ _ dX7_run_22
  · replace hf := ite_f c2 hf
    refine g_iload_n C dX7_run_8 rfl 2 rfl ?_
    refine g_iconst (v := (0 : Int32)) C dX7_run_9 (by decide +kernel) ?_
    refine g_bipush (v := (8 : Int32)) C dX7_run_10 (by decide +kernel) ?_
    obtain ⟨q4, hq4, hf⟩ := bs hf
    refine g_callSi (n := 3) (As := [.int v1, .int (0 : Int32), .int (8 : Int32)]) (rest := []) (wc := []) (w1 := []) (wr := [(mo, oB 7 [.ref mo_now, .ref mo_aside, .ref mo_past, .int states, .ref mo_refusals, .ref mo_text, .int length, .ref mo_vars, .ref mo_sights, .int many, .int steps, .int isCut, .ref mo_isThere, .ref mo_taints, .ref mo_known, .int taint, .ref mo_knows, .int isOther, .int at_, .int isFaulty, .int orders, .ref mo_letters, .ref mo_numbers, .long hash]), (mo_now, aI G 104 now), (mo_refusals, aI G 3 refusals), (mo_vars, aI G 6 vars), (mo_sights, aI G 15616 sights)]) (WS' := [(mo, oB 7 [.ref mo_now, .ref mo_aside, .ref mo_past, .int states, .ref mo_refusals, .ref mo_text, .int length, .ref mo_vars, .ref mo_sights, .int many, .int steps, .int isCut, .ref mo_isThere, .ref mo_taints, .ref mo_known, .int taint, .ref mo_knows, .int isOther, .int at_, .int isFaulty, .int orders, .ref mo_letters, .ref mo_numbers, .long hash]), (mo_now, aI G 104 now), (mo_refusals, aI G 3 refusals), (mo_vars, aI G 6 vars), (mo_sights, aI G 15616 sights)]) C (c7_within hq4) gX7_run_X7_within (by decide +kernel) rfl rfl rfl ⟨by decide, by decide⟩ rfl [] [0, 1, 2, 3, 4] [0, 1, 2, 3, 4] rfl (by decide) rfl (by decide) (by decide) rfl (by decide) (Nat.le_of_ble_eq_true rfl) ⟨Nat.zero_le _, Nat.zero_le _⟩ rfl dX7_run_12 ?_
    refine g_if_ne (tgt := 23) C dX7_run_15 (by decide) (fun c5 => ?_) (fun c5 => ?_)
    · replace hf := ite_f c5 hf
      refine g_aload_n C dX7_run_23 rfl 0 rfl ?_
      refine g_iconst (v := (0 : Int32)) C dX7_run_24 (by decide +kernel) ?_
      refine g_iload_n C dX7_run_25 rfl 1 rfl ?_
      obtain ⟨q6, hq6, hf⟩ := bs hf
      refine g_callVv (n := 2) (As := [.int (0 : Int32), .int v0]) (rest := []) (wc := [(mo, oB 7 [.ref mo_now, .ref mo_aside, .ref mo_past, .int states, .ref mo_refusals, .ref mo_text, .int length, .ref mo_vars, .ref mo_sights, .int many, .int steps, .int isCut, .ref mo_isThere, .ref mo_taints, .ref mo_known, .int taint, .ref mo_knows, .int isOther, .int at_, .int isFaulty, .int orders, .ref mo_letters, .ref mo_numbers, .long hash]), (mo_now, aI G 104 now), (mo_vars, aI G 6 vars), (mo_sights, aI G 15616 sights)]) (w1 := [(mo, oB 7 [.ref mo_now, .ref mo_aside, .ref mo_past, .int states, .ref mo_refusals, .ref mo_text, .int length, .ref mo_vars, .ref mo_sights, .int q6.2.2.1, .int q6.2.2.2.1, .int q6.2.2.2.2, .ref mo_isThere, .ref mo_taints, .ref mo_known, .int taint, .ref mo_knows, .int isOther, .int at_, .int isFaulty, .int orders, .ref mo_letters, .ref mo_numbers, .long hash]), (mo_now, aI G 104 now), (mo_vars, aI G 6 q6.1), (mo_sights, aI G 15616 q6.2.1)]) (wr := [(mo_refusals, aI G 3 refusals)]) (WS' := [(mo, oB 7 [.ref mo_now, .ref mo_aside, .ref mo_past, .int states, .ref mo_refusals, .ref mo_text, .int length, .ref mo_vars, .ref mo_sights, .int q6.2.2.1, .int q6.2.2.2.1, .int q6.2.2.2.2, .ref mo_isThere, .ref mo_taints, .ref mo_known, .int taint, .ref mo_knows, .int isOther, .int at_, .int isFaulty, .int orders, .ref mo_letters, .ref mo_numbers, .long hash]), (mo_now, aI G 104 now), (mo_refusals, aI G 3 refusals), (mo_vars, aI G 6 q6.1), (mo_sights, aI G 15616 q6.2.1)]) C (c7_goes hq6) gX7_run_X7_goes (by decide +kernel) rfl rfl rfl rfl rfl rfl ⟨by decide, by decide⟩ rfl [0, 1, 3, 4] [2] [1, 2, 0, 3, 4] rfl (by decide) rfl (by decide) (by decide) rfl (by decide) (Nat.le_of_ble_eq_true rfl) ⟨Nat.zero_le _, Nat.zero_le _⟩ rfl dX7_run_26 ?_
      refine g_aload_n C dX7_run_29 rfl 0 rfl ?_
      refine g_iload_n C dX7_run_30 rfl 2 rfl ?_
      obtain ⟨q7, hq7, hf⟩ := bs hf
      refine g_callVi (n := 1) (As := [.int v1]) (rest := []) (wc := [(mo, oB 7 [.ref mo_now, .ref mo_aside, .ref mo_past, .int states, .ref mo_refusals, .ref mo_text, .int length, .ref mo_vars, .ref mo_sights, .int q6.2.2.1, .int q6.2.2.2.1, .int q6.2.2.2.2, .ref mo_isThere, .ref mo_taints, .ref mo_known, .int taint, .ref mo_knows, .int isOther, .int at_, .int isFaulty, .int orders, .ref mo_letters, .ref mo_numbers, .long hash]), (mo_vars, aI G 6 q6.1)]) (w1 := [(mo, oB 7 [.ref mo_now, .ref mo_aside, .ref mo_past, .int states, .ref mo_refusals, .ref mo_text, .int length, .ref mo_vars, .ref mo_sights, .int q6.2.2.1, .int q6.2.2.2.1, .int q6.2.2.2.2, .ref mo_isThere, .ref mo_taints, .ref mo_known, .int taint, .ref mo_knows, .int isOther, .int at_, .int isFaulty, .int orders, .ref mo_letters, .ref mo_numbers, .long hash]), (mo_vars, aI G 6 q6.1)]) (wr := [(mo_now, aI G 104 now), (mo_refusals, aI G 3 refusals), (mo_sights, aI G 15616 q6.2.1)]) (WS' := [(mo, oB 7 [.ref mo_now, .ref mo_aside, .ref mo_past, .int states, .ref mo_refusals, .ref mo_text, .int length, .ref mo_vars, .ref mo_sights, .int q6.2.2.1, .int q6.2.2.2.1, .int q6.2.2.2.2, .ref mo_isThere, .ref mo_taints, .ref mo_known, .int taint, .ref mo_knows, .int isOther, .int at_, .int isFaulty, .int orders, .ref mo_letters, .ref mo_numbers, .long hash]), (mo_now, aI G 104 now), (mo_refusals, aI G 3 refusals), (mo_vars, aI G 6 q6.1), (mo_sights, aI G 15616 q6.2.1)]) C (c7_tellRun hq7) gX7_run_X7_tellRun (by decide +kernel) rfl rfl rfl rfl rfl rfl ⟨by decide, by decide⟩ rfl [0, 3] [1, 2, 4] [3, 0, 1, 4, 2] rfl (by decide) rfl (by decide) (by decide) rfl (by decide) (Nat.le_of_ble_eq_true rfl) ⟨Nat.zero_le _, Nat.zero_le _⟩ rfl dX7_run_31 ?_
      obtain rfl := Option.some.inj hf
      exact hR _ _ dX7_run_34
    · replace hf := ite_t c5 hf
      refine g_aload_n C dX7_run_18 rfl 0 rfl ?_
      obtain ⟨q8, hq8, hf⟩ := bs hf
      refine g_callVi (n := 0) (As := []) (rest := []) (wc := [(mo, oB 7 [.ref mo_now, .ref mo_aside, .ref mo_past, .int states, .ref mo_refusals, .ref mo_text, .int length, .ref mo_vars, .ref mo_sights, .int many, .int steps, .int isCut, .ref mo_isThere, .ref mo_taints, .ref mo_known, .int taint, .ref mo_knows, .int isOther, .int at_, .int isFaulty, .int orders, .ref mo_letters, .ref mo_numbers, .long hash]), (mo_refusals, aI G 3 refusals)]) (w1 := [(mo, oB 7 [.ref mo_now, .ref mo_aside, .ref mo_past, .int states, .ref mo_refusals, .ref mo_text, .int length, .ref mo_vars, .ref mo_sights, .int many, .int steps, .int isCut, .ref mo_isThere, .ref mo_taints, .ref mo_known, .int taint, .ref mo_knows, .int isOther, .int at_, .int isFaulty, .int orders, .ref mo_letters, .ref mo_numbers, .long hash]), (mo_refusals, aI G 3 q8.2)]) (wr := [(mo_now, aI G 104 now), (mo_vars, aI G 6 vars), (mo_sights, aI G 15616 sights)]) (WS' := [(mo, oB 7 [.ref mo_now, .ref mo_aside, .ref mo_past, .int states, .ref mo_refusals, .ref mo_text, .int length, .ref mo_vars, .ref mo_sights, .int many, .int steps, .int isCut, .ref mo_isThere, .ref mo_taints, .ref mo_known, .int taint, .ref mo_knows, .int isOther, .int at_, .int isFaulty, .int orders, .ref mo_letters, .ref mo_numbers, .long hash]), (mo_now, aI G 104 now), (mo_refusals, aI G 3 q8.2), (mo_vars, aI G 6 vars), (mo_sights, aI G 15616 sights)]) C (c7_bad hq8) gX7_run_X7_bad (by decide +kernel) rfl rfl rfl rfl rfl rfl ⟨by decide, by decide⟩ rfl [0, 2] [1, 3, 4] [3, 0, 4, 1, 2] rfl (by decide) rfl (by decide) (by decide) rfl (by decide) (Nat.le_of_ble_eq_true rfl) ⟨Nat.zero_le _, Nat.zero_le _⟩ rfl dX7_run_19 ?_
      obtain rfl := Option.some.inj hf
      exact hR _ _ dX7_run_22

-- X7_sight
def f7_sight (now : Nat → Int32) (refusals : Nat → Int32) (vars : Nat → Int32) (sights : Nat → Int32) (many : Int32) (steps : Int32) (isCut : Int32) (v0 : Int32) (v1 : Int32) : Option (Int32 × (Nat → Int32) × (Nat → Int32) × (Nat → Int32) × Int32 × Int32 × Int32) :=
  (f7_isSecrets now v0).bind <| fun q1 =>
    if q1 = 0 then
    ((f7_bad refusals).bind <| fun q3 =>
    some (q3.1, q3.2, vars, sights, many, steps, isCut))
    else (if 0 ≤ v1 then
    ((f7_goes now vars sights many steps isCut (0 : Int32) v0).bind <| fun q5 =>
    if q5.2.2.1 ≤ v1 then
    (some ((-1 : Int32), refusals, q5.1, q5.2.1, q5.2.2.1, q5.2.2.2.1, q5.2.2.2.2))
    else (ck (inb v1 15616) <|
    some ((q5.2.1 v1.toNatClampNeg), refusals, q5.1, q5.2.1, q5.2.2.1, q5.2.2.2.1, q5.2.2.2.2)))
    else ((f7_bad refusals).bind <| fun q8 =>
    some (q8.1, q8.2, vars, sights, many, steps, isCut)))
def rm7_sight : Room := { frames := 4, cells := 0, slots := 0, locals := 94 }
theorem hm7_sight_0 : ∀ w ∈ u_ws RX7 TX7 24, w ∈ wsX7_sight := by decide +kernel
theorem hm7_sight_1 : Cond.fieldLink RX7 121 "SecretStepsModel" "many" "I" ∈ wsX7_sight := by decide +kernel
theorem hm7_sight_2 : Cond.fieldLink RX7 28 "SecretStepsModel" "sights" "[I" ∈ wsX7_sight := by decide +kernel
set_option maxHeartbeats 4000000 in
set_option maxRecDepth 100000 in
theorem c7_sight {l : Launch} {G : gG} {mo mo_now mo_aside mo_past mo_refusals mo_text mo_vars mo_sights mo_isThere mo_taints mo_known mo_knows mo_letters mo_numbers : Nat} {now : Nat → Int32} {states : Int32} {refusals : Nat → Int32} {length : Int32} {vars : Nat → Int32} {sights : Nat → Int32} {many : Int32} {steps : Int32} {isCut : Int32} {taint : Int32} {isOther : Int32} {at_ : Int32} {isFaulty : Int32} {orders : Int32} {hash : Int64} {v0 : Int32} {v1 : Int32} {res : Int32 × (Nat → Int32) × (Nat → Int32) × (Nat → Int32) × Int32 × Int32 × Int32} (hf : f7_sight now refusals vars sights many steps isCut v0 v1 = some res) : MI l yX7_sight wsX7_sight rm7_sight G [.ref mo, .int v0, .int v1] [(mo, oB 7 [.ref mo_now, .ref mo_aside, .ref mo_past, .int states, .ref mo_refusals, .ref mo_text, .int length, .ref mo_vars, .ref mo_sights, .int many, .int steps, .int isCut, .ref mo_isThere, .ref mo_taints, .ref mo_known, .int taint, .ref mo_knows, .int isOther, .int at_, .int isFaulty, .int orders, .ref mo_letters, .ref mo_numbers, .long hash]), (mo_now, aI G 104 now), (mo_refusals, aI G 3 refusals), (mo_vars, aI G 6 vars), (mo_sights, aI G 15616 sights)] (res.1) [(mo, oB 7 [.ref mo_now, .ref mo_aside, .ref mo_past, .int states, .ref mo_refusals, .ref mo_text, .int length, .ref mo_vars, .ref mo_sights, .int res.2.2.2.2.1, .int res.2.2.2.2.2.1, .int res.2.2.2.2.2.2, .ref mo_isThere, .ref mo_taints, .ref mo_known, .int taint, .ref mo_knows, .int isOther, .int at_, .int isFaulty, .int orders, .ref mo_letters, .ref mo_numbers, .long hash]), (mo_now, aI G 104 now), (mo_refusals, aI G 3 res.2.1), (mo_vars, aI G 6 res.2.2.1), (mo_sights, aI G 15616 res.2.2.2.1)] := by
  refine MI_of (res.1) (cc := cX7_sight) (nL := 3) (lv := [(0, .ref mo), (1, .int v0), (2, .int v1)]) (by decide +kernel) rfl (Nat.le_of_ble_eq_true rfl) rfl ?_
  intro p e s m args below meth c A Q C hR
  unfold f7_sight at hf
  refine g_aload_n C dX7_sight_0 rfl 0 rfl ?_
  refine g_iload_n C dX7_sight_1 rfl 1 rfl ?_
  obtain ⟨q1, hq1, hf⟩ := bs hf
  refine g_callVi (n := 1) (As := [.int v0]) (rest := []) (wc := [(mo, oB 7 [.ref mo_now, .ref mo_aside, .ref mo_past, .int states, .ref mo_refusals, .ref mo_text, .int length, .ref mo_vars, .ref mo_sights, .int many, .int steps, .int isCut, .ref mo_isThere, .ref mo_taints, .ref mo_known, .int taint, .ref mo_knows, .int isOther, .int at_, .int isFaulty, .int orders, .ref mo_letters, .ref mo_numbers, .long hash]), (mo_now, aI G 104 now)]) (w1 := [(mo, oB 7 [.ref mo_now, .ref mo_aside, .ref mo_past, .int states, .ref mo_refusals, .ref mo_text, .int length, .ref mo_vars, .ref mo_sights, .int many, .int steps, .int isCut, .ref mo_isThere, .ref mo_taints, .ref mo_known, .int taint, .ref mo_knows, .int isOther, .int at_, .int isFaulty, .int orders, .ref mo_letters, .ref mo_numbers, .long hash]), (mo_now, aI G 104 now)]) (wr := [(mo_refusals, aI G 3 refusals), (mo_vars, aI G 6 vars), (mo_sights, aI G 15616 sights)]) (WS' := [(mo, oB 7 [.ref mo_now, .ref mo_aside, .ref mo_past, .int states, .ref mo_refusals, .ref mo_text, .int length, .ref mo_vars, .ref mo_sights, .int many, .int steps, .int isCut, .ref mo_isThere, .ref mo_taints, .ref mo_known, .int taint, .ref mo_knows, .int isOther, .int at_, .int isFaulty, .int orders, .ref mo_letters, .ref mo_numbers, .long hash]), (mo_now, aI G 104 now), (mo_refusals, aI G 3 refusals), (mo_vars, aI G 6 vars), (mo_sights, aI G 15616 sights)]) C (c7_isSecrets hq1) gX7_sight_X7_isSecrets (by decide +kernel) rfl rfl rfl rfl rfl rfl ⟨by decide, by decide⟩ rfl [0, 1] [2, 3, 4] [3, 4, 0, 1, 2] rfl (by decide) rfl (by decide) (by decide) rfl (by decide) (Nat.le_of_ble_eq_true rfl) ⟨Nat.zero_le _, Nat.zero_le _⟩ rfl dX7_sight_2 ?_
  refine g_if_eq (tgt := 12) C dX7_sight_5 (by decide) (fun c2 => ?_) (fun c2 => ?_)
  · replace hf := ite_t c2 hf
    refine g_aload_n C dX7_sight_12 rfl 0 rfl ?_
    obtain ⟨q3, hq3, hf⟩ := bs hf
    refine g_callVi (n := 0) (As := []) (rest := []) (wc := [(mo, oB 7 [.ref mo_now, .ref mo_aside, .ref mo_past, .int states, .ref mo_refusals, .ref mo_text, .int length, .ref mo_vars, .ref mo_sights, .int many, .int steps, .int isCut, .ref mo_isThere, .ref mo_taints, .ref mo_known, .int taint, .ref mo_knows, .int isOther, .int at_, .int isFaulty, .int orders, .ref mo_letters, .ref mo_numbers, .long hash]), (mo_refusals, aI G 3 refusals)]) (w1 := [(mo, oB 7 [.ref mo_now, .ref mo_aside, .ref mo_past, .int states, .ref mo_refusals, .ref mo_text, .int length, .ref mo_vars, .ref mo_sights, .int many, .int steps, .int isCut, .ref mo_isThere, .ref mo_taints, .ref mo_known, .int taint, .ref mo_knows, .int isOther, .int at_, .int isFaulty, .int orders, .ref mo_letters, .ref mo_numbers, .long hash]), (mo_refusals, aI G 3 q3.2)]) (wr := [(mo_now, aI G 104 now), (mo_vars, aI G 6 vars), (mo_sights, aI G 15616 sights)]) (WS' := [(mo, oB 7 [.ref mo_now, .ref mo_aside, .ref mo_past, .int states, .ref mo_refusals, .ref mo_text, .int length, .ref mo_vars, .ref mo_sights, .int many, .int steps, .int isCut, .ref mo_isThere, .ref mo_taints, .ref mo_known, .int taint, .ref mo_knows, .int isOther, .int at_, .int isFaulty, .int orders, .ref mo_letters, .ref mo_numbers, .long hash]), (mo_now, aI G 104 now), (mo_refusals, aI G 3 q3.2), (mo_vars, aI G 6 vars), (mo_sights, aI G 15616 sights)]) C (c7_bad hq3) gX7_sight_X7_bad (by decide +kernel) rfl rfl rfl rfl rfl rfl ⟨by decide, by decide⟩ rfl [0, 2] [1, 3, 4] [3, 0, 4, 1, 2] rfl (by decide) rfl (by decide) (by decide) rfl (by decide) (Nat.le_of_ble_eq_true rfl) ⟨Nat.zero_le _, Nat.zero_le _⟩ rfl dX7_sight_13 ?_
    obtain rfl := Option.some.inj hf
    exact hR _ _ dX7_sight_16
  · replace hf := ite_f c2 hf
    refine g_iload_n C dX7_sight_8 rfl 2 rfl ?_
    refine g_if_ge (tgt := 17) C dX7_sight_9 (by decide) (fun c4 => ?_) (fun c4 => ?_)
    · replace hf := ite_t c4 hf
      refine g_aload_n C dX7_sight_17 rfl 0 rfl ?_
      refine g_iconst (v := (0 : Int32)) C dX7_sight_18 (by decide +kernel) ?_
      refine g_iload_n C dX7_sight_19 rfl 1 rfl ?_
      obtain ⟨q5, hq5, hf⟩ := bs hf
      refine g_callVv (n := 2) (As := [.int (0 : Int32), .int v0]) (rest := []) (wc := [(mo, oB 7 [.ref mo_now, .ref mo_aside, .ref mo_past, .int states, .ref mo_refusals, .ref mo_text, .int length, .ref mo_vars, .ref mo_sights, .int many, .int steps, .int isCut, .ref mo_isThere, .ref mo_taints, .ref mo_known, .int taint, .ref mo_knows, .int isOther, .int at_, .int isFaulty, .int orders, .ref mo_letters, .ref mo_numbers, .long hash]), (mo_now, aI G 104 now), (mo_vars, aI G 6 vars), (mo_sights, aI G 15616 sights)]) (w1 := [(mo, oB 7 [.ref mo_now, .ref mo_aside, .ref mo_past, .int states, .ref mo_refusals, .ref mo_text, .int length, .ref mo_vars, .ref mo_sights, .int q5.2.2.1, .int q5.2.2.2.1, .int q5.2.2.2.2, .ref mo_isThere, .ref mo_taints, .ref mo_known, .int taint, .ref mo_knows, .int isOther, .int at_, .int isFaulty, .int orders, .ref mo_letters, .ref mo_numbers, .long hash]), (mo_now, aI G 104 now), (mo_vars, aI G 6 q5.1), (mo_sights, aI G 15616 q5.2.1)]) (wr := [(mo_refusals, aI G 3 refusals)]) (WS' := [(mo, oB 7 [.ref mo_now, .ref mo_aside, .ref mo_past, .int states, .ref mo_refusals, .ref mo_text, .int length, .ref mo_vars, .ref mo_sights, .int q5.2.2.1, .int q5.2.2.2.1, .int q5.2.2.2.2, .ref mo_isThere, .ref mo_taints, .ref mo_known, .int taint, .ref mo_knows, .int isOther, .int at_, .int isFaulty, .int orders, .ref mo_letters, .ref mo_numbers, .long hash]), (mo_now, aI G 104 now), (mo_refusals, aI G 3 refusals), (mo_vars, aI G 6 q5.1), (mo_sights, aI G 15616 q5.2.1)]) C (c7_goes hq5) gX7_sight_X7_goes (by decide +kernel) rfl rfl rfl rfl rfl rfl ⟨by decide, by decide⟩ rfl [0, 1, 3, 4] [2] [1, 2, 0, 3, 4] rfl (by decide) rfl (by decide) (by decide) rfl (by decide) (Nat.le_of_ble_eq_true rfl) ⟨Nat.zero_le _, Nat.zero_le _⟩ rfl dX7_sight_20 ?_
      refine g_iload_n C dX7_sight_23 rfl 2 rfl ?_
      refine g_aload_n C dX7_sight_24 rfl 0 rfl ?_
      refine g_get (C0 := RX7) (T := TX7) (N := 24) (ci := 7) (v := .int q5.2.2.1) C hm7_sight_0 0 rfl rfl 9 (by decide) hm7_sight_1 rfl dX7_sight_25 ?_
      refine g_icmp_ge (tgt := 40) C dX7_sight_28 (by decide) (fun c6 => ?_) (fun c6 => ?_)
      · replace hf := ite_t c6 hf
        refine g_iconst (v := (-1 : Int32)) C dX7_sight_40 (by decide +kernel) ?_
        obtain rfl := Option.some.inj hf
        exact hR _ _ dX7_sight_41
      · replace hf := ite_f c6 hf
        refine g_aload_n C dX7_sight_31 rfl 0 rfl ?_
        refine g_get (C0 := RX7) (T := TX7) (N := 24) (ci := 7) (v := .ref mo_sights) C hm7_sight_0 0 rfl rfl 8 (by decide) hm7_sight_2 rfl dX7_sight_32 ?_
        refine g_iload_n C dX7_sight_35 rfl 2 rfl ?_
        obtain ⟨h7, hf⟩ := ck_some hf
        refine g_iald (n := 15616) (v := (q5.2.1 v1.toNatClampNeg)) C 4 rfl h7 rfl rfl dX7_sight_36 ?_
        refine g_goto (tgt := 41) C dX7_sight_37 (by decide) ?_
        obtain rfl := Option.some.inj hf
        exact hR _ _ dX7_sight_41
    · replace hf := ite_f c4 hf
      refine g_aload_n C dX7_sight_12 rfl 0 rfl ?_
      obtain ⟨q8, hq8, hf⟩ := bs hf
      refine g_callVi (n := 0) (As := []) (rest := []) (wc := [(mo, oB 7 [.ref mo_now, .ref mo_aside, .ref mo_past, .int states, .ref mo_refusals, .ref mo_text, .int length, .ref mo_vars, .ref mo_sights, .int many, .int steps, .int isCut, .ref mo_isThere, .ref mo_taints, .ref mo_known, .int taint, .ref mo_knows, .int isOther, .int at_, .int isFaulty, .int orders, .ref mo_letters, .ref mo_numbers, .long hash]), (mo_refusals, aI G 3 refusals)]) (w1 := [(mo, oB 7 [.ref mo_now, .ref mo_aside, .ref mo_past, .int states, .ref mo_refusals, .ref mo_text, .int length, .ref mo_vars, .ref mo_sights, .int many, .int steps, .int isCut, .ref mo_isThere, .ref mo_taints, .ref mo_known, .int taint, .ref mo_knows, .int isOther, .int at_, .int isFaulty, .int orders, .ref mo_letters, .ref mo_numbers, .long hash]), (mo_refusals, aI G 3 q8.2)]) (wr := [(mo_now, aI G 104 now), (mo_vars, aI G 6 vars), (mo_sights, aI G 15616 sights)]) (WS' := [(mo, oB 7 [.ref mo_now, .ref mo_aside, .ref mo_past, .int states, .ref mo_refusals, .ref mo_text, .int length, .ref mo_vars, .ref mo_sights, .int many, .int steps, .int isCut, .ref mo_isThere, .ref mo_taints, .ref mo_known, .int taint, .ref mo_knows, .int isOther, .int at_, .int isFaulty, .int orders, .ref mo_letters, .ref mo_numbers, .long hash]), (mo_now, aI G 104 now), (mo_refusals, aI G 3 q8.2), (mo_vars, aI G 6 vars), (mo_sights, aI G 15616 sights)]) C (c7_bad hq8) gX7_sight_X7_bad (by decide +kernel) rfl rfl rfl rfl rfl rfl ⟨by decide, by decide⟩ rfl [0, 2] [1, 3, 4] [3, 0, 4, 1, 2] rfl (by decide) rfl (by decide) (by decide) rfl (by decide) (Nat.le_of_ble_eq_true rfl) ⟨Nat.zero_le _, Nat.zero_le _⟩ rfl dX7_sight_13 ?_
      obtain rfl := Option.some.inj hf
      exact hR _ _ dX7_sight_16

-- X7_partsAt
def f7_partsAt_2b (sights : Nat → Int32) (k2 : Int32 × Int32 × Int32 → Option (Int32)) (x1 : Int32) (x2 : Int32) (x3 : Int32) : Option (Int32) :=
  if (61 : Int32) ≤ x3 then
    (some (-1 : Int32))
    else (ck (inb (((61 : Int32) * x1) + x3) 15616) <|
    ck (inb (((61 : Int32) * x2) + x3) 15616) <|
    if (sights (((61 : Int32) * x1) + x3).toNatClampNeg) = (sights (((61 : Int32) * x2) + x3).toNatClampNeg) then
    (k2 (x1, x2, (x3 + (1 : Int32))))
    else (some x3))
def f7_partsAt_2 (sights : Nat → Int32) (n : Nat) (s : Int32 × Int32 × Int32) : Option (Int32) := itf (fun k s => f7_partsAt_2b sights k s.1 s.2.1 s.2.2) n s
def f7_partsAt (sights : Nat → Int32) (v0 : Int32) (v1 : Int32) : Option (Int32) :=
  f7_partsAt_2 sights 1000 (v0, v1, (0 : Int32))
def rm7_partsAt : Room := { frames := 0, cells := 0, slots := 0, locals := 0 }
theorem hm7_partsAt_0 : ∀ w ∈ u_ws RX7 TX7 24, w ∈ wsX7_partsAt := by decide +kernel
theorem hm7_partsAt_1 : Cond.fieldLink RX7 28 "SecretStepsModel" "sights" "[I" ∈ wsX7_partsAt := by decide +kernel
set_option maxHeartbeats 4000000 in
set_option maxRecDepth 100000 in
theorem k7_partsAt_2b {p : Program} {l : Launch} {e : Env} {s : State} {m : MethodId} {args : Array Value} {below : List Frame} {meth : Method} {c : Code} {G : gG} {A : Nat → Prop} {Q : State → Prop} {mo mo_now mo_aside mo_past mo_refusals mo_text mo_vars mo_sights mo_isThere mo_taints mo_known mo_knows mo_letters mo_numbers : Nat} (C : CX p s m args meth c G A cX7_partsAt 4 RX7 wsX7_partsAt) {states : Int32} {length : Int32} {many : Int32} {steps : Int32} {isCut : Int32} {taint : Int32} {isOther : Int32} {at_ : Int32} {isFaulty : Int32} {orders : Int32} {hash : Int64} {sights : Nat → Int32} {k2 : Int32 × Int32 × Int32 → Option (Int32)} {x1 : Int32} {x2 : Int32} {x3 : Int32} {res : Int32} (hR : ∀ (lv : List (Nat × Value)) (pc : Nat), decode cX7_partsAt pc = .ok (.ireturn, 1) → GG p l e rm7_partsAt s m args below meth c G A 4 0 0 Q [(mo, oB 7 [.ref mo_now, .ref mo_aside, .ref mo_past, .int states, .ref mo_refusals, .ref mo_text, .int length, .ref mo_vars, .ref mo_sights, .int many, .int steps, .int isCut, .ref mo_isThere, .ref mo_taints, .ref mo_known, .int taint, .ref mo_knows, .int isOther, .int at_, .int isFaulty, .int orders, .ref mo_letters, .ref mo_numbers, .long hash]), (mo_sights, aI G 15616 sights)] lv pc [.int res])
    (hk2 : ∀ s', k2 s' = some res → GG p l e rm7_partsAt s m args below meth c G A 4 0 0 Q [(mo, oB 7 [.ref mo_now, .ref mo_aside, .ref mo_past, .int states, .ref mo_refusals, .ref mo_text, .int length, .ref mo_vars, .ref mo_sights, .int many, .int steps, .int isCut, .ref mo_isThere, .ref mo_taints, .ref mo_known, .int taint, .ref mo_knows, .int isOther, .int at_, .int isFaulty, .int orders, .ref mo_letters, .ref mo_numbers, .long hash]), (mo_sights, aI G 15616 sights)] [(0, .ref mo), (1, .int s'.1), (2, .int s'.2.1), (3, .int s'.2.2)] 2 [])
    (hf : f7_partsAt_2b sights k2 x1 x2 x3 = some res) : GG p l e rm7_partsAt s m args below meth c G A 4 0 0 Q [(mo, oB 7 [.ref mo_now, .ref mo_aside, .ref mo_past, .int states, .ref mo_refusals, .ref mo_text, .int length, .ref mo_vars, .ref mo_sights, .int many, .int steps, .int isCut, .ref mo_isThere, .ref mo_taints, .ref mo_known, .int taint, .ref mo_knows, .int isOther, .int at_, .int isFaulty, .int orders, .ref mo_letters, .ref mo_numbers, .long hash]), (mo_sights, aI G 15616 sights)] [(0, .ref mo), (1, .int x1), (2, .int x2), (3, .int x3)] 2 [] := by
  unfold f7_partsAt_2b at hf
  refine g_iload_n C dX7_partsAt_2 rfl 3 rfl ?_
  refine g_bipush (v := (61 : Int32)) C dX7_partsAt_3 (by decide +kernel) ?_
  refine g_icmp_ge (tgt := 41) C dX7_partsAt_5 (by decide) (fun c1 => ?_) (fun c1 => ?_)
  · replace hf := ite_t c1 hf
    refine g_iconst (v := (-1 : Int32)) C dX7_partsAt_41 (by decide +kernel) ?_
    obtain rfl := Option.some.inj hf
    exact hR _ _ dX7_partsAt_42
  · replace hf := ite_f c1 hf
    refine g_aload_n C dX7_partsAt_8 rfl 0 rfl ?_
    refine g_get (C0 := RX7) (T := TX7) (N := 24) (ci := 7) (v := .ref mo_sights) C hm7_partsAt_0 0 rfl rfl 8 (by decide) hm7_partsAt_1 rfl dX7_partsAt_9 ?_
    refine g_bipush (v := (61 : Int32)) C dX7_partsAt_12 (by decide +kernel) ?_
    refine g_iload_n C dX7_partsAt_14 rfl 1 rfl ?_
    refine g_imul C dX7_partsAt_15 ?_
    refine g_iload_n C dX7_partsAt_16 rfl 3 rfl ?_
    refine g_iadd C dX7_partsAt_17 ?_
    obtain ⟨h2, hf⟩ := ck_some hf
    refine g_iald (n := 15616) (v := (sights (((61 : Int32) * x1) + x3).toNatClampNeg)) C 1 rfl h2 rfl rfl dX7_partsAt_18 ?_
    refine g_aload_n C dX7_partsAt_19 rfl 0 rfl ?_
    refine g_get (C0 := RX7) (T := TX7) (N := 24) (ci := 7) (v := .ref mo_sights) C hm7_partsAt_0 0 rfl rfl 8 (by decide) hm7_partsAt_1 rfl dX7_partsAt_20 ?_
    refine g_bipush (v := (61 : Int32)) C dX7_partsAt_23 (by decide +kernel) ?_
    refine g_iload_n C dX7_partsAt_25 rfl 2 rfl ?_
    refine g_imul C dX7_partsAt_26 ?_
    refine g_iload_n C dX7_partsAt_27 rfl 3 rfl ?_
    refine g_iadd C dX7_partsAt_28 ?_
    obtain ⟨h3, hf⟩ := ck_some hf
    refine g_iald (n := 15616) (v := (sights (((61 : Int32) * x2) + x3).toNatClampNeg)) C 1 rfl h3 rfl rfl dX7_partsAt_29 ?_
    refine g_icmp_eq (tgt := 35) C dX7_partsAt_30 (by decide) (fun c4 => ?_) (fun c4 => ?_)
    · replace hf := ite_t c4 hf
      refine g_iinc (v := (x3 + (1 : Int32))) (lv' := [(0, .ref mo), (1, .int x1), (2, .int x2), (3, .int (x3 + (1 : Int32)))]) C dX7_partsAt_35 3 rfl rfl (by decide) [1, 2, 3, 0] rfl ?_
      refine g_goto (tgt := 2) C dX7_partsAt_38 (by decide) ?_
      exact hk2 _ hf
    · replace hf := ite_f c4 hf
      refine g_iload_n C dX7_partsAt_33 rfl 3 rfl ?_
      obtain rfl := Option.some.inj hf
      exact hR _ _ dX7_partsAt_34
set_option maxHeartbeats 4000000 in
set_option maxRecDepth 100000 in
theorem k7_partsAt_2 {p : Program} {l : Launch} {e : Env} {s : State} {m : MethodId} {args : Array Value} {below : List Frame} {meth : Method} {c : Code} {G : gG} {A : Nat → Prop} {Q : State → Prop} {mo mo_now mo_aside mo_past mo_refusals mo_text mo_vars mo_sights mo_isThere mo_taints mo_known mo_knows mo_letters mo_numbers : Nat} (C : CX p s m args meth c G A cX7_partsAt 4 RX7 wsX7_partsAt) {states : Int32} {length : Int32} {many : Int32} {steps : Int32} {isCut : Int32} {taint : Int32} {isOther : Int32} {at_ : Int32} {isFaulty : Int32} {orders : Int32} {hash : Int64} {sights : Nat → Int32} {res : Int32} (hR : ∀ (lv : List (Nat × Value)) (pc : Nat), decode cX7_partsAt pc = .ok (.ireturn, 1) → GG p l e rm7_partsAt s m args below meth c G A 4 0 0 Q [(mo, oB 7 [.ref mo_now, .ref mo_aside, .ref mo_past, .int states, .ref mo_refusals, .ref mo_text, .int length, .ref mo_vars, .ref mo_sights, .int many, .int steps, .int isCut, .ref mo_isThere, .ref mo_taints, .ref mo_known, .int taint, .ref mo_knows, .int isOther, .int at_, .int isFaulty, .int orders, .ref mo_letters, .ref mo_numbers, .long hash]), (mo_sights, aI G 15616 sights)] lv pc [.int res]) : ∀ (n : Nat) (s1 : Int32 × Int32 × Int32), f7_partsAt_2 sights n s1 = some res → GG p l e rm7_partsAt s m args below meth c G A 4 0 0 Q [(mo, oB 7 [.ref mo_now, .ref mo_aside, .ref mo_past, .int states, .ref mo_refusals, .ref mo_text, .int length, .ref mo_vars, .ref mo_sights, .int many, .int steps, .int isCut, .ref mo_isThere, .ref mo_taints, .ref mo_known, .int taint, .ref mo_knows, .int isOther, .int at_, .int isFaulty, .int orders, .ref mo_letters, .ref mo_numbers, .long hash]), (mo_sights, aI G 15616 sights)] [(0, .ref mo), (1, .int s1.1), (2, .int s1.2.1), (3, .int s1.2.2)] 2 [] :=
  itf_ind (fun k s1 ih hf => k7_partsAt_2b C hR ih hf)
set_option maxHeartbeats 4000000 in
set_option maxRecDepth 100000 in
theorem c7_partsAt {l : Launch} {G : gG} {mo mo_now mo_aside mo_past mo_refusals mo_text mo_vars mo_sights mo_isThere mo_taints mo_known mo_knows mo_letters mo_numbers : Nat} {states : Int32} {length : Int32} {sights : Nat → Int32} {many : Int32} {steps : Int32} {isCut : Int32} {taint : Int32} {isOther : Int32} {at_ : Int32} {isFaulty : Int32} {orders : Int32} {hash : Int64} {v0 : Int32} {v1 : Int32} {res : Int32} (hf : f7_partsAt sights v0 v1 = some res) : MI l yX7_partsAt wsX7_partsAt rm7_partsAt G [.ref mo, .int v0, .int v1] [(mo, oB 7 [.ref mo_now, .ref mo_aside, .ref mo_past, .int states, .ref mo_refusals, .ref mo_text, .int length, .ref mo_vars, .ref mo_sights, .int many, .int steps, .int isCut, .ref mo_isThere, .ref mo_taints, .ref mo_known, .int taint, .ref mo_knows, .int isOther, .int at_, .int isFaulty, .int orders, .ref mo_letters, .ref mo_numbers, .long hash]), (mo_sights, aI G 15616 sights)] (res) [(mo, oB 7 [.ref mo_now, .ref mo_aside, .ref mo_past, .int states, .ref mo_refusals, .ref mo_text, .int length, .ref mo_vars, .ref mo_sights, .int many, .int steps, .int isCut, .ref mo_isThere, .ref mo_taints, .ref mo_known, .int taint, .ref mo_knows, .int isOther, .int at_, .int isFaulty, .int orders, .ref mo_letters, .ref mo_numbers, .long hash]), (mo_sights, aI G 15616 sights)] := by
  refine MI_of (res) (cc := cX7_partsAt) (nL := 4) (lv := [(0, .ref mo), (1, .int v0), (2, .int v1)]) (by decide +kernel) rfl (Nat.le_of_ble_eq_true rfl) rfl ?_
  intro p e s m args below meth c A Q C hR
  unfold f7_partsAt at hf
  refine g_iconst (v := (0 : Int32)) C dX7_partsAt_0 (by decide +kernel) ?_
  refine g_istore_n (lv' := [(0, .ref mo), (1, .int v0), (2, .int v1), (3, .int (0 : Int32))]) C dX7_partsAt_1 rfl (by decide) [1, 2, 3, 0] rfl ?_
  exact k7_partsAt_2 C hR _ _ hf

-- X7_parts
def f7_parts (now : Nat → Int32) (refusals : Nat → Int32) (vars : Nat → Int32) (sights : Nat → Int32) (many : Int32) (steps : Int32) (isCut : Int32) (v0 : Int32) (v1 : Int32) : Option (Int32 × (Nat → Int32) × (Nat → Int32) × (Nat → Int32) × Int32 × Int32 × Int32) :=
  (f7_isSecrets now v0).bind <| fun q1 =>
    if q1 = 0 then
    ((f7_bad refusals).bind <| fun q3 =>
    some (q3.1, q3.2, vars, sights, many, steps, isCut))
    else ((f7_isSecrets now v1).bind <| fun q4 =>
    if q4 = 0 then
    ((f7_bad refusals).bind <| fun q9 =>
    some (q9.1, q9.2, vars, sights, many, steps, isCut))
    else ((f7_goes now vars sights many steps isCut (0 : Int32) v0).bind <| fun q6 =>
    (f7_goes now q6.1 q6.2.1 q6.2.2.1 q6.2.2.2.1 q6.2.2.2.2 (1 : Int32) v1).bind <| fun q7 =>
    (f7_partsAt q7.2.1 (0 : Int32) (1 : Int32)).bind <| fun q8 =>
    some (q8, refusals, q7.1, q7.2.1, q7.2.2.1, q7.2.2.2.1, q7.2.2.2.2)))
def rm7_parts : Room := { frames := 4, cells := 0, slots := 0, locals := 94 }
set_option maxHeartbeats 4000000 in
set_option maxRecDepth 100000 in
theorem c7_parts {l : Launch} {G : gG} {mo mo_now mo_aside mo_past mo_refusals mo_text mo_vars mo_sights mo_isThere mo_taints mo_known mo_knows mo_letters mo_numbers : Nat} {now : Nat → Int32} {states : Int32} {refusals : Nat → Int32} {length : Int32} {vars : Nat → Int32} {sights : Nat → Int32} {many : Int32} {steps : Int32} {isCut : Int32} {taint : Int32} {isOther : Int32} {at_ : Int32} {isFaulty : Int32} {orders : Int32} {hash : Int64} {v0 : Int32} {v1 : Int32} {res : Int32 × (Nat → Int32) × (Nat → Int32) × (Nat → Int32) × Int32 × Int32 × Int32} (hf : f7_parts now refusals vars sights many steps isCut v0 v1 = some res) : MI l yX7_parts wsX7_parts rm7_parts G [.ref mo, .int v0, .int v1] [(mo, oB 7 [.ref mo_now, .ref mo_aside, .ref mo_past, .int states, .ref mo_refusals, .ref mo_text, .int length, .ref mo_vars, .ref mo_sights, .int many, .int steps, .int isCut, .ref mo_isThere, .ref mo_taints, .ref mo_known, .int taint, .ref mo_knows, .int isOther, .int at_, .int isFaulty, .int orders, .ref mo_letters, .ref mo_numbers, .long hash]), (mo_now, aI G 104 now), (mo_refusals, aI G 3 refusals), (mo_vars, aI G 6 vars), (mo_sights, aI G 15616 sights)] (res.1) [(mo, oB 7 [.ref mo_now, .ref mo_aside, .ref mo_past, .int states, .ref mo_refusals, .ref mo_text, .int length, .ref mo_vars, .ref mo_sights, .int res.2.2.2.2.1, .int res.2.2.2.2.2.1, .int res.2.2.2.2.2.2, .ref mo_isThere, .ref mo_taints, .ref mo_known, .int taint, .ref mo_knows, .int isOther, .int at_, .int isFaulty, .int orders, .ref mo_letters, .ref mo_numbers, .long hash]), (mo_now, aI G 104 now), (mo_refusals, aI G 3 res.2.1), (mo_vars, aI G 6 res.2.2.1), (mo_sights, aI G 15616 res.2.2.2.1)] := by
  refine MI_of (res.1) (cc := cX7_parts) (nL := 3) (lv := [(0, .ref mo), (1, .int v0), (2, .int v1)]) (by decide +kernel) rfl (Nat.le_of_ble_eq_true rfl) rfl ?_
  intro p e s m args below meth c A Q C hR
  unfold f7_parts at hf
  refine g_aload_n C dX7_parts_0 rfl 0 rfl ?_
  refine g_iload_n C dX7_parts_1 rfl 1 rfl ?_
  obtain ⟨q1, hq1, hf⟩ := bs hf
  refine g_callVi (n := 1) (As := [.int v0]) (rest := []) (wc := [(mo, oB 7 [.ref mo_now, .ref mo_aside, .ref mo_past, .int states, .ref mo_refusals, .ref mo_text, .int length, .ref mo_vars, .ref mo_sights, .int many, .int steps, .int isCut, .ref mo_isThere, .ref mo_taints, .ref mo_known, .int taint, .ref mo_knows, .int isOther, .int at_, .int isFaulty, .int orders, .ref mo_letters, .ref mo_numbers, .long hash]), (mo_now, aI G 104 now)]) (w1 := [(mo, oB 7 [.ref mo_now, .ref mo_aside, .ref mo_past, .int states, .ref mo_refusals, .ref mo_text, .int length, .ref mo_vars, .ref mo_sights, .int many, .int steps, .int isCut, .ref mo_isThere, .ref mo_taints, .ref mo_known, .int taint, .ref mo_knows, .int isOther, .int at_, .int isFaulty, .int orders, .ref mo_letters, .ref mo_numbers, .long hash]), (mo_now, aI G 104 now)]) (wr := [(mo_refusals, aI G 3 refusals), (mo_vars, aI G 6 vars), (mo_sights, aI G 15616 sights)]) (WS' := [(mo, oB 7 [.ref mo_now, .ref mo_aside, .ref mo_past, .int states, .ref mo_refusals, .ref mo_text, .int length, .ref mo_vars, .ref mo_sights, .int many, .int steps, .int isCut, .ref mo_isThere, .ref mo_taints, .ref mo_known, .int taint, .ref mo_knows, .int isOther, .int at_, .int isFaulty, .int orders, .ref mo_letters, .ref mo_numbers, .long hash]), (mo_now, aI G 104 now), (mo_refusals, aI G 3 refusals), (mo_vars, aI G 6 vars), (mo_sights, aI G 15616 sights)]) C (c7_isSecrets hq1) gX7_parts_X7_isSecrets (by decide +kernel) rfl rfl rfl rfl rfl rfl ⟨by decide, by decide⟩ rfl [0, 1] [2, 3, 4] [3, 4, 0, 1, 2] rfl (by decide) rfl (by decide) (by decide) rfl (by decide) (Nat.le_of_ble_eq_true rfl) ⟨Nat.zero_le _, Nat.zero_le _⟩ rfl dX7_parts_2 ?_
  refine g_if_eq (tgt := 16) C dX7_parts_5 (by decide) (fun c2 => ?_) (fun c2 => ?_)
  · replace hf := ite_t c2 hf
    refine g_aload_n C dX7_parts_16 rfl 0 rfl ?_
    obtain ⟨q3, hq3, hf⟩ := bs hf
    refine g_callVi (n := 0) (As := []) (rest := []) (wc := [(mo, oB 7 [.ref mo_now, .ref mo_aside, .ref mo_past, .int states, .ref mo_refusals, .ref mo_text, .int length, .ref mo_vars, .ref mo_sights, .int many, .int steps, .int isCut, .ref mo_isThere, .ref mo_taints, .ref mo_known, .int taint, .ref mo_knows, .int isOther, .int at_, .int isFaulty, .int orders, .ref mo_letters, .ref mo_numbers, .long hash]), (mo_refusals, aI G 3 refusals)]) (w1 := [(mo, oB 7 [.ref mo_now, .ref mo_aside, .ref mo_past, .int states, .ref mo_refusals, .ref mo_text, .int length, .ref mo_vars, .ref mo_sights, .int many, .int steps, .int isCut, .ref mo_isThere, .ref mo_taints, .ref mo_known, .int taint, .ref mo_knows, .int isOther, .int at_, .int isFaulty, .int orders, .ref mo_letters, .ref mo_numbers, .long hash]), (mo_refusals, aI G 3 q3.2)]) (wr := [(mo_now, aI G 104 now), (mo_vars, aI G 6 vars), (mo_sights, aI G 15616 sights)]) (WS' := [(mo, oB 7 [.ref mo_now, .ref mo_aside, .ref mo_past, .int states, .ref mo_refusals, .ref mo_text, .int length, .ref mo_vars, .ref mo_sights, .int many, .int steps, .int isCut, .ref mo_isThere, .ref mo_taints, .ref mo_known, .int taint, .ref mo_knows, .int isOther, .int at_, .int isFaulty, .int orders, .ref mo_letters, .ref mo_numbers, .long hash]), (mo_now, aI G 104 now), (mo_refusals, aI G 3 q3.2), (mo_vars, aI G 6 vars), (mo_sights, aI G 15616 sights)]) C (c7_bad hq3) gX7_parts_X7_bad (by decide +kernel) rfl rfl rfl rfl rfl rfl ⟨by decide, by decide⟩ rfl [0, 2] [1, 3, 4] [3, 0, 4, 1, 2] rfl (by decide) rfl (by decide) (by decide) rfl (by decide) (Nat.le_of_ble_eq_true rfl) ⟨Nat.zero_le _, Nat.zero_le _⟩ rfl dX7_parts_17 ?_
    obtain rfl := Option.some.inj hf
    exact hR _ _ dX7_parts_20
  · replace hf := ite_f c2 hf
    refine g_aload_n C dX7_parts_8 rfl 0 rfl ?_
    refine g_iload_n C dX7_parts_9 rfl 2 rfl ?_
    obtain ⟨q4, hq4, hf⟩ := bs hf
    refine g_callVi (n := 1) (As := [.int v1]) (rest := []) (wc := [(mo, oB 7 [.ref mo_now, .ref mo_aside, .ref mo_past, .int states, .ref mo_refusals, .ref mo_text, .int length, .ref mo_vars, .ref mo_sights, .int many, .int steps, .int isCut, .ref mo_isThere, .ref mo_taints, .ref mo_known, .int taint, .ref mo_knows, .int isOther, .int at_, .int isFaulty, .int orders, .ref mo_letters, .ref mo_numbers, .long hash]), (mo_now, aI G 104 now)]) (w1 := [(mo, oB 7 [.ref mo_now, .ref mo_aside, .ref mo_past, .int states, .ref mo_refusals, .ref mo_text, .int length, .ref mo_vars, .ref mo_sights, .int many, .int steps, .int isCut, .ref mo_isThere, .ref mo_taints, .ref mo_known, .int taint, .ref mo_knows, .int isOther, .int at_, .int isFaulty, .int orders, .ref mo_letters, .ref mo_numbers, .long hash]), (mo_now, aI G 104 now)]) (wr := [(mo_refusals, aI G 3 refusals), (mo_vars, aI G 6 vars), (mo_sights, aI G 15616 sights)]) (WS' := [(mo, oB 7 [.ref mo_now, .ref mo_aside, .ref mo_past, .int states, .ref mo_refusals, .ref mo_text, .int length, .ref mo_vars, .ref mo_sights, .int many, .int steps, .int isCut, .ref mo_isThere, .ref mo_taints, .ref mo_known, .int taint, .ref mo_knows, .int isOther, .int at_, .int isFaulty, .int orders, .ref mo_letters, .ref mo_numbers, .long hash]), (mo_now, aI G 104 now), (mo_refusals, aI G 3 refusals), (mo_vars, aI G 6 vars), (mo_sights, aI G 15616 sights)]) C (c7_isSecrets hq4) gX7_parts_X7_isSecrets (by decide +kernel) rfl rfl rfl rfl rfl rfl ⟨by decide, by decide⟩ rfl [0, 1] [2, 3, 4] [3, 4, 0, 1, 2] rfl (by decide) rfl (by decide) (by decide) rfl (by decide) (Nat.le_of_ble_eq_true rfl) ⟨Nat.zero_le _, Nat.zero_le _⟩ rfl dX7_parts_10 ?_
    refine g_if_ne (tgt := 21) C dX7_parts_13 (by decide) (fun c5 => ?_) (fun c5 => ?_)
    · replace hf := ite_f c5 hf
      refine g_aload_n C dX7_parts_21 rfl 0 rfl ?_
      refine g_iconst (v := (0 : Int32)) C dX7_parts_22 (by decide +kernel) ?_
      refine g_iload_n C dX7_parts_23 rfl 1 rfl ?_
      obtain ⟨q6, hq6, hf⟩ := bs hf
      refine g_callVv (n := 2) (As := [.int (0 : Int32), .int v0]) (rest := []) (wc := [(mo, oB 7 [.ref mo_now, .ref mo_aside, .ref mo_past, .int states, .ref mo_refusals, .ref mo_text, .int length, .ref mo_vars, .ref mo_sights, .int many, .int steps, .int isCut, .ref mo_isThere, .ref mo_taints, .ref mo_known, .int taint, .ref mo_knows, .int isOther, .int at_, .int isFaulty, .int orders, .ref mo_letters, .ref mo_numbers, .long hash]), (mo_now, aI G 104 now), (mo_vars, aI G 6 vars), (mo_sights, aI G 15616 sights)]) (w1 := [(mo, oB 7 [.ref mo_now, .ref mo_aside, .ref mo_past, .int states, .ref mo_refusals, .ref mo_text, .int length, .ref mo_vars, .ref mo_sights, .int q6.2.2.1, .int q6.2.2.2.1, .int q6.2.2.2.2, .ref mo_isThere, .ref mo_taints, .ref mo_known, .int taint, .ref mo_knows, .int isOther, .int at_, .int isFaulty, .int orders, .ref mo_letters, .ref mo_numbers, .long hash]), (mo_now, aI G 104 now), (mo_vars, aI G 6 q6.1), (mo_sights, aI G 15616 q6.2.1)]) (wr := [(mo_refusals, aI G 3 refusals)]) (WS' := [(mo, oB 7 [.ref mo_now, .ref mo_aside, .ref mo_past, .int states, .ref mo_refusals, .ref mo_text, .int length, .ref mo_vars, .ref mo_sights, .int q6.2.2.1, .int q6.2.2.2.1, .int q6.2.2.2.2, .ref mo_isThere, .ref mo_taints, .ref mo_known, .int taint, .ref mo_knows, .int isOther, .int at_, .int isFaulty, .int orders, .ref mo_letters, .ref mo_numbers, .long hash]), (mo_now, aI G 104 now), (mo_refusals, aI G 3 refusals), (mo_vars, aI G 6 q6.1), (mo_sights, aI G 15616 q6.2.1)]) C (c7_goes hq6) gX7_parts_X7_goes (by decide +kernel) rfl rfl rfl rfl rfl rfl ⟨by decide, by decide⟩ rfl [0, 1, 3, 4] [2] [1, 2, 0, 3, 4] rfl (by decide) rfl (by decide) (by decide) rfl (by decide) (Nat.le_of_ble_eq_true rfl) ⟨Nat.zero_le _, Nat.zero_le _⟩ rfl dX7_parts_24 ?_
      refine g_aload_n C dX7_parts_27 rfl 0 rfl ?_
      refine g_iconst (v := (1 : Int32)) C dX7_parts_28 (by decide +kernel) ?_
      refine g_iload_n C dX7_parts_29 rfl 2 rfl ?_
      obtain ⟨q7, hq7, hf⟩ := bs hf
      refine g_callVv (n := 2) (As := [.int (1 : Int32), .int v1]) (rest := []) (wc := [(mo, oB 7 [.ref mo_now, .ref mo_aside, .ref mo_past, .int states, .ref mo_refusals, .ref mo_text, .int length, .ref mo_vars, .ref mo_sights, .int q6.2.2.1, .int q6.2.2.2.1, .int q6.2.2.2.2, .ref mo_isThere, .ref mo_taints, .ref mo_known, .int taint, .ref mo_knows, .int isOther, .int at_, .int isFaulty, .int orders, .ref mo_letters, .ref mo_numbers, .long hash]), (mo_now, aI G 104 now), (mo_vars, aI G 6 q6.1), (mo_sights, aI G 15616 q6.2.1)]) (w1 := [(mo, oB 7 [.ref mo_now, .ref mo_aside, .ref mo_past, .int states, .ref mo_refusals, .ref mo_text, .int length, .ref mo_vars, .ref mo_sights, .int q7.2.2.1, .int q7.2.2.2.1, .int q7.2.2.2.2, .ref mo_isThere, .ref mo_taints, .ref mo_known, .int taint, .ref mo_knows, .int isOther, .int at_, .int isFaulty, .int orders, .ref mo_letters, .ref mo_numbers, .long hash]), (mo_now, aI G 104 now), (mo_vars, aI G 6 q7.1), (mo_sights, aI G 15616 q7.2.1)]) (wr := [(mo_refusals, aI G 3 refusals)]) (WS' := [(mo, oB 7 [.ref mo_now, .ref mo_aside, .ref mo_past, .int states, .ref mo_refusals, .ref mo_text, .int length, .ref mo_vars, .ref mo_sights, .int q7.2.2.1, .int q7.2.2.2.1, .int q7.2.2.2.2, .ref mo_isThere, .ref mo_taints, .ref mo_known, .int taint, .ref mo_knows, .int isOther, .int at_, .int isFaulty, .int orders, .ref mo_letters, .ref mo_numbers, .long hash]), (mo_now, aI G 104 now), (mo_refusals, aI G 3 refusals), (mo_vars, aI G 6 q7.1), (mo_sights, aI G 15616 q7.2.1)]) C (c7_goes hq7) gX7_parts_X7_goes (by decide +kernel) rfl rfl rfl rfl rfl rfl ⟨by decide, by decide⟩ rfl [0, 1, 3, 4] [2] [1, 2, 0, 3, 4] rfl (by decide) rfl (by decide) (by decide) rfl (by decide) (Nat.le_of_ble_eq_true rfl) ⟨Nat.zero_le _, Nat.zero_le _⟩ rfl dX7_parts_30 ?_
      refine g_aload_n C dX7_parts_33 rfl 0 rfl ?_
      refine g_iconst (v := (0 : Int32)) C dX7_parts_34 (by decide +kernel) ?_
      refine g_iconst (v := (1 : Int32)) C dX7_parts_35 (by decide +kernel) ?_
      obtain ⟨q8, hq8, hf⟩ := bs hf
      refine g_callVi (n := 2) (As := [.int (0 : Int32), .int (1 : Int32)]) (rest := []) (wc := [(mo, oB 7 [.ref mo_now, .ref mo_aside, .ref mo_past, .int states, .ref mo_refusals, .ref mo_text, .int length, .ref mo_vars, .ref mo_sights, .int q7.2.2.1, .int q7.2.2.2.1, .int q7.2.2.2.2, .ref mo_isThere, .ref mo_taints, .ref mo_known, .int taint, .ref mo_knows, .int isOther, .int at_, .int isFaulty, .int orders, .ref mo_letters, .ref mo_numbers, .long hash]), (mo_sights, aI G 15616 q7.2.1)]) (w1 := [(mo, oB 7 [.ref mo_now, .ref mo_aside, .ref mo_past, .int states, .ref mo_refusals, .ref mo_text, .int length, .ref mo_vars, .ref mo_sights, .int q7.2.2.1, .int q7.2.2.2.1, .int q7.2.2.2.2, .ref mo_isThere, .ref mo_taints, .ref mo_known, .int taint, .ref mo_knows, .int isOther, .int at_, .int isFaulty, .int orders, .ref mo_letters, .ref mo_numbers, .long hash]), (mo_sights, aI G 15616 q7.2.1)]) (wr := [(mo_now, aI G 104 now), (mo_refusals, aI G 3 refusals), (mo_vars, aI G 6 q7.1)]) (WS' := [(mo, oB 7 [.ref mo_now, .ref mo_aside, .ref mo_past, .int states, .ref mo_refusals, .ref mo_text, .int length, .ref mo_vars, .ref mo_sights, .int q7.2.2.1, .int q7.2.2.2.1, .int q7.2.2.2.2, .ref mo_isThere, .ref mo_taints, .ref mo_known, .int taint, .ref mo_knows, .int isOther, .int at_, .int isFaulty, .int orders, .ref mo_letters, .ref mo_numbers, .long hash]), (mo_now, aI G 104 now), (mo_refusals, aI G 3 refusals), (mo_vars, aI G 6 q7.1), (mo_sights, aI G 15616 q7.2.1)]) C (c7_partsAt hq8) gX7_parts_X7_partsAt (by decide +kernel) rfl rfl rfl rfl rfl rfl ⟨by decide, by decide⟩ rfl [0, 4] [1, 2, 3] [3, 0, 1, 2, 4] rfl (by decide) rfl (by decide) (by decide) rfl (by decide) (Nat.le_of_ble_eq_true rfl) ⟨Nat.zero_le _, Nat.zero_le _⟩ rfl dX7_parts_36 ?_
      obtain rfl := Option.some.inj hf
      exact hR _ _ dX7_parts_39
    · replace hf := ite_t c5 hf
      refine g_aload_n C dX7_parts_16 rfl 0 rfl ?_
      obtain ⟨q9, hq9, hf⟩ := bs hf
      refine g_callVi (n := 0) (As := []) (rest := []) (wc := [(mo, oB 7 [.ref mo_now, .ref mo_aside, .ref mo_past, .int states, .ref mo_refusals, .ref mo_text, .int length, .ref mo_vars, .ref mo_sights, .int many, .int steps, .int isCut, .ref mo_isThere, .ref mo_taints, .ref mo_known, .int taint, .ref mo_knows, .int isOther, .int at_, .int isFaulty, .int orders, .ref mo_letters, .ref mo_numbers, .long hash]), (mo_refusals, aI G 3 refusals)]) (w1 := [(mo, oB 7 [.ref mo_now, .ref mo_aside, .ref mo_past, .int states, .ref mo_refusals, .ref mo_text, .int length, .ref mo_vars, .ref mo_sights, .int many, .int steps, .int isCut, .ref mo_isThere, .ref mo_taints, .ref mo_known, .int taint, .ref mo_knows, .int isOther, .int at_, .int isFaulty, .int orders, .ref mo_letters, .ref mo_numbers, .long hash]), (mo_refusals, aI G 3 q9.2)]) (wr := [(mo_now, aI G 104 now), (mo_vars, aI G 6 vars), (mo_sights, aI G 15616 sights)]) (WS' := [(mo, oB 7 [.ref mo_now, .ref mo_aside, .ref mo_past, .int states, .ref mo_refusals, .ref mo_text, .int length, .ref mo_vars, .ref mo_sights, .int many, .int steps, .int isCut, .ref mo_isThere, .ref mo_taints, .ref mo_known, .int taint, .ref mo_knows, .int isOther, .int at_, .int isFaulty, .int orders, .ref mo_letters, .ref mo_numbers, .long hash]), (mo_now, aI G 104 now), (mo_refusals, aI G 3 q9.2), (mo_vars, aI G 6 vars), (mo_sights, aI G 15616 sights)]) C (c7_bad hq9) gX7_parts_X7_bad (by decide +kernel) rfl rfl rfl rfl rfl rfl ⟨by decide, by decide⟩ rfl [0, 2] [1, 3, 4] [3, 0, 4, 1, 2] rfl (by decide) rfl (by decide) (by decide) rfl (by decide) (Nat.le_of_ble_eq_true rfl) ⟨Nat.zero_le _, Nat.zero_le _⟩ rfl dX7_parts_17 ?_
      obtain rfl := Option.some.inj hf
      exact hR _ _ dX7_parts_20

-- X7_leakNow
def f7_leakNow_8b (now : Nat → Int32) (k8 : (Nat → Int32) × (Nat → Int32) × Int32 × Int32 × Int32 × Int32 → Option (Int32 × (Nat → Int32) × (Nat → Int32) × Int32 × Int32 × Int32)) (vars : Nat → Int32) (sights : Nat → Int32) (many : Int32) (steps : Int32) (isCut : Int32) (x1 : Int32) : Option (Int32 × (Nat → Int32) × (Nat → Int32) × Int32 × Int32 × Int32) :=
  (f7_secrets now).bind <| fun q1 =>
    if q1 ≤ x1 then
    (some ((-1 : Int32), vars, sights, many, steps, isCut))
    else ((f7_goes now vars sights many steps isCut (1 : Int32) x1).bind <| fun q3 =>
    (f7_partsAt q3.2.1 (0 : Int32) (1 : Int32)).bind <| fun q4 =>
    if q4 = (-1 : Int32) then
    (k8 (q3.1, q3.2.1, q3.2.2.1, q3.2.2.2.1, q3.2.2.2.2, (x1 + (1 : Int32))))
    else (some (x1, q3.1, q3.2.1, q3.2.2.1, q3.2.2.2.1, q3.2.2.2.2)))
def f7_leakNow_8 (now : Nat → Int32) (n : Nat) (s : (Nat → Int32) × (Nat → Int32) × Int32 × Int32 × Int32 × Int32) : Option (Int32 × (Nat → Int32) × (Nat → Int32) × Int32 × Int32 × Int32) := itf (fun k s => f7_leakNow_8b now k s.1 s.2.1 s.2.2.1 s.2.2.2.1 s.2.2.2.2.1 s.2.2.2.2.2) n s
def f7_leakNow (now : Nat → Int32) (vars : Nat → Int32) (sights : Nat → Int32) (many : Int32) (steps : Int32) (isCut : Int32) : Option (Int32 × (Nat → Int32) × (Nat → Int32) × Int32 × Int32 × Int32) :=
  (f7_goes now vars sights many steps isCut (0 : Int32) (0 : Int32)).bind <| fun q6 =>
    f7_leakNow_8 now 1000 (q6.1, q6.2.1, q6.2.2.1, q6.2.2.2.1, q6.2.2.2.2, (1 : Int32))
def rm7_leakNow : Room := { frames := 4, cells := 0, slots := 0, locals := 94 }
set_option maxHeartbeats 4000000 in
set_option maxRecDepth 100000 in
theorem k7_leakNow_8b {p : Program} {l : Launch} {e : Env} {s : State} {m : MethodId} {args : Array Value} {below : List Frame} {meth : Method} {c : Code} {G : gG} {A : Nat → Prop} {Q : State → Prop} {mo mo_now mo_aside mo_past mo_refusals mo_text mo_vars mo_sights mo_isThere mo_taints mo_known mo_knows mo_letters mo_numbers : Nat} (C : CX p s m args meth c G A cX7_leakNow 2 RX7 wsX7_leakNow) {states : Int32} {length : Int32} {taint : Int32} {isOther : Int32} {at_ : Int32} {isFaulty : Int32} {orders : Int32} {hash : Int64} {now : Nat → Int32} {k8 : (Nat → Int32) × (Nat → Int32) × Int32 × Int32 × Int32 × Int32 → Option (Int32 × (Nat → Int32) × (Nat → Int32) × Int32 × Int32 × Int32)} {vars : Nat → Int32} {sights : Nat → Int32} {many : Int32} {steps : Int32} {isCut : Int32} {x1 : Int32} {res : Int32 × (Nat → Int32) × (Nat → Int32) × Int32 × Int32 × Int32} (hR : ∀ (lv : List (Nat × Value)) (pc : Nat), decode cX7_leakNow pc = .ok (.ireturn, 1) → GG p l e rm7_leakNow s m args below meth c G A 2 0 0 Q [(mo, oB 7 [.ref mo_now, .ref mo_aside, .ref mo_past, .int states, .ref mo_refusals, .ref mo_text, .int length, .ref mo_vars, .ref mo_sights, .int res.2.2.2.1, .int res.2.2.2.2.1, .int res.2.2.2.2.2, .ref mo_isThere, .ref mo_taints, .ref mo_known, .int taint, .ref mo_knows, .int isOther, .int at_, .int isFaulty, .int orders, .ref mo_letters, .ref mo_numbers, .long hash]), (mo_now, aI G 104 now), (mo_vars, aI G 6 res.2.1), (mo_sights, aI G 15616 res.2.2.1)] lv pc [.int res.1])
    (hk8 : ∀ s', k8 s' = some res → GG p l e rm7_leakNow s m args below meth c G A 2 0 0 Q [(mo, oB 7 [.ref mo_now, .ref mo_aside, .ref mo_past, .int states, .ref mo_refusals, .ref mo_text, .int length, .ref mo_vars, .ref mo_sights, .int s'.2.2.1, .int s'.2.2.2.1, .int s'.2.2.2.2.1, .ref mo_isThere, .ref mo_taints, .ref mo_known, .int taint, .ref mo_knows, .int isOther, .int at_, .int isFaulty, .int orders, .ref mo_letters, .ref mo_numbers, .long hash]), (mo_now, aI G 104 now), (mo_vars, aI G 6 s'.1), (mo_sights, aI G 15616 s'.2.1)] [(0, .ref mo), (1, .int s'.2.2.2.2.2)] 8 [])
    (hf : f7_leakNow_8b now k8 vars sights many steps isCut x1 = some res) : GG p l e rm7_leakNow s m args below meth c G A 2 0 0 Q [(mo, oB 7 [.ref mo_now, .ref mo_aside, .ref mo_past, .int states, .ref mo_refusals, .ref mo_text, .int length, .ref mo_vars, .ref mo_sights, .int many, .int steps, .int isCut, .ref mo_isThere, .ref mo_taints, .ref mo_known, .int taint, .ref mo_knows, .int isOther, .int at_, .int isFaulty, .int orders, .ref mo_letters, .ref mo_numbers, .long hash]), (mo_now, aI G 104 now), (mo_vars, aI G 6 vars), (mo_sights, aI G 15616 sights)] [(0, .ref mo), (1, .int x1)] 8 [] := by
  unfold f7_leakNow_8b at hf
  refine g_iload_n C dX7_leakNow_8 rfl 1 rfl ?_
  refine g_aload_n C dX7_leakNow_9 rfl 0 rfl ?_
  obtain ⟨q1, hq1, hf⟩ := bs hf
  refine g_callVi (n := 0) (As := []) (rest := [.int x1]) (wc := [(mo, oB 7 [.ref mo_now, .ref mo_aside, .ref mo_past, .int states, .ref mo_refusals, .ref mo_text, .int length, .ref mo_vars, .ref mo_sights, .int many, .int steps, .int isCut, .ref mo_isThere, .ref mo_taints, .ref mo_known, .int taint, .ref mo_knows, .int isOther, .int at_, .int isFaulty, .int orders, .ref mo_letters, .ref mo_numbers, .long hash]), (mo_now, aI G 104 now)]) (w1 := [(mo, oB 7 [.ref mo_now, .ref mo_aside, .ref mo_past, .int states, .ref mo_refusals, .ref mo_text, .int length, .ref mo_vars, .ref mo_sights, .int many, .int steps, .int isCut, .ref mo_isThere, .ref mo_taints, .ref mo_known, .int taint, .ref mo_knows, .int isOther, .int at_, .int isFaulty, .int orders, .ref mo_letters, .ref mo_numbers, .long hash]), (mo_now, aI G 104 now)]) (wr := [(mo_vars, aI G 6 vars), (mo_sights, aI G 15616 sights)]) (WS' := [(mo, oB 7 [.ref mo_now, .ref mo_aside, .ref mo_past, .int states, .ref mo_refusals, .ref mo_text, .int length, .ref mo_vars, .ref mo_sights, .int many, .int steps, .int isCut, .ref mo_isThere, .ref mo_taints, .ref mo_known, .int taint, .ref mo_knows, .int isOther, .int at_, .int isFaulty, .int orders, .ref mo_letters, .ref mo_numbers, .long hash]), (mo_now, aI G 104 now), (mo_vars, aI G 6 vars), (mo_sights, aI G 15616 sights)]) C (c7_secrets hq1) gX7_leakNow_X7_secrets (by decide +kernel) rfl rfl rfl rfl rfl rfl ⟨by decide, by decide⟩ rfl [0, 1] [2, 3] [2, 3, 0, 1] rfl (by decide) rfl (by decide) (by decide) rfl (by decide) (Nat.le_of_ble_eq_true rfl) ⟨Nat.zero_le _, Nat.zero_le _⟩ rfl dX7_leakNow_10 ?_
  refine g_icmp_ge (tgt := 40) C dX7_leakNow_13 (by decide) (fun c2 => ?_) (fun c2 => ?_)
  · replace hf := ite_t c2 hf
    refine g_iconst (v := (-1 : Int32)) C dX7_leakNow_40 (by decide +kernel) ?_
    obtain rfl := Option.some.inj hf
    exact hR _ _ dX7_leakNow_41
  · replace hf := ite_f c2 hf
    refine g_aload_n C dX7_leakNow_16 rfl 0 rfl ?_
    refine g_iconst (v := (1 : Int32)) C dX7_leakNow_17 (by decide +kernel) ?_
    refine g_iload_n C dX7_leakNow_18 rfl 1 rfl ?_
    obtain ⟨q3, hq3, hf⟩ := bs hf
    refine g_callVv (n := 2) (As := [.int (1 : Int32), .int x1]) (rest := []) (wc := [(mo, oB 7 [.ref mo_now, .ref mo_aside, .ref mo_past, .int states, .ref mo_refusals, .ref mo_text, .int length, .ref mo_vars, .ref mo_sights, .int many, .int steps, .int isCut, .ref mo_isThere, .ref mo_taints, .ref mo_known, .int taint, .ref mo_knows, .int isOther, .int at_, .int isFaulty, .int orders, .ref mo_letters, .ref mo_numbers, .long hash]), (mo_now, aI G 104 now), (mo_vars, aI G 6 vars), (mo_sights, aI G 15616 sights)]) (w1 := [(mo, oB 7 [.ref mo_now, .ref mo_aside, .ref mo_past, .int states, .ref mo_refusals, .ref mo_text, .int length, .ref mo_vars, .ref mo_sights, .int q3.2.2.1, .int q3.2.2.2.1, .int q3.2.2.2.2, .ref mo_isThere, .ref mo_taints, .ref mo_known, .int taint, .ref mo_knows, .int isOther, .int at_, .int isFaulty, .int orders, .ref mo_letters, .ref mo_numbers, .long hash]), (mo_now, aI G 104 now), (mo_vars, aI G 6 q3.1), (mo_sights, aI G 15616 q3.2.1)]) (wr := []) (WS' := [(mo, oB 7 [.ref mo_now, .ref mo_aside, .ref mo_past, .int states, .ref mo_refusals, .ref mo_text, .int length, .ref mo_vars, .ref mo_sights, .int q3.2.2.1, .int q3.2.2.2.1, .int q3.2.2.2.2, .ref mo_isThere, .ref mo_taints, .ref mo_known, .int taint, .ref mo_knows, .int isOther, .int at_, .int isFaulty, .int orders, .ref mo_letters, .ref mo_numbers, .long hash]), (mo_now, aI G 104 now), (mo_vars, aI G 6 q3.1), (mo_sights, aI G 15616 q3.2.1)]) C (c7_goes hq3) gX7_leakNow_X7_goes (by decide +kernel) rfl rfl rfl rfl rfl rfl ⟨by decide, by decide⟩ rfl [0, 1, 2, 3] [] [0, 1, 2, 3] rfl (by decide) rfl (by decide) (by decide) rfl (by decide) (Nat.le_of_ble_eq_true rfl) ⟨Nat.zero_le _, Nat.zero_le _⟩ rfl dX7_leakNow_19 ?_
    refine g_aload_n C dX7_leakNow_22 rfl 0 rfl ?_
    refine g_iconst (v := (0 : Int32)) C dX7_leakNow_23 (by decide +kernel) ?_
    refine g_iconst (v := (1 : Int32)) C dX7_leakNow_24 (by decide +kernel) ?_
    obtain ⟨q4, hq4, hf⟩ := bs hf
    refine g_callVi (n := 2) (As := [.int (0 : Int32), .int (1 : Int32)]) (rest := []) (wc := [(mo, oB 7 [.ref mo_now, .ref mo_aside, .ref mo_past, .int states, .ref mo_refusals, .ref mo_text, .int length, .ref mo_vars, .ref mo_sights, .int q3.2.2.1, .int q3.2.2.2.1, .int q3.2.2.2.2, .ref mo_isThere, .ref mo_taints, .ref mo_known, .int taint, .ref mo_knows, .int isOther, .int at_, .int isFaulty, .int orders, .ref mo_letters, .ref mo_numbers, .long hash]), (mo_sights, aI G 15616 q3.2.1)]) (w1 := [(mo, oB 7 [.ref mo_now, .ref mo_aside, .ref mo_past, .int states, .ref mo_refusals, .ref mo_text, .int length, .ref mo_vars, .ref mo_sights, .int q3.2.2.1, .int q3.2.2.2.1, .int q3.2.2.2.2, .ref mo_isThere, .ref mo_taints, .ref mo_known, .int taint, .ref mo_knows, .int isOther, .int at_, .int isFaulty, .int orders, .ref mo_letters, .ref mo_numbers, .long hash]), (mo_sights, aI G 15616 q3.2.1)]) (wr := [(mo_now, aI G 104 now), (mo_vars, aI G 6 q3.1)]) (WS' := [(mo, oB 7 [.ref mo_now, .ref mo_aside, .ref mo_past, .int states, .ref mo_refusals, .ref mo_text, .int length, .ref mo_vars, .ref mo_sights, .int q3.2.2.1, .int q3.2.2.2.1, .int q3.2.2.2.2, .ref mo_isThere, .ref mo_taints, .ref mo_known, .int taint, .ref mo_knows, .int isOther, .int at_, .int isFaulty, .int orders, .ref mo_letters, .ref mo_numbers, .long hash]), (mo_now, aI G 104 now), (mo_vars, aI G 6 q3.1), (mo_sights, aI G 15616 q3.2.1)]) C (c7_partsAt hq4) gX7_leakNow_X7_partsAt (by decide +kernel) rfl rfl rfl rfl rfl rfl ⟨by decide, by decide⟩ rfl [0, 3] [1, 2] [2, 0, 1, 3] rfl (by decide) rfl (by decide) (by decide) rfl (by decide) (Nat.le_of_ble_eq_true rfl) ⟨Nat.zero_le _, Nat.zero_le _⟩ rfl dX7_leakNow_25 ?_
    refine g_iconst (v := (-1 : Int32)) C dX7_leakNow_28 (by decide +kernel) ?_
    refine g_icmp_eq (tgt := 34) C dX7_leakNow_29 (by decide) (fun c5 => ?_) (fun c5 => ?_)
    · replace hf := ite_t c5 hf
      refine g_iinc (v := (x1 + (1 : Int32))) (lv' := [(0, .ref mo), (1, .int (x1 + (1 : Int32)))]) C dX7_leakNow_34 1 rfl rfl (by decide) [1, 0] rfl ?_
      refine g_goto (tgt := 8) C dX7_leakNow_37 (by decide) ?_
      exact hk8 _ hf
    · replace hf := ite_f c5 hf
      refine g_iload_n C dX7_leakNow_32 rfl 1 rfl ?_
      obtain rfl := Option.some.inj hf
      exact hR _ _ dX7_leakNow_33
set_option maxHeartbeats 4000000 in
set_option maxRecDepth 100000 in
theorem k7_leakNow_8 {p : Program} {l : Launch} {e : Env} {s : State} {m : MethodId} {args : Array Value} {below : List Frame} {meth : Method} {c : Code} {G : gG} {A : Nat → Prop} {Q : State → Prop} {mo mo_now mo_aside mo_past mo_refusals mo_text mo_vars mo_sights mo_isThere mo_taints mo_known mo_knows mo_letters mo_numbers : Nat} (C : CX p s m args meth c G A cX7_leakNow 2 RX7 wsX7_leakNow) {states : Int32} {length : Int32} {taint : Int32} {isOther : Int32} {at_ : Int32} {isFaulty : Int32} {orders : Int32} {hash : Int64} {now : Nat → Int32} {res : Int32 × (Nat → Int32) × (Nat → Int32) × Int32 × Int32 × Int32} (hR : ∀ (lv : List (Nat × Value)) (pc : Nat), decode cX7_leakNow pc = .ok (.ireturn, 1) → GG p l e rm7_leakNow s m args below meth c G A 2 0 0 Q [(mo, oB 7 [.ref mo_now, .ref mo_aside, .ref mo_past, .int states, .ref mo_refusals, .ref mo_text, .int length, .ref mo_vars, .ref mo_sights, .int res.2.2.2.1, .int res.2.2.2.2.1, .int res.2.2.2.2.2, .ref mo_isThere, .ref mo_taints, .ref mo_known, .int taint, .ref mo_knows, .int isOther, .int at_, .int isFaulty, .int orders, .ref mo_letters, .ref mo_numbers, .long hash]), (mo_now, aI G 104 now), (mo_vars, aI G 6 res.2.1), (mo_sights, aI G 15616 res.2.2.1)] lv pc [.int res.1]) : ∀ (n : Nat) (s1 : (Nat → Int32) × (Nat → Int32) × Int32 × Int32 × Int32 × Int32), f7_leakNow_8 now n s1 = some res → GG p l e rm7_leakNow s m args below meth c G A 2 0 0 Q [(mo, oB 7 [.ref mo_now, .ref mo_aside, .ref mo_past, .int states, .ref mo_refusals, .ref mo_text, .int length, .ref mo_vars, .ref mo_sights, .int s1.2.2.1, .int s1.2.2.2.1, .int s1.2.2.2.2.1, .ref mo_isThere, .ref mo_taints, .ref mo_known, .int taint, .ref mo_knows, .int isOther, .int at_, .int isFaulty, .int orders, .ref mo_letters, .ref mo_numbers, .long hash]), (mo_now, aI G 104 now), (mo_vars, aI G 6 s1.1), (mo_sights, aI G 15616 s1.2.1)] [(0, .ref mo), (1, .int s1.2.2.2.2.2)] 8 [] :=
  itf_ind (fun k s1 ih hf => k7_leakNow_8b C hR ih hf)
set_option maxHeartbeats 4000000 in
set_option maxRecDepth 100000 in
theorem c7_leakNow {l : Launch} {G : gG} {mo mo_now mo_aside mo_past mo_refusals mo_text mo_vars mo_sights mo_isThere mo_taints mo_known mo_knows mo_letters mo_numbers : Nat} {now : Nat → Int32} {states : Int32} {length : Int32} {vars : Nat → Int32} {sights : Nat → Int32} {many : Int32} {steps : Int32} {isCut : Int32} {taint : Int32} {isOther : Int32} {at_ : Int32} {isFaulty : Int32} {orders : Int32} {hash : Int64} {res : Int32 × (Nat → Int32) × (Nat → Int32) × Int32 × Int32 × Int32} (hf : f7_leakNow now vars sights many steps isCut = some res) : MI l yX7_leakNow wsX7_leakNow rm7_leakNow G [.ref mo] [(mo, oB 7 [.ref mo_now, .ref mo_aside, .ref mo_past, .int states, .ref mo_refusals, .ref mo_text, .int length, .ref mo_vars, .ref mo_sights, .int many, .int steps, .int isCut, .ref mo_isThere, .ref mo_taints, .ref mo_known, .int taint, .ref mo_knows, .int isOther, .int at_, .int isFaulty, .int orders, .ref mo_letters, .ref mo_numbers, .long hash]), (mo_now, aI G 104 now), (mo_vars, aI G 6 vars), (mo_sights, aI G 15616 sights)] (res.1) [(mo, oB 7 [.ref mo_now, .ref mo_aside, .ref mo_past, .int states, .ref mo_refusals, .ref mo_text, .int length, .ref mo_vars, .ref mo_sights, .int res.2.2.2.1, .int res.2.2.2.2.1, .int res.2.2.2.2.2, .ref mo_isThere, .ref mo_taints, .ref mo_known, .int taint, .ref mo_knows, .int isOther, .int at_, .int isFaulty, .int orders, .ref mo_letters, .ref mo_numbers, .long hash]), (mo_now, aI G 104 now), (mo_vars, aI G 6 res.2.1), (mo_sights, aI G 15616 res.2.2.1)] := by
  refine MI_of (res.1) (cc := cX7_leakNow) (nL := 2) (lv := [(0, .ref mo)]) (by decide +kernel) rfl (Nat.le_of_ble_eq_true rfl) rfl ?_
  intro p e s m args below meth c A Q C hR
  unfold f7_leakNow at hf
  refine g_aload_n C dX7_leakNow_0 rfl 0 rfl ?_
  refine g_iconst (v := (0 : Int32)) C dX7_leakNow_1 (by decide +kernel) ?_
  refine g_iconst (v := (0 : Int32)) C dX7_leakNow_2 (by decide +kernel) ?_
  obtain ⟨q6, hq6, hf⟩ := bs hf
  refine g_callVv (n := 2) (As := [.int (0 : Int32), .int (0 : Int32)]) (rest := []) (wc := [(mo, oB 7 [.ref mo_now, .ref mo_aside, .ref mo_past, .int states, .ref mo_refusals, .ref mo_text, .int length, .ref mo_vars, .ref mo_sights, .int many, .int steps, .int isCut, .ref mo_isThere, .ref mo_taints, .ref mo_known, .int taint, .ref mo_knows, .int isOther, .int at_, .int isFaulty, .int orders, .ref mo_letters, .ref mo_numbers, .long hash]), (mo_now, aI G 104 now), (mo_vars, aI G 6 vars), (mo_sights, aI G 15616 sights)]) (w1 := [(mo, oB 7 [.ref mo_now, .ref mo_aside, .ref mo_past, .int states, .ref mo_refusals, .ref mo_text, .int length, .ref mo_vars, .ref mo_sights, .int q6.2.2.1, .int q6.2.2.2.1, .int q6.2.2.2.2, .ref mo_isThere, .ref mo_taints, .ref mo_known, .int taint, .ref mo_knows, .int isOther, .int at_, .int isFaulty, .int orders, .ref mo_letters, .ref mo_numbers, .long hash]), (mo_now, aI G 104 now), (mo_vars, aI G 6 q6.1), (mo_sights, aI G 15616 q6.2.1)]) (wr := []) (WS' := [(mo, oB 7 [.ref mo_now, .ref mo_aside, .ref mo_past, .int states, .ref mo_refusals, .ref mo_text, .int length, .ref mo_vars, .ref mo_sights, .int q6.2.2.1, .int q6.2.2.2.1, .int q6.2.2.2.2, .ref mo_isThere, .ref mo_taints, .ref mo_known, .int taint, .ref mo_knows, .int isOther, .int at_, .int isFaulty, .int orders, .ref mo_letters, .ref mo_numbers, .long hash]), (mo_now, aI G 104 now), (mo_vars, aI G 6 q6.1), (mo_sights, aI G 15616 q6.2.1)]) C (c7_goes hq6) gX7_leakNow_X7_goes (by decide +kernel) rfl rfl rfl rfl rfl rfl ⟨by decide, by decide⟩ rfl [0, 1, 2, 3] [] [0, 1, 2, 3] rfl (by decide) rfl (by decide) (by decide) rfl (by decide) (Nat.le_of_ble_eq_true rfl) ⟨Nat.zero_le _, Nat.zero_le _⟩ rfl dX7_leakNow_3 ?_
  refine g_iconst (v := (1 : Int32)) C dX7_leakNow_6 (by decide +kernel) ?_
  refine g_istore_n (lv' := [(0, .ref mo), (1, .int (1 : Int32))]) C dX7_leakNow_7 rfl (by decide) [1, 0] rfl ?_
  exact k7_leakNow_8 C hR _ _ hf

-- X7_leak
def f7_leak (now : Nat → Int32) (vars : Nat → Int32) (sights : Nat → Int32) (many : Int32) (steps : Int32) (isCut : Int32) : Option (Int32 × (Nat → Int32) × (Nat → Int32) × Int32 × Int32 × Int32) :=
  (f7_leakNow now vars sights many steps isCut).bind <| fun q1 =>
    some (q1.1, q1.2.1, q1.2.2.1, q1.2.2.2.1, q1.2.2.2.2.1, q1.2.2.2.2.2)
def rm7_leak : Room := { frames := 5, cells := 0, slots := 0, locals := 115 }
set_option maxHeartbeats 4000000 in
set_option maxRecDepth 100000 in
theorem c7_leak {l : Launch} {G : gG} {mo mo_now mo_aside mo_past mo_refusals mo_text mo_vars mo_sights mo_isThere mo_taints mo_known mo_knows mo_letters mo_numbers : Nat} {now : Nat → Int32} {states : Int32} {length : Int32} {vars : Nat → Int32} {sights : Nat → Int32} {many : Int32} {steps : Int32} {isCut : Int32} {taint : Int32} {isOther : Int32} {at_ : Int32} {isFaulty : Int32} {orders : Int32} {hash : Int64} {res : Int32 × (Nat → Int32) × (Nat → Int32) × Int32 × Int32 × Int32} (hf : f7_leak now vars sights many steps isCut = some res) : MI l yX7_leak wsX7_leak rm7_leak G [.ref mo] [(mo, oB 7 [.ref mo_now, .ref mo_aside, .ref mo_past, .int states, .ref mo_refusals, .ref mo_text, .int length, .ref mo_vars, .ref mo_sights, .int many, .int steps, .int isCut, .ref mo_isThere, .ref mo_taints, .ref mo_known, .int taint, .ref mo_knows, .int isOther, .int at_, .int isFaulty, .int orders, .ref mo_letters, .ref mo_numbers, .long hash]), (mo_now, aI G 104 now), (mo_vars, aI G 6 vars), (mo_sights, aI G 15616 sights)] (res.1) [(mo, oB 7 [.ref mo_now, .ref mo_aside, .ref mo_past, .int states, .ref mo_refusals, .ref mo_text, .int length, .ref mo_vars, .ref mo_sights, .int res.2.2.2.1, .int res.2.2.2.2.1, .int res.2.2.2.2.2, .ref mo_isThere, .ref mo_taints, .ref mo_known, .int taint, .ref mo_knows, .int isOther, .int at_, .int isFaulty, .int orders, .ref mo_letters, .ref mo_numbers, .long hash]), (mo_now, aI G 104 now), (mo_vars, aI G 6 res.2.1), (mo_sights, aI G 15616 res.2.2.1)] := by
  refine MI_of (res.1) (cc := cX7_leak) (nL := 1) (lv := [(0, .ref mo)]) (by decide +kernel) rfl (Nat.le_of_ble_eq_true rfl) rfl ?_
  intro p e s m args below meth c A Q C hR
  unfold f7_leak at hf
  refine g_aload_n C dX7_leak_0 rfl 0 rfl ?_
  obtain ⟨q1, hq1, hf⟩ := bs hf
  refine g_callVi (n := 0) (As := []) (rest := []) (wc := [(mo, oB 7 [.ref mo_now, .ref mo_aside, .ref mo_past, .int states, .ref mo_refusals, .ref mo_text, .int length, .ref mo_vars, .ref mo_sights, .int many, .int steps, .int isCut, .ref mo_isThere, .ref mo_taints, .ref mo_known, .int taint, .ref mo_knows, .int isOther, .int at_, .int isFaulty, .int orders, .ref mo_letters, .ref mo_numbers, .long hash]), (mo_now, aI G 104 now), (mo_vars, aI G 6 vars), (mo_sights, aI G 15616 sights)]) (w1 := [(mo, oB 7 [.ref mo_now, .ref mo_aside, .ref mo_past, .int states, .ref mo_refusals, .ref mo_text, .int length, .ref mo_vars, .ref mo_sights, .int q1.2.2.2.1, .int q1.2.2.2.2.1, .int q1.2.2.2.2.2, .ref mo_isThere, .ref mo_taints, .ref mo_known, .int taint, .ref mo_knows, .int isOther, .int at_, .int isFaulty, .int orders, .ref mo_letters, .ref mo_numbers, .long hash]), (mo_now, aI G 104 now), (mo_vars, aI G 6 q1.2.1), (mo_sights, aI G 15616 q1.2.2.1)]) (wr := []) (WS' := [(mo, oB 7 [.ref mo_now, .ref mo_aside, .ref mo_past, .int states, .ref mo_refusals, .ref mo_text, .int length, .ref mo_vars, .ref mo_sights, .int q1.2.2.2.1, .int q1.2.2.2.2.1, .int q1.2.2.2.2.2, .ref mo_isThere, .ref mo_taints, .ref mo_known, .int taint, .ref mo_knows, .int isOther, .int at_, .int isFaulty, .int orders, .ref mo_letters, .ref mo_numbers, .long hash]), (mo_now, aI G 104 now), (mo_vars, aI G 6 q1.2.1), (mo_sights, aI G 15616 q1.2.2.1)]) C (c7_leakNow hq1) gX7_leak_X7_leakNow (by decide +kernel) rfl rfl rfl rfl rfl rfl ⟨by decide, by decide⟩ rfl [0, 1, 2, 3] [] [0, 1, 2, 3] rfl (by decide) rfl (by decide) (by decide) rfl (by decide) (Nat.le_of_ble_eq_true rfl) ⟨Nat.zero_le _, Nat.zero_le _⟩ rfl dX7_leak_1 ?_
  obtain rfl := Option.some.inj hf
  exact hR _ _ dX7_leak_4

-- X7_rowsNow
def f7_rowsNow_66 (now : Nat → Int32) (k4 : (Nat → Int32) × (Nat → Int32) × Int32 × Int32 × Int32 × Int32 × Int32 → Option (Int32 × (Nat → Int32) × (Nat → Int32) × Int32 × Int32 × Int32)) (vars : Nat → Int32) (sights : Nat → Int32) (many : Int32) (steps : Int32) (isCut : Int32) (x1 : Int32) (x2 : Int32) (x3 : Int32) (x4 : Int32) (y0 : Int32) (y1 : Int32) : Option (Int32 × (Nat → Int32) × (Nat → Int32) × Int32 × Int32 × Int32) :=
  k4 (vars, sights, many, steps, isCut, (y0 + y1), (x2 + (1 : Int32)))
def f7_rowsNow_23b (now : Nat → Int32) (k4 : (Nat → Int32) × (Nat → Int32) × Int32 × Int32 × Int32 × Int32 × Int32 → Option (Int32 × (Nat → Int32) × (Nat → Int32) × Int32 × Int32 × Int32)) (k23 : (Nat → Int32) × (Nat → Int32) × Int32 × Int32 × Int32 × Int32 × Int32 × Int32 × Int32 → Option (Int32 × (Nat → Int32) × (Nat → Int32) × Int32 × Int32 × Int32)) (vars : Nat → Int32) (sights : Nat → Int32) (many : Int32) (steps : Int32) (isCut : Int32) (x1 : Int32) (x2 : Int32) (x3 : Int32) (x4 : Int32) : Option (Int32 × (Nat → Int32) × (Nat → Int32) × Int32 × Int32 × Int32) :=
  if x1 ≤ x4 then
    (if x3 = 0 then
    (f7_rowsNow_66 now k4 vars sights many steps isCut x1 x2 x3 x4 x1 (0 : Int32))
    else (f7_rowsNow_66 now k4 vars sights many steps isCut x1 x2 x3 x4 x1 (1 : Int32)))
    else (if x3 = 0 then
    (if x3 = 0 then
    (f7_rowsNow_66 now k4 vars sights many steps isCut x1 x2 x3 x4 x1 (0 : Int32))
    else (f7_rowsNow_66 now k4 vars sights many steps isCut x1 x2 x3 x4 x1 (1 : Int32)))
    else ((f7_partsAt sights x4 x1).bind <| fun q5 =>
    if q5 = (-1 : Int32) then
    (k23 (vars, sights, many, steps, isCut, x1, x2, (0 : Int32), (x4 + (1 : Int32))))
    else (k23 (vars, sights, many, steps, isCut, x1, x2, (1 : Int32), (x4 + (1 : Int32))))))
def f7_rowsNow_23 (now : Nat → Int32) (k4 : (Nat → Int32) × (Nat → Int32) × Int32 × Int32 × Int32 × Int32 × Int32 → Option (Int32 × (Nat → Int32) × (Nat → Int32) × Int32 × Int32 × Int32)) (n : Nat) (s : (Nat → Int32) × (Nat → Int32) × Int32 × Int32 × Int32 × Int32 × Int32 × Int32 × Int32) : Option (Int32 × (Nat → Int32) × (Nat → Int32) × Int32 × Int32 × Int32) := itf (fun k s => f7_rowsNow_23b now k4 k s.1 s.2.1 s.2.2.1 s.2.2.2.1 s.2.2.2.2.1 s.2.2.2.2.2.1 s.2.2.2.2.2.2.1 s.2.2.2.2.2.2.2.1 s.2.2.2.2.2.2.2.2) n s
def f7_rowsNow_4b (now : Nat → Int32) (k4 : (Nat → Int32) × (Nat → Int32) × Int32 × Int32 × Int32 × Int32 × Int32 → Option (Int32 × (Nat → Int32) × (Nat → Int32) × Int32 × Int32 × Int32)) (vars : Nat → Int32) (sights : Nat → Int32) (many : Int32) (steps : Int32) (isCut : Int32) (x1 : Int32) (x2 : Int32) : Option (Int32 × (Nat → Int32) × (Nat → Int32) × Int32 × Int32 × Int32) :=
  (f7_secrets now).bind <| fun q7 =>
    if q7 ≤ x2 then
    (some (x1, vars, sights, many, steps, isCut))
    else ((f7_goes now vars sights many steps isCut x1 x2).bind <| fun q9 =>
    f7_rowsNow_23 now k4 1000 (q9.1, q9.2.1, q9.2.2.1, q9.2.2.2.1, q9.2.2.2.2, x1, x2, (1 : Int32), (0 : Int32)))
def f7_rowsNow_4 (now : Nat → Int32) (n : Nat) (s : (Nat → Int32) × (Nat → Int32) × Int32 × Int32 × Int32 × Int32 × Int32) : Option (Int32 × (Nat → Int32) × (Nat → Int32) × Int32 × Int32 × Int32) := itf (fun k s => f7_rowsNow_4b now k s.1 s.2.1 s.2.2.1 s.2.2.2.1 s.2.2.2.2.1 s.2.2.2.2.2.1 s.2.2.2.2.2.2) n s
def f7_rowsNow (now : Nat → Int32) (vars : Nat → Int32) (sights : Nat → Int32) (many : Int32) (steps : Int32) (isCut : Int32) : Option (Int32 × (Nat → Int32) × (Nat → Int32) × Int32 × Int32 × Int32) :=
  f7_rowsNow_4 now 1000 (vars, sights, many, steps, isCut, (0 : Int32), (0 : Int32))
def rm7_rowsNow : Room := { frames := 4, cells := 0, slots := 0, locals := 94 }
set_option maxHeartbeats 4000000 in
set_option maxRecDepth 100000 in
theorem k7_rowsNow_66 {p : Program} {l : Launch} {e : Env} {s : State} {m : MethodId} {args : Array Value} {below : List Frame} {meth : Method} {c : Code} {G : gG} {A : Nat → Prop} {Q : State → Prop} {mo mo_now mo_aside mo_past mo_refusals mo_text mo_vars mo_sights mo_isThere mo_taints mo_known mo_knows mo_letters mo_numbers : Nat} (C : CX p s m args meth c G A cX7_rowsNow 5 RX7 wsX7_rowsNow) {states : Int32} {length : Int32} {taint : Int32} {isOther : Int32} {at_ : Int32} {isFaulty : Int32} {orders : Int32} {hash : Int64} {now : Nat → Int32} {k4 : (Nat → Int32) × (Nat → Int32) × Int32 × Int32 × Int32 × Int32 × Int32 → Option (Int32 × (Nat → Int32) × (Nat → Int32) × Int32 × Int32 × Int32)} {vars : Nat → Int32} {sights : Nat → Int32} {many : Int32} {steps : Int32} {isCut : Int32} {x1 : Int32} {x2 : Int32} {x3 : Int32} {x4 : Int32} {y0 : Int32} {y1 : Int32} {res : Int32 × (Nat → Int32) × (Nat → Int32) × Int32 × Int32 × Int32} (hR : ∀ (lv : List (Nat × Value)) (pc : Nat), decode cX7_rowsNow pc = .ok (.ireturn, 1) → GG p l e rm7_rowsNow s m args below meth c G A 5 0 0 Q [(mo, oB 7 [.ref mo_now, .ref mo_aside, .ref mo_past, .int states, .ref mo_refusals, .ref mo_text, .int length, .ref mo_vars, .ref mo_sights, .int res.2.2.2.1, .int res.2.2.2.2.1, .int res.2.2.2.2.2, .ref mo_isThere, .ref mo_taints, .ref mo_known, .int taint, .ref mo_knows, .int isOther, .int at_, .int isFaulty, .int orders, .ref mo_letters, .ref mo_numbers, .long hash]), (mo_now, aI G 104 now), (mo_vars, aI G 6 res.2.1), (mo_sights, aI G 15616 res.2.2.1)] lv pc [.int res.1])
    (hk4 : ∀ s', k4 s' = some res → GG p l e rm7_rowsNow s m args below meth c G A 5 0 0 Q [(mo, oB 7 [.ref mo_now, .ref mo_aside, .ref mo_past, .int states, .ref mo_refusals, .ref mo_text, .int length, .ref mo_vars, .ref mo_sights, .int s'.2.2.1, .int s'.2.2.2.1, .int s'.2.2.2.2.1, .ref mo_isThere, .ref mo_taints, .ref mo_known, .int taint, .ref mo_knows, .int isOther, .int at_, .int isFaulty, .int orders, .ref mo_letters, .ref mo_numbers, .long hash]), (mo_now, aI G 104 now), (mo_vars, aI G 6 s'.1), (mo_sights, aI G 15616 s'.2.1)] [(0, .ref mo), (1, .int s'.2.2.2.2.2.1), (2, .int s'.2.2.2.2.2.2)] 4 [])
    (hf : f7_rowsNow_66 now k4 vars sights many steps isCut x1 x2 x3 x4 y0 y1 = some res) : GG p l e rm7_rowsNow s m args below meth c G A 5 0 0 Q [(mo, oB 7 [.ref mo_now, .ref mo_aside, .ref mo_past, .int states, .ref mo_refusals, .ref mo_text, .int length, .ref mo_vars, .ref mo_sights, .int many, .int steps, .int isCut, .ref mo_isThere, .ref mo_taints, .ref mo_known, .int taint, .ref mo_knows, .int isOther, .int at_, .int isFaulty, .int orders, .ref mo_letters, .ref mo_numbers, .long hash]), (mo_now, aI G 104 now), (mo_vars, aI G 6 vars), (mo_sights, aI G 15616 sights)] [(0, .ref mo), (1, .int x1), (2, .int x2), (3, .int x3), (4, .int x4)] 66 [.int y1, .int y0] := by
  unfold f7_rowsNow_66 at hf
  refine g_iadd C dX7_rowsNow_66 ?_
  refine g_istore_n (lv' := [(0, .ref mo), (1, .int (y0 + y1)), (2, .int x2), (3, .int x3), (4, .int x4)]) C dX7_rowsNow_67 rfl (by decide) [1, 0, 2, 3, 4] rfl ?_
  refine g_iinc (v := (x2 + (1 : Int32))) (lv' := [(0, .ref mo), (1, .int (y0 + y1)), (2, .int (x2 + (1 : Int32))), (3, .int x3), (4, .int x4)]) C dX7_rowsNow_68 2 rfl rfl (by decide) [1, 2, 0, 3, 4] rfl ?_
  refine g_goto (tgt := 4) C dX7_rowsNow_71 (by decide) ?_
  refine g_lv (lv' := [(0, .ref mo), (1, .int (y0 + y1)), (2, .int (x2 + (1 : Int32)))]) [0, 1, 2] rfl ?_
  exact hk4 _ hf
set_option maxHeartbeats 4000000 in
set_option maxRecDepth 100000 in
theorem k7_rowsNow_23b {p : Program} {l : Launch} {e : Env} {s : State} {m : MethodId} {args : Array Value} {below : List Frame} {meth : Method} {c : Code} {G : gG} {A : Nat → Prop} {Q : State → Prop} {mo mo_now mo_aside mo_past mo_refusals mo_text mo_vars mo_sights mo_isThere mo_taints mo_known mo_knows mo_letters mo_numbers : Nat} (C : CX p s m args meth c G A cX7_rowsNow 5 RX7 wsX7_rowsNow) {states : Int32} {length : Int32} {taint : Int32} {isOther : Int32} {at_ : Int32} {isFaulty : Int32} {orders : Int32} {hash : Int64} {now : Nat → Int32} {k4 : (Nat → Int32) × (Nat → Int32) × Int32 × Int32 × Int32 × Int32 × Int32 → Option (Int32 × (Nat → Int32) × (Nat → Int32) × Int32 × Int32 × Int32)} {k23 : (Nat → Int32) × (Nat → Int32) × Int32 × Int32 × Int32 × Int32 × Int32 × Int32 × Int32 → Option (Int32 × (Nat → Int32) × (Nat → Int32) × Int32 × Int32 × Int32)} {vars : Nat → Int32} {sights : Nat → Int32} {many : Int32} {steps : Int32} {isCut : Int32} {x1 : Int32} {x2 : Int32} {x3 : Int32} {x4 : Int32} {res : Int32 × (Nat → Int32) × (Nat → Int32) × Int32 × Int32 × Int32} (hR : ∀ (lv : List (Nat × Value)) (pc : Nat), decode cX7_rowsNow pc = .ok (.ireturn, 1) → GG p l e rm7_rowsNow s m args below meth c G A 5 0 0 Q [(mo, oB 7 [.ref mo_now, .ref mo_aside, .ref mo_past, .int states, .ref mo_refusals, .ref mo_text, .int length, .ref mo_vars, .ref mo_sights, .int res.2.2.2.1, .int res.2.2.2.2.1, .int res.2.2.2.2.2, .ref mo_isThere, .ref mo_taints, .ref mo_known, .int taint, .ref mo_knows, .int isOther, .int at_, .int isFaulty, .int orders, .ref mo_letters, .ref mo_numbers, .long hash]), (mo_now, aI G 104 now), (mo_vars, aI G 6 res.2.1), (mo_sights, aI G 15616 res.2.2.1)] lv pc [.int res.1])
    (hk4 : ∀ s', k4 s' = some res → GG p l e rm7_rowsNow s m args below meth c G A 5 0 0 Q [(mo, oB 7 [.ref mo_now, .ref mo_aside, .ref mo_past, .int states, .ref mo_refusals, .ref mo_text, .int length, .ref mo_vars, .ref mo_sights, .int s'.2.2.1, .int s'.2.2.2.1, .int s'.2.2.2.2.1, .ref mo_isThere, .ref mo_taints, .ref mo_known, .int taint, .ref mo_knows, .int isOther, .int at_, .int isFaulty, .int orders, .ref mo_letters, .ref mo_numbers, .long hash]), (mo_now, aI G 104 now), (mo_vars, aI G 6 s'.1), (mo_sights, aI G 15616 s'.2.1)] [(0, .ref mo), (1, .int s'.2.2.2.2.2.1), (2, .int s'.2.2.2.2.2.2)] 4 [])
    (hk23 : ∀ s', k23 s' = some res → GG p l e rm7_rowsNow s m args below meth c G A 5 0 0 Q [(mo, oB 7 [.ref mo_now, .ref mo_aside, .ref mo_past, .int states, .ref mo_refusals, .ref mo_text, .int length, .ref mo_vars, .ref mo_sights, .int s'.2.2.1, .int s'.2.2.2.1, .int s'.2.2.2.2.1, .ref mo_isThere, .ref mo_taints, .ref mo_known, .int taint, .ref mo_knows, .int isOther, .int at_, .int isFaulty, .int orders, .ref mo_letters, .ref mo_numbers, .long hash]), (mo_now, aI G 104 now), (mo_vars, aI G 6 s'.1), (mo_sights, aI G 15616 s'.2.1)] [(0, .ref mo), (1, .int s'.2.2.2.2.2.1), (2, .int s'.2.2.2.2.2.2.1), (3, .int s'.2.2.2.2.2.2.2.1), (4, .int s'.2.2.2.2.2.2.2.2)] 23 [])
    (hf : f7_rowsNow_23b now k4 k23 vars sights many steps isCut x1 x2 x3 x4 = some res) : GG p l e rm7_rowsNow s m args below meth c G A 5 0 0 Q [(mo, oB 7 [.ref mo_now, .ref mo_aside, .ref mo_past, .int states, .ref mo_refusals, .ref mo_text, .int length, .ref mo_vars, .ref mo_sights, .int many, .int steps, .int isCut, .ref mo_isThere, .ref mo_taints, .ref mo_known, .int taint, .ref mo_knows, .int isOther, .int at_, .int isFaulty, .int orders, .ref mo_letters, .ref mo_numbers, .long hash]), (mo_now, aI G 104 now), (mo_vars, aI G 6 vars), (mo_sights, aI G 15616 sights)] [(0, .ref mo), (1, .int x1), (2, .int x2), (3, .int x3), (4, .int x4)] 23 [] := by
  unfold f7_rowsNow_23b at hf
  refine g_iload C dX7_rowsNow_23 4 rfl ?_
  refine g_iload_n C dX7_rowsNow_25 rfl 1 rfl ?_
  refine g_icmp_ge (tgt := 56) C dX7_rowsNow_26 (by decide) (fun c1 => ?_) (fun c1 => ?_)
  · replace hf := ite_t c1 hf
    refine g_iload_n C dX7_rowsNow_56 rfl 1 rfl ?_
    refine g_iload_n C dX7_rowsNow_57 rfl 3 rfl ?_
    refine g_if_eq (tgt := 65) C dX7_rowsNow_58 (by decide) (fun c2 => ?_) (fun c2 => ?_)
    · replace hf := ite_t c2 hf
      refine g_iconst (v := (0 : Int32)) C dX7_rowsNow_65 (by decide +kernel) ?_
      exact k7_rowsNow_66 C hR hk4 hf
    · replace hf := ite_f c2 hf
      refine g_iconst (v := (1 : Int32)) C dX7_rowsNow_61 (by decide +kernel) ?_
      refine g_goto (tgt := 66) C dX7_rowsNow_62 (by decide) ?_
      exact k7_rowsNow_66 C hR hk4 hf
  · replace hf := ite_f c1 hf
    refine g_iload_n C dX7_rowsNow_29 rfl 3 rfl ?_
    refine g_if_eq (tgt := 56) C dX7_rowsNow_30 (by decide) (fun c3 => ?_) (fun c3 => ?_)
    · replace hf := ite_t c3 hf
      refine g_iload_n C dX7_rowsNow_56 rfl 1 rfl ?_
      refine g_iload_n C dX7_rowsNow_57 rfl 3 rfl ?_
      refine g_if_eq (tgt := 65) C dX7_rowsNow_58 (by decide) (fun c4 => ?_) (fun c4 => ?_)
      · replace hf := ite_t c4 hf
        refine g_iconst (v := (0 : Int32)) C dX7_rowsNow_65 (by decide +kernel) ?_
        exact k7_rowsNow_66 C hR hk4 hf
      · replace hf := ite_f c4 hf
        refine g_iconst (v := (1 : Int32)) C dX7_rowsNow_61 (by decide +kernel) ?_
        refine g_goto (tgt := 66) C dX7_rowsNow_62 (by decide) ?_
        exact k7_rowsNow_66 C hR hk4 hf
    · replace hf := ite_f c3 hf
      refine g_aload_n C dX7_rowsNow_33 rfl 0 rfl ?_
      refine g_iload C dX7_rowsNow_34 4 rfl ?_
      refine g_iload_n C dX7_rowsNow_36 rfl 1 rfl ?_
      obtain ⟨q5, hq5, hf⟩ := bs hf
      refine g_callVi (n := 2) (As := [.int x4, .int x1]) (rest := []) (wc := [(mo, oB 7 [.ref mo_now, .ref mo_aside, .ref mo_past, .int states, .ref mo_refusals, .ref mo_text, .int length, .ref mo_vars, .ref mo_sights, .int many, .int steps, .int isCut, .ref mo_isThere, .ref mo_taints, .ref mo_known, .int taint, .ref mo_knows, .int isOther, .int at_, .int isFaulty, .int orders, .ref mo_letters, .ref mo_numbers, .long hash]), (mo_sights, aI G 15616 sights)]) (w1 := [(mo, oB 7 [.ref mo_now, .ref mo_aside, .ref mo_past, .int states, .ref mo_refusals, .ref mo_text, .int length, .ref mo_vars, .ref mo_sights, .int many, .int steps, .int isCut, .ref mo_isThere, .ref mo_taints, .ref mo_known, .int taint, .ref mo_knows, .int isOther, .int at_, .int isFaulty, .int orders, .ref mo_letters, .ref mo_numbers, .long hash]), (mo_sights, aI G 15616 sights)]) (wr := [(mo_now, aI G 104 now), (mo_vars, aI G 6 vars)]) (WS' := [(mo, oB 7 [.ref mo_now, .ref mo_aside, .ref mo_past, .int states, .ref mo_refusals, .ref mo_text, .int length, .ref mo_vars, .ref mo_sights, .int many, .int steps, .int isCut, .ref mo_isThere, .ref mo_taints, .ref mo_known, .int taint, .ref mo_knows, .int isOther, .int at_, .int isFaulty, .int orders, .ref mo_letters, .ref mo_numbers, .long hash]), (mo_now, aI G 104 now), (mo_vars, aI G 6 vars), (mo_sights, aI G 15616 sights)]) C (c7_partsAt hq5) gX7_rowsNow_X7_partsAt (by decide +kernel) rfl rfl rfl rfl rfl rfl ⟨by decide, by decide⟩ rfl [0, 3] [1, 2] [2, 0, 1, 3] rfl (by decide) rfl (by decide) (by decide) rfl (by decide) (Nat.le_of_ble_eq_true rfl) ⟨Nat.zero_le _, Nat.zero_le _⟩ rfl dX7_rowsNow_37 ?_
      refine g_iconst (v := (-1 : Int32)) C dX7_rowsNow_40 (by decide +kernel) ?_
      refine g_icmp_eq (tgt := 48) C dX7_rowsNow_41 (by decide) (fun c6 => ?_) (fun c6 => ?_)
      · replace hf := ite_t c6 hf
        refine g_iconst (v := (0 : Int32)) C dX7_rowsNow_48 (by decide +kernel) ?_
        refine g_istore_n (lv' := [(0, .ref mo), (1, .int x1), (2, .int x2), (3, .int (0 : Int32)), (4, .int x4)]) C dX7_rowsNow_49 rfl (by decide) [1, 2, 3, 0, 4] rfl ?_
        refine g_iinc (v := (x4 + (1 : Int32))) (lv' := [(0, .ref mo), (1, .int x1), (2, .int x2), (3, .int (0 : Int32)), (4, .int (x4 + (1 : Int32)))]) C dX7_rowsNow_50 4 rfl rfl (by decide) [1, 2, 3, 4, 0] rfl ?_
        refine g_goto (tgt := 23) C dX7_rowsNow_53 (by decide) ?_
        exact hk23 _ hf
      · replace hf := ite_f c6 hf
        refine g_iconst (v := (1 : Int32)) C dX7_rowsNow_44 (by decide +kernel) ?_
        refine g_goto (tgt := 49) C dX7_rowsNow_45 (by decide) ?_
        refine g_istore_n (lv' := [(0, .ref mo), (1, .int x1), (2, .int x2), (3, .int (1 : Int32)), (4, .int x4)]) C dX7_rowsNow_49 rfl (by decide) [1, 2, 3, 0, 4] rfl ?_
        refine g_iinc (v := (x4 + (1 : Int32))) (lv' := [(0, .ref mo), (1, .int x1), (2, .int x2), (3, .int (1 : Int32)), (4, .int (x4 + (1 : Int32)))]) C dX7_rowsNow_50 4 rfl rfl (by decide) [1, 2, 3, 4, 0] rfl ?_
        refine g_goto (tgt := 23) C dX7_rowsNow_53 (by decide) ?_
        exact hk23 _ hf
set_option maxHeartbeats 4000000 in
set_option maxRecDepth 100000 in
theorem k7_rowsNow_23 {p : Program} {l : Launch} {e : Env} {s : State} {m : MethodId} {args : Array Value} {below : List Frame} {meth : Method} {c : Code} {G : gG} {A : Nat → Prop} {Q : State → Prop} {mo mo_now mo_aside mo_past mo_refusals mo_text mo_vars mo_sights mo_isThere mo_taints mo_known mo_knows mo_letters mo_numbers : Nat} (C : CX p s m args meth c G A cX7_rowsNow 5 RX7 wsX7_rowsNow) {states : Int32} {length : Int32} {taint : Int32} {isOther : Int32} {at_ : Int32} {isFaulty : Int32} {orders : Int32} {hash : Int64} {now : Nat → Int32} {k4 : (Nat → Int32) × (Nat → Int32) × Int32 × Int32 × Int32 × Int32 × Int32 → Option (Int32 × (Nat → Int32) × (Nat → Int32) × Int32 × Int32 × Int32)} {res : Int32 × (Nat → Int32) × (Nat → Int32) × Int32 × Int32 × Int32} (hR : ∀ (lv : List (Nat × Value)) (pc : Nat), decode cX7_rowsNow pc = .ok (.ireturn, 1) → GG p l e rm7_rowsNow s m args below meth c G A 5 0 0 Q [(mo, oB 7 [.ref mo_now, .ref mo_aside, .ref mo_past, .int states, .ref mo_refusals, .ref mo_text, .int length, .ref mo_vars, .ref mo_sights, .int res.2.2.2.1, .int res.2.2.2.2.1, .int res.2.2.2.2.2, .ref mo_isThere, .ref mo_taints, .ref mo_known, .int taint, .ref mo_knows, .int isOther, .int at_, .int isFaulty, .int orders, .ref mo_letters, .ref mo_numbers, .long hash]), (mo_now, aI G 104 now), (mo_vars, aI G 6 res.2.1), (mo_sights, aI G 15616 res.2.2.1)] lv pc [.int res.1])
    (hk4 : ∀ s', k4 s' = some res → GG p l e rm7_rowsNow s m args below meth c G A 5 0 0 Q [(mo, oB 7 [.ref mo_now, .ref mo_aside, .ref mo_past, .int states, .ref mo_refusals, .ref mo_text, .int length, .ref mo_vars, .ref mo_sights, .int s'.2.2.1, .int s'.2.2.2.1, .int s'.2.2.2.2.1, .ref mo_isThere, .ref mo_taints, .ref mo_known, .int taint, .ref mo_knows, .int isOther, .int at_, .int isFaulty, .int orders, .ref mo_letters, .ref mo_numbers, .long hash]), (mo_now, aI G 104 now), (mo_vars, aI G 6 s'.1), (mo_sights, aI G 15616 s'.2.1)] [(0, .ref mo), (1, .int s'.2.2.2.2.2.1), (2, .int s'.2.2.2.2.2.2)] 4 []) : ∀ (n : Nat) (s1 : (Nat → Int32) × (Nat → Int32) × Int32 × Int32 × Int32 × Int32 × Int32 × Int32 × Int32), f7_rowsNow_23 now k4 n s1 = some res → GG p l e rm7_rowsNow s m args below meth c G A 5 0 0 Q [(mo, oB 7 [.ref mo_now, .ref mo_aside, .ref mo_past, .int states, .ref mo_refusals, .ref mo_text, .int length, .ref mo_vars, .ref mo_sights, .int s1.2.2.1, .int s1.2.2.2.1, .int s1.2.2.2.2.1, .ref mo_isThere, .ref mo_taints, .ref mo_known, .int taint, .ref mo_knows, .int isOther, .int at_, .int isFaulty, .int orders, .ref mo_letters, .ref mo_numbers, .long hash]), (mo_now, aI G 104 now), (mo_vars, aI G 6 s1.1), (mo_sights, aI G 15616 s1.2.1)] [(0, .ref mo), (1, .int s1.2.2.2.2.2.1), (2, .int s1.2.2.2.2.2.2.1), (3, .int s1.2.2.2.2.2.2.2.1), (4, .int s1.2.2.2.2.2.2.2.2)] 23 [] :=
  itf_ind (fun k s1 ih hf => k7_rowsNow_23b C hR hk4 ih hf)
set_option maxHeartbeats 4000000 in
set_option maxRecDepth 100000 in
theorem k7_rowsNow_4b {p : Program} {l : Launch} {e : Env} {s : State} {m : MethodId} {args : Array Value} {below : List Frame} {meth : Method} {c : Code} {G : gG} {A : Nat → Prop} {Q : State → Prop} {mo mo_now mo_aside mo_past mo_refusals mo_text mo_vars mo_sights mo_isThere mo_taints mo_known mo_knows mo_letters mo_numbers : Nat} (C : CX p s m args meth c G A cX7_rowsNow 5 RX7 wsX7_rowsNow) {states : Int32} {length : Int32} {taint : Int32} {isOther : Int32} {at_ : Int32} {isFaulty : Int32} {orders : Int32} {hash : Int64} {now : Nat → Int32} {k4 : (Nat → Int32) × (Nat → Int32) × Int32 × Int32 × Int32 × Int32 × Int32 → Option (Int32 × (Nat → Int32) × (Nat → Int32) × Int32 × Int32 × Int32)} {vars : Nat → Int32} {sights : Nat → Int32} {many : Int32} {steps : Int32} {isCut : Int32} {x1 : Int32} {x2 : Int32} {res : Int32 × (Nat → Int32) × (Nat → Int32) × Int32 × Int32 × Int32} (hR : ∀ (lv : List (Nat × Value)) (pc : Nat), decode cX7_rowsNow pc = .ok (.ireturn, 1) → GG p l e rm7_rowsNow s m args below meth c G A 5 0 0 Q [(mo, oB 7 [.ref mo_now, .ref mo_aside, .ref mo_past, .int states, .ref mo_refusals, .ref mo_text, .int length, .ref mo_vars, .ref mo_sights, .int res.2.2.2.1, .int res.2.2.2.2.1, .int res.2.2.2.2.2, .ref mo_isThere, .ref mo_taints, .ref mo_known, .int taint, .ref mo_knows, .int isOther, .int at_, .int isFaulty, .int orders, .ref mo_letters, .ref mo_numbers, .long hash]), (mo_now, aI G 104 now), (mo_vars, aI G 6 res.2.1), (mo_sights, aI G 15616 res.2.2.1)] lv pc [.int res.1])
    (hk4 : ∀ s', k4 s' = some res → GG p l e rm7_rowsNow s m args below meth c G A 5 0 0 Q [(mo, oB 7 [.ref mo_now, .ref mo_aside, .ref mo_past, .int states, .ref mo_refusals, .ref mo_text, .int length, .ref mo_vars, .ref mo_sights, .int s'.2.2.1, .int s'.2.2.2.1, .int s'.2.2.2.2.1, .ref mo_isThere, .ref mo_taints, .ref mo_known, .int taint, .ref mo_knows, .int isOther, .int at_, .int isFaulty, .int orders, .ref mo_letters, .ref mo_numbers, .long hash]), (mo_now, aI G 104 now), (mo_vars, aI G 6 s'.1), (mo_sights, aI G 15616 s'.2.1)] [(0, .ref mo), (1, .int s'.2.2.2.2.2.1), (2, .int s'.2.2.2.2.2.2)] 4 [])
    (hf : f7_rowsNow_4b now k4 vars sights many steps isCut x1 x2 = some res) : GG p l e rm7_rowsNow s m args below meth c G A 5 0 0 Q [(mo, oB 7 [.ref mo_now, .ref mo_aside, .ref mo_past, .int states, .ref mo_refusals, .ref mo_text, .int length, .ref mo_vars, .ref mo_sights, .int many, .int steps, .int isCut, .ref mo_isThere, .ref mo_taints, .ref mo_known, .int taint, .ref mo_knows, .int isOther, .int at_, .int isFaulty, .int orders, .ref mo_letters, .ref mo_numbers, .long hash]), (mo_now, aI G 104 now), (mo_vars, aI G 6 vars), (mo_sights, aI G 15616 sights)] [(0, .ref mo), (1, .int x1), (2, .int x2)] 4 [] := by
  unfold f7_rowsNow_4b at hf
  refine g_iload_n C dX7_rowsNow_4 rfl 2 rfl ?_
  refine g_aload_n C dX7_rowsNow_5 rfl 0 rfl ?_
  obtain ⟨q7, hq7, hf⟩ := bs hf
  refine g_callVi (n := 0) (As := []) (rest := [.int x2]) (wc := [(mo, oB 7 [.ref mo_now, .ref mo_aside, .ref mo_past, .int states, .ref mo_refusals, .ref mo_text, .int length, .ref mo_vars, .ref mo_sights, .int many, .int steps, .int isCut, .ref mo_isThere, .ref mo_taints, .ref mo_known, .int taint, .ref mo_knows, .int isOther, .int at_, .int isFaulty, .int orders, .ref mo_letters, .ref mo_numbers, .long hash]), (mo_now, aI G 104 now)]) (w1 := [(mo, oB 7 [.ref mo_now, .ref mo_aside, .ref mo_past, .int states, .ref mo_refusals, .ref mo_text, .int length, .ref mo_vars, .ref mo_sights, .int many, .int steps, .int isCut, .ref mo_isThere, .ref mo_taints, .ref mo_known, .int taint, .ref mo_knows, .int isOther, .int at_, .int isFaulty, .int orders, .ref mo_letters, .ref mo_numbers, .long hash]), (mo_now, aI G 104 now)]) (wr := [(mo_vars, aI G 6 vars), (mo_sights, aI G 15616 sights)]) (WS' := [(mo, oB 7 [.ref mo_now, .ref mo_aside, .ref mo_past, .int states, .ref mo_refusals, .ref mo_text, .int length, .ref mo_vars, .ref mo_sights, .int many, .int steps, .int isCut, .ref mo_isThere, .ref mo_taints, .ref mo_known, .int taint, .ref mo_knows, .int isOther, .int at_, .int isFaulty, .int orders, .ref mo_letters, .ref mo_numbers, .long hash]), (mo_now, aI G 104 now), (mo_vars, aI G 6 vars), (mo_sights, aI G 15616 sights)]) C (c7_secrets hq7) gX7_rowsNow_X7_secrets (by decide +kernel) rfl rfl rfl rfl rfl rfl ⟨by decide, by decide⟩ rfl [0, 1] [2, 3] [2, 3, 0, 1] rfl (by decide) rfl (by decide) (by decide) rfl (by decide) (Nat.le_of_ble_eq_true rfl) ⟨Nat.zero_le _, Nat.zero_le _⟩ rfl dX7_rowsNow_6 ?_
  refine g_icmp_ge (tgt := 74) C dX7_rowsNow_9 (by decide) (fun c8 => ?_) (fun c8 => ?_)
  · replace hf := ite_t c8 hf
    refine g_iload_n C dX7_rowsNow_74 rfl 1 rfl ?_
    obtain rfl := Option.some.inj hf
    exact hR _ _ dX7_rowsNow_75
  · replace hf := ite_f c8 hf
    refine g_aload_n C dX7_rowsNow_12 rfl 0 rfl ?_
    refine g_iload_n C dX7_rowsNow_13 rfl 1 rfl ?_
    refine g_iload_n C dX7_rowsNow_14 rfl 2 rfl ?_
    obtain ⟨q9, hq9, hf⟩ := bs hf
    refine g_callVv (n := 2) (As := [.int x1, .int x2]) (rest := []) (wc := [(mo, oB 7 [.ref mo_now, .ref mo_aside, .ref mo_past, .int states, .ref mo_refusals, .ref mo_text, .int length, .ref mo_vars, .ref mo_sights, .int many, .int steps, .int isCut, .ref mo_isThere, .ref mo_taints, .ref mo_known, .int taint, .ref mo_knows, .int isOther, .int at_, .int isFaulty, .int orders, .ref mo_letters, .ref mo_numbers, .long hash]), (mo_now, aI G 104 now), (mo_vars, aI G 6 vars), (mo_sights, aI G 15616 sights)]) (w1 := [(mo, oB 7 [.ref mo_now, .ref mo_aside, .ref mo_past, .int states, .ref mo_refusals, .ref mo_text, .int length, .ref mo_vars, .ref mo_sights, .int q9.2.2.1, .int q9.2.2.2.1, .int q9.2.2.2.2, .ref mo_isThere, .ref mo_taints, .ref mo_known, .int taint, .ref mo_knows, .int isOther, .int at_, .int isFaulty, .int orders, .ref mo_letters, .ref mo_numbers, .long hash]), (mo_now, aI G 104 now), (mo_vars, aI G 6 q9.1), (mo_sights, aI G 15616 q9.2.1)]) (wr := []) (WS' := [(mo, oB 7 [.ref mo_now, .ref mo_aside, .ref mo_past, .int states, .ref mo_refusals, .ref mo_text, .int length, .ref mo_vars, .ref mo_sights, .int q9.2.2.1, .int q9.2.2.2.1, .int q9.2.2.2.2, .ref mo_isThere, .ref mo_taints, .ref mo_known, .int taint, .ref mo_knows, .int isOther, .int at_, .int isFaulty, .int orders, .ref mo_letters, .ref mo_numbers, .long hash]), (mo_now, aI G 104 now), (mo_vars, aI G 6 q9.1), (mo_sights, aI G 15616 q9.2.1)]) C (c7_goes hq9) gX7_rowsNow_X7_goes (by decide +kernel) rfl rfl rfl rfl rfl rfl ⟨by decide, by decide⟩ rfl [0, 1, 2, 3] [] [0, 1, 2, 3] rfl (by decide) rfl (by decide) (by decide) rfl (by decide) (Nat.le_of_ble_eq_true rfl) ⟨Nat.zero_le _, Nat.zero_le _⟩ rfl dX7_rowsNow_15 ?_
    refine g_iconst (v := (1 : Int32)) C dX7_rowsNow_18 (by decide +kernel) ?_
    refine g_istore_n (lv' := [(0, .ref mo), (1, .int x1), (2, .int x2), (3, .int (1 : Int32))]) C dX7_rowsNow_19 rfl (by decide) [1, 2, 3, 0] rfl ?_
    refine g_iconst (v := (0 : Int32)) C dX7_rowsNow_20 (by decide +kernel) ?_
    refine g_istore (lv' := [(0, .ref mo), (1, .int x1), (2, .int x2), (3, .int (1 : Int32)), (4, .int (0 : Int32))]) C dX7_rowsNow_21 (by decide) [1, 2, 3, 4, 0] rfl ?_
    exact k7_rowsNow_23 C hR hk4 _ _ hf
set_option maxHeartbeats 4000000 in
set_option maxRecDepth 100000 in
theorem k7_rowsNow_4 {p : Program} {l : Launch} {e : Env} {s : State} {m : MethodId} {args : Array Value} {below : List Frame} {meth : Method} {c : Code} {G : gG} {A : Nat → Prop} {Q : State → Prop} {mo mo_now mo_aside mo_past mo_refusals mo_text mo_vars mo_sights mo_isThere mo_taints mo_known mo_knows mo_letters mo_numbers : Nat} (C : CX p s m args meth c G A cX7_rowsNow 5 RX7 wsX7_rowsNow) {states : Int32} {length : Int32} {taint : Int32} {isOther : Int32} {at_ : Int32} {isFaulty : Int32} {orders : Int32} {hash : Int64} {now : Nat → Int32} {res : Int32 × (Nat → Int32) × (Nat → Int32) × Int32 × Int32 × Int32} (hR : ∀ (lv : List (Nat × Value)) (pc : Nat), decode cX7_rowsNow pc = .ok (.ireturn, 1) → GG p l e rm7_rowsNow s m args below meth c G A 5 0 0 Q [(mo, oB 7 [.ref mo_now, .ref mo_aside, .ref mo_past, .int states, .ref mo_refusals, .ref mo_text, .int length, .ref mo_vars, .ref mo_sights, .int res.2.2.2.1, .int res.2.2.2.2.1, .int res.2.2.2.2.2, .ref mo_isThere, .ref mo_taints, .ref mo_known, .int taint, .ref mo_knows, .int isOther, .int at_, .int isFaulty, .int orders, .ref mo_letters, .ref mo_numbers, .long hash]), (mo_now, aI G 104 now), (mo_vars, aI G 6 res.2.1), (mo_sights, aI G 15616 res.2.2.1)] lv pc [.int res.1]) : ∀ (n : Nat) (s1 : (Nat → Int32) × (Nat → Int32) × Int32 × Int32 × Int32 × Int32 × Int32), f7_rowsNow_4 now n s1 = some res → GG p l e rm7_rowsNow s m args below meth c G A 5 0 0 Q [(mo, oB 7 [.ref mo_now, .ref mo_aside, .ref mo_past, .int states, .ref mo_refusals, .ref mo_text, .int length, .ref mo_vars, .ref mo_sights, .int s1.2.2.1, .int s1.2.2.2.1, .int s1.2.2.2.2.1, .ref mo_isThere, .ref mo_taints, .ref mo_known, .int taint, .ref mo_knows, .int isOther, .int at_, .int isFaulty, .int orders, .ref mo_letters, .ref mo_numbers, .long hash]), (mo_now, aI G 104 now), (mo_vars, aI G 6 s1.1), (mo_sights, aI G 15616 s1.2.1)] [(0, .ref mo), (1, .int s1.2.2.2.2.2.1), (2, .int s1.2.2.2.2.2.2)] 4 [] :=
  itf_ind (fun k s1 ih hf => k7_rowsNow_4b C hR ih hf)
set_option maxHeartbeats 4000000 in
set_option maxRecDepth 100000 in
theorem c7_rowsNow {l : Launch} {G : gG} {mo mo_now mo_aside mo_past mo_refusals mo_text mo_vars mo_sights mo_isThere mo_taints mo_known mo_knows mo_letters mo_numbers : Nat} {now : Nat → Int32} {states : Int32} {length : Int32} {vars : Nat → Int32} {sights : Nat → Int32} {many : Int32} {steps : Int32} {isCut : Int32} {taint : Int32} {isOther : Int32} {at_ : Int32} {isFaulty : Int32} {orders : Int32} {hash : Int64} {res : Int32 × (Nat → Int32) × (Nat → Int32) × Int32 × Int32 × Int32} (hf : f7_rowsNow now vars sights many steps isCut = some res) : MI l yX7_rowsNow wsX7_rowsNow rm7_rowsNow G [.ref mo] [(mo, oB 7 [.ref mo_now, .ref mo_aside, .ref mo_past, .int states, .ref mo_refusals, .ref mo_text, .int length, .ref mo_vars, .ref mo_sights, .int many, .int steps, .int isCut, .ref mo_isThere, .ref mo_taints, .ref mo_known, .int taint, .ref mo_knows, .int isOther, .int at_, .int isFaulty, .int orders, .ref mo_letters, .ref mo_numbers, .long hash]), (mo_now, aI G 104 now), (mo_vars, aI G 6 vars), (mo_sights, aI G 15616 sights)] (res.1) [(mo, oB 7 [.ref mo_now, .ref mo_aside, .ref mo_past, .int states, .ref mo_refusals, .ref mo_text, .int length, .ref mo_vars, .ref mo_sights, .int res.2.2.2.1, .int res.2.2.2.2.1, .int res.2.2.2.2.2, .ref mo_isThere, .ref mo_taints, .ref mo_known, .int taint, .ref mo_knows, .int isOther, .int at_, .int isFaulty, .int orders, .ref mo_letters, .ref mo_numbers, .long hash]), (mo_now, aI G 104 now), (mo_vars, aI G 6 res.2.1), (mo_sights, aI G 15616 res.2.2.1)] := by
  refine MI_of (res.1) (cc := cX7_rowsNow) (nL := 5) (lv := [(0, .ref mo)]) (by decide +kernel) rfl (Nat.le_of_ble_eq_true rfl) rfl ?_
  intro p e s m args below meth c A Q C hR
  unfold f7_rowsNow at hf
  refine g_iconst (v := (0 : Int32)) C dX7_rowsNow_0 (by decide +kernel) ?_
  refine g_istore_n (lv' := [(0, .ref mo), (1, .int (0 : Int32))]) C dX7_rowsNow_1 rfl (by decide) [1, 0] rfl ?_
  refine g_iconst (v := (0 : Int32)) C dX7_rowsNow_2 (by decide +kernel) ?_
  refine g_istore_n (lv' := [(0, .ref mo), (1, .int (0 : Int32)), (2, .int (0 : Int32))]) C dX7_rowsNow_3 rfl (by decide) [1, 2, 0] rfl ?_
  exact k7_rowsNow_4 C hR _ _ hf

-- X7_rows
def f7_rows (now : Nat → Int32) (vars : Nat → Int32) (sights : Nat → Int32) (many : Int32) (steps : Int32) (isCut : Int32) : Option (Int32 × (Nat → Int32) × (Nat → Int32) × Int32 × Int32 × Int32) :=
  (f7_rowsNow now vars sights many steps isCut).bind <| fun q1 =>
    some (q1.1, q1.2.1, q1.2.2.1, q1.2.2.2.1, q1.2.2.2.2.1, q1.2.2.2.2.2)
def rm7_rows : Room := { frames := 5, cells := 0, slots := 0, locals := 118 }
set_option maxHeartbeats 4000000 in
set_option maxRecDepth 100000 in
theorem c7_rows {l : Launch} {G : gG} {mo mo_now mo_aside mo_past mo_refusals mo_text mo_vars mo_sights mo_isThere mo_taints mo_known mo_knows mo_letters mo_numbers : Nat} {now : Nat → Int32} {states : Int32} {length : Int32} {vars : Nat → Int32} {sights : Nat → Int32} {many : Int32} {steps : Int32} {isCut : Int32} {taint : Int32} {isOther : Int32} {at_ : Int32} {isFaulty : Int32} {orders : Int32} {hash : Int64} {res : Int32 × (Nat → Int32) × (Nat → Int32) × Int32 × Int32 × Int32} (hf : f7_rows now vars sights many steps isCut = some res) : MI l yX7_rows wsX7_rows rm7_rows G [.ref mo] [(mo, oB 7 [.ref mo_now, .ref mo_aside, .ref mo_past, .int states, .ref mo_refusals, .ref mo_text, .int length, .ref mo_vars, .ref mo_sights, .int many, .int steps, .int isCut, .ref mo_isThere, .ref mo_taints, .ref mo_known, .int taint, .ref mo_knows, .int isOther, .int at_, .int isFaulty, .int orders, .ref mo_letters, .ref mo_numbers, .long hash]), (mo_now, aI G 104 now), (mo_vars, aI G 6 vars), (mo_sights, aI G 15616 sights)] (res.1) [(mo, oB 7 [.ref mo_now, .ref mo_aside, .ref mo_past, .int states, .ref mo_refusals, .ref mo_text, .int length, .ref mo_vars, .ref mo_sights, .int res.2.2.2.1, .int res.2.2.2.2.1, .int res.2.2.2.2.2, .ref mo_isThere, .ref mo_taints, .ref mo_known, .int taint, .ref mo_knows, .int isOther, .int at_, .int isFaulty, .int orders, .ref mo_letters, .ref mo_numbers, .long hash]), (mo_now, aI G 104 now), (mo_vars, aI G 6 res.2.1), (mo_sights, aI G 15616 res.2.2.1)] := by
  refine MI_of (res.1) (cc := cX7_rows) (nL := 1) (lv := [(0, .ref mo)]) (by decide +kernel) rfl (Nat.le_of_ble_eq_true rfl) rfl ?_
  intro p e s m args below meth c A Q C hR
  unfold f7_rows at hf
  refine g_aload_n C dX7_rows_0 rfl 0 rfl ?_
  obtain ⟨q1, hq1, hf⟩ := bs hf
  refine g_callVi (n := 0) (As := []) (rest := []) (wc := [(mo, oB 7 [.ref mo_now, .ref mo_aside, .ref mo_past, .int states, .ref mo_refusals, .ref mo_text, .int length, .ref mo_vars, .ref mo_sights, .int many, .int steps, .int isCut, .ref mo_isThere, .ref mo_taints, .ref mo_known, .int taint, .ref mo_knows, .int isOther, .int at_, .int isFaulty, .int orders, .ref mo_letters, .ref mo_numbers, .long hash]), (mo_now, aI G 104 now), (mo_vars, aI G 6 vars), (mo_sights, aI G 15616 sights)]) (w1 := [(mo, oB 7 [.ref mo_now, .ref mo_aside, .ref mo_past, .int states, .ref mo_refusals, .ref mo_text, .int length, .ref mo_vars, .ref mo_sights, .int q1.2.2.2.1, .int q1.2.2.2.2.1, .int q1.2.2.2.2.2, .ref mo_isThere, .ref mo_taints, .ref mo_known, .int taint, .ref mo_knows, .int isOther, .int at_, .int isFaulty, .int orders, .ref mo_letters, .ref mo_numbers, .long hash]), (mo_now, aI G 104 now), (mo_vars, aI G 6 q1.2.1), (mo_sights, aI G 15616 q1.2.2.1)]) (wr := []) (WS' := [(mo, oB 7 [.ref mo_now, .ref mo_aside, .ref mo_past, .int states, .ref mo_refusals, .ref mo_text, .int length, .ref mo_vars, .ref mo_sights, .int q1.2.2.2.1, .int q1.2.2.2.2.1, .int q1.2.2.2.2.2, .ref mo_isThere, .ref mo_taints, .ref mo_known, .int taint, .ref mo_knows, .int isOther, .int at_, .int isFaulty, .int orders, .ref mo_letters, .ref mo_numbers, .long hash]), (mo_now, aI G 104 now), (mo_vars, aI G 6 q1.2.1), (mo_sights, aI G 15616 q1.2.2.1)]) C (c7_rowsNow hq1) gX7_rows_X7_rowsNow (by decide +kernel) rfl rfl rfl rfl rfl rfl ⟨by decide, by decide⟩ rfl [0, 1, 2, 3] [] [0, 1, 2, 3] rfl (by decide) rfl (by decide) (by decide) rfl (by decide) (Nat.le_of_ble_eq_true rfl) ⟨Nat.zero_le _, Nat.zero_le _⟩ rfl dX7_rows_1 ?_
  obtain rfl := Option.some.inj hf
  exact hR _ _ dX7_rows_4
