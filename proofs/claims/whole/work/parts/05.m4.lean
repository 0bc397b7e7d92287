-- X7_isEndToo
def f7_isEndToo (now : Nat → Int32) (v0 : Int32) : Option (Int32) :=
  (f7_within v0 (0 : Int32) (now 0)).bind <| fun q1 =>
    ck (isb q1) <|
    some q1
def rm7_isEndToo : Room := { frames := 1, cells := 0, slots := 0, locals := 22 }
theorem hm7_isEndToo_0 : ∀ w ∈ u_ws RX7 TX7 24, w ∈ wsX7_isEndToo := by decide +kernel
theorem hm7_isEndToo_1 : Cond.fieldLink RX7 7 "SecretStepsModel" "now" "[I" ∈ wsX7_isEndToo := by decide +kernel
set_option maxHeartbeats 4000000 in
set_option maxRecDepth 100000 in
theorem c7_isEndToo {l : Launch} {G : gG} {mo mo_now mo_aside mo_past mo_refusals mo_text mo_vars mo_sights mo_isThere mo_taints mo_known mo_knows mo_letters mo_numbers : Nat} {now : Nat → Int32} {states : Int32} {length : Int32} {many : Int32} {steps : Int32} {isCut : Int32} {taint : Int32} {isOther : Int32} {at_ : Int32} {isFaulty : Int32} {orders : Int32} {hash : Int64} {v0 : Int32} {res : Int32} (hf : f7_isEndToo now v0 = some res) : MI l yX7_isEndToo wsX7_isEndToo rm7_isEndToo G [.ref mo, .int v0] [(mo, oB 7 [.ref mo_now, .ref mo_aside, .ref mo_past, .int states, .ref mo_refusals, .ref mo_text, .int length, .ref mo_vars, .ref mo_sights, .int many, .int steps, .int isCut, .ref mo_isThere, .ref mo_taints, .ref mo_known, .int taint, .ref mo_knows, .int isOther, .int at_, .int isFaulty, .int orders, .ref mo_letters, .ref mo_numbers, .long hash]), (mo_now, aI G 104 now)] (res) [(mo, oB 7 [.ref mo_now, .ref mo_aside, .ref mo_past, .int states, .ref mo_refusals, .ref mo_text, .int length, .ref mo_vars, .ref mo_sights, .int many, .int steps, .int isCut, .ref mo_isThere, .ref mo_taints, .ref mo_known, .int taint, .ref mo_knows, .int isOther, .int at_, .int isFaulty, .int orders, .ref mo_letters, .ref mo_numbers, .long hash]), (mo_now, aI G 104 now)] := by
  refine MZ_of (res) (cc := cX7_isEndToo) (nL := 2) (lv := [(0, .ref mo), (1, .int v0)]) (by decide +kernel) rfl (Nat.le_of_ble_eq_true rfl) rfl ?_
  intro p e s m args below meth c A Q C hR
  unfold f7_isEndToo at hf
  refine g_iload_n C dX7_isEndToo_0 rfl 1 rfl ?_
  refine g_iconst (v := (0 : Int32)) C dX7_isEndToo_1 (by decide +kernel) ?_
  refine g_aload_n C dX7_isEndToo_2 rfl 0 rfl ?_
  refine g_get (C0 := RX7) (T := TX7) (N := 24) (ci := 7) (v := .ref mo_now) C hm7_isEndToo_0 0 rfl rfl 0 (by decide) hm7_isEndToo_1 rfl dX7_isEndToo_3 ?_
  refine g_iconst (v := (0 : Int32)) C dX7_isEndToo_6 (by decide +kernel) ?_
  refine g_iald (n := 104) (v := (now 0)) C 1 rfl (by decide +kernel) (by decide +kernel) rfl dX7_isEndToo_7 ?_
  obtain ⟨q1, hq1, hf⟩ := bs hf
  refine g_callSi (n := 3) (As := [.int v0, .int (0 : Int32), .int (now 0)]) (rest := []) (wc := []) (w1 := []) (wr := [(mo, oB 7 [.ref mo_now, .ref mo_aside, .ref mo_past, .int states, .ref mo_refusals, .ref mo_text, .int length, .ref mo_vars, .ref mo_sights, .int many, .int steps, .int isCut, .ref mo_isThere, .ref mo_taints, .ref mo_known, .int taint, .ref mo_knows, .int isOther, .int at_, .int isFaulty, .int orders, .ref mo_letters, .ref mo_numbers, .long hash]), (mo_now, aI G 104 now)]) (WS' := [(mo, oB 7 [.ref mo_now, .ref mo_aside, .ref mo_past, .int states, .ref mo_refusals, .ref mo_text, .int length, .ref mo_vars, .ref mo_sights, .int many, .int steps, .int isCut, .ref mo_isThere, .ref mo_taints, .ref mo_known, .int taint, .ref mo_knows, .int isOther, .int at_, .int isFaulty, .int orders, .ref mo_letters, .ref mo_numbers, .long hash]), (mo_now, aI G 104 now)]) C (c7_within hq1) gX7_isEndToo_X7_within (by decide +kernel) rfl rfl rfl ⟨by decide, by decide⟩ rfl [] [0, 1] [0, 1] rfl (by decide) rfl (by decide) (by decide) rfl (by decide) (Nat.le_of_ble_eq_true rfl) ⟨Nat.zero_le _, Nat.zero_le _⟩ rfl dX7_isEndToo_8 ?_
  obtain ⟨h2, hf⟩ := ck_some hf
  obtain rfl := Option.some.inj hf
  exact hR _ _ dX7_isEndToo_11 h2

-- X7_ahead
def f7_ahead (now : Nat → Int32) (refusals : Nat → Int32) (isThere : Nat → Int32) (taints : Nat → Int32) (known : Nat → Int32) (taint : Int32) (knows : Nat → Int32) (isOther : Int32) (v0 : Int32) (v1 : Int32) (v2 : Int32) : Option (Int32 × (Nat → Int32) × (Nat → Int32) × (Nat → Int32) × (Nat → Int32) × Int32 × (Nat → Int32) × Int32) :=
  (f7_isEndToo now v0).bind <| fun q1 =>
    if q1 = 0 then
    ((f7_bad refusals).bind <| fun q3 =>
    some (q3.1, q3.2, isThere, taints, known, taint, knows, isOther))
    else ((f7_isVariable v1).bind <| fun q4 =>
    if q4 = 0 then
    ((f7_bad refusals).bind <| fun q6 =>
    some (q6.1, q6.2, isThere, taints, known, taint, knows, isOther))
    else ((f7_within v2 (0 : Int32) (1 : Int32)).bind <| fun q7 =>
    if q7 = 0 then
    ((f7_bad refusals).bind <| fun q16 =>
    some (q16.1, q16.2, isThere, taints, known, taint, knows, isOther))
    else ((f7_laysLines now isThere taints known taint knows isOther).bind <| fun q9 =>
    ck (inb v0 21) <|
    if (q9.1 v0.toNatClampNeg) = 0 then
    ((f7_no refusals).bind <| fun q15 =>
    some (q15.1, q15.2, q9.1, q9.2.1, q9.2.2.1, q9.2.2.2.1, q9.2.2.2.2.1, q9.2.2.2.2.2))
    else (if v2 = 0 then
    (ck (inb v0 21) <|
    some (((sr32 (q9.2.1 v0.toNatClampNeg) v1) &&& (1 : Int32)), refusals, q9.1, q9.2.1, q9.2.2.1, q9.2.2.2.1, q9.2.2.2.2.1, q9.2.2.2.2.2))
    else (ck (inb (((6 : Int32) * v0) + v1) 126) <|
    some ((q9.2.2.1 (((6 : Int32) * v0) + v1).toNatClampNeg), refusals, q9.1, q9.2.1, q9.2.2.1, q9.2.2.2.1, q9.2.2.2.2.1, q9.2.2.2.2.2))))))
def rm7_ahead : Room := { frames := 6, cells := 0, slots := 0, locals := 136 }
theorem hm7_ahead_0 : ∀ w ∈ u_ws RX7 TX7 24, w ∈ wsX7_ahead := by decide +kernel
theorem hm7_ahead_1 : Cond.fieldLink RX7 31 "SecretStepsModel" "isThere" "[Z" ∈ wsX7_ahead := by decide +kernel
theorem hm7_ahead_2 : Cond.fieldLink RX7 38 "SecretStepsModel" "known" "[I" ∈ wsX7_ahead := by decide +kernel
theorem hm7_ahead_3 : Cond.fieldLink RX7 35 "SecretStepsModel" "taints" "[I" ∈ wsX7_ahead := by decide +kernel
set_option maxHeartbeats 4000000 in
set_option maxRecDepth 100000 in
theorem c7_ahead {l : Launch} {G : gG} {mo mo_now mo_aside mo_past mo_refusals mo_text mo_vars mo_sights mo_isThere mo_taints mo_known mo_knows mo_letters mo_numbers : Nat} {now : Nat → Int32} {states : Int32} {refusals : Nat → Int32} {length : Int32} {many : Int32} {steps : Int32} {isCut : Int32} {isThere : Nat → Int32} {taints : Nat → Int32} {known : Nat → Int32} {taint : Int32} {knows : Nat → Int32} {isOther : Int32} {at_ : Int32} {isFaulty : Int32} {orders : Int32} {hash : Int64} {v0 : Int32} {v1 : Int32} {v2 : Int32} {res : Int32 × (Nat → Int32) × (Nat → Int32) × (Nat → Int32) × (Nat → Int32) × Int32 × (Nat → Int32) × Int32} (hf : f7_ahead now refusals isThere taints known taint knows isOther v0 v1 v2 = some res) : MI l yX7_ahead wsX7_ahead rm7_ahead G [.ref mo, .int v0, .int v1, .int v2] [(mo, oB 7 [.ref mo_now, .ref mo_aside, .ref mo_past, .int states, .ref mo_refusals, .ref mo_text, .int length, .ref mo_vars, .ref mo_sights, .int many, .int steps, .int isCut, .ref mo_isThere, .ref mo_taints, .ref mo_known, .int taint, .ref mo_knows, .int isOther, .int at_, .int isFaulty, .int orders, .ref mo_letters, .ref mo_numbers, .long hash]), (mo_now, aI G 104 now), (mo_refusals, aI G 3 refusals), (mo_isThere, aZ G 21 isThere), (mo_taints, aI G 21 taints), (mo_known, aI G 126 known), (mo_knows, aI G 6 knows)] (res.1) [(mo, oB 7 [.ref mo_now, .ref mo_aside, .ref mo_past, .int states, .ref mo_refusals, .ref mo_text, .int length, .ref mo_vars, .ref mo_sights, .int many, .int steps, .int isCut, .ref mo_isThere, .ref mo_taints, .ref mo_known, .int res.2.2.2.2.2.1, .ref mo_knows, .int res.2.2.2.2.2.2.2, .int at_, .int isFaulty, .int orders, .ref mo_letters, .ref mo_numbers, .long hash]), (mo_now, aI G 104 now), (mo_refusals, aI G 3 res.2.1), (mo_isThere, aZ G 21 res.2.2.1), (mo_taints, aI G 21 res.2.2.2.1), (mo_known, aI G 126 res.2.2.2.2.1), (mo_knows, aI G 6 res.2.2.2.2.2.2.1)] := by
  refine MI_of (res.1) (cc := cX7_ahead) (nL := 4) (lv := [(0, .ref mo), (1, .int v0), (2, .int v1), (3, .int v2)]) (by decide +kernel) rfl (Nat.le_of_ble_eq_true rfl) rfl ?_
  intro p e s m args below meth c A Q C hR
  unfold f7_ahead at hf
  refine g_aload_n C dX7_ahead_0 rfl 0 rfl ?_
  refine g_iload_n C dX7_ahead_1 rfl 1 rfl ?_
  obtain ⟨q1, hq1, hf⟩ := bs hf
  refine g_callVi (n := 1) (As := [.int v0]) (rest := []) (wc := [(mo, oB 7 [.ref mo_now, .ref mo_aside, .ref mo_past, .int states, .ref mo_refusals, .ref mo_text, .int length, .ref mo_vars, .ref mo_sights, .int many, .int steps, .int isCut, .ref mo_isThere, .ref mo_taints, .ref mo_known, .int taint, .ref mo_knows, .int isOther, .int at_, .int isFaulty, .int orders, .ref mo_letters, .ref mo_numbers, .long hash]), (mo_now, aI G 104 now)]) (w1 := [(mo, oB 7 [.ref mo_now, .ref mo_aside, .ref mo_past, .int states, .ref mo_refusals, .ref mo_text, .int length, .ref mo_vars, .ref mo_sights, .int many, .int steps, .int isCut, .ref mo_isThere, .ref mo_taints, .ref mo_known, .int taint, .ref mo_knows, .int isOther, .int at_, .int isFaulty, .int orders, .ref mo_letters, .ref mo_numbers, .long hash]), (mo_now, aI G 104 now)]) (wr := [(mo_refusals, aI G 3 refusals), (mo_isThere, aZ G 21 isThere), (mo_taints, aI G 21 taints), (mo_known, aI G 126 known), (mo_knows, aI G 6 knows)]) (WS' := [(mo, oB 7 [.ref mo_now, .ref mo_aside, .ref mo_past, .int states, .ref mo_refusals, .ref mo_text, .int length, .ref mo_vars, .ref mo_sights, .int many, .int steps, .int isCut, .ref mo_isThere, .ref mo_taints, .ref mo_known, .int taint, .ref mo_knows, .int isOther, .int at_, .int isFaulty, .int orders, .ref mo_letters, .ref mo_numbers, .long hash]), (mo_now, aI G 104 now), (mo_refusals, aI G 3 refusals), (mo_isThere, aZ G 21 isThere), (mo_taints, aI G 21 taints), (mo_known, aI G 126 known), (mo_knows, aI G 6 knows)]) C (c7_isEndToo hq1) gX7_ahead_X7_isEndToo (by decide +kernel) rfl rfl rfl rfl rfl rfl ⟨by decide, by decide⟩ rfl [0, 1] [2, 3, 4, 5, 6] [5, 6, 0, 1, 2, 3, 4] rfl (by decide) rfl (by decide) (by decide) rfl (by decide) (Nat.le_of_ble_eq_true rfl) ⟨Nat.zero_le _, Nat.zero_le _⟩ rfl dX7_ahead_2 ?_
  refine g_if_eq (tgt := 24) C dX7_ahead_5 (by decide) (fun c2 => ?_) (fun c2 => ?_)
  · replace hf := ite_t c2 hf
    refine g_aload_n C dX7_ahead_24 rfl 0 rfl ?_
    obtain ⟨q3, hq3, hf⟩ := bs hf
    refine g_callVi (n := 0) (As := []) (rest := []) (wc := [(mo, oB 7 [.ref mo_now, .ref mo_aside, .ref mo_past, .int states, .ref mo_refusals, .ref mo_text, .int length, .ref mo_vars, .ref mo_sights, .int many, .int steps, .int isCut, .ref mo_isThere, .ref mo_taints, .ref mo_known, .int taint, .ref mo_knows, .int isOther, .int at_, .int isFaulty, .int orders, .ref mo_letters, .ref mo_numbers, .long hash]), (mo_refusals, aI G 3 refusals)]) (w1 := [(mo, oB 7 [.ref mo_now, .ref mo_aside, .ref mo_past, .int states, .ref mo_refusals, .ref mo_text, .int length, .ref mo_vars, .ref mo_sights, .int many, .int steps, .int isCut, .ref mo_isThere, .ref mo_taints, .ref mo_known, .int taint, .ref mo_knows, .int isOther, .int at_, .int isFaulty, .int orders, .ref mo_letters, .ref mo_numbers, .long hash]), (mo_refusals, aI G 3 q3.2)]) (wr := [(mo_now, aI G 104 now), (mo_isThere, aZ G 21 isThere), (mo_taints, aI G 21 taints), (mo_known, aI G 126 known), (mo_knows, aI G 6 knows)]) (WS' := [(mo, oB 7 [.ref mo_now, .ref mo_aside, .ref mo_past, .int states, .ref mo_refusals, .ref mo_text, .int length, .ref mo_vars, .ref mo_sights, .int many, .int steps, .int isCut, .ref mo_isThere, .ref mo_taints, .ref mo_known, .int taint, .ref mo_knows, .int isOther, .int at_, .int isFaulty, .int orders, .ref mo_letters, .ref mo_numbers, .long hash]), (mo_now, aI G 104 now), (mo_refusals, aI G 3 q3.2), (mo_isThere, aZ G 21 isThere), (mo_taints, aI G 21 taints), (mo_known, aI G 126 known), (mo_knows, aI G 6 knows)]) C (c7_bad hq3) gX7_ahead_X7_bad (by decide +kernel) rfl rfl rfl rfl rfl rfl ⟨by decide, by decide⟩ rfl [0, 2] [1, 3, 4, 5, 6] [5, 0, 6, 1, 2, 3, 4] rfl (by decide) rfl (by decide) (by decide) rfl (by decide) (Nat.le_of_ble_eq_true rfl) ⟨Nat.zero_le _, Nat.zero_le _⟩ rfl dX7_ahead_25 ?_
    obtain rfl := Option.some.inj hf
    exact hR _ _ dX7_ahead_28
  · replace hf := ite_f c2 hf
    refine g_iload_n C dX7_ahead_8 rfl 2 rfl ?_
    obtain ⟨q4, hq4, hf⟩ := bs hf
    refine g_callSi (n := 1) (As := [.int v1]) (rest := []) (wc := []) (w1 := []) (wr := [(mo, oB 7 [.ref mo_now, .ref mo_aside, .ref mo_past, .int states, .ref mo_refusals, .ref mo_text, .int length, .ref mo_vars, .ref mo_sights, .int many, .int steps, .int isCut, .ref mo_isThere, .ref mo_taints, .ref mo_known, .int taint, .ref mo_knows, .int isOther, .int at_, .int isFaulty, .int orders, .ref mo_letters, .ref mo_numbers, .long hash]), (mo_now, aI G 104 now), (mo_refusals, aI G 3 refusals), (mo_isThere, aZ G 21 isThere), (mo_taints, aI G 21 taints), (mo_known, aI G 126 known), (mo_knows, aI G 6 knows)]) (WS' := [(mo, oB 7 [.ref mo_now, .ref mo_aside, .ref mo_past, .int states, .ref mo_refusals, .ref mo_text, .int length, .ref mo_vars, .ref mo_sights, .int many, .int steps, .int isCut, .ref mo_isThere, .ref mo_taints, .ref mo_known, .int taint, .ref mo_knows, .int isOther, .int at_, .int isFaulty, .int orders, .ref mo_letters, .ref mo_numbers, .long hash]), (mo_now, aI G 104 now), (mo_refusals, aI G 3 refusals), (mo_isThere, aZ G 21 isThere), (mo_taints, aI G 21 taints), (mo_known, aI G 126 known), (mo_knows, aI G 6 knows)]) C (c7_isVariable hq4) gX7_ahead_X7_isVariable (by decide +kernel) rfl rfl rfl ⟨by decide, by decide⟩ rfl [] [0, 1, 2, 3, 4, 5, 6] [0, 1, 2, 3, 4, 5, 6] rfl (by decide) rfl (by decide) (by decide) rfl (by decide) (Nat.le_of_ble_eq_true rfl) ⟨Nat.zero_le _, Nat.zero_le _⟩ rfl dX7_ahead_9 ?_
    refine g_if_eq (tgt := 24) C dX7_ahead_12 (by decide) (fun c5 => ?_) (fun c5 => ?_)
    · replace hf := ite_t c5 hf
      refine g_aload_n C dX7_ahead_24 rfl 0 rfl ?_
      obtain ⟨q6, hq6, hf⟩ := bs hf
      refine g_callVi (n := 0) (As := []) (rest := []) (wc := [(mo, oB 7 [.ref mo_now, .ref mo_aside, .ref mo_past, .int states, .ref mo_refusals, .ref mo_text, .int length, .ref mo_vars, .ref mo_sights, .int many, .int steps, .int isCut, .ref mo_isThere, .ref mo_taints, .ref mo_known, .int taint, .ref mo_knows, .int isOther, .int at_, .int isFaulty, .int orders, .ref mo_letters, .ref mo_numbers, .long hash]), (mo_refusals, aI G 3 refusals)]) (w1 := [(mo, oB 7 [.ref mo_now, .ref mo_aside, .ref mo_past, .int states, .ref mo_refusals, .ref mo_text, .int length, .ref mo_vars, .ref mo_sights, .int many, .int steps, .int isCut, .ref mo_isThere, .ref mo_taints, .ref mo_known, .int taint, .ref mo_knows, .int isOther, .int at_, .int isFaulty, .int orders, .ref mo_letters, .ref mo_numbers, .long hash]), (mo_refusals, aI G 3 q6.2)]) (wr := [(mo_now, aI G 104 now), (mo_isThere, aZ G 21 isThere), (mo_taints, aI G 21 taints), (mo_known, aI G 126 known), (mo_knows, aI G 6 knows)]) (WS' := [(mo, oB 7 [.ref mo_now, .ref mo_aside, .ref mo_past, .int states, .ref mo_refusals, .ref mo_text, .int length, .ref mo_vars, .ref mo_sights, .int many, .int steps, .int isCut, .ref mo_isThere, .ref mo_taints, .ref mo_known, .int taint, .ref mo_knows, .int isOther, .int at_, .int isFaulty, .int orders, .ref mo_letters, .ref mo_numbers, .long hash]), (mo_now, aI G 104 now), (mo_refusals, aI G 3 q6.2), (mo_isThere, aZ G 21 isThere), (mo_taints, aI G 21 taints), (mo_known, aI G 126 known), (mo_knows, aI G 6 knows)]) C (c7_bad hq6) gX7_ahead_X7_bad (by decide +kernel) rfl rfl rfl rfl rfl rfl ⟨by decide, by decide⟩ rfl [0, 2] [1, 3, 4, 5, 6] [5, 0, 6, 1, 2, 3, 4] rfl (by decide) rfl (by decide) (by decide) rfl (by decide) (Nat.le_of_ble_eq_true rfl) ⟨Nat.zero_le _, Nat.zero_le _⟩ rfl dX7_ahead_25 ?_
      obtain rfl := Option.some.inj hf
      exact hR _ _ dX7_ahead_28
    · replace hf := ite_f c5 hf
      refine g_iload_n C dX7_ahead_15 rfl 3 rfl ?_
      refine g_iconst (v := (0 : Int32)) C dX7_ahead_16 (by decide +kernel) ?_
      refine g_iconst (v := (1 : Int32)) C dX7_ahead_17 (by decide +kernel) ?_
      obtain ⟨q7, hq7, hf⟩ := bs hf
      refine g_callSi (n := 3) (As := [.int v2, .int (0 : Int32), .int (1 : Int32)]) (rest := []) (wc := []) (w1 := []) (wr := [(mo, oB 7 [.ref mo_now, .ref mo_aside, .ref mo_past, .int states, .ref mo_refusals, .ref mo_text, .int length, .ref mo_vars, .ref mo_sights, .int many, .int steps, .int isCut, .ref mo_isThere, .ref mo_taints, .ref mo_known, .int taint, .ref mo_knows, .int isOther, .int at_, .int isFaulty, .int orders, .ref mo_letters, .ref mo_numbers, .long hash]), (mo_now, aI G 104 now), (mo_refusals, aI G 3 refusals), (mo_isThere, aZ G 21 isThere), (mo_taints, aI G 21 taints), (mo_known, aI G 126 known), (mo_knows, aI G 6 knows)]) (WS' := [(mo, oB 7 [.ref mo_now, .ref mo_aside, .ref mo_past, .int states, .ref mo_refusals, .ref mo_text, .int length, .ref mo_vars, .ref mo_sights, .int many, .int steps, .int isCut, .ref mo_isThere, .ref mo_taints, .ref mo_known, .int taint, .ref mo_knows, .int isOther, .int at_, .int isFaulty, .int orders, .ref mo_letters, .ref mo_numbers, .long hash]), (mo_now, aI G 104 now), (mo_refusals, aI G 3 refusals), (mo_isThere, aZ G 21 isThere), (mo_taints, aI G 21 taints), (mo_known, aI G 126 known), (mo_knows, aI G 6 knows)]) C (c7_within hq7) gX7_ahead_X7_within (by decide +kernel) rfl rfl rfl ⟨by decide, by decide⟩ rfl [] [0, 1, 2, 3, 4, 5, 6] [0, 1, 2, 3, 4, 5, 6] rfl (by decide) rfl (by decide) (by decide) rfl (by decide) (Nat.le_of_ble_eq_true rfl) ⟨Nat.zero_le _, Nat.zero_le _⟩ rfl dX7_ahead_18 ?_
      refine g_if_ne (tgt := 29) C dX7_ahead_21 (by decide) (fun c8 => ?_) (fun c8 => ?_)
      · replace hf := ite_f c8 hf
        refine g_aload_n C dX7_ahead_29 rfl 0 rfl ?_
        obtain ⟨q9, hq9, hf⟩ := bs hf
        refine g_callVv (n := 0) (As := []) (rest := []) (wc := [(mo, oB 7 [.ref mo_now, .ref mo_aside, .ref mo_past, .int states, .ref mo_refusals, .ref mo_text, .int length, .ref mo_vars, .ref mo_sights, .int many, .int steps, .int isCut, .ref mo_isThere, .ref mo_taints, .ref mo_known, .int taint, .ref mo_knows, .int isOther, .int at_, .int isFaulty, .int orders, .ref mo_letters, .ref mo_numbers, .long hash]), (mo_now, aI G 104 now), (mo_isThere, aZ G 21 isThere), (mo_taints, aI G 21 taints), (mo_known, aI G 126 known), (mo_knows, aI G 6 knows)]) (w1 := [(mo, oB 7 [.ref mo_now, .ref mo_aside, .ref mo_past, .int states, .ref mo_refusals, .ref mo_text, .int length, .ref mo_vars, .ref mo_sights, .int many, .int steps, .int isCut, .ref mo_isThere, .ref mo_taints, .ref mo_known, .int q9.2.2.2.1, .ref mo_knows, .int q9.2.2.2.2.2, .int at_, .int isFaulty, .int orders, .ref mo_letters, .ref mo_numbers, .long hash]), (mo_now, aI G 104 now), (mo_isThere, aZ G 21 q9.1), (mo_taints, aI G 21 q9.2.1), (mo_known, aI G 126 q9.2.2.1), (mo_knows, aI G 6 q9.2.2.2.2.1)]) (wr := [(mo_refusals, aI G 3 refusals)]) (WS' := [(mo, oB 7 [.ref mo_now, .ref mo_aside, .ref mo_past, .int states, .ref mo_refusals, .ref mo_text, .int length, .ref mo_vars, .ref mo_sights, .int many, .int steps, .int isCut, .ref mo_isThere, .ref mo_taints, .ref mo_known, .int q9.2.2.2.1, .ref mo_knows, .int q9.2.2.2.2.2, .int at_, .int isFaulty, .int orders, .ref mo_letters, .ref mo_numbers, .long hash]), (mo_now, aI G 104 now), (mo_refusals, aI G 3 refusals), (mo_isThere, aZ G 21 q9.1), (mo_taints, aI G 21 q9.2.1), (mo_known, aI G 126 q9.2.2.1), (mo_knows, aI G 6 q9.2.2.2.2.1)]) C (c7_laysLines hq9) gX7_ahead_X7_laysLines (by decide +kernel) rfl rfl rfl rfl rfl rfl ⟨by decide, by decide⟩ rfl [0, 1, 3, 4, 5, 6] [2] [1, 2, 0, 3, 4, 5, 6] rfl (by decide) rfl (by decide) (by decide) rfl (by decide) (Nat.le_of_ble_eq_true rfl) ⟨Nat.zero_le _, Nat.zero_le _⟩ rfl dX7_ahead_30 ?_
        refine g_aload_n C dX7_ahead_33 rfl 0 rfl ?_
        refine g_get (C0 := RX7) (T := TX7) (N := 24) (ci := 7) (v := .ref mo_isThere) C hm7_ahead_0 0 rfl rfl 12 (by decide) hm7_ahead_1 rfl dX7_ahead_34 ?_
        refine g_iload_n C dX7_ahead_37 rfl 1 rfl ?_
        obtain ⟨h10, hf⟩ := ck_some hf
        refine g_zald (n := 21) (v := (q9.1 v0.toNatClampNeg)) C 3 rfl h10 rfl rfl dX7_ahead_38 ?_
        refine g_if_ne (tgt := 47) C dX7_ahead_39 (by decide) (fun c11 => ?_) (fun c11 => ?_)
        · replace hf := ite_f c11 hf
          refine g_iload_n C dX7_ahead_47 rfl 3 rfl ?_
          refine g_if_ne (tgt := 64) C dX7_ahead_48 (by decide) (fun c12 => ?_) (fun c12 => ?_)
          · replace hf := ite_f c12 hf
            refine g_aload_n C dX7_ahead_64 rfl 0 rfl ?_
            refine g_get (C0 := RX7) (T := TX7) (N := 24) (ci := 7) (v := .ref mo_known) C hm7_ahead_0 0 rfl rfl 14 (by decide) hm7_ahead_2 rfl dX7_ahead_65 ?_
            refine g_bipush (v := (6 : Int32)) C dX7_ahead_68 (by decide +kernel) ?_
            refine g_iload_n C dX7_ahead_70 rfl 1 rfl ?_
            refine g_imul C dX7_ahead_71 ?_
            refine g_iload_n C dX7_ahead_72 rfl 2 rfl ?_
            refine g_iadd C dX7_ahead_73 ?_
            obtain ⟨h13, hf⟩ := ck_some hf
            refine g_iald (n := 126) (v := (q9.2.2.1 (((6 : Int32) * v0) + v1).toNatClampNeg)) C 5 rfl h13 rfl rfl dX7_ahead_74 ?_
            obtain rfl := Option.some.inj hf
            exact hR _ _ dX7_ahead_75
          · replace hf := ite_t c12 hf
            refine g_aload_n C dX7_ahead_51 rfl 0 rfl ?_
            refine g_get (C0 := RX7) (T := TX7) (N := 24) (ci := 7) (v := .ref mo_taints) C hm7_ahead_0 0 rfl rfl 13 (by decide) hm7_ahead_3 rfl dX7_ahead_52 ?_
            refine g_iload_n C dX7_ahead_55 rfl 1 rfl ?_
            obtain ⟨h14, hf⟩ := ck_some hf
            refine g_iald (n := 21) (v := (q9.2.1 v0.toNatClampNeg)) C 4 rfl h14 rfl rfl dX7_ahead_56 ?_
            refine g_iload_n C dX7_ahead_57 rfl 2 rfl ?_
            refine g_ishr C dX7_ahead_58 ?_
            refine g_iconst (v := (1 : Int32)) C dX7_ahead_59 (by decide +kernel) ?_
            refine g_iand C dX7_ahead_60 ?_
            refine g_goto (tgt := 75) C dX7_ahead_61 (by decide) ?_
            obtain rfl := Option.some.inj hf
            exact hR _ _ dX7_ahead_75
        · replace hf := ite_t c11 hf
          refine g_aload_n C dX7_ahead_42 rfl 0 rfl ?_
          obtain ⟨q15, hq15, hf⟩ := bs hf
          refine g_callVi (n := 0) (As := []) (rest := []) (wc := [(mo, oB 7 [.ref mo_now, .ref mo_aside, .ref mo_past, .int states, .ref mo_refusals, .ref mo_text, .int length, .ref mo_vars, .ref mo_sights, .int many, .int steps, .int isCut, .ref mo_isThere, .ref mo_taints, .ref mo_known, .int q9.2.2.2.1, .ref mo_knows, .int q9.2.2.2.2.2, .int at_, .int isFaulty, .int orders, .ref mo_letters, .ref mo_numbers, .long hash]), (mo_refusals, aI G 3 refusals)]) (w1 := [(mo, oB 7 [.ref mo_now, .ref mo_aside, .ref mo_past, .int states, .ref mo_refusals, .ref mo_text, .int length, .ref mo_vars, .ref mo_sights, .int many, .int steps, .int isCut, .ref mo_isThere, .ref mo_taints, .ref mo_known, .int q9.2.2.2.1, .ref mo_knows, .int q9.2.2.2.2.2, .int at_, .int isFaulty, .int orders, .ref mo_letters, .ref mo_numbers, .long hash]), (mo_refusals, aI G 3 q15.2)]) (wr := [(mo_now, aI G 104 now), (mo_isThere, aZ G 21 q9.1), (mo_taints, aI G 21 q9.2.1), (mo_known, aI G 126 q9.2.2.1), (mo_knows, aI G 6 q9.2.2.2.2.1)]) (WS' := [(mo, oB 7 [.ref mo_now, .ref mo_aside, .ref mo_past, .int states, .ref mo_refusals, .ref mo_text, .int length, .ref mo_vars, .ref mo_sights, .int many, .int steps, .int isCut, .ref mo_isThere, .ref mo_taints, .ref mo_known, .int q9.2.2.2.1, .ref mo_knows, .int q9.2.2.2.2.2, .int at_, .int isFaulty, .int orders, .ref mo_letters, .ref mo_numbers, .long hash]), (mo_now, aI G 104 now), (mo_refusals, aI G 3 q15.2), (mo_isThere, aZ G 21 q9.1), (mo_taints, aI G 21 q9.2.1), (mo_known, aI G 126 q9.2.2.1), (mo_knows, aI G 6 q9.2.2.2.2.1)]) C (c7_no hq15) gX7_ahead_X7_no (by decide +kernel) rfl rfl rfl rfl rfl rfl ⟨by decide, by decide⟩ rfl [0, 2] [1, 3, 4, 5, 6] [5, 0, 6, 1, 2, 3, 4] rfl (by decide) rfl (by decide) (by decide) rfl (by decide) (Nat.le_of_ble_eq_true rfl) ⟨Nat.zero_le _, Nat.zero_le _⟩ rfl dX7_ahead_43 ?_
          obtain rfl := Option.some.inj hf
          exact hR _ _ dX7_ahead_46
      · replace hf := ite_t c8 hf
        refine g_aload_n C dX7_ahead_24 rfl 0 rfl ?_
        obtain ⟨q16, hq16, hf⟩ := bs hf
        refine g_callVi (n := 0) (As := []) (rest := []) (wc := [(mo, oB 7 [.ref mo_now, .ref mo_aside, .ref mo_past, .int states, .ref mo_refusals, .ref mo_text, .int length, .ref mo_vars, .ref mo_sights, .int many, .int steps, .int isCut, .ref mo_isThere, .ref mo_taints, .ref mo_known, .int taint, .ref mo_knows, .int isOther, .int at_, .int isFaulty, .int orders, .ref mo_letters, .ref mo_numbers, .long hash]), (mo_refusals, aI G 3 refusals)]) (w1 := [(mo, oB 7 [.ref mo_now, .ref mo_aside, .ref mo_past, .int states, .ref mo_refusals, .ref mo_text, .int length, .ref mo_vars, .ref mo_sights, .int many, .int steps, .int isCut, .ref mo_isThere, .ref mo_taints, .ref mo_known, .int taint, .ref mo_knows, .int isOther, .int at_, .int isFaulty, .int orders, .ref mo_letters, .ref mo_numbers, .long hash]), (mo_refusals, aI G 3 q16.2)]) (wr := [(mo_now, aI G 104 now), (mo_isThere, aZ G 21 isThere), (mo_taints, aI G 21 taints), (mo_known, aI G 126 known), (mo_knows, aI G 6 knows)]) (WS' := [(mo, oB 7 [.ref mo_now, .ref mo_aside, .ref mo_past, .int states, .ref mo_refusals, .ref mo_text, .int length, .ref mo_vars, .ref mo_sights, .int many, .int steps, .int isCut, .ref mo_isThere, .ref mo_taints, .ref mo_known, .int taint, .ref mo_knows, .int isOther, .int at_, .int isFaulty, .int orders, .ref mo_letters, .ref mo_numbers, .long hash]), (mo_now, aI G 104 now), (mo_refusals, aI G 3 q16.2), (mo_isThere, aZ G 21 isThere), (mo_taints, aI G 21 taints), (mo_known, aI G 126 known), (mo_knows, aI G 6 knows)]) C (c7_bad hq16) gX7_ahead_X7_bad (by decide +kernel) rfl rfl rfl rfl rfl rfl ⟨by decide, by decide⟩ rfl [0, 2] [1, 3, 4, 5, 6] [5, 0, 6, 1, 2, 3, 4] rfl (by decide) rfl (by decide) (by decide) rfl (by decide) (Nat.le_of_ble_eq_true rfl) ⟨Nat.zero_le _, Nat.zero_le _⟩ rfl dX7_ahead_25 ?_
        obtain rfl := Option.some.inj hf
        exact hR _ _ dX7_ahead_28

-- X7_reached
def f7_reached (now : Nat → Int32) (refusals : Nat → Int32) (isThere : Nat → Int32) (taints : Nat → Int32) (known : Nat → Int32) (taint : Int32) (knows : Nat → Int32) (isOther : Int32) (v0 : Int32) : Option (Int32 × (Nat → Int32) × (Nat → Int32) × (Nat → Int32) × (Nat → Int32) × Int32 × (Nat → Int32) × Int32) :=
  (f7_isEndToo now v0).bind <| fun q1 =>
    if q1 = 0 then
    ((f7_bad refusals).bind <| fun q6 =>
    some (q6.1, q6.2, isThere, taints, known, taint, knows, isOther))
    else ((f7_laysLines now isThere taints known taint knows isOther).bind <| fun q3 =>
    ck (inb v0 21) <|
    if (q3.1 v0.toNatClampNeg) = 0 then
    (some ((0 : Int32), refusals, q3.1, q3.2.1, q3.2.2.1, q3.2.2.2.1, q3.2.2.2.2.1, q3.2.2.2.2.2))
    else (some ((1 : Int32), refusals, q3.1, q3.2.1, q3.2.2.1, q3.2.2.2.1, q3.2.2.2.2.1, q3.2.2.2.2.2)))
def rm7_reached : Room := { frames := 6, cells := 0, slots := 0, locals := 136 }
theorem hm7_reached_0 : ∀ w ∈ u_ws RX7 TX7 24, w ∈ wsX7_reached := by decide +kernel
theorem hm7_reached_1 : Cond.fieldLink RX7 31 "SecretStepsModel" "isThere" "[Z" ∈ wsX7_reached := by decide +kernel
set_option maxHeartbeats 4000000 in
set_option maxRecDepth 100000 in
theorem c7_reached {l : Launch} {G : gG} {mo mo_now mo_aside mo_past mo_refusals mo_text mo_vars mo_sights mo_isThere mo_taints mo_known mo_knows mo_letters mo_numbers : Nat} {now : Nat → Int32} {states : Int32} {refusals : Nat → Int32} {length : Int32} {many : Int32} {steps : Int32} {isCut : Int32} {isThere : Nat → Int32} {taints : Nat → Int32} {known : Nat → Int32} {taint : Int32} {knows : Nat → Int32} {isOther : Int32} {at_ : Int32} {isFaulty : Int32} {orders : Int32} {hash : Int64} {v0 : Int32} {res : Int32 × (Nat → Int32) × (Nat → Int32) × (Nat → Int32) × (Nat → Int32) × Int32 × (Nat → Int32) × Int32} (hf : f7_reached now refusals isThere taints known taint knows isOther v0 = some res) : MI l yX7_reached wsX7_reached rm7_reached G [.ref mo, .int v0] [(mo, oB 7 [.ref mo_now, .ref mo_aside, .ref mo_past, .int states, .ref mo_refusals, .ref mo_text, .int length, .ref mo_vars, .ref mo_sights, .int many, .int steps, .int isCut, .ref mo_isThere, .ref mo_taints, .ref mo_known, .int taint, .ref mo_knows, .int isOther, .int at_, .int isFaulty, .int orders, .ref mo_letters, .ref mo_numbers, .long hash]), (mo_now, aI G 104 now), (mo_refusals, aI G 3 refusals), (mo_isThere, aZ G 21 isThere), (mo_taints, aI G 21 taints), (mo_known, aI G 126 known), (mo_knows, aI G 6 knows)] (res.1) [(mo, oB 7 [.ref mo_now, .ref mo_aside, .ref mo_past, .int states, .ref mo_refusals, .ref mo_text, .int length, .ref mo_vars, .ref mo_sights, .int many, .int steps, .int isCut, .ref mo_isThere, .ref mo_taints, .ref mo_known, .int res.2.2.2.2.2.1, .ref mo_knows, .int res.2.2.2.2.2.2.2, .int at_, .int isFaulty, .int orders, .ref mo_letters, .ref mo_numbers, .long hash]), (mo_now, aI G 104 now), (mo_refusals, aI G 3 res.2.1), (mo_isThere, aZ G 21 res.2.2.1), (mo_taints, aI G 21 res.2.2.2.1), (mo_known, aI G 126 res.2.2.2.2.1), (mo_knows, aI G 6 res.2.2.2.2.2.2.1)] := by
  refine MI_of (res.1) (cc := cX7_reached) (nL := 2) (lv := [(0, .ref mo), (1, .int v0)]) (by decide +kernel) rfl (Nat.le_of_ble_eq_true rfl) rfl ?_
  intro p e s m args below meth c A Q C hR
  unfold f7_reached at hf
  refine g_aload_n C dX7_reached_0 rfl 0 rfl ?_
  refine g_iload_n C dX7_reached_1 rfl 1 rfl ?_
  obtain ⟨q1, hq1, hf⟩ := bs hf
  refine g_callVi (n := 1) (As := [.int v0]) (rest := []) (wc := [(mo, oB 7 [.ref mo_now, .ref mo_aside, .ref mo_past, .int states, .ref mo_refusals, .ref mo_text, .int length, .ref mo_vars, .ref mo_sights, .int many, .int steps, .int isCut, .ref mo_isThere, .ref mo_taints, .ref mo_known, .int taint, .ref mo_knows, .int isOther, .int at_, .int isFaulty, .int orders, .ref mo_letters, .ref mo_numbers, .long hash]), (mo_now, aI G 104 now)]) (w1 := [(mo, oB 7 [.ref mo_now, .ref mo_aside, .ref mo_past, .int states, .ref mo_refusals, .ref mo_text, .int length, .ref mo_vars, .ref mo_sights, .int many, .int steps, .int isCut, .ref mo_isThere, .ref mo_taints, .ref mo_known, .int taint, .ref mo_knows, .int isOther, .int at_, .int isFaulty, .int orders, .ref mo_letters, .ref mo_numbers, .long hash]), (mo_now, aI G 104 now)]) (wr := [(mo_refusals, aI G 3 refusals), (mo_isThere, aZ G 21 isThere), (mo_taints, aI G 21 taints), (mo_known, aI G 126 known), (mo_knows, aI G 6 knows)]) (WS' := [(mo, oB 7 [.ref mo_now, .ref mo_aside, .ref mo_past, .int states, .ref mo_refusals, .ref mo_text, .int length, .ref mo_vars, .ref mo_sights, .int many, .int steps, .int isCut, .ref mo_isThere, .ref mo_taints, .ref mo_known, .int taint, .ref mo_knows, .int isOther, .int at_, .int isFaulty, .int orders, .ref mo_letters, .ref mo_numbers, .long hash]), (mo_now, aI G 104 now), (mo_refusals, aI G 3 refusals), (mo_isThere, aZ G 21 isThere), (mo_taints, aI G 21 taints), (mo_known, aI G 126 known), (mo_knows, aI G 6 knows)]) C (c7_isEndToo hq1) gX7_reached_X7_isEndToo (by decide +kernel) rfl rfl rfl rfl rfl rfl ⟨by decide, by decide⟩ rfl [0, 1] [2, 3, 4, 5, 6] [5, 6, 0, 1, 2, 3, 4] rfl (by decide) rfl (by decide) (by decide) rfl (by decide) (Nat.le_of_ble_eq_true rfl) ⟨Nat.zero_le _, Nat.zero_le _⟩ rfl dX7_reached_2 ?_
  refine g_if_ne (tgt := 13) C dX7_reached_5 (by decide) (fun c2 => ?_) (fun c2 => ?_)
  · replace hf := ite_f c2 hf
    refine g_aload_n C dX7_reached_13 rfl 0 rfl ?_
    obtain ⟨q3, hq3, hf⟩ := bs hf
    refine g_callVv (n := 0) (As := []) (rest := []) (wc := [(mo, oB 7 [.ref mo_now, .ref mo_aside, .ref mo_past, .int states, .ref mo_refusals, .ref mo_text, .int length, .ref mo_vars, .ref mo_sights, .int many, .int steps, .int isCut, .ref mo_isThere, .ref mo_taints, .ref mo_known, .int taint, .ref mo_knows, .int isOther, .int at_, .int isFaulty, .int orders, .ref mo_letters, .ref mo_numbers, .long hash]), (mo_now, aI G 104 now), (mo_isThere, aZ G 21 isThere), (mo_taints, aI G 21 taints), (mo_known, aI G 126 known), (mo_knows, aI G 6 knows)]) (w1 := [(mo, oB 7 [.ref mo_now, .ref mo_aside, .ref mo_past, .int states, .ref mo_refusals, .ref mo_text, .int length, .ref mo_vars, .ref mo_sights, .int many, .int steps, .int isCut, .ref mo_isThere, .ref mo_taints, .ref mo_known, .int q3.2.2.2.1, .ref mo_knows, .int q3.2.2.2.2.2, .int at_, .int isFaulty, .int orders, .ref mo_letters, .ref mo_numbers, .long hash]), (mo_now, aI G 104 now), (mo_isThere, aZ G 21 q3.1), (mo_taints, aI G 21 q3.2.1), (mo_known, aI G 126 q3.2.2.1), (mo_knows, aI G 6 q3.2.2.2.2.1)]) (wr := [(mo_refusals, aI G 3 refusals)]) (WS' := [(mo, oB 7 [.ref mo_now, .ref mo_aside, .ref mo_past, .int states, .ref mo_refusals, .ref mo_text, .int length, .ref mo_vars, .ref mo_sights, .int many, .int steps, .int isCut, .ref mo_isThere, .ref mo_taints, .ref mo_known, .int q3.2.2.2.1, .ref mo_knows, .int q3.2.2.2.2.2, .int at_, .int isFaulty, .int orders, .ref mo_letters, .ref mo_numbers, .long hash]), (mo_now, aI G 104 now), (mo_refusals, aI G 3 refusals), (mo_isThere, aZ G 21 q3.1), (mo_taints, aI G 21 q3.2.1), (mo_known, aI G 126 q3.2.2.1), (mo_knows, aI G 6 q3.2.2.2.2.1)]) C (c7_laysLines hq3) gX7_reached_X7_laysLines (by decide +kernel) rfl rfl rfl rfl rfl rfl ⟨by decide, by decide⟩ rfl [0, 1, 3, 4, 5, 6] [2] [1, 2, 0, 3, 4, 5, 6] rfl (by decide) rfl (by decide) (by decide) rfl (by decide) (Nat.le_of_ble_eq_true rfl) ⟨Nat.zero_le _, Nat.zero_le _⟩ rfl dX7_reached_14 ?_
    refine g_aload_n C dX7_reached_17 rfl 0 rfl ?_
    refine g_get (C0 := RX7) (T := TX7) (N := 24) (ci := 7) (v := .ref mo_isThere) C hm7_reached_0 0 rfl rfl 12 (by decide) hm7_reached_1 rfl dX7_reached_18 ?_
    refine g_iload_n C dX7_reached_21 rfl 1 rfl ?_
    obtain ⟨h4, hf⟩ := ck_some hf
    refine g_zald (n := 21) (v := (q3.1 v0.toNatClampNeg)) C 3 rfl h4 rfl rfl dX7_reached_22 ?_
    refine g_if_eq (tgt := 30) C dX7_reached_23 (by decide) (fun c5 => ?_) (fun c5 => ?_)
    · replace hf := ite_t c5 hf
      refine g_iconst (v := (0 : Int32)) C dX7_reached_30 (by decide +kernel) ?_
      obtain rfl := Option.some.inj hf
      exact hR _ _ dX7_reached_31
    · replace hf := ite_f c5 hf
      refine g_iconst (v := (1 : Int32)) C dX7_reached_26 (by decide +kernel) ?_
      refine g_goto (tgt := 31) C dX7_reached_27 (by decide) ?_
      obtain rfl := Option.some.inj hf
      exact hR _ _ dX7_reached_31
  · replace hf := ite_t c2 hf
    refine g_aload_n C dX7_reached_8 rfl 0 rfl ?_
    obtain ⟨q6, hq6, hf⟩ := bs hf
    refine g_callVi (n := 0) (As := []) (rest := []) (wc := [(mo, oB 7 [.ref mo_now, .ref mo_aside, .ref mo_past, .int states, .ref mo_refusals, .ref mo_text, .int length, .ref mo_vars, .ref mo_sights, .int many, .int steps, .int isCut, .ref mo_isThere, .ref mo_taints, .ref mo_known, .int taint, .ref mo_knows, .int isOther, .int at_, .int isFaulty, .int orders, .ref mo_letters, .ref mo_numbers, .long hash]), (mo_refusals, aI G 3 refusals)]) (w1 := [(mo, oB 7 [.ref mo_now, .ref mo_aside, .ref mo_past, .int states, .ref mo_refusals, .ref mo_text, .int length, .ref mo_vars, .ref mo_sights, .int many, .int steps, .int isCut, .ref mo_isThere, .ref mo_taints, .ref mo_known, .int taint, .ref mo_knows, .int isOther, .int at_, .int isFaulty, .int orders, .ref mo_letters, .ref mo_numbers, .long hash]), (mo_refusals, aI G 3 q6.2)]) (wr := [(mo_now, aI G 104 now), (mo_isThere, aZ G 21 isThere), (mo_taints, aI G 21 taints), (mo_known, aI G 126 known), (mo_knows, aI G 6 knows)]) (WS' := [(mo, oB 7 [.ref mo_now, .ref mo_aside, .ref mo_past, .int states, .ref mo_refusals, .ref mo_text, .int length, .ref mo_vars, .ref mo_sights, .int many, .int steps, .int isCut, .ref mo_isThere, .ref mo_taints, .ref mo_known, .int taint, .ref mo_knows, .int isOther, .int at_, .int isFaulty, .int orders, .ref mo_letters, .ref mo_numbers, .long hash]), (mo_now, aI G 104 now), (mo_refusals, aI G 3 q6.2), (mo_isThere, aZ G 21 isThere), (mo_taints, aI G 21 taints), (mo_known, aI G 126 known), (mo_knows, aI G 6 knows)]) C (c7_bad hq6) gX7_reached_X7_bad (by decide +kernel) rfl rfl rfl rfl rfl rfl ⟨by decide, by decide⟩ rfl [0, 2] [1, 3, 4, 5, 6] [5, 0, 6, 1, 2, 3, 4] rfl (by decide) rfl (by decide) (by decide) rfl (by decide) (Nat.le_of_ble_eq_true rfl) ⟨Nat.zero_le _, Nat.zero_le _⟩ rfl dX7_reached_9 ?_
    obtain rfl := Option.some.inj hf
    exact hR _ _ dX7_reached_12

-- X7_isAlarm
def f7_isAlarm_79 (now : Nat → Int32) (isThere : Nat → Int32) (taints : Nat → Int32) (x1 : Int32) (x2 : Int32) (x3 : Int32) (x4 : Int32) : Option (Int32) :=
  ck (inb x1 21) <|
    if (isThere x1.toNatClampNeg) = 0 then
    (some (0 : Int32))
    else (if x3 = 0 then
    (if x4 = 0 then
    (some (0 : Int32))
    else (some (1 : Int32)))
    else (some (1 : Int32)))
def f7_isAlarm_77 (now : Nat → Int32) (isThere : Nat → Int32) (taints : Nat → Int32) (x1 : Int32) (x2 : Int32) (x3 : Int32) (y0 : Int32) : Option (Int32) :=
  f7_isAlarm_79 now isThere taints x1 x2 x3 y0
def f7_isAlarm_76 (now : Nat → Int32) (isThere : Nat → Int32) (taints : Nat → Int32) (x1 : Int32) (x2 : Int32) (x3 : Int32) : Option (Int32) :=
  f7_isAlarm_77 now isThere taints x1 x2 x3 (0 : Int32)
def f7_isAlarm_54 (now : Nat → Int32) (isThere : Nat → Int32) (taints : Nat → Int32) (x1 : Int32) (x2 : Int32) (x3 : Int32) : Option (Int32) :=
  ck (inb x1 21) <|
    (f7_partOf now x1 (2 : Int32)).bind <| fun q6 =>
    (f7_has (taints x1.toNatClampNeg) q6).bind <| fun q7 =>
    if q7 = 0 then
    (f7_isAlarm_76 now isThere taints x1 x2 x3)
    else (f7_isAlarm_77 now isThere taints x1 x2 x3 (1 : Int32))
def f7_isAlarm_43 (now : Nat → Int32) (isThere : Nat → Int32) (taints : Nat → Int32) (x1 : Int32) (x2 : Int32) (x3 : Int32) : Option (Int32) :=
  if x2 = (5 : Int32) then
    (f7_isAlarm_54 now isThere taints x1 x2 x3)
    else (if x2 = (6 : Int32) then
    (f7_isAlarm_54 now isThere taints x1 x2 x3)
    else (f7_isAlarm_76 now isThere taints x1 x2 x3))
def f7_isAlarm_42 (now : Nat → Int32) (isThere : Nat → Int32) (taints : Nat → Int32) (x1 : Int32) (x2 : Int32) (y0 : Int32) : Option (Int32) :=
  f7_isAlarm_43 now isThere taints x1 x2 y0
def f7_isAlarm_41 (now : Nat → Int32) (isThere : Nat → Int32) (taints : Nat → Int32) (x1 : Int32) (x2 : Int32) : Option (Int32) :=
  f7_isAlarm_42 now isThere taints x1 x2 (0 : Int32)
def f7_isAlarm_7 (now : Nat → Int32) (isThere : Nat → Int32) (taints : Nat → Int32) (x1 : Int32) (x2 : Int32) : Option (Int32) :=
  ck (inb x1 21) <|
    (f7_partOf now x1 (1 : Int32)).bind <| fun q12 =>
    (f7_has (taints x1.toNatClampNeg) q12).bind <| fun q13 =>
    if q13 = 0 then
    (f7_isAlarm_41 now isThere taints x1 x2)
    else (if x2 = (6 : Int32) then
    (f7_isAlarm_42 now isThere taints x1 x2 (1 : Int32))
    else (if x2 = (7 : Int32) then
    (f7_isAlarm_42 now isThere taints x1 x2 (1 : Int32))
    else (f7_isAlarm_41 now isThere taints x1 x2)))
def f7_isAlarm (now : Nat → Int32) (isThere : Nat → Int32) (taints : Nat → Int32) (v0 : Int32) : Option (Int32) :=
  (f7_partOf now v0 (0 : Int32)).bind <| fun q17 =>
    f7_isAlarm_7 now isThere taints v0 q17
def rm7_isAlarm : Room := { frames := 1, cells := 0, slots := 0, locals := 22 }
theorem hm7_isAlarm_0 : ∀ w ∈ u_ws RX7 TX7 24, w ∈ wsX7_isAlarm := by decide +kernel
theorem hm7_isAlarm_1 : Cond.fieldLink RX7 31 "SecretStepsModel" "isThere" "[Z" ∈ wsX7_isAlarm := by decide +kernel
theorem hm7_isAlarm_2 : Cond.fieldLink RX7 35 "SecretStepsModel" "taints" "[I" ∈ wsX7_isAlarm := by decide +kernel
set_option maxHeartbeats 4000000 in
set_option maxRecDepth 100000 in
theorem k7_isAlarm_79 {p : Program} {l : Launch} {e : Env} {s : State} {m : MethodId} {args : Array Value} {below : List Frame} {meth : Method} {c : Code} {G : gG} {A : Nat → Prop} {Q : State → Prop} {mo mo_now mo_aside mo_past mo_refusals mo_text mo_vars mo_sights mo_isThere mo_taints mo_known mo_knows mo_letters mo_numbers : Nat} (C : CX p s m args meth c G A cX7_isAlarm 5 RX7 wsX7_isAlarm) {states : Int32} {length : Int32} {many : Int32} {steps : Int32} {isCut : Int32} {taint : Int32} {isOther : Int32} {at_ : Int32} {isFaulty : Int32} {orders : Int32} {hash : Int64} {now : Nat → Int32} {isThere : Nat → Int32} {taints : Nat → Int32} {x1 : Int32} {x2 : Int32} {x3 : Int32} {x4 : Int32} {res : Int32} (hR : ∀ (lv : List (Nat × Value)) (pc : Nat), decode cX7_isAlarm pc = .ok (.ireturn, 1) → isb res = true → GG p l e rm7_isAlarm s m args below meth c G A 5 0 0 Q [(mo, oB 7 [.ref mo_now, .ref mo_aside, .ref mo_past, .int states, .ref mo_refusals, .ref mo_text, .int length, .ref mo_vars, .ref mo_sights, .int many, .int steps, .int isCut, .ref mo_isThere, .ref mo_taints, .ref mo_known, .int taint, .ref mo_knows, .int isOther, .int at_, .int isFaulty, .int orders, .ref mo_letters, .ref mo_numbers, .long hash]), (mo_now, aI G 104 now), (mo_isThere, aZ G 21 isThere), (mo_taints, aI G 21 taints)] lv pc [.int res])
    (hf : f7_isAlarm_79 now isThere taints x1 x2 x3 x4 = some res) : GG p l e rm7_isAlarm s m args below meth c G A 5 0 0 Q [(mo, oB 7 [.ref mo_now, .ref mo_aside, .ref mo_past, .int states, .ref mo_refusals, .ref mo_text, .int length, .ref mo_vars, .ref mo_sights, .int many, .int steps, .int isCut, .ref mo_isThere, .ref mo_taints, .ref mo_known, .int taint, .ref mo_knows, .int isOther, .int at_, .int isFaulty, .int orders, .ref mo_letters, .ref mo_numbers, .long hash]), (mo_now, aI G 104 now), (mo_isThere, aZ G 21 isThere), (mo_taints, aI G 21 taints)] [(0, .ref mo), (1, .int x1), (2, .int x2), (3, .int x3), (4, .int x4)] 79 [] := by
  unfold f7_isAlarm_79 at hf
  refine g_aload_n C dX7_isAlarm_79 rfl 0 rfl ?_
  refine g_get (C0 := RX7) (T := TX7) (N := 24) (ci := 7) (v := .ref mo_isThere) C hm7_isAlarm_0 0 rfl rfl 12 (by decide) hm7_isAlarm_1 rfl dX7_isAlarm_80 ?_
  refine g_iload_n C dX7_isAlarm_83 rfl 1 rfl ?_
  obtain ⟨h1, hf⟩ := ck_some hf
  refine g_zald (n := 21) (v := (isThere x1.toNatClampNeg)) C 2 rfl h1 rfl rfl dX7_isAlarm_84 ?_
  refine g_if_eq (tgt := 101) C dX7_isAlarm_85 (by decide) (fun c2 => ?_) (fun c2 => ?_)
  · replace hf := ite_t c2 hf
    refine g_iconst (v := (0 : Int32)) C dX7_isAlarm_101 (by decide +kernel) ?_
    obtain rfl := Option.some.inj hf
    exact hR _ _ dX7_isAlarm_102 isb0
  · replace hf := ite_f c2 hf
    refine g_iload_n C dX7_isAlarm_88 rfl 3 rfl ?_
    refine g_if_ne (tgt := 97) C dX7_isAlarm_89 (by decide) (fun c3 => ?_) (fun c3 => ?_)
    · replace hf := ite_f c3 hf
      refine g_iconst (v := (1 : Int32)) C dX7_isAlarm_97 (by decide +kernel) ?_
      refine g_goto (tgt := 102) C dX7_isAlarm_98 (by decide) ?_
      obtain rfl := Option.some.inj hf
      exact hR _ _ dX7_isAlarm_102 isb1
    · replace hf := ite_t c3 hf
      refine g_iload C dX7_isAlarm_92 4 rfl ?_
      refine g_if_eq (tgt := 101) C dX7_isAlarm_94 (by decide) (fun c4 => ?_) (fun c4 => ?_)
      · replace hf := ite_t c4 hf
        refine g_iconst (v := (0 : Int32)) C dX7_isAlarm_101 (by decide +kernel) ?_
        obtain rfl := Option.some.inj hf
        exact hR _ _ dX7_isAlarm_102 isb0
      · replace hf := ite_f c4 hf
        refine g_iconst (v := (1 : Int32)) C dX7_isAlarm_97 (by decide +kernel) ?_
        refine g_goto (tgt := 102) C dX7_isAlarm_98 (by decide) ?_
        obtain rfl := Option.some.inj hf
        exact hR _ _ dX7_isAlarm_102 isb1
set_option maxHeartbeats 4000000 in
set_option maxRecDepth 100000 in
theorem k7_isAlarm_77 {p : Program} {l : Launch} {e : Env} {s : State} {m : MethodId} {args : Array Value} {below : List Frame} {meth : Method} {c : Code} {G : gG} {A : Nat → Prop} {Q : State → Prop} {mo mo_now mo_aside mo_past mo_refusals mo_text mo_vars mo_sights mo_isThere mo_taints mo_known mo_knows mo_letters mo_numbers : Nat} (C : CX p s m args meth c G A cX7_isAlarm 5 RX7 wsX7_isAlarm) {states : Int32} {length : Int32} {many : Int32} {steps : Int32} {isCut : Int32} {taint : Int32} {isOther : Int32} {at_ : Int32} {isFaulty : Int32} {orders : Int32} {hash : Int64} {now : Nat → Int32} {isThere : Nat → Int32} {taints : Nat → Int32} {x1 : Int32} {x2 : Int32} {x3 : Int32} {y0 : Int32} {res : Int32} (hR : ∀ (lv : List (Nat × Value)) (pc : Nat), decode cX7_isAlarm pc = .ok (.ireturn, 1) → isb res = true → GG p l e rm7_isAlarm s m args below meth c G A 5 0 0 Q [(mo, oB 7 [.ref mo_now, .ref mo_aside, .ref mo_past, .int states, .ref mo_refusals, .ref mo_text, .int length, .ref mo_vars, .ref mo_sights, .int many, .int steps, .int isCut, .ref mo_isThere, .ref mo_taints, .ref mo_known, .int taint, .ref mo_knows, .int isOther, .int at_, .int isFaulty, .int orders, .ref mo_letters, .ref mo_numbers, .long hash]), (mo_now, aI G 104 now), (mo_isThere, aZ G 21 isThere), (mo_taints, aI G 21 taints)] lv pc [.int res])
    (hf : f7_isAlarm_77 now isThere taints x1 x2 x3 y0 = some res) : GG p l e rm7_isAlarm s m args below meth c G A 5 0 0 Q [(mo, oB 7 [.ref mo_now, .ref mo_aside, .ref mo_past, .int states, .ref mo_refusals, .ref mo_text, .int length, .ref mo_vars, .ref mo_sights, .int many, .int steps, .int isCut, .ref mo_isThere, .ref mo_taints, .ref mo_known, .int taint, .ref mo_knows, .int isOther, .int at_, .int isFaulty, .int orders, .ref mo_letters, .ref mo_numbers, .long hash]), (mo_now, aI G 104 now), (mo_isThere, aZ G 21 isThere), (mo_taints, aI G 21 taints)] [(0, .ref mo), (1, .int x1), (2, .int x2), (3, .int x3)] 77 [.int y0] := by
  unfold f7_isAlarm_77 at hf
  refine g_istore (lv' := [(0, .ref mo), (1, .int x1), (2, .int x2), (3, .int x3), (4, .int y0)]) C dX7_isAlarm_77 (by decide) [1, 2, 3, 4, 0] rfl ?_
  exact k7_isAlarm_79 C hR hf
set_option maxHeartbeats 4000000 in
set_option maxRecDepth 100000 in
theorem k7_isAlarm_76 {p : Program} {l : Launch} {e : Env} {s : State} {m : MethodId} {args : Array Value} {below : List Frame} {meth : Method} {c : Code} {G : gG} {A : Nat → Prop} {Q : State → Prop} {mo mo_now mo_aside mo_past mo_refusals mo_text mo_vars mo_sights mo_isThere mo_taints mo_known mo_knows mo_letters mo_numbers : Nat} (C : CX p s m args meth c G A cX7_isAlarm 5 RX7 wsX7_isAlarm) {states : Int32} {length : Int32} {many : Int32} {steps : Int32} {isCut : Int32} {taint : Int32} {isOther : Int32} {at_ : Int32} {isFaulty : Int32} {orders : Int32} {hash : Int64} {now : Nat → Int32} {isThere : Nat → Int32} {taints : Nat → Int32} {x1 : Int32} {x2 : Int32} {x3 : Int32} {res : Int32} (hR : ∀ (lv : List (Nat × Value)) (pc : Nat), decode cX7_isAlarm pc = .ok (.ireturn, 1) → isb res = true → GG p l e rm7_isAlarm s m args below meth c G A 5 0 0 Q [(mo, oB 7 [.ref mo_now, .ref mo_aside, .ref mo_past, .int states, .ref mo_refusals, .ref mo_text, .int length, .ref mo_vars, .ref mo_sights, .int many, .int steps, .int isCut, .ref mo_isThere, .ref mo_taints, .ref mo_known, .int taint, .ref mo_knows, .int isOther, .int at_, .int isFaulty, .int orders, .ref mo_letters, .ref mo_numbers, .long hash]), (mo_now, aI G 104 now), (mo_isThere, aZ G 21 isThere), (mo_taints, aI G 21 taints)] lv pc [.int res])
    (hf : f7_isAlarm_76 now isThere taints x1 x2 x3 = some res) : GG p l e rm7_isAlarm s m args below meth c G A 5 0 0 Q [(mo, oB 7 [.ref mo_now, .ref mo_aside, .ref mo_past, .int states, .ref mo_refusals, .ref mo_text, .int length, .ref mo_vars, .ref mo_sights, .int many, .int steps, .int isCut, .ref mo_isThere, .ref mo_taints, .ref mo_known, .int taint, .ref mo_knows, .int isOther, .int at_, .int isFaulty, .int orders, .ref mo_letters, .ref mo_numbers, .long hash]), (mo_now, aI G 104 now), (mo_isThere, aZ G 21 isThere), (mo_taints, aI G 21 taints)] [(0, .ref mo), (1, .int x1), (2, .int x2), (3, .int x3)] 76 [] := by
  unfold f7_isAlarm_76 at hf
  refine g_iconst (v := (0 : Int32)) C dX7_isAlarm_76 (by decide +kernel) ?_
  exact k7_isAlarm_77 C hR hf
set_option maxHeartbeats 4000000 in
set_option maxRecDepth 100000 in
theorem k7_isAlarm_54 {p : Program} {l : Launch} {e : Env} {s : State} {m : MethodId} {args : Array Value} {below : List Frame} {meth : Method} {c : Code} {G : gG} {A : Nat → Prop} {Q : State → Prop} {mo mo_now mo_aside mo_past mo_refusals mo_text mo_vars mo_sights mo_isThere mo_taints mo_known mo_knows mo_letters mo_numbers : Nat} (C : CX p s m args meth c G A cX7_isAlarm 5 RX7 wsX7_isAlarm) {states : Int32} {length : Int32} {many : Int32} {steps : Int32} {isCut : Int32} {taint : Int32} {isOther : Int32} {at_ : Int32} {isFaulty : Int32} {orders : Int32} {hash : Int64} {now : Nat → Int32} {isThere : Nat → Int32} {taints : Nat → Int32} {x1 : Int32} {x2 : Int32} {x3 : Int32} {res : Int32} (hR : ∀ (lv : List (Nat × Value)) (pc : Nat), decode cX7_isAlarm pc = .ok (.ireturn, 1) → isb res = true → GG p l e rm7_isAlarm s m args below meth c G A 5 0 0 Q [(mo, oB 7 [.ref mo_now, .ref mo_aside, .ref mo_past, .int states, .ref mo_refusals, .ref mo_text, .int length, .ref mo_vars, .ref mo_sights, .int many, .int steps, .int isCut, .ref mo_isThere, .ref mo_taints, .ref mo_known, .int taint, .ref mo_knows, .int isOther, .int at_, .int isFaulty, .int orders, .ref mo_letters, .ref mo_numbers, .long hash]), (mo_now, aI G 104 now), (mo_isThere, aZ G 21 isThere), (mo_taints, aI G 21 taints)] lv pc [.int res])
    (hf : f7_isAlarm_54 now isThere taints x1 x2 x3 = some res) : GG p l e rm7_isAlarm s m args below meth c G A 5 0 0 Q [(mo, oB 7 [.ref mo_now, .ref mo_aside, .ref mo_past, .int states, .ref mo_refusals, .ref mo_text, .int length, .ref mo_vars, .ref mo_sights, .int many, .int steps, .int isCut, .ref mo_isThere, .ref mo_taints, .ref mo_known, .int taint, .ref mo_knows, .int isOther, .int at_, .int isFaulty, .int orders, .ref mo_letters, .ref mo_numbers, .long hash]), (mo_now, aI G 104 now), (mo_isThere, aZ G 21 isThere), (mo_taints, aI G 21 taints)] [(0, .ref mo), (1, .int x1), (2, .int x2), (3, .int x3)] 54 [] := by
  unfold f7_isAlarm_54 at hf
  refine g_aload_n C dX7_isAlarm_54 rfl 0 rfl ?_
  refine g_get (C0 := RX7) (T := TX7) (N := 24) (ci := 7) (v := .ref mo_taints) C hm7_isAlarm_0 0 rfl rfl 13 (by decide) hm7_isAlarm_2 rfl dX7_isAlarm_55 ?_
  refine g_iload_n C dX7_isAlarm_58 rfl 1 rfl ?_
  obtain ⟨h5, hf⟩ := ck_some hf
  refine g_iald (n := 21) (v := (taints x1.toNatClampNeg)) C 3 rfl h5 rfl rfl dX7_isAlarm_59 ?_
  refine g_aload_n C dX7_isAlarm_60 rfl 0 rfl ?_
  refine g_iload_n C dX7_isAlarm_61 rfl 1 rfl ?_
  refine g_iconst (v := (2 : Int32)) C dX7_isAlarm_62 (by decide +kernel) ?_
  obtain ⟨q6, hq6, hf⟩ := bs hf
  refine g_callVi (n := 2) (As := [.int x1, .int (2 : Int32)]) (rest := [.int (taints x1.toNatClampNeg)]) (wc := [(mo, oB 7 [.ref mo_now, .ref mo_aside, .ref mo_past, .int states, .ref mo_refusals, .ref mo_text, .int length, .ref mo_vars, .ref mo_sights, .int many, .int steps, .int isCut, .ref mo_isThere, .ref mo_taints, .ref mo_known, .int taint, .ref mo_knows, .int isOther, .int at_, .int isFaulty, .int orders, .ref mo_letters, .ref mo_numbers, .long hash]), (mo_now, aI G 104 now)]) (w1 := [(mo, oB 7 [.ref mo_now, .ref mo_aside, .ref mo_past, .int states, .ref mo_refusals, .ref mo_text, .int length, .ref mo_vars, .ref mo_sights, .int many, .int steps, .int isCut, .ref mo_isThere, .ref mo_taints, .ref mo_known, .int taint, .ref mo_knows, .int isOther, .int at_, .int isFaulty, .int orders, .ref mo_letters, .ref mo_numbers, .long hash]), (mo_now, aI G 104 now)]) (wr := [(mo_isThere, aZ G 21 isThere), (mo_taints, aI G 21 taints)]) (WS' := [(mo, oB 7 [.ref mo_now, .ref mo_aside, .ref mo_past, .int states, .ref mo_refusals, .ref mo_text, .int length, .ref mo_vars, .ref mo_sights, .int many, .int steps, .int isCut, .ref mo_isThere, .ref mo_taints, .ref mo_known, .int taint, .ref mo_knows, .int isOther, .int at_, .int isFaulty, .int orders, .ref mo_letters, .ref mo_numbers, .long hash]), (mo_now, aI G 104 now), (mo_isThere, aZ G 21 isThere), (mo_taints, aI G 21 taints)]) C (c7_partOf hq6) gX7_isAlarm_X7_partOf (by decide +kernel) rfl rfl rfl rfl rfl rfl ⟨by decide, by decide⟩ rfl [0, 1] [2, 3] [2, 3, 0, 1] rfl (by decide) rfl (by decide) (by decide) rfl (by decide) (Nat.le_of_ble_eq_true rfl) ⟨Nat.zero_le _, Nat.zero_le _⟩ rfl dX7_isAlarm_63 ?_
  obtain ⟨q7, hq7, hf⟩ := bs hf
  refine g_callSi (n := 2) (As := [.int (taints x1.toNatClampNeg), .int q6]) (rest := []) (wc := []) (w1 := []) (wr := [(mo, oB 7 [.ref mo_now, .ref mo_aside, .ref mo_past, .int states, .ref mo_refusals, .ref mo_text, .int length, .ref mo_vars, .ref mo_sights, .int many, .int steps, .int isCut, .ref mo_isThere, .ref mo_taints, .ref mo_known, .int taint, .ref mo_knows, .int isOther, .int at_, .int isFaulty, .int orders, .ref mo_letters, .ref mo_numbers, .long hash]), (mo_now, aI G 104 now), (mo_isThere, aZ G 21 isThere), (mo_taints, aI G 21 taints)]) (WS' := [(mo, oB 7 [.ref mo_now, .ref mo_aside, .ref mo_past, .int states, .ref mo_refusals, .ref mo_text, .int length, .ref mo_vars, .ref mo_sights, .int many, .int steps, .int isCut, .ref mo_isThere, .ref mo_taints, .ref mo_known, .int taint, .ref mo_knows, .int isOther, .int at_, .int isFaulty, .int orders, .ref mo_letters, .ref mo_numbers, .long hash]), (mo_now, aI G 104 now), (mo_isThere, aZ G 21 isThere), (mo_taints, aI G 21 taints)]) C (c7_has hq7) gX7_isAlarm_X7_has (by decide +kernel) rfl rfl rfl ⟨by decide, by decide⟩ rfl [] [0, 1, 2, 3] [0, 1, 2, 3] rfl (by decide) rfl (by decide) (by decide) rfl (by decide) (Nat.le_of_ble_eq_true rfl) ⟨Nat.zero_le _, Nat.zero_le _⟩ rfl dX7_isAlarm_66 ?_
  refine g_if_eq (tgt := 76) C dX7_isAlarm_69 (by decide) (fun c8 => ?_) (fun c8 => ?_)
  · replace hf := ite_t c8 hf
    exact k7_isAlarm_76 C hR hf
  · replace hf := ite_f c8 hf
    refine g_iconst (v := (1 : Int32)) C dX7_isAlarm_72 (by decide +kernel) ?_
    refine g_goto (tgt := 77) C dX7_isAlarm_73 (by decide) ?_
    exact k7_isAlarm_77 C hR hf
set_option maxHeartbeats 4000000 in
set_option maxRecDepth 100000 in
theorem k7_isAlarm_43 {p : Program} {l : Launch} {e : Env} {s : State} {m : MethodId} {args : Array Value} {below : List Frame} {meth : Method} {c : Code} {G : gG} {A : Nat → Prop} {Q : State → Prop} {mo mo_now mo_aside mo_past mo_refusals mo_text mo_vars mo_sights mo_isThere mo_taints mo_known mo_knows mo_letters mo_numbers : Nat} (C : CX p s m args meth c G A cX7_isAlarm 5 RX7 wsX7_isAlarm) {states : Int32} {length : Int32} {many : Int32} {steps : Int32} {isCut : Int32} {taint : Int32} {isOther : Int32} {at_ : Int32} {isFaulty : Int32} {orders : Int32} {hash : Int64} {now : Nat → Int32} {isThere : Nat → Int32} {taints : Nat → Int32} {x1 : Int32} {x2 : Int32} {x3 : Int32} {res : Int32} (hR : ∀ (lv : List (Nat × Value)) (pc : Nat), decode cX7_isAlarm pc = .ok (.ireturn, 1) → isb res = true → GG p l e rm7_isAlarm s m args below meth c G A 5 0 0 Q [(mo, oB 7 [.ref mo_now, .ref mo_aside, .ref mo_past, .int states, .ref mo_refusals, .ref mo_text, .int length, .ref mo_vars, .ref mo_sights, .int many, .int steps, .int isCut, .ref mo_isThere, .ref mo_taints, .ref mo_known, .int taint, .ref mo_knows, .int isOther, .int at_, .int isFaulty, .int orders, .ref mo_letters, .ref mo_numbers, .long hash]), (mo_now, aI G 104 now), (mo_isThere, aZ G 21 isThere), (mo_taints, aI G 21 taints)] lv pc [.int res])
    (hf : f7_isAlarm_43 now isThere taints x1 x2 x3 = some res) : GG p l e rm7_isAlarm s m args below meth c G A 5 0 0 Q [(mo, oB 7 [.ref mo_now, .ref mo_aside, .ref mo_past, .int states, .ref mo_refusals, .ref mo_text, .int length, .ref mo_vars, .ref mo_sights, .int many, .int steps, .int isCut, .ref mo_isThere, .ref mo_taints, .ref mo_known, .int taint, .ref mo_knows, .int isOther, .int at_, .int isFaulty, .int orders, .ref mo_letters, .ref mo_numbers, .long hash]), (mo_now, aI G 104 now), (mo_isThere, aZ G 21 isThere), (mo_taints, aI G 21 taints)] [(0, .ref mo), (1, .int x1), (2, .int x2), (3, .int x3)] 43 [] := by
  unfold f7_isAlarm_43 at hf
  refine g_iload_n C dX7_isAlarm_43 rfl 2 rfl ?_
  refine g_iconst (v := (5 : Int32)) C dX7_isAlarm_44 (by decide +kernel) ?_
  refine g_icmp_eq (tgt := 54) C dX7_isAlarm_45 (by decide) (fun c9 => ?_) (fun c9 => ?_)
  · replace hf := ite_t c9 hf
    exact k7_isAlarm_54 C hR hf
  · replace hf := ite_f c9 hf
    refine g_iload_n C dX7_isAlarm_48 rfl 2 rfl ?_
    refine g_bipush (v := (6 : Int32)) C dX7_isAlarm_49 (by decide +kernel) ?_
    refine g_icmp_ne (tgt := 76) C dX7_isAlarm_51 (by decide) (fun c10 => ?_) (fun c10 => ?_)
    · replace hf := ite_f c10 hf
      exact k7_isAlarm_76 C hR hf
    · replace hf := ite_t c10 hf
      exact k7_isAlarm_54 C hR hf
set_option maxHeartbeats 4000000 in
set_option maxRecDepth 100000 in
theorem k7_isAlarm_42 {p : Program} {l : Launch} {e : Env} {s : State} {m : MethodId} {args : Array Value} {below : List Frame} {meth : Method} {c : Code} {G : gG} {A : Nat → Prop} {Q : State → Prop} {mo mo_now mo_aside mo_past mo_refusals mo_text mo_vars mo_sights mo_isThere mo_taints mo_known mo_knows mo_letters mo_numbers : Nat} (C : CX p s m args meth c G A cX7_isAlarm 5 RX7 wsX7_isAlarm) {states : Int32} {length : Int32} {many : Int32} {steps : Int32} {isCut : Int32} {taint : Int32} {isOther : Int32} {at_ : Int32} {isFaulty : Int32} {orders : Int32} {hash : Int64} {now : Nat → Int32} {isThere : Nat → Int32} {taints : Nat → Int32} {x1 : Int32} {x2 : Int32} {y0 : Int32} {res : Int32} (hR : ∀ (lv : List (Nat × Value)) (pc : Nat), decode cX7_isAlarm pc = .ok (.ireturn, 1) → isb res = true → GG p l e rm7_isAlarm s m args below meth c G A 5 0 0 Q [(mo, oB 7 [.ref mo_now, .ref mo_aside, .ref mo_past, .int states, .ref mo_refusals, .ref mo_text, .int length, .ref mo_vars, .ref mo_sights, .int many, .int steps, .int isCut, .ref mo_isThere, .ref mo_taints, .ref mo_known, .int taint, .ref mo_knows, .int isOther, .int at_, .int isFaulty, .int orders, .ref mo_letters, .ref mo_numbers, .long hash]), (mo_now, aI G 104 now), (mo_isThere, aZ G 21 isThere), (mo_taints, aI G 21 taints)] lv pc [.int res])
    (hf : f7_isAlarm_42 now isThere taints x1 x2 y0 = some res) : GG p l e rm7_isAlarm s m args below meth c G A 5 0 0 Q [(mo, oB 7 [.ref mo_now, .ref mo_aside, .ref mo_past, .int states, .ref mo_refusals, .ref mo_text, .int length, .ref mo_vars, .ref mo_sights, .int many, .int steps, .int isCut, .ref mo_isThere, .ref mo_taints, .ref mo_known, .int taint, .ref mo_knows, .int isOther, .int at_, .int isFaulty, .int orders, .ref mo_letters, .ref mo_numbers, .long hash]), (mo_now, aI G 104 now), (mo_isThere, aZ G 21 isThere), (mo_taints, aI G 21 taints)] [(0, .ref mo), (1, .int x1), (2, .int x2)] 42 [.int y0] := by
  unfold f7_isAlarm_42 at hf
  refine g_istore_n (lv' := [(0, .ref mo), (1, .int x1), (2, .int x2), (3, .int y0)]) C dX7_isAlarm_42 rfl (by decide) [1, 2, 3, 0] rfl ?_
  exact k7_isAlarm_43 C hR hf
set_option maxHeartbeats 4000000 in
set_option maxRecDepth 100000 in
theorem k7_isAlarm_41 {p : Program} {l : Launch} {e : Env} {s : State} {m : MethodId} {args : Array Value} {below : List Frame} {meth : Method} {c : Code} {G : gG} {A : Nat → Prop} {Q : State → Prop} {mo mo_now mo_aside mo_past mo_refusals mo_text mo_vars mo_sights mo_isThere mo_taints mo_known mo_knows mo_letters mo_numbers : Nat} (C : CX p s m args meth c G A cX7_isAlarm 5 RX7 wsX7_isAlarm) {states : Int32} {length : Int32} {many : Int32} {steps : Int32} {isCut : Int32} {taint : Int32} {isOther : Int32} {at_ : Int32} {isFaulty : Int32} {orders : Int32} {hash : Int64} {now : Nat → Int32} {isThere : Nat → Int32} {taints : Nat → Int32} {x1 : Int32} {x2 : Int32} {res : Int32} (hR : ∀ (lv : List (Nat × Value)) (pc : Nat), decode cX7_isAlarm pc = .ok (.ireturn, 1) → isb res = true → GG p l e rm7_isAlarm s m args below meth c G A 5 0 0 Q [(mo, oB 7 [.ref mo_now, .ref mo_aside, .ref mo_past, .int states, .ref mo_refusals, .ref mo_text, .int length, .ref mo_vars, .ref mo_sights, .int many, .int steps, .int isCut, .ref mo_isThere, .ref mo_taints, .ref mo_known, .int taint, .ref mo_knows, .int isOther, .int at_, .int isFaulty, .int orders, .ref mo_letters, .ref mo_numbers, .long hash]), (mo_now, aI G 104 now), (mo_isThere, aZ G 21 isThere), (mo_taints, aI G 21 taints)] lv pc [.int res])
    (hf : f7_isAlarm_41 now isThere taints x1 x2 = some res) : GG p l e rm7_isAlarm s m args below meth c G A 5 0 0 Q [(mo, oB 7 [.ref mo_now, .ref mo_aside, .ref mo_past, .int states, .ref mo_refusals, .ref mo_text, .int length, .ref mo_vars, .ref mo_sights, .int many, .int steps, .int isCut, .ref mo_isThere, .ref mo_taints, .ref mo_known, .int taint, .ref mo_knows, .int isOther, .int at_, .int isFaulty, .int orders, .ref mo_letters, .ref mo_numbers, .long hash]), (mo_now, aI G 104 now), (mo_isThere, aZ G 21 isThere), (mo_taints, aI G 21 taints)] [(0, .ref mo), (1, .int x1), (2, .int x2)] 41 [] := by
  unfold f7_isAlarm_41 at hf
  refine g_iconst (v := (0 : Int32)) C dX7_isAlarm_41 (by decide +kernel) ?_
  exact k7_isAlarm_42 C hR hf
set_option maxHeartbeats 4000000 in
set_option maxRecDepth 100000 in
theorem k7_isAlarm_7 {p : Program} {l : Launch} {e : Env} {s : State} {m : MethodId} {args : Array Value} {below : List Frame} {meth : Method} {c : Code} {G : gG} {A : Nat → Prop} {Q : State → Prop} {mo mo_now mo_aside mo_past mo_refusals mo_text mo_vars mo_sights mo_isThere mo_taints mo_known mo_knows mo_letters mo_numbers : Nat} (C : CX p s m args meth c G A cX7_isAlarm 5 RX7 wsX7_isAlarm) {states : Int32} {length : Int32} {many : Int32} {steps : Int32} {isCut : Int32} {taint : Int32} {isOther : Int32} {at_ : Int32} {isFaulty : Int32} {orders : Int32} {hash : Int64} {now : Nat → Int32} {isThere : Nat → Int32} {taints : Nat → Int32} {x1 : Int32} {x2 : Int32} {res : Int32} (hR : ∀ (lv : List (Nat × Value)) (pc : Nat), decode cX7_isAlarm pc = .ok (.ireturn, 1) → isb res = true → GG p l e rm7_isAlarm s m args below meth c G A 5 0 0 Q [(mo, oB 7 [.ref mo_now, .ref mo_aside, .ref mo_past, .int states, .ref mo_refusals, .ref mo_text, .int length, .ref mo_vars, .ref mo_sights, .int many, .int steps, .int isCut, .ref mo_isThere, .ref mo_taints, .ref mo_known, .int taint, .ref mo_knows, .int isOther, .int at_, .int isFaulty, .int orders, .ref mo_letters, .ref mo_numbers, .long hash]), (mo_now, aI G 104 now), (mo_isThere, aZ G 21 isThere), (mo_taints, aI G 21 taints)] lv pc [.int res])
    (hf : f7_isAlarm_7 now isThere taints x1 x2 = some res) : GG p l e rm7_isAlarm s m args below meth c G A 5 0 0 Q [(mo, oB 7 [.ref mo_now, .ref mo_aside, .ref mo_past, .int states, .ref mo_refusals, .ref mo_text, .int length, .ref mo_vars, .ref mo_sights, .int many, .int steps, .int isCut, .ref mo_isThere, .ref mo_taints, .ref mo_known, .int taint, .ref mo_knows, .int isOther, .int at_, .int isFaulty, .int orders, .ref mo_letters, .ref mo_numbers, .long hash]), (mo_now, aI G 104 now), (mo_isThere, aZ G 21 isThere), (mo_taints, aI G 21 taints)] [(0, .ref mo), (1, .int x1), (2, .int x2)] 7 [] := by
  unfold f7_isAlarm_7 at hf
  refine g_aload_n C dX7_isAlarm_7 rfl 0 rfl ?_
  refine g_get (C0 := RX7) (T := TX7) (N := 24) (ci := 7) (v := .ref mo_taints) C hm7_isAlarm_0 0 rfl rfl 13 (by decide) hm7_isAlarm_2 rfl dX7_isAlarm_8 ?_
  refine g_iload_n C dX7_isAlarm_11 rfl 1 rfl ?_
  obtain ⟨h11, hf⟩ := ck_some hf
  refine g_iald (n := 21) (v := (taints x1.toNatClampNeg)) C 3 rfl h11 rfl rfl dX7_isAlarm_12 ?_
  refine g_aload_n C dX7_isAlarm_13 rfl 0 rfl ?_
  refine g_iload_n C dX7_isAlarm_14 rfl 1 rfl ?_
  refine g_iconst (v := (1 : Int32)) C dX7_isAlarm_15 (by decide +kernel) ?_
  obtain ⟨q12, hq12, hf⟩ := bs hf
  refine g_callVi (n := 2) (As := [.int x1, .int (1 : Int32)]) (rest := [.int (taints x1.toNatClampNeg)]) (wc := [(mo, oB 7 [.ref mo_now, .ref mo_aside, .ref mo_past, .int states, .ref mo_refusals, .ref mo_text, .int length, .ref mo_vars, .ref mo_sights, .int many, .int steps, .int isCut, .ref mo_isThere, .ref mo_taints, .ref mo_known, .int taint, .ref mo_knows, .int isOther, .int at_, .int isFaulty, .int orders, .ref mo_letters, .ref mo_numbers, .long hash]), (mo_now, aI G 104 now)]) (w1 := [(mo, oB 7 [.ref mo_now, .ref mo_aside, .ref mo_past, .int states, .ref mo_refusals, .ref mo_text, .int length, .ref mo_vars, .ref mo_sights, .int many, .int steps, .int isCut, .ref mo_isThere, .ref mo_taints, .ref mo_known, .int taint, .ref mo_knows, .int isOther, .int at_, .int isFaulty, .int orders, .ref mo_letters, .ref mo_numbers, .long hash]), (mo_now, aI G 104 now)]) (wr := [(mo_isThere, aZ G 21 isThere), (mo_taints, aI G 21 taints)]) (WS' := [(mo, oB 7 [.ref mo_now, .ref mo_aside, .ref mo_past, .int states, .ref mo_refusals, .ref mo_text, .int length, .ref mo_vars, .ref mo_sights, .int many, .int steps, .int isCut, .ref mo_isThere, .ref mo_taints, .ref mo_known, .int taint, .ref mo_knows, .int isOther, .int at_, .int isFaulty, .int orders, .ref mo_letters, .ref mo_numbers, .long hash]), (mo_now, aI G 104 now), (mo_isThere, aZ G 21 isThere), (mo_taints, aI G 21 taints)]) C (c7_partOf hq12) gX7_isAlarm_X7_partOf (by decide +kernel) rfl rfl rfl rfl rfl rfl ⟨by decide, by decide⟩ rfl [0, 1] [2, 3] [2, 3, 0, 1] rfl (by decide) rfl (by decide) (by decide) rfl (by decide) (Nat.le_of_ble_eq_true rfl) ⟨Nat.zero_le _, Nat.zero_le _⟩ rfl dX7_isAlarm_16 ?_
  obtain ⟨q13, hq13, hf⟩ := bs hf
  refine g_callSi (n := 2) (As := [.int (taints x1.toNatClampNeg), .int q12]) (rest := []) (wc := []) (w1 := []) (wr := [(mo, oB 7 [.ref mo_now, .ref mo_aside, .ref mo_past, .int states, .ref mo_refusals, .ref mo_text, .int length, .ref mo_vars, .ref mo_sights, .int many, .int steps, .int isCut, .ref mo_isThere, .ref mo_taints, .ref mo_known, .int taint, .ref mo_knows, .int isOther, .int at_, .int isFaulty, .int orders, .ref mo_letters, .ref mo_numbers, .long hash]), (mo_now, aI G 104 now), (mo_isThere, aZ G 21 isThere), (mo_taints, aI G 21 taints)]) (WS' := [(mo, oB 7 [.ref mo_now, .ref mo_aside, .ref mo_past, .int states, .ref mo_refusals, .ref mo_text, .int length, .ref mo_vars, .ref mo_sights, .int many, .int steps, .int isCut, .ref mo_isThere, .ref mo_taints, .ref mo_known, .int taint, .ref mo_knows, .int isOther, .int at_, .int isFaulty, .int orders, .ref mo_letters, .ref mo_numbers, .long hash]), (mo_now, aI G 104 now), (mo_isThere, aZ G 21 isThere), (mo_taints, aI G 21 taints)]) C (c7_has hq13) gX7_isAlarm_X7_has (by decide +kernel) rfl rfl rfl ⟨by decide, by decide⟩ rfl [] [0, 1, 2, 3] [0, 1, 2, 3] rfl (by decide) rfl (by decide) (by decide) rfl (by decide) (Nat.le_of_ble_eq_true rfl) ⟨Nat.zero_le _, Nat.zero_le _⟩ rfl dX7_isAlarm_19 ?_
  refine g_if_eq (tgt := 41) C dX7_isAlarm_22 (by decide) (fun c14 => ?_) (fun c14 => ?_)
  · replace hf := ite_t c14 hf
    exact k7_isAlarm_41 C hR hf
  · replace hf := ite_f c14 hf
    refine g_iload_n C dX7_isAlarm_25 rfl 2 rfl ?_
    refine g_bipush (v := (6 : Int32)) C dX7_isAlarm_26 (by decide +kernel) ?_
    refine g_icmp_eq (tgt := 37) C dX7_isAlarm_28 (by decide) (fun c15 => ?_) (fun c15 => ?_)
    · replace hf := ite_t c15 hf
      refine g_iconst (v := (1 : Int32)) C dX7_isAlarm_37 (by decide +kernel) ?_
      refine g_goto (tgt := 42) C dX7_isAlarm_38 (by decide) ?_
      exact k7_isAlarm_42 C hR hf
    · replace hf := ite_f c15 hf
      refine g_iload_n C dX7_isAlarm_31 rfl 2 rfl ?_
      refine g_bipush (v := (7 : Int32)) C dX7_isAlarm_32 (by decide +kernel) ?_
      refine g_icmp_ne (tgt := 41) C dX7_isAlarm_34 (by decide) (fun c16 => ?_) (fun c16 => ?_)
      · replace hf := ite_f c16 hf
        exact k7_isAlarm_41 C hR hf
      · replace hf := ite_t c16 hf
        refine g_iconst (v := (1 : Int32)) C dX7_isAlarm_37 (by decide +kernel) ?_
        refine g_goto (tgt := 42) C dX7_isAlarm_38 (by decide) ?_
        exact k7_isAlarm_42 C hR hf
set_option maxHeartbeats 4000000 in
set_option maxRecDepth 100000 in
theorem c7_isAlarm {l : Launch} {G : gG} {mo mo_now mo_aside mo_past mo_refusals mo_text mo_vars mo_sights mo_isThere mo_taints mo_known mo_knows mo_letters mo_numbers : Nat} {now : Nat → Int32} {states : Int32} {length : Int32} {many : Int32} {steps : Int32} {isCut : Int32} {isThere : Nat → Int32} {taints : Nat → Int32} {taint : Int32} {isOther : Int32} {at_ : Int32} {isFaulty : Int32} {orders : Int32} {hash : Int64} {v0 : Int32} {res : Int32} (hf : f7_isAlarm now isThere taints v0 = some res) : MI l yX7_isAlarm wsX7_isAlarm rm7_isAlarm G [.ref mo, .int v0] [(mo, oB 7 [.ref mo_now, .ref mo_aside, .ref mo_past, .int states, .ref mo_refusals, .ref mo_text, .int length, .ref mo_vars, .ref mo_sights, .int many, .int steps, .int isCut, .ref mo_isThere, .ref mo_taints, .ref mo_known, .int taint, .ref mo_knows, .int isOther, .int at_, .int isFaulty, .int orders, .ref mo_letters, .ref mo_numbers, .long hash]), (mo_now, aI G 104 now), (mo_isThere, aZ G 21 isThere), (mo_taints, aI G 21 taints)] (res) [(mo, oB 7 [.ref mo_now, .ref mo_aside, .ref mo_past, .int states, .ref mo_refusals, .ref mo_text, .int length, .ref mo_vars, .ref mo_sights, .int many, .int steps, .int isCut, .ref mo_isThere, .ref mo_taints, .ref mo_known, .int taint, .ref mo_knows, .int isOther, .int at_, .int isFaulty, .int orders, .ref mo_letters, .ref mo_numbers, .long hash]), (mo_now, aI G 104 now), (mo_isThere, aZ G 21 isThere), (mo_taints, aI G 21 taints)] := by
  refine MZ_of (res) (cc := cX7_isAlarm) (nL := 5) (lv := [(0, .ref mo), (1, .int v0)]) (by decide +kernel) rfl (Nat.le_of_ble_eq_true rfl) rfl ?_
  intro p e s m args below meth c A Q C hR
  unfold f7_isAlarm at hf
  refine g_aload_n C dX7_isAlarm_0 rfl 0 rfl ?_
  refine g_iload_n C dX7_isAlarm_1 rfl 1 rfl ?_
  refine g_iconst (v := (0 : Int32)) C dX7_isAlarm_2 (by decide +kernel) ?_
  obtain ⟨q17, hq17, hf⟩ := bs hf
  refine g_callVi (n := 2) (As := [.int v0, .int (0 : Int32)]) (rest := []) (wc := [(mo, oB 7 [.ref mo_now, .ref mo_aside, .ref mo_past, .int states, .ref mo_refusals, .ref mo_text, .int length, .ref mo_vars, .ref mo_sights, .int many, .int steps, .int isCut, .ref mo_isThere, .ref mo_taints, .ref mo_known, .int taint, .ref mo_knows, .int isOther, .int at_, .int isFaulty, .int orders, .ref mo_letters, .ref mo_numbers, .long hash]), (mo_now, aI G 104 now)]) (w1 := [(mo, oB 7 [.ref mo_now, .ref mo_aside, .ref mo_past, .int states, .ref mo_refusals, .ref mo_text, .int length, .ref mo_vars, .ref mo_sights, .int many, .int steps, .int isCut, .ref mo_isThere, .ref mo_taints, .ref mo_known, .int taint, .ref mo_knows, .int isOther, .int at_, .int isFaulty, .int orders, .ref mo_letters, .ref mo_numbers, .long hash]), (mo_now, aI G 104 now)]) (wr := [(mo_isThere, aZ G 21 isThere), (mo_taints, aI G 21 taints)]) (WS' := [(mo, oB 7 [.ref mo_now, .ref mo_aside, .ref mo_past, .int states, .ref mo_refusals, .ref mo_text, .int length, .ref mo_vars, .ref mo_sights, .int many, .int steps, .int isCut, .ref mo_isThere, .ref mo_taints, .ref mo_known, .int taint, .ref mo_knows, .int isOther, .int at_, .int isFaulty, .int orders, .ref mo_letters, .ref mo_numbers, .long hash]), (mo_now, aI G 104 now), (mo_isThere, aZ G 21 isThere), (mo_taints, aI G 21 taints)]) C (c7_partOf hq17) gX7_isAlarm_X7_partOf (by decide +kernel) rfl rfl rfl rfl rfl rfl ⟨by decide, by decide⟩ rfl [0, 1] [2, 3] [2, 3, 0, 1] rfl (by decide) rfl (by decide) (by decide) rfl (by decide) (Nat.le_of_ble_eq_true rfl) ⟨Nat.zero_le _, Nat.zero_le _⟩ rfl dX7_isAlarm_3 ?_
  refine g_istore_n (lv' := [(0, .ref mo), (1, .int v0), (2, .int q17)]) C dX7_isAlarm_6 rfl (by decide) [1, 2, 0] rfl ?_
  exact k7_isAlarm_7 C hR hf

-- X7_alarmNow
def f7_alarmNow_8b (now : Nat → Int32) (k8 : (Nat → Int32) × (Nat → Int32) × (Nat → Int32) × Int32 × (Nat → Int32) × Int32 × Int32 × Int32 × Int32 → Option (Int32 × (Nat → Int32) × (Nat → Int32) × (Nat → Int32) × Int32 × (Nat → Int32) × Int32)) (isThere : Nat → Int32) (taints : Nat → Int32) (known : Nat → Int32) (taint : Int32) (knows : Nat → Int32) (isOther : Int32) (x1 : Int32) (x2 : Int32) (x3 : Int32) : Option (Int32 × (Nat → Int32) × (Nat → Int32) × (Nat → Int32) × Int32 × (Nat → Int32) × Int32) :=
  if (now 0) ≤ x3 then
    (some ((-1 : Int32), isThere, taints, known, taint, knows, isOther))
    else ((f7_isAlarm now isThere taints x3).bind <| fun q2 =>
    if q2 = 0 then
    (k8 (isThere, taints, known, taint, knows, isOther, x1, x2, (x3 + (1 : Int32))))
    else (if x2 = x1 then
    (some (x3, isThere, taints, known, taint, knows, isOther))
    else (k8 (isThere, taints, known, taint, knows, isOther, x1, (x2 + (1 : Int32)), (x3 + (1 : Int32))))))
def f7_alarmNow_8 (now : Nat → Int32) (n : Nat) (s : (Nat → Int32) × (Nat → Int32) × (Nat → Int32) × Int32 × (Nat → Int32) × Int32 × Int32 × Int32 × Int32) : Option (Int32 × (Nat → Int32) × (Nat → Int32) × (Nat → Int32) × Int32 × (Nat → Int32) × Int32) := itf (fun k s => f7_alarmNow_8b now k s.1 s.2.1 s.2.2.1 s.2.2.2.1 s.2.2.2.2.1 s.2.2.2.2.2.1 s.2.2.2.2.2.2.1 s.2.2.2.2.2.2.2.1 s.2.2.2.2.2.2.2.2) n s
def f7_alarmNow (now : Nat → Int32) (isThere : Nat → Int32) (taints : Nat → Int32) (known : Nat → Int32) (taint : Int32) (knows : Nat → Int32) (isOther : Int32) (v0 : Int32) : Option (Int32 × (Nat → Int32) × (Nat → Int32) × (Nat → Int32) × Int32 × (Nat → Int32) × Int32) :=
  (f7_laysLines now isThere taints known taint knows isOther).bind <| fun q5 =>
    f7_alarmNow_8 now 1000 (q5.1, q5.2.1, q5.2.2.1, q5.2.2.2.1, q5.2.2.2.2.1, q5.2.2.2.2.2, v0, (0 : Int32), (0 : Int32))
def rm7_alarmNow : Room := { frames := 6, cells := 0, slots := 0, locals := 136 }
theorem hm7_alarmNow_0 : ∀ w ∈ u_ws RX7 TX7 24, w ∈ wsX7_alarmNow := by decide +kernel
theorem hm7_alarmNow_1 : Cond.fieldLink RX7 7 "SecretStepsModel" "now" "[I" ∈ wsX7_alarmNow := by decide +kernel
set_option maxHeartbeats 4000000 in
set_option maxRecDepth 100000 in
theorem k7_alarmNow_8b {p : Program} {l : Launch} {e : Env} {s : State} {m : MethodId} {args : Array Value} {below : List Frame} {meth : Method} {c : Code} {G : gG} {A : Nat → Prop} {Q : State → Prop} {mo mo_now mo_aside mo_past mo_refusals mo_text mo_vars mo_sights mo_isThere mo_taints mo_known mo_knows mo_letters mo_numbers : Nat} (C : CX p s m args meth c G A cX7_alarmNow 4 RX7 wsX7_alarmNow) {states : Int32} {length : Int32} {many : Int32} {steps : Int32} {isCut : Int32} {at_ : Int32} {isFaulty : Int32} {orders : Int32} {hash : Int64} {now : Nat → Int32} {k8 : (Nat → Int32) × (Nat → Int32) × (Nat → Int32) × Int32 × (Nat → Int32) × Int32 × Int32 × Int32 × Int32 → Option (Int32 × (Nat → Int32) × (Nat → Int32) × (Nat → Int32) × Int32 × (Nat → Int32) × Int32)} {isThere : Nat → Int32} {taints : Nat → Int32} {known : Nat → Int32} {taint : Int32} {knows : Nat → Int32} {isOther : Int32} {x1 : Int32} {x2 : Int32} {x3 : Int32} {res : Int32 × (Nat → Int32) × (Nat → Int32) × (Nat → Int32) × Int32 × (Nat → Int32) × Int32} (hR : ∀ (lv : List (Nat × Value)) (pc : Nat), decode cX7_alarmNow pc = .ok (.ireturn, 1) → GG p l e rm7_alarmNow s m args below meth c G A 4 0 0 Q [(mo, oB 7 [.ref mo_now, .ref mo_aside, .ref mo_past, .int states, .ref mo_refusals, .ref mo_text, .int length, .ref mo_vars, .ref mo_sights, .int many, .int steps, .int isCut, .ref mo_isThere, .ref mo_taints, .ref mo_known, .int res.2.2.2.2.1, .ref mo_knows, .int res.2.2.2.2.2.2, .int at_, .int isFaulty, .int orders, .ref mo_letters, .ref mo_numbers, .long hash]), (mo_now, aI G 104 now), (mo_isThere, aZ G 21 res.2.1), (mo_taints, aI G 21 res.2.2.1), (mo_known, aI G 126 res.2.2.2.1), (mo_knows, aI G 6 res.2.2.2.2.2.1)] lv pc [.int res.1])
    (hk8 : ∀ s', k8 s' = some res → GG p l e rm7_alarmNow s m args below meth c G A 4 0 0 Q [(mo, oB 7 [.ref mo_now, .ref mo_aside, .ref mo_past, .int states, .ref mo_refusals, .ref mo_text, .int length, .ref mo_vars, .ref mo_sights, .int many, .int steps, .int isCut, .ref mo_isThere, .ref mo_taints, .ref mo_known, .int s'.2.2.2.1, .ref mo_knows, .int s'.2.2.2.2.2.1, .int at_, .int isFaulty, .int orders, .ref mo_letters, .ref mo_numbers, .long hash]), (mo_now, aI G 104 now), (mo_isThere, aZ G 21 s'.1), (mo_taints, aI G 21 s'.2.1), (mo_known, aI G 126 s'.2.2.1), (mo_knows, aI G 6 s'.2.2.2.2.1)] [(0, .ref mo), (1, .int s'.2.2.2.2.2.2.1), (2, .int s'.2.2.2.2.2.2.2.1), (3, .int s'.2.2.2.2.2.2.2.2)] 8 [])
    (hf : f7_alarmNow_8b now k8 isThere taints known taint knows isOther x1 x2 x3 = some res) : GG p l e rm7_alarmNow s m args below meth c G A 4 0 0 Q [(mo, oB 7 [.ref mo_now, .ref mo_aside, .ref mo_past, .int states, .ref mo_refusals, .ref mo_text, .int length, .ref mo_vars, .ref mo_sights, .int many, .int steps, .int isCut, .ref mo_isThere, .ref mo_taints, .ref mo_known, .int taint, .ref mo_knows, .int isOther, .int at_, .int isFaulty, .int orders, .ref mo_letters, .ref mo_numbers, .long hash]), (mo_now, aI G 104 now), (mo_isThere, aZ G 21 isThere), (mo_taints, aI G 21 taints), (mo_known, aI G 126 known), (mo_knows, aI G 6 knows)] [(0, .ref mo), (1, .int x1), (2, .int x2), (3, .int x3)] 8 [] := by
  unfold f7_alarmNow_8b at hf
  refine g_iload_n C dX7_alarmNow_8 rfl 3 rfl ?_
  refine g_aload_n C dX7_alarmNow_9 rfl 0 rfl ?_
  refine g_get (C0 := RX7) (T := TX7) (N := 24) (ci := 7) (v := .ref mo_now) C hm7_alarmNow_0 0 rfl rfl 0 (by decide) hm7_alarmNow_1 rfl dX7_alarmNow_10 ?_
  refine g_iconst (v := (0 : Int32)) C dX7_alarmNow_13 (by decide +kernel) ?_
  refine g_iald (n := 104) (v := (now 0)) C 1 rfl (by decide +kernel) (by decide +kernel) rfl dX7_alarmNow_14 ?_
  refine g_icmp_ge (tgt := 42) C dX7_alarmNow_15 (by decide) (fun c1 => ?_) (fun c1 => ?_)
  · replace hf := ite_t c1 hf
    refine g_iconst (v := (-1 : Int32)) C dX7_alarmNow_42 (by decide +kernel) ?_
    obtain rfl := Option.some.inj hf
    exact hR _ _ dX7_alarmNow_43
  · replace hf := ite_f c1 hf
    refine g_aload_n C dX7_alarmNow_18 rfl 0 rfl ?_
    refine g_iload_n C dX7_alarmNow_19 rfl 3 rfl ?_
    obtain ⟨q2, hq2, hf⟩ := bs hf
    refine g_callVi (n := 1) (As := [.int x3]) (rest := []) (wc := [(mo, oB 7 [.ref mo_now, .ref mo_aside, .ref mo_past, .int states, .ref mo_refusals, .ref mo_text, .int length, .ref mo_vars, .ref mo_sights, .int many, .int steps, .int isCut, .ref mo_isThere, .ref mo_taints, .ref mo_known, .int taint, .ref mo_knows, .int isOther, .int at_, .int isFaulty, .int orders, .ref mo_letters, .ref mo_numbers, .long hash]), (mo_now, aI G 104 now), (mo_isThere, aZ G 21 isThere), (mo_taints, aI G 21 taints)]) (w1 := [(mo, oB 7 [.ref mo_now, .ref mo_aside, .ref mo_past, .int states, .ref mo_refusals, .ref mo_text, .int length, .ref mo_vars, .ref mo_sights, .int many, .int steps, .int isCut, .ref mo_isThere, .ref mo_taints, .ref mo_known, .int taint, .ref mo_knows, .int isOther, .int at_, .int isFaulty, .int orders, .ref mo_letters, .ref mo_numbers, .long hash]), (mo_now, aI G 104 now), (mo_isThere, aZ G 21 isThere), (mo_taints, aI G 21 taints)]) (wr := [(mo_known, aI G 126 known), (mo_knows, aI G 6 knows)]) (WS' := [(mo, oB 7 [.ref mo_now, .ref mo_aside, .ref mo_past, .int states, .ref mo_refusals, .ref mo_text, .int length, .ref mo_vars, .ref mo_sights, .int many, .int steps, .int isCut, .ref mo_isThere, .ref mo_taints, .ref mo_known, .int taint, .ref mo_knows, .int isOther, .int at_, .int isFaulty, .int orders, .ref mo_letters, .ref mo_numbers, .long hash]), (mo_now, aI G 104 now), (mo_isThere, aZ G 21 isThere), (mo_taints, aI G 21 taints), (mo_known, aI G 126 known), (mo_knows, aI G 6 knows)]) C (c7_isAlarm hq2) gX7_alarmNow_X7_isAlarm (by decide +kernel) rfl rfl rfl rfl rfl rfl ⟨by decide, by decide⟩ rfl [0, 1, 2, 3] [4, 5] [2, 3, 4, 5, 0, 1] rfl (by decide) rfl (by decide) (by decide) rfl (by decide) (Nat.le_of_ble_eq_true rfl) ⟨Nat.zero_le _, Nat.zero_le _⟩ rfl dX7_alarmNow_20 ?_
    refine g_if_eq (tgt := 36) C dX7_alarmNow_23 (by decide) (fun c3 => ?_) (fun c3 => ?_)
    · replace hf := ite_t c3 hf
      refine g_iinc (v := (x3 + (1 : Int32))) (lv' := [(0, .ref mo), (1, .int x1), (2, .int x2), (3, .int (x3 + (1 : Int32)))]) C dX7_alarmNow_36 3 rfl rfl (by decide) [1, 2, 3, 0] rfl ?_
      refine g_goto (tgt := 8) C dX7_alarmNow_39 (by decide) ?_
      exact hk8 _ hf
    · replace hf := ite_f c3 hf
      refine g_iload_n C dX7_alarmNow_26 rfl 2 rfl ?_
      refine g_iload_n C dX7_alarmNow_27 rfl 1 rfl ?_
      refine g_icmp_ne (tgt := 33) C dX7_alarmNow_28 (by decide) (fun c4 => ?_) (fun c4 => ?_)
      · replace hf := ite_f c4 hf
        refine g_iinc (v := (x2 + (1 : Int32))) (lv' := [(0, .ref mo), (1, .int x1), (2, .int (x2 + (1 : Int32))), (3, .int x3)]) C dX7_alarmNow_33 2 rfl rfl (by decide) [1, 2, 0, 3] rfl ?_
        refine g_iinc (v := (x3 + (1 : Int32))) (lv' := [(0, .ref mo), (1, .int x1), (2, .int (x2 + (1 : Int32))), (3, .int (x3 + (1 : Int32)))]) C dX7_alarmNow_36 3 rfl rfl (by decide) [1, 2, 3, 0] rfl ?_
        refine g_goto (tgt := 8) C dX7_alarmNow_39 (by decide) ?_
        exact hk8 _ hf
      · replace hf := ite_t c4 hf
        refine g_iload_n C dX7_alarmNow_31 rfl 3 rfl ?_
        obtain rfl := Option.some.inj hf
        exact hR _ _ dX7_alarmNow_32
set_option maxHeartbeats 4000000 in
set_option maxRecDepth 100000 in
theorem k7_alarmNow_8 {p : Program} {l : Launch} {e : Env} {s : State} {m : MethodId} {args : Array Value} {below : List Frame} {meth : Method} {c : Code} {G : gG} {A : Nat → Prop} {Q : State → Prop} {mo mo_now mo_aside mo_past mo_refusals mo_text mo_vars mo_sights mo_isThere mo_taints mo_known mo_knows mo_letters mo_numbers : Nat} (C : CX p s m args meth c G A cX7_alarmNow 4 RX7 wsX7_alarmNow) {states : Int32} {length : Int32} {many : Int32} {steps : Int32} {isCut : Int32} {at_ : Int32} {isFaulty : Int32} {orders : Int32} {hash : Int64} {now : Nat → Int32} {res : Int32 × (Nat → Int32) × (Nat → Int32) × (Nat → Int32) × Int32 × (Nat → Int32) × Int32} (hR : ∀ (lv : List (Nat × Value)) (pc : Nat), decode cX7_alarmNow pc = .ok (.ireturn, 1) → GG p l e rm7_alarmNow s m args below meth c G A 4 0 0 Q [(mo, oB 7 [.ref mo_now, .ref mo_aside, .ref mo_past, .int states, .ref mo_refusals, .ref mo_text, .int length, .ref mo_vars, .ref mo_sights, .int many, .int steps, .int isCut, .ref mo_isThere, .ref mo_taints, .ref mo_known, .int res.2.2.2.2.1, .ref mo_knows, .int res.2.2.2.2.2.2, .int at_, .int isFaulty, .int orders, .ref mo_letters, .ref mo_numbers, .long hash]), (mo_now, aI G 104 now), (mo_isThere, aZ G 21 res.2.1), (mo_taints, aI G 21 res.2.2.1), (mo_known, aI G 126 res.2.2.2.1), (mo_knows, aI G 6 res.2.2.2.2.2.1)] lv pc [.int res.1]) : ∀ (n : Nat) (s1 : (Nat → Int32) × (Nat → Int32) × (Nat → Int32) × Int32 × (Nat → Int32) × Int32 × Int32 × Int32 × Int32), f7_alarmNow_8 now n s1 = some res → GG p l e rm7_alarmNow s m args below meth c G A 4 0 0 Q [(mo, oB 7 [.ref mo_now, .ref mo_aside, .ref mo_past, .int states, .ref mo_refusals, .ref mo_text, .int length, .ref mo_vars, .ref mo_sights, .int many, .int steps, .int isCut, .ref mo_isThere, .ref mo_taints, .ref mo_known, .int s1.2.2.2.1, .ref mo_knows, .int s1.2.2.2.2.2.1, .int at_, .int isFaulty, .int orders, .ref mo_letters, .ref mo_numbers, .long hash]), (mo_now, aI G 104 now), (mo_isThere, aZ G 21 s1.1), (mo_taints, aI G 21 s1.2.1), (mo_known, aI G 126 s1.2.2.1), (mo_knows, aI G 6 s1.2.2.2.2.1)] [(0, .ref mo), (1, .int s1.2.2.2.2.2.2.1), (2, .int s1.2.2.2.2.2.2.2.1), (3, .int s1.2.2.2.2.2.2.2.2)] 8 [] :=
  itf_ind (fun k s1 ih hf => k7_alarmNow_8b C hR ih hf)
set_option maxHeartbeats 4000000 in
set_option maxRecDepth 100000 in
theorem c7_alarmNow {l : Launch} {G : gG} {mo mo_now mo_aside mo_past mo_refusals mo_text mo_vars mo_sights mo_isThere mo_taints mo_known mo_knows mo_letters mo_numbers : Nat} {now : Nat → Int32} {states : Int32} {length : Int32} {many : Int32} {steps : Int32} {isCut : Int32} {isThere : Nat → Int32} {taints : Nat → Int32} {known : Nat → Int32} {taint : Int32} {knows : Nat → Int32} {isOther : Int32} {at_ : Int32} {isFaulty : Int32} {orders : Int32} {hash : Int64} {v0 : Int32} {res : Int32 × (Nat → Int32) × (Nat → Int32) × (Nat → Int32) × Int32 × (Nat → Int32) × Int32} (hf : f7_alarmNow now isThere taints known taint knows isOther v0 = some res) : MI l yX7_alarmNow wsX7_alarmNow rm7_alarmNow G [.ref mo, .int v0] [(mo, oB 7 [.ref mo_now, .ref mo_aside, .ref mo_past, .int states, .ref mo_refusals, .ref mo_text, .int length, .ref mo_vars, .ref mo_sights, .int many, .int steps, .int isCut, .ref mo_isThere, .ref mo_taints, .ref mo_known, .int taint, .ref mo_knows, .int isOther, .int at_, .int isFaulty, .int orders, .ref mo_letters, .ref mo_numbers, .long hash]), (mo_now, aI G 104 now), (mo_isThere, aZ G 21 isThere), (mo_taints, aI G 21 taints), (mo_known, aI G 126 known), (mo_knows, aI G 6 knows)] (res.1) [(mo, oB 7 [.ref mo_now, .ref mo_aside, .ref mo_past, .int states, .ref mo_refusals, .ref mo_text, .int length, .ref mo_vars, .ref mo_sights, .int many, .int steps, .int isCut, .ref mo_isThere, .ref mo_taints, .ref mo_known, .int res.2.2.2.2.1, .ref mo_knows, .int res.2.2.2.2.2.2, .int at_, .int isFaulty, .int orders, .ref mo_letters, .ref mo_numbers, .long hash]), (mo_now, aI G 104 now), (mo_isThere, aZ G 21 res.2.1), (mo_taints, aI G 21 res.2.2.1), (mo_known, aI G 126 res.2.2.2.1), (mo_knows, aI G 6 res.2.2.2.2.2.1)] := by
  refine MI_of (res.1) (cc := cX7_alarmNow) (nL := 4) (lv := [(0, .ref mo), (1, .int v0)]) (by decide +kernel) rfl (Nat.le_of_ble_eq_true rfl) rfl ?_
  intro p e s m args below meth c A Q C hR
  unfold f7_alarmNow at hf
  refine g_aload_n C dX7_alarmNow_0 rfl 0 rfl ?_
  obtain ⟨q5, hq5, hf⟩ := bs hf
  refine g_callVv (n := 0) (As := []) (rest := []) (wc := [(mo, oB 7 [.ref mo_now, .ref mo_aside, .ref mo_past, .int states, .ref mo_refusals, .ref mo_text, .int length, .ref mo_vars, .ref mo_sights, .int many, .int steps, .int isCut, .ref mo_isThere, .ref mo_taints, .ref mo_known, .int taint, .ref mo_knows, .int isOther, .int at_, .int isFaulty, .int orders, .ref mo_letters, .ref mo_numbers, .long hash]), (mo_now, aI G 104 now), (mo_isThere, aZ G 21 isThere), (mo_taints, aI G 21 taints), (mo_known, aI G 126 known), (mo_knows, aI G 6 knows)]) (w1 := [(mo, oB 7 [.ref mo_now, .ref mo_aside, .ref mo_past, .int states, .ref mo_refusals, .ref mo_text, .int length, .ref mo_vars, .ref mo_sights, .int many, .int steps, .int isCut, .ref mo_isThere, .ref mo_taints, .ref mo_known, .int q5.2.2.2.1, .ref mo_knows, .int q5.2.2.2.2.2, .int at_, .int isFaulty, .int orders, .ref mo_letters, .ref mo_numbers, .long hash]), (mo_now, aI G 104 now), (mo_isThere, aZ G 21 q5.1), (mo_taints, aI G 21 q5.2.1), (mo_known, aI G 126 q5.2.2.1), (mo_knows, aI G 6 q5.2.2.2.2.1)]) (wr := []) (WS' := [(mo, oB 7 [.ref mo_now, .ref mo_aside, .ref mo_past, .int states, .ref mo_refusals, .ref mo_text, .int length, .ref mo_vars, .ref mo_sights, .int many, .int steps, .int isCut, .ref mo_isThere, .ref mo_taints, .ref mo_known, .int q5.2.2.2.1, .ref mo_knows, .int q5.2.2.2.2.2, .int at_, .int isFaulty, .int orders, .ref mo_letters, .ref mo_numbers, .long hash]), (mo_now, aI G 104 now), (mo_isThere, aZ G 21 q5.1), (mo_taints, aI G 21 q5.2.1), (mo_known, aI G 126 q5.2.2.1), (mo_knows, aI G 6 q5.2.2.2.2.1)]) C (c7_laysLines hq5) gX7_alarmNow_X7_laysLines (by decide +kernel) rfl rfl rfl rfl rfl rfl ⟨by decide, by decide⟩ rfl [0, 1, 2, 3, 4, 5] [] [0, 1, 2, 3, 4, 5] rfl (by decide) rfl (by decide) (by decide) rfl (by decide) (Nat.le_of_ble_eq_true rfl) ⟨Nat.zero_le _, Nat.zero_le _⟩ rfl dX7_alarmNow_1 ?_
  refine g_iconst (v := (0 : Int32)) C dX7_alarmNow_4 (by decide +kernel) ?_
  refine g_istore_n (lv' := [(0, .ref mo), (1, .int v0), (2, .int (0 : Int32))]) C dX7_alarmNow_5 rfl (by decide) [1, 2, 0] rfl ?_
  refine g_iconst (v := (0 : Int32)) C dX7_alarmNow_6 (by decide +kernel) ?_
  refine g_istore_n (lv' := [(0, .ref mo), (1, .int v0), (2, .int (0 : Int32)), (3, .int (0 : Int32))]) C dX7_alarmNow_7 rfl (by decide) [1, 2, 3, 0] rfl ?_
  exact k7_alarmNow_8 C hR _ _ hf

-- X7_alarm
def f7_alarm (now : Nat → Int32) (refusals : Nat → Int32) (isThere : Nat → Int32) (taints : Nat → Int32) (known : Nat → Int32) (taint : Int32) (knows : Nat → Int32) (isOther : Int32) (v0 : Int32) : Option (Int32 × (Nat → Int32) × (Nat → Int32) × (Nat → Int32) × (Nat → Int32) × Int32 × (Nat → Int32) × Int32) :=
  if 0 ≤ v0 then
    ((f7_alarmNow now isThere taints known taint knows isOther v0).bind <| fun q2 =>
    some (q2.1, refusals, q2.2.1, q2.2.2.1, q2.2.2.2.1, q2.2.2.2.2.1, q2.2.2.2.2.2.1, q2.2.2.2.2.2.2))
    else ((f7_bad refusals).bind <| fun q3 =>
    some (q3.1, q3.2, isThere, taints, known, taint, knows, isOther))
def rm7_alarm : Room := { frames := 7, cells := 0, slots := 0, locals := 159 }
set_option maxHeartbeats 4000000 in
set_option maxRecDepth 100000 in
theorem c7_alarm {l : Launch} {G : gG} {mo mo_now mo_aside mo_past mo_refusals mo_text mo_vars mo_sights mo_isThere mo_taints mo_known mo_knows mo_letters mo_numbers : Nat} {now : Nat → Int32} {states : Int32} {refusals : Nat → Int32} {length : Int32} {many : Int32} {steps : Int32} {isCut : Int32} {isThere : Nat → Int32} {taints : Nat → Int32} {known : Nat → Int32} {taint : Int32} {knows : Nat → Int32} {isOther : Int32} {at_ : Int32} {isFaulty : Int32} {orders : Int32} {hash : Int64} {v0 : Int32} {res : Int32 × (Nat → Int32) × (Nat → Int32) × (Nat → Int32) × (Nat → Int32) × Int32 × (Nat → Int32) × Int32} (hf : f7_alarm now refusals isThere taints known taint knows isOther v0 = some res) : MI l yX7_alarm wsX7_alarm rm7_alarm G [.ref mo, .int v0] [(mo, oB 7 [.ref mo_now, .ref mo_aside, .ref mo_past, .int states, .ref mo_refusals, .ref mo_text, .int length, .ref mo_vars, .ref mo_sights, .int many, .int steps, .int isCut, .ref mo_isThere, .ref mo_taints, .ref mo_known, .int taint, .ref mo_knows, .int isOther, .int at_, .int isFaulty, .int orders, .ref mo_letters, .ref mo_numbers, .long hash]), (mo_now, aI G 104 now), (mo_refusals, aI G 3 refusals), (mo_isThere, aZ G 21 isThere), (mo_taints, aI G 21 taints), (mo_known, aI G 126 known), (mo_knows, aI G 6 knows)] (res.1) [(mo, oB 7 [.ref mo_now, .ref mo_aside, .ref mo_past, .int states, .ref mo_refusals, .ref mo_text, .int length, .ref mo_vars, .ref mo_sights, .int many, .int steps, .int isCut, .ref mo_isThere, .ref mo_taints, .ref mo_known, .int res.2.2.2.2.2.1, .ref mo_knows, .int res.2.2.2.2.2.2.2, .int at_, .int isFaulty, .int orders, .ref mo_letters, .ref mo_numbers, .long hash]), (mo_now, aI G 104 now), (mo_refusals, aI G 3 res.2.1), (mo_isThere, aZ G 21 res.2.2.1), (mo_taints, aI G 21 res.2.2.2.1), (mo_known, aI G 126 res.2.2.2.2.1), (mo_knows, aI G 6 res.2.2.2.2.2.2.1)] := by
  refine MI_of (res.1) (cc := cX7_alarm) (nL := 2) (lv := [(0, .ref mo), (1, .int v0)]) (by decide +kernel) rfl (Nat.le_of_ble_eq_true rfl) rfl ?_
  intro p e s m args below meth c A Q C hR
  unfold f7_alarm at hf
  refine g_iload_n C dX7_alarm_0 rfl 1 rfl ?_
  refine g_if_ge (tgt := 11) C dX7_alarm_1 (by decide) (fun c1 => ?_) (fun c1 => ?_)
  · replace hf := ite_t c1 hf
    refine g_aload_n C dX7_alarm_11 rfl 0 rfl ?_
    refine g_iload_n C dX7_alarm_12 rfl 1 rfl ?_
    obtain ⟨q2, hq2, hf⟩ := bs hf
    refine g_callVi (n := 1) (As := [.int v0]) (rest := []) (wc := [(mo, oB 7 [.ref mo_now, .ref mo_aside, .ref mo_past, .int states, .ref mo_refusals, .ref mo_text, .int length, .ref mo_vars, .ref mo_sights, .int many, .int steps, .int isCut, .ref mo_isThere, .ref mo_taints, .ref mo_known, .int taint, .ref mo_knows, .int isOther, .int at_, .int isFaulty, .int orders, .ref mo_letters, .ref mo_numbers, .long hash]), (mo_now, aI G 104 now), (mo_isThere, aZ G 21 isThere), (mo_taints, aI G 21 taints), (mo_known, aI G 126 known), (mo_knows, aI G 6 knows)]) (w1 := [(mo, oB 7 [.ref mo_now, .ref mo_aside, .ref mo_past, .int states, .ref mo_refusals, .ref mo_text, .int length, .ref mo_vars, .ref mo_sights, .int many, .int steps, .int isCut, .ref mo_isThere, .ref mo_taints, .ref mo_known, .int q2.2.2.2.2.1, .ref mo_knows, .int q2.2.2.2.2.2.2, .int at_, .int isFaulty, .int orders, .ref mo_letters, .ref mo_numbers, .long hash]), (mo_now, aI G 104 now), (mo_isThere, aZ G 21 q2.2.1), (mo_taints, aI G 21 q2.2.2.1), (mo_known, aI G 126 q2.2.2.2.1), (mo_knows, aI G 6 q2.2.2.2.2.2.1)]) (wr := [(mo_refusals, aI G 3 refusals)]) (WS' := [(mo, oB 7 [.ref mo_now, .ref mo_aside, .ref mo_past, .int states, .ref mo_refusals, .ref mo_text, .int length, .ref mo_vars, .ref mo_sights, .int many, .int steps, .int isCut, .ref mo_isThere, .ref mo_taints, .ref mo_known, .int q2.2.2.2.2.1, .ref mo_knows, .int q2.2.2.2.2.2.2, .int at_, .int isFaulty, .int orders, .ref mo_letters, .ref mo_numbers, .long hash]), (mo_now, aI G 104 now), (mo_refusals, aI G 3 refusals), (mo_isThere, aZ G 21 q2.2.1), (mo_taints, aI G 21 q2.2.2.1), (mo_known, aI G 126 q2.2.2.2.1), (mo_knows, aI G 6 q2.2.2.2.2.2.1)]) C (c7_alarmNow hq2) gX7_alarm_X7_alarmNow (by decide +kernel) rfl rfl rfl rfl rfl rfl ⟨by decide, by decide⟩ rfl [0, 1, 3, 4, 5, 6] [2] [1, 2, 0, 3, 4, 5, 6] rfl (by decide) rfl (by decide) (by decide) rfl (by decide) (Nat.le_of_ble_eq_true rfl) ⟨Nat.zero_le _, Nat.zero_le _⟩ rfl dX7_alarm_13 ?_
    obtain rfl := Option.some.inj hf
    exact hR _ _ dX7_alarm_16
  · replace hf := ite_f c1 hf
    refine g_aload_n C dX7_alarm_4 rfl 0 rfl ?_
    obtain ⟨q3, hq3, hf⟩ := bs hf
    refine g_callVi (n := 0) (As := []) (rest := []) (wc := [(mo, oB 7 [.ref mo_now, .ref mo_aside, .ref mo_past, .int states, .ref mo_refusals, .ref mo_text, .int length, .ref mo_vars, .ref mo_sights, .int many, .int steps, .int isCut, .ref mo_isThere, .ref mo_taints, .ref mo_known, .int taint, .ref mo_knows, .int isOther, .int at_, .int isFaulty, .int orders, .ref mo_letters, .ref mo_numbers, .long hash]), (mo_refusals, aI G 3 refusals)]) (w1 := [(mo, oB 7 [.ref mo_now, .ref mo_aside, .ref mo_past, .int states, .ref mo_refusals, .ref mo_text, .int length, .ref mo_vars, .ref mo_sights, .int many, .int steps, .int isCut, .ref mo_isThere, .ref mo_taints, .ref mo_known, .int taint, .ref mo_knows, .int isOther, .int at_, .int isFaulty, .int orders, .ref mo_letters, .ref mo_numbers, .long hash]), (mo_refusals, aI G 3 q3.2)]) (wr := [(mo_now, aI G 104 now), (mo_isThere, aZ G 21 isThere), (mo_taints, aI G 21 taints), (mo_known, aI G 126 known), (mo_knows, aI G 6 knows)]) (WS' := [(mo, oB 7 [.ref mo_now, .ref mo_aside, .ref mo_past, .int states, .ref mo_refusals, .ref mo_text, .int length, .ref mo_vars, .ref mo_sights, .int many, .int steps, .int isCut, .ref mo_isThere, .ref mo_taints, .ref mo_known, .int taint, .ref mo_knows, .int isOther, .int at_, .int isFaulty, .int orders, .ref mo_letters, .ref mo_numbers, .long hash]), (mo_now, aI G 104 now), (mo_refusals, aI G 3 q3.2), (mo_isThere, aZ G 21 isThere), (mo_taints, aI G 21 taints), (mo_known, aI G 126 known), (mo_knows, aI G 6 knows)]) C (c7_bad hq3) gX7_alarm_X7_bad (by decide +kernel) rfl rfl rfl rfl rfl rfl ⟨by decide, by decide⟩ rfl [0, 2] [1, 3, 4, 5, 6] [5, 0, 6, 1, 2, 3, 4] rfl (by decide) rfl (by decide) (by decide) rfl (by decide) (Nat.le_of_ble_eq_true rfl) ⟨Nat.zero_le _, Nat.zero_le _⟩ rfl dX7_alarm_5 ?_
    refine g_goto (tgt := 16) C dX7_alarm_8 (by decide) ?_
    obtain rfl := Option.some.inj hf
    exact hR _ _ dX7_alarm_16

-- X7_acceptedNow
def f7_acceptedNow (now : Nat → Int32) (isThere : Nat → Int32) (taints : Nat → Int32) (known : Nat → Int32) (taint : Int32) (knows : Nat → Int32) (isOther : Int32) : Option (Int32 × (Nat → Int32) × (Nat → Int32) × (Nat → Int32) × Int32 × (Nat → Int32) × Int32) :=
  (f7_alarmNow now isThere taints known taint knows isOther (0 : Int32)).bind <| fun q1 =>
    if q1.1 = (-1 : Int32) then
    (some ((1 : Int32), q1.2.1, q1.2.2.1, q1.2.2.2.1, q1.2.2.2.2.1, q1.2.2.2.2.2.1, q1.2.2.2.2.2.2))
    else (some ((0 : Int32), q1.2.1, q1.2.2.1, q1.2.2.2.1, q1.2.2.2.2.1, q1.2.2.2.2.2.1, q1.2.2.2.2.2.2))
def rm7_acceptedNow : Room := { frames := 7, cells := 0, slots := 0, locals := 159 }
set_option maxHeartbeats 4000000 in
set_option maxRecDepth 100000 in
theorem c7_acceptedNow {l : Launch} {G : gG} {mo mo_now mo_aside mo_past mo_refusals mo_text mo_vars mo_sights mo_isThere mo_taints mo_known mo_knows mo_letters mo_numbers : Nat} {now : Nat → Int32} {states : Int32} {length : Int32} {many : Int32} {steps : Int32} {isCut : Int32} {isThere : Nat → Int32} {taints : Nat → Int32} {known : Nat → Int32} {taint : Int32} {knows : Nat → Int32} {isOther : Int32} {at_ : Int32} {isFaulty : Int32} {orders : Int32} {hash : Int64} {res : Int32 × (Nat → Int32) × (Nat → Int32) × (Nat → Int32) × Int32 × (Nat → Int32) × Int32} (hf : f7_acceptedNow now isThere taints known taint knows isOther = some res) : MI l yX7_acceptedNow wsX7_acceptedNow rm7_acceptedNow G [.ref mo] [(mo, oB 7 [.ref mo_now, .ref mo_aside, .ref mo_past, .int states, .ref mo_refusals, .ref mo_text, .int length, .ref mo_vars, .ref mo_sights, .int many, .int steps, .int isCut, .ref mo_isThere, .ref mo_taints, .ref mo_known, .int taint, .ref mo_knows, .int isOther, .int at_, .int isFaulty, .int orders, .ref mo_letters, .ref mo_numbers, .long hash]), (mo_now, aI G 104 now), (mo_isThere, aZ G 21 isThere), (mo_taints, aI G 21 taints), (mo_known, aI G 126 known), (mo_knows, aI G 6 knows)] (res.1) [(mo, oB 7 [.ref mo_now, .ref mo_aside, .ref mo_past, .int states, .ref mo_refusals, .ref mo_text, .int length, .ref mo_vars, .ref mo_sights, .int many, .int steps, .int isCut, .ref mo_isThere, .ref mo_taints, .ref mo_known, .int res.2.2.2.2.1, .ref mo_knows, .int res.2.2.2.2.2.2, .int at_, .int isFaulty, .int orders, .ref mo_letters, .ref mo_numbers, .long hash]), (mo_now, aI G 104 now), (mo_isThere, aZ G 21 res.2.1), (mo_taints, aI G 21 res.2.2.1), (mo_known, aI G 126 res.2.2.2.1), (mo_knows, aI G 6 res.2.2.2.2.2.1)] := by
  refine MI_of (res.1) (cc := cX7_acceptedNow) (nL := 1) (lv := [(0, .ref mo)]) (by decide +kernel) rfl (Nat.le_of_ble_eq_true rfl) rfl ?_
  intro p e s m args below meth c A Q C hR
  unfold f7_acceptedNow at hf
  refine g_aload_n C dX7_acceptedNow_0 rfl 0 rfl ?_
  refine g_iconst (v := (0 : Int32)) C dX7_acceptedNow_1 (by decide +kernel) ?_
  obtain ⟨q1, hq1, hf⟩ := bs hf
  refine g_callVi (n := 1) (As := [.int (0 : Int32)]) (rest := []) (wc := [(mo, oB 7 [.ref mo_now, .ref mo_aside, .ref mo_past, .int states, .ref mo_refusals, .ref mo_text, .int length, .ref mo_vars, .ref mo_sights, .int many, .int steps, .int isCut, .ref mo_isThere, .ref mo_taints, .ref mo_known, .int taint, .ref mo_knows, .int isOther, .int at_, .int isFaulty, .int orders, .ref mo_letters, .ref mo_numbers, .long hash]), (mo_now, aI G 104 now), (mo_isThere, aZ G 21 isThere), (mo_taints, aI G 21 taints), (mo_known, aI G 126 known), (mo_knows, aI G 6 knows)]) (w1 := [(mo, oB 7 [.ref mo_now, .ref mo_aside, .ref mo_past, .int states, .ref mo_refusals, .ref mo_text, .int length, .ref mo_vars, .ref mo_sights, .int many, .int steps, .int isCut, .ref mo_isThere, .ref mo_taints, .ref mo_known, .int q1.2.2.2.2.1, .ref mo_knows, .int q1.2.2.2.2.2.2, .int at_, .int isFaulty, .int orders, .ref mo_letters, .ref mo_numbers, .long hash]), (mo_now, aI G 104 now), (mo_isThere, aZ G 21 q1.2.1), (mo_taints, aI G 21 q1.2.2.1), (mo_known, aI G 126 q1.2.2.2.1), (mo_knows, aI G 6 q1.2.2.2.2.2.1)]) (wr := []) (WS' := [(mo, oB 7 [.ref mo_now, .ref mo_aside, .ref mo_past, .int states, .ref mo_refusals, .ref mo_text, .int length, .ref mo_vars, .ref mo_sights, .int many, .int steps, .int isCut, .ref mo_isThere, .ref mo_taints, .ref mo_known, .int q1.2.2.2.2.1, .ref mo_knows, .int q1.2.2.2.2.2.2, .int at_, .int isFaulty, .int orders, .ref mo_letters, .ref mo_numbers, .long hash]), (mo_now, aI G 104 now), (mo_isThere, aZ G 21 q1.2.1), (mo_taints, aI G 21 q1.2.2.1), (mo_known, aI G 126 q1.2.2.2.1), (mo_knows, aI G 6 q1.2.2.2.2.2.1)]) C (c7_alarmNow hq1) gX7_acceptedNow_X7_alarmNow (by decide +kernel) rfl rfl rfl rfl rfl rfl ⟨by decide, by decide⟩ rfl [0, 1, 2, 3, 4, 5] [] [0, 1, 2, 3, 4, 5] rfl (by decide) rfl (by decide) (by decide) rfl (by decide) (Nat.le_of_ble_eq_true rfl) ⟨Nat.zero_le _, Nat.zero_le _⟩ rfl dX7_acceptedNow_2 ?_
  refine g_iconst (v := (-1 : Int32)) C dX7_acceptedNow_5 (by decide +kernel) ?_
  refine g_icmp_ne (tgt := 13) C dX7_acceptedNow_6 (by decide) (fun c2 => ?_) (fun c2 => ?_)
  · replace hf := ite_f c2 hf
    refine g_iconst (v := (0 : Int32)) C dX7_acceptedNow_13 (by decide +kernel) ?_
    obtain rfl := Option.some.inj hf
    exact hR _ _ dX7_acceptedNow_14
  · replace hf := ite_t c2 hf
    refine g_iconst (v := (1 : Int32)) C dX7_acceptedNow_9 (by decide +kernel) ?_
    refine g_goto (tgt := 14) C dX7_acceptedNow_10 (by decide) ?_
    obtain rfl := Option.some.inj hf
    exact hR _ _ dX7_acceptedNow_14

-- X7_accepted
def f7_accepted (now : Nat → Int32) (isThere : Nat → Int32) (taints : Nat → Int32) (known : Nat → Int32) (taint : Int32) (knows : Nat → Int32) (isOther : Int32) : Option (Int32 × (Nat → Int32) × (Nat → Int32) × (Nat → Int32) × Int32 × (Nat → Int32) × Int32) :=
  (f7_acceptedNow now isThere taints known taint knows isOther).bind <| fun q1 =>
    some (q1.1, q1.2.1, q1.2.2.1, q1.2.2.2.1, q1.2.2.2.2.1, q1.2.2.2.2.2.1, q1.2.2.2.2.2.2)
def rm7_accepted : Room := { frames := 8, cells := 0, slots := 0, locals := 179 }
set_option maxHeartbeats 4000000 in
set_option maxRecDepth 100000 in
theorem c7_accepted {l : Launch} {G : gG} {mo mo_now mo_aside mo_past mo_refusals mo_text mo_vars mo_sights mo_isThere mo_taints mo_known mo_knows mo_letters mo_numbers : Nat} {now : Nat → Int32} {states : Int32} {length : Int32} {many : Int32} {steps : Int32} {isCut : Int32} {isThere : Nat → Int32} {taints : Nat → Int32} {known : Nat → Int32} {taint : Int32} {knows : Nat → Int32} {isOther : Int32} {at_ : Int32} {isFaulty : Int32} {orders : Int32} {hash : Int64} {res : Int32 × (Nat → Int32) × (Nat → Int32) × (Nat → Int32) × Int32 × (Nat → Int32) × Int32} (hf : f7_accepted now isThere taints known taint knows isOther = some res) : MI l yX7_accepted wsX7_accepted rm7_accepted G [.ref mo] [(mo, oB 7 [.ref mo_now, .ref mo_aside, .ref mo_past, .int states, .ref mo_refusals, .ref mo_text, .int length, .ref mo_vars, .ref mo_sights, .int many, .int steps, .int isCut, .ref mo_isThere, .ref mo_taints, .ref mo_known, .int taint, .ref mo_knows, .int isOther, .int at_, .int isFaulty, .int orders, .ref mo_letters, .ref mo_numbers, .long hash]), (mo_now, aI G 104 now), (mo_isThere, aZ G 21 isThere), (mo_taints, aI G 21 taints), (mo_known, aI G 126 known), (mo_knows, aI G 6 knows)] (res.1) [(mo, oB 7 [.ref mo_now, .ref mo_aside, .ref mo_past, .int states, .ref mo_refusals, .ref mo_text, .int length, .ref mo_vars, .ref mo_sights, .int many, .int steps, .int isCut, .ref mo_isThere, .ref mo_taints, .ref mo_known, .int res.2.2.2.2.1, .ref mo_knows, .int res.2.2.2.2.2.2, .int at_, .int isFaulty, .int orders, .ref mo_letters, .ref mo_numbers, .long hash]), (mo_now, aI G 104 now), (mo_isThere, aZ G 21 res.2.1), (mo_taints, aI G 21 res.2.2.1), (mo_known, aI G 126 res.2.2.2.1), (mo_knows, aI G 6 res.2.2.2.2.2.1)] := by
  refine MI_of (res.1) (cc := cX7_accepted) (nL := 1) (lv := [(0, .ref mo)]) (by decide +kernel) rfl (Nat.le_of_ble_eq_true rfl) rfl ?_
  intro p e s m args below meth c A Q C hR
  unfold f7_accepted at hf
  refine g_aload_n C dX7_accepted_0 rfl 0 rfl ?_
  obtain ⟨q1, hq1, hf⟩ := bs hf
  refine g_callVi (n := 0) (As := []) (rest := []) (wc := [(mo, oB 7 [.ref mo_now, .ref mo_aside, .ref mo_past, .int states, .ref mo_refusals, .ref mo_text, .int length, .ref mo_vars, .ref mo_sights, .int many, .int steps, .int isCut, .ref mo_isThere, .ref mo_taints, .ref mo_known, .int taint, .ref mo_knows, .int isOther, .int at_, .int isFaulty, .int orders, .ref mo_letters, .ref mo_numbers, .long hash]), (mo_now, aI G 104 now), (mo_isThere, aZ G 21 isThere), (mo_taints, aI G 21 taints), (mo_known, aI G 126 known), (mo_knows, aI G 6 knows)]) (w1 := [(mo, oB 7 [.ref mo_now, .ref mo_aside, .ref mo_past, .int states, .ref mo_refusals, .ref mo_text, .int length, .ref mo_vars, .ref mo_sights, .int many, .int steps, .int isCut, .ref mo_isThere, .ref mo_taints, .ref mo_known, .int q1.2.2.2.2.1, .ref mo_knows, .int q1.2.2.2.2.2.2, .int at_, .int isFaulty, .int orders, .ref mo_letters, .ref mo_numbers, .long hash]), (mo_now, aI G 104 now), (mo_isThere, aZ G 21 q1.2.1), (mo_taints, aI G 21 q1.2.2.1), (mo_known, aI G 126 q1.2.2.2.1), (mo_knows, aI G 6 q1.2.2.2.2.2.1)]) (wr := []) (WS' := [(mo, oB 7 [.ref mo_now, .ref mo_aside, .ref mo_past, .int states, .ref mo_refusals, .ref mo_text, .int length, .ref mo_vars, .ref mo_sights, .int many, .int steps, .int isCut, .ref mo_isThere, .ref mo_taints, .ref mo_known, .int q1.2.2.2.2.1, .ref mo_knows, .int q1.2.2.2.2.2.2, .int at_, .int isFaulty, .int orders, .ref mo_letters, .ref mo_numbers, .long hash]), (mo_now, aI G 104 now), (mo_isThere, aZ G 21 q1.2.1), (mo_taints, aI G 21 q1.2.2.1), (mo_known, aI G 126 q1.2.2.2.1), (mo_knows, aI G 6 q1.2.2.2.2.2.1)]) C (c7_acceptedNow hq1) gX7_accepted_X7_acceptedNow (by decide +kernel) rfl rfl rfl rfl rfl rfl ⟨by decide, by decide⟩ rfl [0, 1, 2, 3, 4, 5] [] [0, 1, 2, 3, 4, 5] rfl (by decide) rfl (by decide) (by decide) rfl (by decide) (Nat.le_of_ble_eq_true rfl) ⟨Nat.zero_le _, Nat.zero_le _⟩ rfl dX7_accepted_1 ?_
  obtain rfl := Option.some.inj hf
  exact hR _ _ dX7_accepted_4

-- X7_of
def f7_of (now : Nat → Int32) (refusals : Nat → Int32) (v0 : Int32) (v1 : Int32) : Option (Int32 × (Nat → Int32)) :=
  (f7_isLine now v0).bind <| fun q1 =>
    if q1 = 0 then
    ((f7_bad refusals).bind <| fun q3 =>
    some (q3.1, q3.2))
    else ((f7_within v1 (0 : Int32) (3 : Int32)).bind <| fun q4 =>
    if q4 = 0 then
    ((f7_bad refusals).bind <| fun q6 =>
    some (q6.1, q6.2))
    else ((f7_partOf now v0 v1).bind <| fun q7 =>
    some (q7, refusals)))
def rm7_of : Room := { frames := 2, cells := 0, slots := 0, locals := 43 }
set_option maxHeartbeats 4000000 in
set_option maxRecDepth 100000 in
theorem c7_of {l : Launch} {G : gG} {mo mo_now mo_aside mo_past mo_refusals mo_text mo_vars mo_sights mo_isThere mo_taints mo_known mo_knows mo_letters mo_numbers : Nat} {now : Nat → Int32} {states : Int32} {refusals : Nat → Int32} {length : Int32} {many : Int32} {steps : Int32} {isCut : Int32} {taint : Int32} {isOther : Int32} {at_ : Int32} {isFaulty : Int32} {orders : Int32} {hash : Int64} {v0 : Int32} {v1 : Int32} {res : Int32 × (Nat → Int32)} (hf : f7_of now refusals v0 v1 = some res) : MI l yX7_of wsX7_of rm7_of G [.ref mo, .int v0, .int v1] [(mo, oB 7 [.ref mo_now, .ref mo_aside, .ref mo_past, .int states, .ref mo_refusals, .ref mo_text, .int length, .ref mo_vars, .ref mo_sights, .int many, .int steps, .int isCut, .ref mo_isThere, .ref mo_taints, .ref mo_known, .int taint, .ref mo_knows, .int isOther, .int at_, .int isFaulty, .int orders, .ref mo_letters, .ref mo_numbers, .long hash]), (mo_now, aI G 104 now), (mo_refusals, aI G 3 refusals)] (res.1) [(mo, oB 7 [.ref mo_now, .ref mo_aside, .ref mo_past, .int states, .ref mo_refusals, .ref mo_text, .int length, .ref mo_vars, .ref mo_sights, .int many, .int steps, .int isCut, .ref mo_isThere, .ref mo_taints, .ref mo_known, .int taint, .ref mo_knows, .int isOther, .int at_, .int isFaulty, .int orders, .ref mo_letters, .ref mo_numbers, .long hash]), (mo_now, aI G 104 now), (mo_refusals, aI G 3 res.2)] := by
  refine MI_of (res.1) (cc := cX7_of) (nL := 3) (lv := [(0, .ref mo), (1, .int v0), (2, .int v1)]) (by decide +kernel) rfl (Nat.le_of_ble_eq_true rfl) rfl ?_
  intro p e s m args below meth c A Q C hR
  unfold f7_of at hf
  refine g_aload_n C dX7_of_0 rfl 0 rfl ?_
  refine g_iload_n C dX7_of_1 rfl 1 rfl ?_
  obtain ⟨q1, hq1, hf⟩ := bs hf
  refine g_callVi (n := 1) (As := [.int v0]) (rest := []) (wc := [(mo, oB 7 [.ref mo_now, .ref mo_aside, .ref mo_past, .int states, .ref mo_refusals, .ref mo_text, .int length, .ref mo_vars, .ref mo_sights, .int many, .int steps, .int isCut, .ref mo_isThere, .ref mo_taints, .ref mo_known, .int taint, .ref mo_knows, .int isOther, .int at_, .int isFaulty, .int orders, .ref mo_letters, .ref mo_numbers, .long hash]), (mo_now, aI G 104 now)]) (w1 := [(mo, oB 7 [.ref mo_now, .ref mo_aside, .ref mo_past, .int states, .ref mo_refusals, .ref mo_text, .int length, .ref mo_vars, .ref mo_sights, .int many, .int steps, .int isCut, .ref mo_isThere, .ref mo_taints, .ref mo_known, .int taint, .ref mo_knows, .int isOther, .int at_, .int isFaulty, .int orders, .ref mo_letters, .ref mo_numbers, .long hash]), (mo_now, aI G 104 now)]) (wr := [(mo_refusals, aI G 3 refusals)]) (WS' := [(mo, oB 7 [.ref mo_now, .ref mo_aside, .ref mo_past, .int states, .ref mo_refusals, .ref mo_text, .int length, .ref mo_vars, .ref mo_sights, .int many, .int steps, .int isCut, .ref mo_isThere, .ref mo_taints, .ref mo_known, .int taint, .ref mo_knows, .int isOther, .int at_, .int isFaulty, .int orders, .ref mo_letters, .ref mo_numbers, .long hash]), (mo_now, aI G 104 now), (mo_refusals, aI G 3 refusals)]) C (c7_isLine hq1) gX7_of_X7_isLine (by decide +kernel) rfl rfl rfl rfl rfl rfl ⟨by decide, by decide⟩ rfl [0, 1] [2] [1, 2, 0] rfl (by decide) rfl (by decide) (by decide) rfl (by decide) (Nat.le_of_ble_eq_true rfl) ⟨Nat.zero_le _, Nat.zero_le _⟩ rfl dX7_of_2 ?_
  refine g_if_eq (tgt := 26) C dX7_of_5 (by decide) (fun c2 => ?_) (fun c2 => ?_)
  · replace hf := ite_t c2 hf
    refine g_aload_n C dX7_of_26 rfl 0 rfl ?_
    obtain ⟨q3, hq3, hf⟩ := bs hf
    refine g_callVi (n := 0) (As := []) (rest := []) (wc := [(mo, oB 7 [.ref mo_now, .ref mo_aside, .ref mo_past, .int states, .ref mo_refusals, .ref mo_text, .int length, .ref mo_vars, .ref mo_sights, .int many, .int steps, .int isCut, .ref mo_isThere, .ref mo_taints, .ref mo_known, .int taint, .ref mo_knows, .int isOther, .int at_, .int isFaulty, .int orders, .ref mo_letters, .ref mo_numbers, .long hash]), (mo_refusals, aI G 3 refusals)]) (w1 := [(mo, oB 7 [.ref mo_now, .ref mo_aside, .ref mo_past, .int states, .ref mo_refusals, .ref mo_text, .int length, .ref mo_vars, .ref mo_sights, .int many, .int steps, .int isCut, .ref mo_isThere, .ref mo_taints, .ref mo_known, .int taint, .ref mo_knows, .int isOther, .int at_, .int isFaulty, .int orders, .ref mo_letters, .ref mo_numbers, .long hash]), (mo_refusals, aI G 3 q3.2)]) (wr := [(mo_now, aI G 104 now)]) (WS' := [(mo, oB 7 [.ref mo_now, .ref mo_aside, .ref mo_past, .int states, .ref mo_refusals, .ref mo_text, .int length, .ref mo_vars, .ref mo_sights, .int many, .int steps, .int isCut, .ref mo_isThere, .ref mo_taints, .ref mo_known, .int taint, .ref mo_knows, .int isOther, .int at_, .int isFaulty, .int orders, .ref mo_letters, .ref mo_numbers, .long hash]), (mo_now, aI G 104 now), (mo_refusals, aI G 3 q3.2)]) C (c7_bad hq3) gX7_of_X7_bad (by decide +kernel) rfl rfl rfl rfl rfl rfl ⟨by decide, by decide⟩ rfl [0, 2] [1] [1, 0, 2] rfl (by decide) rfl (by decide) (by decide) rfl (by decide) (Nat.le_of_ble_eq_true rfl) ⟨Nat.zero_le _, Nat.zero_le _⟩ rfl dX7_of_27 ?_
    obtain rfl := Option.some.inj hf
    exact hR _ _ dX7_of_30
  · replace hf := ite_f c2 hf
    refine g_iload_n C dX7_of_8 rfl 2 rfl ?_
    refine g_iconst (v := (0 : Int32)) C dX7_of_9 (by decide +kernel) ?_
    refine g_iconst (v := (3 : Int32)) C dX7_of_10 (by decide +kernel) ?_
    obtain ⟨q4, hq4, hf⟩ := bs hf
    refine g_callSi (n := 3) (As := [.int v1, .int (0 : Int32), .int (3 : Int32)]) (rest := []) (wc := []) (w1 := []) (wr := [(mo, oB 7 [.ref mo_now, .ref mo_aside, .ref mo_past, .int states, .ref mo_refusals, .ref mo_text, .int length, .ref mo_vars, .ref mo_sights, .int many, .int steps, .int isCut, .ref mo_isThere, .ref mo_taints, .ref mo_known, .int taint, .ref mo_knows, .int isOther, .int at_, .int isFaulty, .int orders, .ref mo_letters, .ref mo_numbers, .long hash]), (mo_now, aI G 104 now), (mo_refusals, aI G 3 refusals)]) (WS' := [(mo, oB 7 [.ref mo_now, .ref mo_aside, .ref mo_past, .int states, .ref mo_refusals, .ref mo_text, .int length, .ref mo_vars, .ref mo_sights, .int many, .int steps, .int isCut, .ref mo_isThere, .ref mo_taints, .ref mo_known, .int taint, .ref mo_knows, .int isOther, .int at_, .int isFaulty, .int orders, .ref mo_letters, .ref mo_numbers, .long hash]), (mo_now, aI G 104 now), (mo_refusals, aI G 3 refusals)]) C (c7_within hq4) gX7_of_X7_within (by decide +kernel) rfl rfl rfl ⟨by decide, by decide⟩ rfl [] [0, 1, 2] [0, 1, 2] rfl (by decide) rfl (by decide) (by decide) rfl (by decide) (Nat.le_of_ble_eq_true rfl) ⟨Nat.zero_le _, Nat.zero_le _⟩ rfl dX7_of_11 ?_
    refine g_if_eq (tgt := 26) C dX7_of_14 (by decide) (fun c5 => ?_) (fun c5 => ?_)
    · replace hf := ite_t c5 hf
      refine g_aload_n C dX7_of_26 rfl 0 rfl ?_
      obtain ⟨q6, hq6, hf⟩ := bs hf
      refine g_callVi (n := 0) (As := []) (rest := []) (wc := [(mo, oB 7 [.ref mo_now, .ref mo_aside, .ref mo_past, .int states, .ref mo_refusals, .ref mo_text, .int length, .ref mo_vars, .ref mo_sights, .int many, .int steps, .int isCut, .ref mo_isThere, .ref mo_taints, .ref mo_known, .int taint, .ref mo_knows, .int isOther, .int at_, .int isFaulty, .int orders, .ref mo_letters, .ref mo_numbers, .long hash]), (mo_refusals, aI G 3 refusals)]) (w1 := [(mo, oB 7 [.ref mo_now, .ref mo_aside, .ref mo_past, .int states, .ref mo_refusals, .ref mo_text, .int length, .ref mo_vars, .ref mo_sights, .int many, .int steps, .int isCut, .ref mo_isThere, .ref mo_taints, .ref mo_known, .int taint, .ref mo_knows, .int isOther, .int at_, .int isFaulty, .int orders, .ref mo_letters, .ref mo_numbers, .long hash]), (mo_refusals, aI G 3 q6.2)]) (wr := [(mo_now, aI G 104 now)]) (WS' := [(mo, oB 7 [.ref mo_now, .ref mo_aside, .ref mo_past, .int states, .ref mo_refusals, .ref mo_text, .int length, .ref mo_vars, .ref mo_sights, .int many, .int steps, .int isCut, .ref mo_isThere, .ref mo_taints, .ref mo_known, .int taint, .ref mo_knows, .int isOther, .int at_, .int isFaulty, .int orders, .ref mo_letters, .ref mo_numbers, .long hash]), (mo_now, aI G 104 now), (mo_refusals, aI G 3 q6.2)]) C (c7_bad hq6) gX7_of_X7_bad (by decide +kernel) rfl rfl rfl rfl rfl rfl ⟨by decide, by decide⟩ rfl [0, 2] [1] [1, 0, 2] rfl (by decide) rfl (by decide) (by decide) rfl (by decide) (Nat.le_of_ble_eq_true rfl) ⟨Nat.zero_le _, Nat.zero_le _⟩ rfl dX7_of_27 ?_
      obtain rfl := Option.some.inj hf
      exact hR _ _ dX7_of_30
    · replace hf := ite_f c5 hf
      refine g_aload_n C dX7_of_17 rfl 0 rfl ?_
      refine g_iload_n C dX7_of_18 rfl 1 rfl ?_
      refine g_iload_n C dX7_of_19 rfl 2 rfl ?_
      obtain ⟨q7, hq7, hf⟩ := bs hf
      refine g_callVi (n := 2) (As := [.int v0, .int v1]) (rest := []) (wc := [(mo, oB 7 [.ref mo_now, .ref mo_aside, .ref mo_past, .int states, .ref mo_refusals, .ref mo_text, .int length, .ref mo_vars, .ref mo_sights, .int many, .int steps, .int isCut, .ref mo_isThere, .ref mo_taints, .ref mo_known, .int taint, .ref mo_knows, .int isOther, .int at_, .int isFaulty, .int orders, .ref mo_letters, .ref mo_numbers, .long hash]), (mo_now, aI G 104 now)]) (w1 := [(mo, oB 7 [.ref mo_now, .ref mo_aside, .ref mo_past, .int states, .ref mo_refusals, .ref mo_text, .int length, .ref mo_vars, .ref mo_sights, .int many, .int steps, .int isCut, .ref mo_isThere, .ref mo_taints, .ref mo_known, .int taint, .ref mo_knows, .int isOther, .int at_, .int isFaulty, .int orders, .ref mo_letters, .ref mo_numbers, .long hash]), (mo_now, aI G 104 now)]) (wr := [(mo_refusals, aI G 3 refusals)]) (WS' := [(mo, oB 7 [.ref mo_now, .ref mo_aside, .ref mo_past, .int states, .ref mo_refusals, .ref mo_text, .int length, .ref mo_vars, .ref mo_sights, .int many, .int steps, .int isCut, .ref mo_isThere, .ref mo_taints, .ref mo_known, .int taint, .ref mo_knows, .int isOther, .int at_, .int isFaulty, .int orders, .ref mo_letters, .ref mo_numbers, .long hash]), (mo_now, aI G 104 now), (mo_refusals, aI G 3 refusals)]) C (c7_partOf hq7) gX7_of_X7_partOf (by decide +kernel) rfl rfl rfl rfl rfl rfl ⟨by decide, by decide⟩ rfl [0, 1] [2] [1, 2, 0] rfl (by decide) rfl (by decide) (by decide) rfl (by decide) (Nat.le_of_ble_eq_true rfl) ⟨Nat.zero_le _, Nat.zero_le _⟩ rfl dX7_of_20 ?_
      refine g_goto (tgt := 30) C dX7_of_23 (by decide) ?_
      obtain rfl := Option.some.inj hf
      exact hR _ _ dX7_of_30

-- X7_told
def f7_told (now : Nat → Int32) (refusals : Nat → Int32) (v0 : Int32) : Option (Int32 × (Nat → Int32)) :=
  (f7_within v0 (0 : Int32) (23 : Int32)).bind <| fun q1 =>
    if q1 = 0 then
    ((f7_bad refusals).bind <| fun q3 =>
    some (q3.1, q3.2))
    else (ck (inb v0 104) <|
    some ((now v0.toNatClampNeg), refusals))
def rm7_told : Room := { frames := 1, cells := 0, slots := 0, locals := 22 }
theorem hm7_told_0 : ∀ w ∈ u_ws RX7 TX7 24, w ∈ wsX7_told := by decide +kernel
theorem hm7_told_1 : Cond.fieldLink RX7 7 "SecretStepsModel" "now" "[I" ∈ wsX7_told := by decide +kernel
set_option maxHeartbeats 4000000 in
set_option maxRecDepth 100000 in
theorem c7_told {l : Launch} {G : gG} {mo mo_now mo_aside mo_past mo_refusals mo_text mo_vars mo_sights mo_isThere mo_taints mo_known mo_knows mo_letters mo_numbers : Nat} {now : Nat → Int32} {states : Int32} {refusals : Nat → Int32} {length : Int32} {many : Int32} {steps : Int32} {isCut : Int32} {taint : Int32} {isOther : Int32} {at_ : Int32} {isFaulty : Int32} {orders : Int32} {hash : Int64} {v0 : Int32} {res : Int32 × (Nat → Int32)} (hf : f7_told now refusals v0 = some res) : MI l yX7_told wsX7_told rm7_told G [.ref mo, .int v0] [(mo, oB 7 [.ref mo_now, .ref mo_aside, .ref mo_past, .int states, .ref mo_refusals, .ref mo_text, .int length, .ref mo_vars, .ref mo_sights, .int many, .int steps, .int isCut, .ref mo_isThere, .ref mo_taints, .ref mo_known, .int taint, .ref mo_knows, .int isOther, .int at_, .int isFaulty, .int orders, .ref mo_letters, .ref mo_numbers, .long hash]), (mo_now, aI G 104 now), (mo_refusals, aI G 3 refusals)] (res.1) [(mo, oB 7 [.ref mo_now, .ref mo_aside, .ref mo_past, .int states, .ref mo_refusals, .ref mo_text, .int length, .ref mo_vars, .ref mo_sights, .int many, .int steps, .int isCut, .ref mo_isThere, .ref mo_taints, .ref mo_known, .int taint, .ref mo_knows, .int isOther, .int at_, .int isFaulty, .int orders, .ref mo_letters, .ref mo_numbers, .long hash]), (mo_now, aI G 104 now), (mo_refusals, aI G 3 res.2)] := by
  refine MI_of (res.1) (cc := cX7_told) (nL := 2) (lv := [(0, .ref mo), (1, .int v0)]) (by decide +kernel) rfl (Nat.le_of_ble_eq_true rfl) rfl ?_
  intro p e s m args below meth c A Q C hR
  unfold f7_told at hf
  refine g_iload_n C dX7_told_0 rfl 1 rfl ?_
  refine g_iconst (v := (0 : Int32)) C dX7_told_1 (by decide +kernel) ?_
  refine g_bipush (v := (23 : Int32)) C dX7_told_2 (by decide +kernel) ?_
  obtain ⟨q1, hq1, hf⟩ := bs hf
  refine g_callSi (n := 3) (As := [.int v0, .int (0 : Int32), .int (23 : Int32)]) (rest := []) (wc := []) (w1 := []) (wr := [(mo, oB 7 [.ref mo_now, .ref mo_aside, .ref mo_past, .int states, .ref mo_refusals, .ref mo_text, .int length, .ref mo_vars, .ref mo_sights, .int many, .int steps, .int isCut, .ref mo_isThere, .ref mo_taints, .ref mo_known, .int taint, .ref mo_knows, .int isOther, .int at_, .int isFaulty, .int orders, .ref mo_letters, .ref mo_numbers, .long hash]), (mo_now, aI G 104 now), (mo_refusals, aI G 3 refusals)]) (WS' := [(mo, oB 7 [.ref mo_now, .ref mo_aside, .ref mo_past, .int states, .ref mo_refusals, .ref mo_text, .int length, .ref mo_vars, .ref mo_sights, .int many, .int steps, .int isCut, .ref mo_isThere, .ref mo_taints, .ref mo_known, .int taint, .ref mo_knows, .int isOther, .int at_, .int isFaulty, .int orders, .ref mo_letters, .ref mo_numbers, .long hash]), (mo_now, aI G 104 now), (mo_refusals, aI G 3 refusals)]) C (c7_within hq1) gX7_told_X7_within (by decide +kernel) rfl rfl rfl ⟨by decide, by decide⟩ rfl [] [0, 1, 2] [0, 1, 2] rfl (by decide) rfl (by decide) (by decide) rfl (by decide) (Nat.le_of_ble_eq_true rfl) ⟨Nat.zero_le _, Nat.zero_le _⟩ rfl dX7_told_4 ?_
  refine g_if_eq (tgt := 19) C dX7_told_7 (by decide) (fun c2 => ?_) (fun c2 => ?_)
  · replace hf := ite_t c2 hf
    refine g_aload_n C dX7_told_19 rfl 0 rfl ?_
    obtain ⟨q3, hq3, hf⟩ := bs hf
    refine g_callVi (n := 0) (As := []) (rest := []) (wc := [(mo, oB 7 [.ref mo_now, .ref mo_aside, .ref mo_past, .int states, .ref mo_refusals, .ref mo_text, .int length, .ref mo_vars, .ref mo_sights, .int many, .int steps, .int isCut, .ref mo_isThere, .ref mo_taints, .ref mo_known, .int taint, .ref mo_knows, .int isOther, .int at_, .int isFaulty, .int orders, .ref mo_letters, .ref mo_numbers, .long hash]), (mo_refusals, aI G 3 refusals)]) (w1 := [(mo, oB 7 [.ref mo_now, .ref mo_aside, .ref mo_past, .int states, .ref mo_refusals, .ref mo_text, .int length, .ref mo_vars, .ref mo_sights, .int many, .int steps, .int isCut, .ref mo_isThere, .ref mo_taints, .ref mo_known, .int taint, .ref mo_knows, .int isOther, .int at_, .int isFaulty, .int orders, .ref mo_letters, .ref mo_numbers, .long hash]), (mo_refusals, aI G 3 q3.2)]) (wr := [(mo_now, aI G 104 now)]) (WS' := [(mo, oB 7 [.ref mo_now, .ref mo_aside, .ref mo_past, .int states, .ref mo_refusals, .ref mo_text, .int length, .ref mo_vars, .ref mo_sights, .int many, .int steps, .int isCut, .ref mo_isThere, .ref mo_taints, .ref mo_known, .int taint, .ref mo_knows, .int isOther, .int at_, .int isFaulty, .int orders, .ref mo_letters, .ref mo_numbers, .long hash]), (mo_now, aI G 104 now), (mo_refusals, aI G 3 q3.2)]) C (c7_bad hq3) gX7_told_X7_bad (by decide +kernel) rfl rfl rfl rfl rfl rfl ⟨by decide, by decide⟩ rfl [0, 2] [1] [1, 0, 2] rfl (by decide) rfl (by decide) (by decide) rfl (by decide) (Nat.le_of_ble_eq_true rfl) ⟨Nat.zero_le _, Nat.zero_le _⟩ rfl dX7_told_20 ?_
    obtain rfl := Option.some.inj hf
    exact hR _ _ dX7_told_23
  · replace hf := ite_f c2 hf
    refine g_aload_n C dX7_told_10 rfl 0 rfl ?_
    refine g_get (C0 := RX7) (T := TX7) (N := 24) (ci := 7) (v := .ref mo_now) C hm7_told_0 0 rfl rfl 0 (by decide) hm7_told_1 rfl dX7_told_11 ?_
    refine g_iload_n C dX7_told_14 rfl 1 rfl ?_
    obtain ⟨h4, hf⟩ := ck_some hf
    refine g_iald (n := 104) (v := (now v0.toNatClampNeg)) C 1 rfl h4 rfl rfl dX7_told_15 ?_
    refine g_goto (tgt := 23) C dX7_told_16 (by decide) ?_
    obtain rfl := Option.some.inj hf
    exact hR _ _ dX7_told_23

-- X7_type
def f7_type (refusals : Nat → Int32) (text : Nat → Int32) (length : Int32) (v0 : Int32) : Option (Int32 × (Nat → Int32) × (Nat → Int32) × Int32) :=
  (f7_within v0 (0 : Int32) (127 : Int32)).bind <| fun q1 =>
    if q1 = 0 then
    ((f7_bad refusals).bind <| fun q6 =>
    some (q6.1, q6.2, text, length))
    else (if length = (120 : Int32) then
    ((f7_full refusals).bind <| fun q5 =>
    some (q5.1, q5.2, text, length))
    else (ck (inb length 120) <|
    some ((length + (1 : Int32)), refusals, (upd text length.toNatClampNeg v0), (length + (1 : Int32)))))
def rm7_type : Room := { frames := 1, cells := 0, slots := 0, locals := 22 }
theorem hm7_type_0 : ∀ w ∈ u_ws RX7 TX7 24, w ∈ wsX7_type := by decide +kernel
theorem hm7_type_1 : Cond.fieldLink RX7 214 "SecretStepsModel" "length" "I" ∈ wsX7_type := by decide +kernel
theorem hm7_type_2 : Cond.fieldLink RX7 22 "SecretStepsModel" "text" "[I" ∈ wsX7_type := by decide +kernel
set_option maxHeartbeats 4000000 in
set_option maxRecDepth 100000 in
theorem c7_type {l : Launch} {G : gG} {mo mo_now mo_aside mo_past mo_refusals mo_text mo_vars mo_sights mo_isThere mo_taints mo_known mo_knows mo_letters mo_numbers : Nat} {states : Int32} {refusals : Nat → Int32} {text : Nat → Int32} {length : Int32} {many : Int32} {steps : Int32} {isCut : Int32} {taint : Int32} {isOther : Int32} {at_ : Int32} {isFaulty : Int32} {orders : Int32} {hash : Int64} {v0 : Int32} {res : Int32 × (Nat → Int32) × (Nat → Int32) × Int32} (hf : f7_type refusals text length v0 = some res) : MI l yX7_type wsX7_type rm7_type G [.ref mo, .int v0] [(mo, oB 7 [.ref mo_now, .ref mo_aside, .ref mo_past, .int states, .ref mo_refusals, .ref mo_text, .int length, .ref mo_vars, .ref mo_sights, .int many, .int steps, .int isCut, .ref mo_isThere, .ref mo_taints, .ref mo_known, .int taint, .ref mo_knows, .int isOther, .int at_, .int isFaulty, .int orders, .ref mo_letters, .ref mo_numbers, .long hash]), (mo_refusals, aI G 3 refusals), (mo_text, aI G 120 text)] (res.1) [(mo, oB 7 [.ref mo_now, .ref mo_aside, .ref mo_past, .int states, .ref mo_refusals, .ref mo_text, .int res.2.2.2, .ref mo_vars, .ref mo_sights, .int many, .int steps, .int isCut, .ref mo_isThere, .ref mo_taints, .ref mo_known, .int taint, .ref mo_knows, .int isOther, .int at_, .int isFaulty, .int orders, .ref mo_letters, .ref mo_numbers, .long hash]), (mo_refusals, aI G 3 res.2.1), (mo_text, aI G 120 res.2.2.1)] := by
  refine MI_of (res.1) (cc := cX7_type) (nL := 2) (lv := [(0, .ref mo), (1, .int v0)]) (by decide +kernel) rfl (Nat.le_of_ble_eq_true rfl) rfl ?_
  intro p e s m args below meth c A Q C hR
  unfold f7_type at hf
  refine g_iload_n C dX7_type_0 rfl 1 rfl ?_
  refine g_iconst (v := (0 : Int32)) C dX7_type_1 (by decide +kernel) ?_
  refine g_bipush (v := (127 : Int32)) C dX7_type_2 (by decide +kernel) ?_
  obtain ⟨q1, hq1, hf⟩ := bs hf
  refine g_callSi (n := 3) (As := [.int v0, .int (0 : Int32), .int (127 : Int32)]) (rest := []) (wc := []) (w1 := []) (wr := [(mo, oB 7 [.ref mo_now, .ref mo_aside, .ref mo_past, .int states, .ref mo_refusals, .ref mo_text, .int length, .ref mo_vars, .ref mo_sights, .int many, .int steps, .int isCut, .ref mo_isThere, .ref mo_taints, .ref mo_known, .int taint, .ref mo_knows, .int isOther, .int at_, .int isFaulty, .int orders, .ref mo_letters, .ref mo_numbers, .long hash]), (mo_refusals, aI G 3 refusals), (mo_text, aI G 120 text)]) (WS' := [(mo, oB 7 [.ref mo_now, .ref mo_aside, .ref mo_past, .int states, .ref mo_refusals, .ref mo_text, .int length, .ref mo_vars, .ref mo_sights, .int many, .int steps, .int isCut, .ref mo_isThere, .ref mo_taints, .ref mo_known, .int taint, .ref mo_knows, .int isOther, .int at_, .int isFaulty, .int orders, .ref mo_letters, .ref mo_numbers, .long hash]), (mo_refusals, aI G 3 refusals), (mo_text, aI G 120 text)]) C (c7_within hq1) gX7_type_X7_within (by decide +kernel) rfl rfl rfl ⟨by decide, by decide⟩ rfl [] [0, 1, 2] [0, 1, 2] rfl (by decide) rfl (by decide) (by decide) rfl (by decide) (Nat.le_of_ble_eq_true rfl) ⟨Nat.zero_le _, Nat.zero_le _⟩ rfl dX7_type_4 ?_
  refine g_if_ne (tgt := 15) C dX7_type_7 (by decide) (fun c2 => ?_) (fun c2 => ?_)
  · replace hf := ite_f c2 hf
    refine g_aload_n C dX7_type_15 rfl 0 rfl ?_
    refine g_get (C0 := RX7) (T := TX7) (N := 24) (ci := 7) (v := .int length) C hm7_type_0 0 rfl rfl 6 (by decide) hm7_type_1 rfl dX7_type_16 ?_
    refine g_bipush (v := (120 : Int32)) C dX7_type_19 (by decide +kernel) ?_
    refine g_icmp_ne (tgt := 29) C dX7_type_21 (by decide) (fun c3 => ?_) (fun c3 => ?_)
    · replace hf := ite_f c3 hf
      refine g_aload_n C dX7_type_29 rfl 0 rfl ?_
      refine g_get (C0 := RX7) (T := TX7) (N := 24) (ci := 7) (v := .ref mo_text) C hm7_type_0 0 rfl rfl 5 (by decide) hm7_type_2 rfl dX7_type_30 ?_
      refine g_aload_n C dX7_type_33 rfl 0 rfl ?_
      refine g_get (C0 := RX7) (T := TX7) (N := 24) (ci := 7) (v := .int length) C hm7_type_0 0 rfl rfl 6 (by decide) hm7_type_1 rfl dX7_type_34 ?_
      refine g_iload_n C dX7_type_37 rfl 1 rfl ?_
      obtain ⟨h4, hf⟩ := ck_some hf
      refine g_iast (n := 120) (WS' := [(mo, oB 7 [.ref mo_now, .ref mo_aside, .ref mo_past, .int states, .ref mo_refusals, .ref mo_text, .int length, .ref mo_vars, .ref mo_sights, .int many, .int steps, .int isCut, .ref mo_isThere, .ref mo_taints, .ref mo_known, .int taint, .ref mo_knows, .int isOther, .int at_, .int isFaulty, .int orders, .ref mo_letters, .ref mo_numbers, .long hash]), (mo_refusals, aI G 3 refusals), (mo_text, aI G 120 (upd text length.toNatClampNeg v0))]) C 2 rfl h4 rfl dX7_type_38 rfl ?_
      refine g_aload_n C dX7_type_39 rfl 0 rfl ?_
      refine g_dup C dX7_type_40 rfl ?_
      refine g_get (C0 := RX7) (T := TX7) (N := 24) (ci := 7) (v := .int length) C hm7_type_0 0 rfl rfl 6 (by decide) hm7_type_1 rfl dX7_type_41 ?_
      refine g_iconst (v := (1 : Int32)) C dX7_type_44 (by decide +kernel) ?_
      refine g_iadd C dX7_type_45 ?_
      refine g_put (C0 := RX7) (T := TX7) (N := 24) (ci := 7) (ty := .int) (WS' := [(mo, oB 7 [.ref mo_now, .ref mo_aside, .ref mo_past, .int states, .ref mo_refusals, .ref mo_text, .int (length + (1 : Int32)), .ref mo_vars, .ref mo_sights, .int many, .int steps, .int isCut, .ref mo_isThere, .ref mo_taints, .ref mo_known, .int taint, .ref mo_knows, .int isOther, .int at_, .int isFaulty, .int orders, .ref mo_letters, .ref mo_numbers, .long hash]), (mo_refusals, aI G 3 refusals), (mo_text, aI G 120 (upd text length.toNatClampNeg v0))]) C hm7_type_0 tyX7 tyX7_ok nmX7 0 rfl rfl 6 (by decide) hm7_type_1 rfl rfl rfl rfl (Nat.le_of_ble_eq_true rfl) dX7_type_46 rfl ?_
      refine g_aload_n C dX7_type_49 rfl 0 rfl ?_
      refine g_get (C0 := RX7) (T := TX7) (N := 24) (ci := 7) (v := .int (length + (1 : Int32))) C hm7_type_0 0 rfl rfl 6 (by decide) hm7_type_1 rfl dX7_type_50 ?_
      obtain rfl := Option.some.inj hf
      exact hR _ _ dX7_type_53
    · replace hf := ite_t c3 hf
      refine g_aload_n C dX7_type_24 rfl 0 rfl ?_
      obtain ⟨q5, hq5, hf⟩ := bs hf
      refine g_callVi (n := 0) (As := []) (rest := []) (wc := [(mo, oB 7 [.ref mo_now, .ref mo_aside, .ref mo_past, .int states, .ref mo_refusals, .ref mo_text, .int length, .ref mo_vars, .ref mo_sights, .int many, .int steps, .int isCut, .ref mo_isThere, .ref mo_taints, .ref mo_known, .int taint, .ref mo_knows, .int isOther, .int at_, .int isFaulty, .int orders, .ref mo_letters, .ref mo_numbers, .long hash]), (mo_refusals, aI G 3 refusals)]) (w1 := [(mo, oB 7 [.ref mo_now, .ref mo_aside, .ref mo_past, .int states, .ref mo_refusals, .ref mo_text, .int length, .ref mo_vars, .ref mo_sights, .int many, .int steps, .int isCut, .ref mo_isThere, .ref mo_taints, .ref mo_known, .int taint, .ref mo_knows, .int isOther, .int at_, .int isFaulty, .int orders, .ref mo_letters, .ref mo_numbers, .long hash]), (mo_refusals, aI G 3 q5.2)]) (wr := [(mo_text, aI G 120 text)]) (WS' := [(mo, oB 7 [.ref mo_now, .ref mo_aside, .ref mo_past, .int states, .ref mo_refusals, .ref mo_text, .int length, .ref mo_vars, .ref mo_sights, .int many, .int steps, .int isCut, .ref mo_isThere, .ref mo_taints, .ref mo_known, .int taint, .ref mo_knows, .int isOther, .int at_, .int isFaulty, .int orders, .ref mo_letters, .ref mo_numbers, .long hash]), (mo_refusals, aI G 3 q5.2), (mo_text, aI G 120 text)]) C (c7_full hq5) gX7_type_X7_full (by decide +kernel) rfl rfl rfl rfl rfl rfl ⟨by decide, by decide⟩ rfl [0, 1] [2] [1, 2, 0] rfl (by decide) rfl (by decide) (by decide) rfl (by decide) (Nat.le_of_ble_eq_true rfl) ⟨Nat.zero_le _, Nat.zero_le _⟩ rfl dX7_type_25 ?_
      obtain rfl := Option.some.inj hf
      exact hR _ _ dX7_type_28
  · replace hf := ite_t c2 hf
    refine g_aload_n C dX7_type_10 rfl 0 rfl ?_
    obtain ⟨q6, hq6, hf⟩ := bs hf
    refine g_callVi (n := 0) (As := []) (rest := []) (wc := [(mo, oB 7 [.ref mo_now, .ref mo_aside, .ref mo_past, .int states, .ref mo_refusals, .ref mo_text, .int length, .ref mo_vars, .ref mo_sights, .int many, .int steps, .int isCut, .ref mo_isThere, .ref mo_taints, .ref mo_known, .int taint, .ref mo_knows, .int isOther, .int at_, .int isFaulty, .int orders, .ref mo_letters, .ref mo_numbers, .long hash]), (mo_refusals, aI G 3 refusals)]) (w1 := [(mo, oB 7 [.ref mo_now, .ref mo_aside, .ref mo_past, .int states, .ref mo_refusals, .ref mo_text, .int length, .ref mo_vars, .ref mo_sights, .int many, .int steps, .int isCut, .ref mo_isThere, .ref mo_taints, .ref mo_known, .int taint, .ref mo_knows, .int isOther, .int at_, .int isFaulty, .int orders, .ref mo_letters, .ref mo_numbers, .long hash]), (mo_refusals, aI G 3 q6.2)]) (wr := [(mo_text, aI G 120 text)]) (WS' := [(mo, oB 7 [.ref mo_now, .ref mo_aside, .ref mo_past, .int states, .ref mo_refusals, .ref mo_text, .int length, .ref mo_vars, .ref mo_sights, .int many, .int steps, .int isCut, .ref mo_isThere, .ref mo_taints, .ref mo_known, .int taint, .ref mo_knows, .int isOther, .int at_, .int isFaulty, .int orders, .ref mo_letters, .ref mo_numbers, .long hash]), (mo_refusals, aI G 3 q6.2), (mo_text, aI G 120 text)]) C (c7_bad hq6) gX7_type_X7_bad (by decide +kernel) rfl rfl rfl rfl rfl rfl ⟨by decide, by decide⟩ rfl [0, 1] [2] [1, 2, 0] rfl (by decide) rfl (by decide) (by decide) rfl (by decide) (Nat.le_of_ble_eq_true rfl) ⟨Nat.zero_le _, Nat.zero_le _⟩ rfl dX7_type_11 ?_
    obtain rfl := Option.some.inj hf
    exact hR _ _ dX7_type_14

-- X7_clear
def f7_clear (length : Int32) : Option (Int32 × Int32) :=
  some (length, (0 : Int32))
def rm7_clear : Room := { frames := 0, cells := 0, slots := 0, locals := 0 }
theorem hm7_clear_0 : ∀ w ∈ u_ws RX7 TX7 24, w ∈ wsX7_clear := by decide +kernel
theorem hm7_clear_1 : Cond.fieldLink RX7 214 "SecretStepsModel" "length" "I" ∈ wsX7_clear := by decide +kernel
set_option maxHeartbeats 4000000 in
set_option maxRecDepth 100000 in
theorem c7_clear {l : Launch} {G : gG} {mo mo_now mo_aside mo_past mo_refusals mo_text mo_vars mo_sights mo_isThere mo_taints mo_known mo_knows mo_letters mo_numbers : Nat} {states : Int32} {length : Int32} {many : Int32} {steps : Int32} {isCut : Int32} {taint : Int32} {isOther : Int32} {at_ : Int32} {isFaulty : Int32} {orders : Int32} {hash : Int64} {res : Int32 × Int32} (hf : f7_clear length = some res) : MI l yX7_clear wsX7_clear rm7_clear G [.ref mo] [(mo, oB 7 [.ref mo_now, .ref mo_aside, .ref mo_past, .int states, .ref mo_refusals, .ref mo_text, .int length, .ref mo_vars, .ref mo_sights, .int many, .int steps, .int isCut, .ref mo_isThere, .ref mo_taints, .ref mo_known, .int taint, .ref mo_knows, .int isOther, .int at_, .int isFaulty, .int orders, .ref mo_letters, .ref mo_numbers, .long hash])] (res.1) [(mo, oB 7 [.ref mo_now, .ref mo_aside, .ref mo_past, .int states, .ref mo_refusals, .ref mo_text, .int res.2, .ref mo_vars, .ref mo_sights, .int many, .int steps, .int isCut, .ref mo_isThere, .ref mo_taints, .ref mo_known, .int taint, .ref mo_knows, .int isOther, .int at_, .int isFaulty, .int orders, .ref mo_letters, .ref mo_numbers, .long hash])] := by
  refine MI_of (res.1) (cc := cX7_clear) (nL := 2) (lv := [(0, .ref mo)]) (by decide +kernel) rfl (Nat.le_of_ble_eq_true rfl) rfl ?_
  intro p e s m args below meth c A Q C hR
  unfold f7_clear at hf
  refine g_aload_n C dX7_clear_0 rfl 0 rfl ?_
  refine g_get (C0 := RX7) (T := TX7) (N := 24) (ci := 7) (v := .int length) C hm7_clear_0 0 rfl rfl 6 (by decide) hm7_clear_1 rfl dX7_clear_1 ?_
  refine g_istore_n (lv' := [(0, .ref mo), (1, .int length)]) C dX7_clear_4 rfl (by decide) [1, 0] rfl ?_
  refine g_aload_n C dX7_clear_5 rfl 0 rfl ?_
  refine g_iconst (v := (0 : Int32)) C dX7_clear_6 (by decide +kernel) ?_
  refine g_put (C0 := RX7) (T := TX7) (N := 24) (ci := 7) (ty := .int) (WS' := [(mo, oB 7 [.ref mo_now, .ref mo_aside, .ref mo_past, .int states, .ref mo_refusals, .ref mo_text, .int (0 : Int32), .ref mo_vars, .ref mo_sights, .int many, .int steps, .int isCut, .ref mo_isThere, .ref mo_taints, .ref mo_known, .int taint, .ref mo_knows, .int isOther, .int at_, .int isFaulty, .int orders, .ref mo_letters, .ref mo_numbers, .long hash])]) C hm7_clear_0 tyX7 tyX7_ok nmX7 0 rfl rfl 6 (by decide) hm7_clear_1 rfl rfl rfl rfl (Nat.le_of_ble_eq_true rfl) dX7_clear_7 rfl ?_
  refine g_iload_n C dX7_clear_10 rfl 1 rfl ?_
  obtain rfl := Option.some.inj hf
  exact hR _ _ dX7_clear_11

-- X7_isAt
def f7_isAt (text : Nat → Int32) (length : Int32) (at_ : Int32) (v0 : Int32) (v1 : Int32) : Option (Int32) :=
  if length ≤ at_ then
    (some (0 : Int32))
    else (ck (inb at_ 120) <|
    (f7_within (text at_.toNatClampNeg) v0 v1).bind <| fun q3 =>
    if q3 = 0 then
    (some (0 : Int32))
    else (some (1 : Int32)))
def rm7_isAt : Room := { frames := 1, cells := 0, slots := 0, locals := 22 }
theorem hm7_isAt_0 : ∀ w ∈ u_ws RX7 TX7 24, w ∈ wsX7_isAt := by decide +kernel
theorem hm7_isAt_1 : Cond.fieldLink RX7 217 "SecretStepsModel" "at" "I" ∈ wsX7_isAt := by decide +kernel
theorem hm7_isAt_2 : Cond.fieldLink RX7 214 "SecretStepsModel" "length" "I" ∈ wsX7_isAt := by decide +kernel
theorem hm7_isAt_3 : Cond.fieldLink RX7 22 "SecretStepsModel" "text" "[I" ∈ wsX7_isAt := by decide +kernel
set_option maxHeartbeats 4000000 in
set_option maxRecDepth 100000 in
theorem c7_isAt {l : Launch} {G : gG} {mo mo_now mo_aside mo_past mo_refusals mo_text mo_vars mo_sights mo_isThere mo_taints mo_known mo_knows mo_letters mo_numbers : Nat} {states : Int32} {text : Nat → Int32} {length : Int32} {many : Int32} {steps : Int32} {isCut : Int32} {taint : Int32} {isOther : Int32} {at_ : Int32} {isFaulty : Int32} {orders : Int32} {hash : Int64} {v0 : Int32} {v1 : Int32} {res : Int32} (hf : f7_isAt text length at_ v0 v1 = some res) : MI l yX7_isAt wsX7_isAt rm7_isAt G [.ref mo, .int v0, .int v1] [(mo, oB 7 [.ref mo_now, .ref mo_aside, .ref mo_past, .int states, .ref mo_refusals, .ref mo_text, .int length, .ref mo_vars, .ref mo_sights, .int many, .int steps, .int isCut, .ref mo_isThere, .ref mo_taints, .ref mo_known, .int taint, .ref mo_knows, .int isOther, .int at_, .int isFaulty, .int orders, .ref mo_letters, .ref mo_numbers, .long hash]), (mo_text, aI G 120 text)] (res) [(mo, oB 7 [.ref mo_now, .ref mo_aside, .ref mo_past, .int states, .ref mo_refusals, .ref mo_text, .int length, .ref mo_vars, .ref mo_sights, .int many, .int steps, .int isCut, .ref mo_isThere, .ref mo_taints, .ref mo_known, .int taint, .ref mo_knows, .int isOther, .int at_, .int isFaulty, .int orders, .ref mo_letters, .ref mo_numbers, .long hash]), (mo_text, aI G 120 text)] := by
  refine MZ_of (res) (cc := cX7_isAt) (nL := 3) (lv := [(0, .ref mo), (1, .int v0), (2, .int v1)]) (by decide +kernel) rfl (Nat.le_of_ble_eq_true rfl) rfl ?_
  intro p e s m args below meth c A Q C hR
  unfold f7_isAt at hf
  refine g_aload_n C dX7_isAt_0 rfl 0 rfl ?_
  refine g_get (C0 := RX7) (T := TX7) (N := 24) (ci := 7) (v := .int at_) C hm7_isAt_0 0 rfl rfl 18 (by decide) hm7_isAt_1 rfl dX7_isAt_1 ?_
  refine g_aload_n C dX7_isAt_4 rfl 0 rfl ?_
  refine g_get (C0 := RX7) (T := TX7) (N := 24) (ci := 7) (v := .int length) C hm7_isAt_0 0 rfl rfl 6 (by decide) hm7_isAt_2 rfl dX7_isAt_5 ?_
  refine g_icmp_ge (tgt := 32) C dX7_isAt_8 (by decide) (fun c1 => ?_) (fun c1 => ?_)
  · replace hf := ite_t c1 hf
    refine g_iconst (v := (0 : Int32)) C dX7_isAt_32 (by decide +kernel) ?_
    obtain rfl := Option.some.inj hf
    exact hR _ _ dX7_isAt_33 isb0
  · replace hf := ite_f c1 hf
    refine g_aload_n C dX7_isAt_11 rfl 0 rfl ?_
    refine g_get (C0 := RX7) (T := TX7) (N := 24) (ci := 7) (v := .ref mo_text) C hm7_isAt_0 0 rfl rfl 5 (by decide) hm7_isAt_3 rfl dX7_isAt_12 ?_
    refine g_aload_n C dX7_isAt_15 rfl 0 rfl ?_
    refine g_get (C0 := RX7) (T := TX7) (N := 24) (ci := 7) (v := .int at_) C hm7_isAt_0 0 rfl rfl 18 (by decide) hm7_isAt_1 rfl dX7_isAt_16 ?_
    obtain ⟨h2, hf⟩ := ck_some hf
    refine g_iald (n := 120) (v := (text at_.toNatClampNeg)) C 1 rfl h2 rfl rfl dX7_isAt_19 ?_
    refine g_iload_n C dX7_isAt_20 rfl 1 rfl ?_
    refine g_iload_n C dX7_isAt_21 rfl 2 rfl ?_
    obtain ⟨q3, hq3, hf⟩ := bs hf
    refine g_callSi (n := 3) (As := [.int (text at_.toNatClampNeg), .int v0, .int v1]) (rest := []) (wc := []) (w1 := []) (wr := [(mo, oB 7 [.ref mo_now, .ref mo_aside, .ref mo_past, .int states, .ref mo_refusals, .ref mo_text, .int length, .ref mo_vars, .ref mo_sights, .int many, .int steps, .int isCut, .ref mo_isThere, .ref mo_taints, .ref mo_known, .int taint, .ref mo_knows, .int isOther, .int at_, .int isFaulty, .int orders, .ref mo_letters, .ref mo_numbers, .long hash]), (mo_text, aI G 120 text)]) (WS' := [(mo, oB 7 [.ref mo_now, .ref mo_aside, .ref mo_past, .int states, .ref mo_refusals, .ref mo_text, .int length, .ref mo_vars, .ref mo_sights, .int many, .int steps, .int isCut, .ref mo_isThere, .ref mo_taints, .ref mo_known, .int taint, .ref mo_knows, .int isOther, .int at_, .int isFaulty, .int orders, .ref mo_letters, .ref mo_numbers, .long hash]), (mo_text, aI G 120 text)]) C (c7_within hq3) gX7_isAt_X7_within (by decide +kernel) rfl rfl rfl ⟨by decide, by decide⟩ rfl [] [0, 1] [0, 1] rfl (by decide) rfl (by decide) (by decide) rfl (by decide) (Nat.le_of_ble_eq_true rfl) ⟨Nat.zero_le _, Nat.zero_le _⟩ rfl dX7_isAt_22 ?_
    refine g_if_eq (tgt := 32) C dX7_isAt_25 (by decide) (fun c4 => ?_) (fun c4 => ?_)
    · replace hf := ite_t c4 hf
      refine g_iconst (v := (0 : Int32)) C dX7_isAt_32 (by decide +kernel) ?_
      obtain rfl := Option.some.inj hf
      exact hR _ _ dX7_isAt_33 isb0
    · replace hf := ite_f c4 hf
      refine g_iconst (v := (1 : Int32)) C dX7_isAt_28 (by decide +kernel) ?_
      refine g_goto (tgt := 33) C dX7_isAt_29 (by decide) ?_
      obtain rfl := Option.some.inj hf
      exact hR _ _ dX7_isAt_33 isb1

-- X7_blanks
def f7_blanks_0b (text : Nat → Int32) (length : Int32) (k0 : Int32 → Option (Int32)) (at_ : Int32) : Option (Int32) :=
  (f7_isAt text length at_ (32 : Int32) (32 : Int32)).bind <| fun q1 =>
    if q1 = 0 then
    (some at_)
    else (k0 (at_ + (1 : Int32)))
def f7_blanks_0 (text : Nat → Int32) (length : Int32) (n : Nat) (s : Int32) : Option (Int32) := itf (fun k s => f7_blanks_0b text length k s) n s
def f7_blanks (text : Nat → Int32) (length : Int32) (at_ : Int32) : Option (Int32) :=
  f7_blanks_0 text length 1000 at_
def rm7_blanks : Room := { frames := 2, cells := 0, slots := 0, locals := 44 }
theorem hm7_blanks_0 : ∀ w ∈ u_ws RX7 TX7 24, w ∈ wsX7_blanks := by decide +kernel
theorem hm7_blanks_1 : Cond.fieldLink RX7 217 "SecretStepsModel" "at" "I" ∈ wsX7_blanks := by decide +kernel
set_option maxHeartbeats 4000000 in
set_option maxRecDepth 100000 in
theorem k7_blanks_0b {p : Program} {l : Launch} {e : Env} {s : State} {m : MethodId} {args : Array Value} {below : List Frame} {meth : Method} {c : Code} {G : gG} {A : Nat → Prop} {Q : State → Prop} {mo mo_now mo_aside mo_past mo_refusals mo_text mo_vars mo_sights mo_isThere mo_taints mo_known mo_knows mo_letters mo_numbers : Nat} (C : CX p s m args meth c G A cX7_blanks 1 RX7 wsX7_blanks) {states : Int32} {many : Int32} {steps : Int32} {isCut : Int32} {taint : Int32} {isOther : Int32} {isFaulty : Int32} {orders : Int32} {hash : Int64} {text : Nat → Int32} {length : Int32} {k0 : Int32 → Option (Int32)} {at_ : Int32} {res : Int32} (hR : ∀ (lv : List (Nat × Value)) (pc : Nat), decode cX7_blanks pc = .ok (.return_, 1) → GG p l e rm7_blanks s m args below meth c G A 1 0 0 Q [(mo, oB 7 [.ref mo_now, .ref mo_aside, .ref mo_past, .int states, .ref mo_refusals, .ref mo_text, .int length, .ref mo_vars, .ref mo_sights, .int many, .int steps, .int isCut, .ref mo_isThere, .ref mo_taints, .ref mo_known, .int taint, .ref mo_knows, .int isOther, .int res, .int isFaulty, .int orders, .ref mo_letters, .ref mo_numbers, .long hash]), (mo_text, aI G 120 text)] lv pc [])
    (hk0 : ∀ s', k0 s' = some res → GG p l e rm7_blanks s m args below meth c G A 1 0 0 Q [(mo, oB 7 [.ref mo_now, .ref mo_aside, .ref mo_past, .int states, .ref mo_refusals, .ref mo_text, .int length, .ref mo_vars, .ref mo_sights, .int many, .int steps, .int isCut, .ref mo_isThere, .ref mo_taints, .ref mo_known, .int taint, .ref mo_knows, .int isOther, .int s', .int isFaulty, .int orders, .ref mo_letters, .ref mo_numbers, .long hash]), (mo_text, aI G 120 text)] [(0, .ref mo)] 0 [])
    (hf : f7_blanks_0b text length k0 at_ = some res) : GG p l e rm7_blanks s m args below meth c G A 1 0 0 Q [(mo, oB 7 [.ref mo_now, .ref mo_aside, .ref mo_past, .int states, .ref mo_refusals, .ref mo_text, .int length, .ref mo_vars, .ref mo_sights, .int many, .int steps, .int isCut, .ref mo_isThere, .ref mo_taints, .ref mo_known, .int taint, .ref mo_knows, .int isOther, .int at_, .int isFaulty, .int orders, .ref mo_letters, .ref mo_numbers, .long hash]), (mo_text, aI G 120 text)] [(0, .ref mo)] 0 [] := by
  unfold f7_blanks_0b at hf
  refine g_aload_n C dX7_blanks_0 rfl 0 rfl ?_
  refine g_bipush (v := (32 : Int32)) C dX7_blanks_1 (by decide +kernel) ?_
  refine g_bipush (v := (32 : Int32)) C dX7_blanks_3 (by decide +kernel) ?_
  obtain ⟨q1, hq1, hf⟩ := bs hf
  refine g_callVi (n := 2) (As := [.int (32 : Int32), .int (32 : Int32)]) (rest := []) (wc := [(mo, oB 7 [.ref mo_now, .ref mo_aside, .ref mo_past, .int states, .ref mo_refusals, .ref mo_text, .int length, .ref mo_vars, .ref mo_sights, .int many, .int steps, .int isCut, .ref mo_isThere, .ref mo_taints, .ref mo_known, .int taint, .ref mo_knows, .int isOther, .int at_, .int isFaulty, .int orders, .ref mo_letters, .ref mo_numbers, .long hash]), (mo_text, aI G 120 text)]) (w1 := [(mo, oB 7 [.ref mo_now, .ref mo_aside, .ref mo_past, .int states, .ref mo_refusals, .ref mo_text, .int length, .ref mo_vars, .ref mo_sights, .int many, .int steps, .int isCut, .ref mo_isThere, .ref mo_taints, .ref mo_known, .int taint, .ref mo_knows, .int isOther, .int at_, .int isFaulty, .int orders, .ref mo_letters, .ref mo_numbers, .long hash]), (mo_text, aI G 120 text)]) (wr := []) (WS' := [(mo, oB 7 [.ref mo_now, .ref mo_aside, .ref mo_past, .int states, .ref mo_refusals, .ref mo_text, .int length, .ref mo_vars, .ref mo_sights, .int many, .int steps, .int isCut, .ref mo_isThere, .ref mo_taints, .ref mo_known, .int taint, .ref mo_knows, .int isOther, .int at_, .int isFaulty, .int orders, .ref mo_letters, .ref mo_numbers, .long hash]), (mo_text, aI G 120 text)]) C (c7_isAt hq1) gX7_blanks_X7_isAt (by decide +kernel) rfl rfl rfl rfl rfl rfl ⟨by decide, by decide⟩ rfl [0, 1] [] [0, 1] rfl (by decide) rfl (by decide) (by decide) rfl (by decide) (Nat.le_of_ble_eq_true rfl) ⟨Nat.zero_le _, Nat.zero_le _⟩ rfl dX7_blanks_5 ?_
  refine g_if_eq (tgt := 24) C dX7_blanks_8 (by decide) (fun c2 => ?_) (fun c2 => ?_)
  · replace hf := ite_t c2 hf
    obtain rfl := Option.some.inj hf
    exact hR _ _ dX7_blanks_24
  · replace hf := ite_f c2 hf
    refine g_aload_n C dX7_blanks_11 rfl 0 rfl ?_
    refine g_dup C dX7_blanks_12 rfl ?_
    refine g_get (C0 := RX7) (T := TX7) (N := 24) (ci := 7) (v := .int at_) C hm7_blanks_0 0 rfl rfl 18 (by decide) hm7_blanks_1 rfl dX7_blanks_13 ?_
    refine g_iconst (v := (1 : Int32)) C dX7_blanks_16 (by decide +kernel) ?_
    refine g_iadd C dX7_blanks_17 ?_
    refine g_put (C0 := RX7) (T := TX7) (N := 24) (ci := 7) (ty := .int) (WS' := [(mo, oB 7 [.ref mo_now, .ref mo_aside, .ref mo_past, .int states, .ref mo_refusals, .ref mo_text, .int length, .ref mo_vars, .ref mo_sights, .int many, .int steps, .int isCut, .ref mo_isThere, .ref mo_taints, .ref mo_known, .int taint, .ref mo_knows, .int isOther, .int (at_ + (1 : Int32)), .int isFaulty, .int orders, .ref mo_letters, .ref mo_numbers, .long hash]), (mo_text, aI G 120 text)]) C hm7_blanks_0 tyX7 tyX7_ok nmX7 0 rfl rfl 18 (by decide) hm7_blanks_1 rfl rfl rfl rfl (Nat.le_of_ble_eq_true rfl) dX7_blanks_18 rfl ?_
    refine g_goto (tgt := 0) C dX7_blanks_21 (by decide) ?_
    exact hk0 _ hf
set_option maxHeartbeats 4000000 in
set_option maxRecDepth 100000 in
theorem k7_blanks_0 {p : Program} {l : Launch} {e : Env} {s : State} {m : MethodId} {args : Array Value} {below : List Frame} {meth : Method} {c : Code} {G : gG} {A : Nat → Prop} {Q : State → Prop} {mo mo_now mo_aside mo_past mo_refusals mo_text mo_vars mo_sights mo_isThere mo_taints mo_known mo_knows mo_letters mo_numbers : Nat} (C : CX p s m args meth c G A cX7_blanks 1 RX7 wsX7_blanks) {states : Int32} {many : Int32} {steps : Int32} {isCut : Int32} {taint : Int32} {isOther : Int32} {isFaulty : Int32} {orders : Int32} {hash : Int64} {text : Nat → Int32} {length : Int32} {res : Int32} (hR : ∀ (lv : List (Nat × Value)) (pc : Nat), decode cX7_blanks pc = .ok (.return_, 1) → GG p l e rm7_blanks s m args below meth c G A 1 0 0 Q [(mo, oB 7 [.ref mo_now, .ref mo_aside, .ref mo_past, .int states, .ref mo_refusals, .ref mo_text, .int length, .ref mo_vars, .ref mo_sights, .int many, .int steps, .int isCut, .ref mo_isThere, .ref mo_taints, .ref mo_known, .int taint, .ref mo_knows, .int isOther, .int res, .int isFaulty, .int orders, .ref mo_letters, .ref mo_numbers, .long hash]), (mo_text, aI G 120 text)] lv pc []) : ∀ (n : Nat) (s1 : Int32), f7_blanks_0 text length n s1 = some res → GG p l e rm7_blanks s m args below meth c G A 1 0 0 Q [(mo, oB 7 [.ref mo_now, .ref mo_aside, .ref mo_past, .int states, .ref mo_refusals, .ref mo_text, .int length, .ref mo_vars, .ref mo_sights, .int many, .int steps, .int isCut, .ref mo_isThere, .ref mo_taints, .ref mo_known, .int taint, .ref mo_knows, .int isOther, .int s1, .int isFaulty, .int orders, .ref mo_letters, .ref mo_numbers, .long hash]), (mo_text, aI G 120 text)] [(0, .ref mo)] 0 [] :=
  itf_ind (fun k s1 ih hf => k7_blanks_0b C hR ih hf)
set_option maxHeartbeats 4000000 in
set_option maxRecDepth 100000 in
theorem c7_blanks {l : Launch} {G : gG} {mo mo_now mo_aside mo_past mo_refusals mo_text mo_vars mo_sights mo_isThere mo_taints mo_known mo_knows mo_letters mo_numbers : Nat} {states : Int32} {text : Nat → Int32} {length : Int32} {many : Int32} {steps : Int32} {isCut : Int32} {taint : Int32} {isOther : Int32} {at_ : Int32} {isFaulty : Int32} {orders : Int32} {hash : Int64} {res : Int32} (hf : f7_blanks text length at_ = some res) : MV l yX7_blanks wsX7_blanks rm7_blanks G [.ref mo] [(mo, oB 7 [.ref mo_now, .ref mo_aside, .ref mo_past, .int states, .ref mo_refusals, .ref mo_text, .int length, .ref mo_vars, .ref mo_sights, .int many, .int steps, .int isCut, .ref mo_isThere, .ref mo_taints, .ref mo_known, .int taint, .ref mo_knows, .int isOther, .int at_, .int isFaulty, .int orders, .ref mo_letters, .ref mo_numbers, .long hash]), (mo_text, aI G 120 text)] [(mo, oB 7 [.ref mo_now, .ref mo_aside, .ref mo_past, .int states, .ref mo_refusals, .ref mo_text, .int length, .ref mo_vars, .ref mo_sights, .int many, .int steps, .int isCut, .ref mo_isThere, .ref mo_taints, .ref mo_known, .int taint, .ref mo_knows, .int isOther, .int res, .int isFaulty, .int orders, .ref mo_letters, .ref mo_numbers, .long hash]), (mo_text, aI G 120 text)] := by
  refine MV_of (cc := cX7_blanks) (nL := 1) (lv := [(0, .ref mo)]) (by decide +kernel) rfl (Nat.le_of_ble_eq_true rfl) rfl ?_
  intro p e s m args below meth c A Q C hR
  unfold f7_blanks at hf
  exact k7_blanks_0 C hR _ _ hf

-- X7_number
def f7_number_91 (text : Nat → Int32) (length : Int32) (k28 : Int32 × Int32 × Int32 × Int32 → Option (Int32 × Int32 × Int32)) (at_ : Int32) (isFaulty : Int32) (x1 : Int32) (x2 : Int32) (y0 : Int32) : Option (Int32 × Int32 × Int32) :=
  if isFaulty = 0 then
    (k28 ((at_ + (1 : Int32)), isFaulty, y0, x2))
    else (k28 ((at_ + (0 : Int32)), isFaulty, y0, x2))
def f7_number_60 (text : Nat → Int32) (length : Int32) (k28 : Int32 × Int32 × Int32 × Int32 → Option (Int32 × Int32 × Int32)) (at_ : Int32) (isFaulty : Int32) (x1 : Int32) (x2 : Int32) (y1 : Int32) : Option (Int32 × Int32 × Int32) :=
  ck (isb y1) <|
    if y1 = 0 then
    (ck (inb at_ 120) <|
    f7_number_91 text length k28 at_ y1 x1 x2 ((((10 : Int32) * x1) + (text at_.toNatClampNeg)) - (48 : Int32)))
    else (f7_number_91 text length k28 at_ y1 x1 x2 x1)
def f7_number_28b (text : Nat → Int32) (length : Int32) (k28 : Int32 × Int32 × Int32 × Int32 → Option (Int32 × Int32 × Int32)) (at_ : Int32) (isFaulty : Int32) (x1 : Int32) (x2 : Int32) : Option (Int32 × Int32 × Int32) :=
  if isFaulty = 0 then
    ((f7_isAt text length at_ (48 : Int32) (57 : Int32)).bind <| fun q6 =>
    if q6 = 0 then
    (some (x1, at_, isFaulty))
    else (if (x2 + (1 : Int32)) ≤ (2 : Int32) then
    (f7_number_60 text length k28 at_ isFaulty x1 (x2 + (1 : Int32)) (0 : Int32))
    else (f7_number_60 text length k28 at_ isFaulty x1 (x2 + (1 : Int32)) (1 : Int32))))
    else (some (x1, at_, isFaulty))
def f7_number_28 (text : Nat → Int32) (length : Int32) (n : Nat) (s : Int32 × Int32 × Int32 × Int32) : Option (Int32 × Int32 × Int32) := itf (fun k s => f7_number_28b text length k s.1 s.2.1 s.2.2.1 s.2.2.2) n s
def f7_number (text : Nat → Int32) (length : Int32) (at_ : Int32) (isFaulty : Int32) : Option (Int32 × Int32 × Int32) :=
  (f7_blanks text length at_).bind <| fun q9 =>
    (f7_isAt text length q9 (48 : Int32) (57 : Int32)).bind <| fun q10 =>
    if q10 = 0 then
    (f7_number_28 text length 1000 (q9, (1 : Int32), (0 : Int32), (0 : Int32)))
    else (f7_number_28 text length 1000 (q9, (0 : Int32), (0 : Int32), (0 : Int32)))
def rm7_number : Room := { frames := 3, cells := 0, slots := 0, locals := 64 }
theorem hm7_number_0 : ∀ w ∈ u_ws RX7 TX7 24, w ∈ wsX7_number := by decide +kernel
theorem hm7_number_1 : Cond.fieldLink RX7 217 "SecretStepsModel" "at" "I" ∈ wsX7_number := by decide +kernel
theorem hm7_number_2 : Cond.fieldLink RX7 226 "SecretStepsModel" "isFaulty" "Z" ∈ wsX7_number := by decide +kernel
theorem hm7_number_3 : Cond.fieldLink RX7 22 "SecretStepsModel" "text" "[I" ∈ wsX7_number := by decide +kernel
set_option maxHeartbeats 4000000 in
set_option maxRecDepth 100000 in
theorem k7_number_91 {p : Program} {l : Launch} {e : Env} {s : State} {m : MethodId} {args : Array Value} {below : List Frame} {meth : Method} {c : Code} {G : gG} {A : Nat → Prop} {Q : State → Prop} {mo mo_now mo_aside mo_past mo_refusals mo_text mo_vars mo_sights mo_isThere mo_taints mo_known mo_knows mo_letters mo_numbers : Nat} (C : CX p s m args meth c G A cX7_number 3 RX7 wsX7_number) {states : Int32} {many : Int32} {steps : Int32} {isCut : Int32} {taint : Int32} {isOther : Int32} {orders : Int32} {hash : Int64} {text : Nat → Int32} {length : Int32} {k28 : Int32 × Int32 × Int32 × Int32 → Option (Int32 × Int32 × Int32)} {at_ : Int32} {isFaulty : Int32} {x1 : Int32} {x2 : Int32} {y0 : Int32} {res : Int32 × Int32 × Int32} (hR : ∀ (lv : List (Nat × Value)) (pc : Nat), decode cX7_number pc = .ok (.ireturn, 1) → GG p l e rm7_number s m args below meth c G A 3 0 0 Q [(mo, oB 7 [.ref mo_now, .ref mo_aside, .ref mo_past, .int states, .ref mo_refusals, .ref mo_text, .int length, .ref mo_vars, .ref mo_sights, .int many, .int steps, .int isCut, .ref mo_isThere, .ref mo_taints, .ref mo_known, .int taint, .ref mo_knows, .int isOther, .int res.2.1, .int res.2.2, .int orders, .ref mo_letters, .ref mo_numbers, .long hash]), (mo_text, aI G 120 text)] lv pc [.int res.1])
    (hk28 : ∀ s', k28 s' = some res → GG p l e rm7_number s m args below meth c G A 3 0 0 Q [(mo, oB 7 [.ref mo_now, .ref mo_aside, .ref mo_past, .int states, .ref mo_refusals, .ref mo_text, .int length, .ref mo_vars, .ref mo_sights, .int many, .int steps, .int isCut, .ref mo_isThere, .ref mo_taints, .ref mo_known, .int taint, .ref mo_knows, .int isOther, .int s'.1, .int s'.2.1, .int orders, .ref mo_letters, .ref mo_numbers, .long hash]), (mo_text, aI G 120 text)] [(0, .ref mo), (1, .int s'.2.2.1), (2, .int s'.2.2.2)] 28 [])
    (hf : f7_number_91 text length k28 at_ isFaulty x1 x2 y0 = some res) : GG p l e rm7_number s m args below meth c G A 3 0 0 Q [(mo, oB 7 [.ref mo_now, .ref mo_aside, .ref mo_past, .int states, .ref mo_refusals, .ref mo_text, .int length, .ref mo_vars, .ref mo_sights, .int many, .int steps, .int isCut, .ref mo_isThere, .ref mo_taints, .ref mo_known, .int taint, .ref mo_knows, .int isOther, .int at_, .int isFaulty, .int orders, .ref mo_letters, .ref mo_numbers, .long hash]), (mo_text, aI G 120 text)] [(0, .ref mo), (1, .int x1), (2, .int x2)] 91 [.int y0] := by
  unfold f7_number_91 at hf
  refine g_istore_n (lv' := [(0, .ref mo), (1, .int y0), (2, .int x2)]) C dX7_number_91 rfl (by decide) [1, 0, 2] rfl ?_
  refine g_aload_n C dX7_number_92 rfl 0 rfl ?_
  refine g_dup C dX7_number_93 rfl ?_
  refine g_get (C0 := RX7) (T := TX7) (N := 24) (ci := 7) (v := .int at_) C hm7_number_0 0 rfl rfl 18 (by decide) hm7_number_1 rfl dX7_number_94 ?_
  refine g_aload_n C dX7_number_97 rfl 0 rfl ?_
  refine g_get (C0 := RX7) (T := TX7) (N := 24) (ci := 7) (v := .int isFaulty) C hm7_number_0 0 rfl rfl 19 (by decide) hm7_number_2 rfl dX7_number_98 ?_
  refine g_if_eq (tgt := 108) C dX7_number_101 (by decide) (fun c1 => ?_) (fun c1 => ?_)
  · replace hf := ite_t c1 hf
    refine g_iconst (v := (1 : Int32)) C dX7_number_108 (by decide +kernel) ?_
    refine g_iadd C dX7_number_109 ?_
    refine g_put (C0 := RX7) (T := TX7) (N := 24) (ci := 7) (ty := .int) (WS' := [(mo, oB 7 [.ref mo_now, .ref mo_aside, .ref mo_past, .int states, .ref mo_refusals, .ref mo_text, .int length, .ref mo_vars, .ref mo_sights, .int many, .int steps, .int isCut, .ref mo_isThere, .ref mo_taints, .ref mo_known, .int taint, .ref mo_knows, .int isOther, .int (at_ + (1 : Int32)), .int isFaulty, .int orders, .ref mo_letters, .ref mo_numbers, .long hash]), (mo_text, aI G 120 text)]) C hm7_number_0 tyX7 tyX7_ok nmX7 0 rfl rfl 18 (by decide) hm7_number_1 rfl rfl rfl rfl (Nat.le_of_ble_eq_true rfl) dX7_number_110 rfl ?_
    refine g_goto (tgt := 28) C dX7_number_113 (by decide) ?_
    exact hk28 _ hf
  · replace hf := ite_f c1 hf
    refine g_iconst (v := (0 : Int32)) C dX7_number_104 (by decide +kernel) ?_
    refine g_goto (tgt := 109) C dX7_number_105 (by decide) ?_
    refine g_iadd C dX7_number_109 ?_
    refine g_put (C0 := RX7) (T := TX7) (N := 24) (ci := 7) (ty := .int) (WS' := [(mo, oB 7 [.ref mo_now, .ref mo_aside, .ref mo_past, .int states, .ref mo_refusals, .ref mo_text, .int length, .ref mo_vars, .ref mo_sights, .int many, .int steps, .int isCut, .ref mo_isThere, .ref mo_taints, .ref mo_known, .int taint, .ref mo_knows, .int isOther, .int (at_ + (0 : Int32)), .int isFaulty, .int orders, .ref mo_letters, .ref mo_numbers, .long hash]), (mo_text, aI G 120 text)]) C hm7_number_0 tyX7 tyX7_ok nmX7 0 rfl rfl 18 (by decide) hm7_number_1 rfl rfl rfl rfl (Nat.le_of_ble_eq_true rfl) dX7_number_110 rfl ?_
    refine g_goto (tgt := 28) C dX7_number_113 (by decide) ?_
    exact hk28 _ hf
set_option maxHeartbeats 4000000 in
set_option maxRecDepth 100000 in
theorem k7_number_60 {p : Program} {l : Launch} {e : Env} {s : State} {m : MethodId} {args : Array Value} {below : List Frame} {meth : Method} {c : Code} {G : gG} {A : Nat → Prop} {Q : State → Prop} {mo mo_now mo_aside mo_past mo_refusals mo_text mo_vars mo_sights mo_isThere mo_taints mo_known mo_knows mo_letters mo_numbers : Nat} (C : CX p s m args meth c G A cX7_number 3 RX7 wsX7_number) {states : Int32} {many : Int32} {steps : Int32} {isCut : Int32} {taint : Int32} {isOther : Int32} {orders : Int32} {hash : Int64} {text : Nat → Int32} {length : Int32} {k28 : Int32 × Int32 × Int32 × Int32 → Option (Int32 × Int32 × Int32)} {at_ : Int32} {isFaulty : Int32} {x1 : Int32} {x2 : Int32} {y1 : Int32} {res : Int32 × Int32 × Int32} (hR : ∀ (lv : List (Nat × Value)) (pc : Nat), decode cX7_number pc = .ok (.ireturn, 1) → GG p l e rm7_number s m args below meth c G A 3 0 0 Q [(mo, oB 7 [.ref mo_now, .ref mo_aside, .ref mo_past, .int states, .ref mo_refusals, .ref mo_text, .int length, .ref mo_vars, .ref mo_sights, .int many, .int steps, .int isCut, .ref mo_isThere, .ref mo_taints, .ref mo_known, .int taint, .ref mo_knows, .int isOther, .int res.2.1, .int res.2.2, .int orders, .ref mo_letters, .ref mo_numbers, .long hash]), (mo_text, aI G 120 text)] lv pc [.int res.1])
    (hk28 : ∀ s', k28 s' = some res → GG p l e rm7_number s m args below meth c G A 3 0 0 Q [(mo, oB 7 [.ref mo_now, .ref mo_aside, .ref mo_past, .int states, .ref mo_refusals, .ref mo_text, .int length, .ref mo_vars, .ref mo_sights, .int many, .int steps, .int isCut, .ref mo_isThere, .ref mo_taints, .ref mo_known, .int taint, .ref mo_knows, .int isOther, .int s'.1, .int s'.2.1, .int orders, .ref mo_letters, .ref mo_numbers, .long hash]), (mo_text, aI G 120 text)] [(0, .ref mo), (1, .int s'.2.2.1), (2, .int s'.2.2.2)] 28 [])
    (hf : f7_number_60 text length k28 at_ isFaulty x1 x2 y1 = some res) : GG p l e rm7_number s m args below meth c G A 3 0 0 Q [(mo, oB 7 [.ref mo_now, .ref mo_aside, .ref mo_past, .int states, .ref mo_refusals, .ref mo_text, .int length, .ref mo_vars, .ref mo_sights, .int many, .int steps, .int isCut, .ref mo_isThere, .ref mo_taints, .ref mo_known, .int taint, .ref mo_knows, .int isOther, .int at_, .int isFaulty, .int orders, .ref mo_letters, .ref mo_numbers, .long hash]), (mo_text, aI G 120 text)] [(0, .ref mo), (1, .int x1), (2, .int x2)] 60 [.int y1, .ref mo] := by
  unfold f7_number_60 at hf
  obtain ⟨h2, hf⟩ := ck_some hf
  refine g_put (C0 := RX7) (T := TX7) (N := 24) (ci := 7) (ty := .boolean) (WS' := [(mo, oB 7 [.ref mo_now, .ref mo_aside, .ref mo_past, .int states, .ref mo_refusals, .ref mo_text, .int length, .ref mo_vars, .ref mo_sights, .int many, .int steps, .int isCut, .ref mo_isThere, .ref mo_taints, .ref mo_known, .int taint, .ref mo_knows, .int isOther, .int at_, .int y1, .int orders, .ref mo_letters, .ref mo_numbers, .long hash]), (mo_text, aI G 120 text)]) C hm7_number_0 tyX7 tyX7_ok nmX7 0 rfl rfl 19 (by decide) hm7_number_2 rfl rfl (isb_n h2) (isb_f h2) (Nat.le_of_ble_eq_true rfl) dX7_number_60 rfl ?_
  refine g_aload_n C dX7_number_63 rfl 0 rfl ?_
  refine g_get (C0 := RX7) (T := TX7) (N := 24) (ci := 7) (v := .int y1) C hm7_number_0 0 rfl rfl 19 (by decide) hm7_number_2 rfl dX7_number_64 ?_
  refine g_if_eq (tgt := 74) C dX7_number_67 (by decide) (fun c3 => ?_) (fun c3 => ?_)
  · replace hf := ite_t c3 hf
    refine g_bipush (v := (10 : Int32)) C dX7_number_74 (by decide +kernel) ?_
    refine g_iload_n C dX7_number_76 rfl 1 rfl ?_
    refine g_imul C dX7_number_77 ?_
    refine g_aload_n C dX7_number_78 rfl 0 rfl ?_
    refine g_get (C0 := RX7) (T := TX7) (N := 24) (ci := 7) (v := .ref mo_text) C hm7_number_0 0 rfl rfl 5 (by decide) hm7_number_3 rfl dX7_number_79 ?_
    refine g_aload_n C dX7_number_82 rfl 0 rfl ?_
    refine g_get (C0 := RX7) (T := TX7) (N := 24) (ci := 7) (v := .int at_) C hm7_number_0 0 rfl rfl 18 (by decide) hm7_number_1 rfl dX7_number_83 ?_
    obtain ⟨h4, hf⟩ := ck_some hf
    refine g_iald (n := 120) (v := (text at_.toNatClampNeg)) C 1 rfl h4 rfl rfl dX7_number_86 ?_
    refine g_iadd C dX7_number_87 ?_
    refine g_bipush (v := (48 : Int32)) C dX7_number_88 (by decide +kernel) ?_
    refine g_isub C dX7_number_90 ?_
    exact k7_number_91 C hR hk28 hf
  · replace hf := ite_f c3 hf
    refine g_iload_n C dX7_number_70 rfl 1 rfl ?_
    refine g_goto (tgt := 91) C dX7_number_71 (by decide) ?_
    exact k7_number_91 C hR hk28 hf
set_option maxHeartbeats 4000000 in
set_option maxRecDepth 100000 in
theorem k7_number_28b {p : Program} {l : Launch} {e : Env} {s : State} {m : MethodId} {args : Array Value} {below : List Frame} {meth : Method} {c : Code} {G : gG} {A : Nat → Prop} {Q : State → Prop} {mo mo_now mo_aside mo_past mo_refusals mo_text mo_vars mo_sights mo_isThere mo_taints mo_known mo_knows mo_letters mo_numbers : Nat} (C : CX p s m args meth c G A cX7_number 3 RX7 wsX7_number) {states : Int32} {many : Int32} {steps : Int32} {isCut : Int32} {taint : Int32} {isOther : Int32} {orders : Int32} {hash : Int64} {text : Nat → Int32} {length : Int32} {k28 : Int32 × Int32 × Int32 × Int32 → Option (Int32 × Int32 × Int32)} {at_ : Int32} {isFaulty : Int32} {x1 : Int32} {x2 : Int32} {res : Int32 × Int32 × Int32} (hR : ∀ (lv : List (Nat × Value)) (pc : Nat), decode cX7_number pc = .ok (.ireturn, 1) → GG p l e rm7_number s m args below meth c G A 3 0 0 Q [(mo, oB 7 [.ref mo_now, .ref mo_aside, .ref mo_past, .int states, .ref mo_refusals, .ref mo_text, .int length, .ref mo_vars, .ref mo_sights, .int many, .int steps, .int isCut, .ref mo_isThere, .ref mo_taints, .ref mo_known, .int taint, .ref mo_knows, .int isOther, .int res.2.1, .int res.2.2, .int orders, .ref mo_letters, .ref mo_numbers, .long hash]), (mo_text, aI G 120 text)] lv pc [.int res.1])
    (hk28 : ∀ s', k28 s' = some res → GG p l e rm7_number s m args below meth c G A 3 0 0 Q [(mo, oB 7 [.ref mo_now, .ref mo_aside, .ref mo_past, .int states, .ref mo_refusals, .ref mo_text, .int length, .ref mo_vars, .ref mo_sights, .int many, .int steps, .int isCut, .ref mo_isThere, .ref mo_taints, .ref mo_known, .int taint, .ref mo_knows, .int isOther, .int s'.1, .int s'.2.1, .int orders, .ref mo_letters, .ref mo_numbers, .long hash]), (mo_text, aI G 120 text)] [(0, .ref mo), (1, .int s'.2.2.1), (2, .int s'.2.2.2)] 28 [])
    (hf : f7_number_28b text length k28 at_ isFaulty x1 x2 = some res) : GG p l e rm7_number s m args below meth c G A 3 0 0 Q [(mo, oB 7 [.ref mo_now, .ref mo_aside, .ref mo_past, .int states, .ref mo_refusals, .ref mo_text, .int length, .ref mo_vars, .ref mo_sights, .int many, .int steps, .int isCut, .ref mo_isThere, .ref mo_taints, .ref mo_known, .int taint, .ref mo_knows, .int isOther, .int at_, .int isFaulty, .int orders, .ref mo_letters, .ref mo_numbers, .long hash]), (mo_text, aI G 120 text)] [(0, .ref mo), (1, .int x1), (2, .int x2)] 28 [] := by
  unfold f7_number_28b at hf
  refine g_aload_n C dX7_number_28 rfl 0 rfl ?_
  refine g_get (C0 := RX7) (T := TX7) (N := 24) (ci := 7) (v := .int isFaulty) C hm7_number_0 0 rfl rfl 19 (by decide) hm7_number_2 rfl dX7_number_29 ?_
  refine g_if_ne (tgt := 116) C dX7_number_32 (by decide) (fun c5 => ?_) (fun c5 => ?_)
  · replace hf := ite_f c5 hf
    refine g_iload_n C dX7_number_116 rfl 1 rfl ?_
    obtain rfl := Option.some.inj hf
    exact hR _ _ dX7_number_117
  · replace hf := ite_t c5 hf
    refine g_aload_n C dX7_number_35 rfl 0 rfl ?_
    refine g_bipush (v := (48 : Int32)) C dX7_number_36 (by decide +kernel) ?_
    refine g_bipush (v := (57 : Int32)) C dX7_number_38 (by decide +kernel) ?_
    obtain ⟨q6, hq6, hf⟩ := bs hf
    refine g_callVi (n := 2) (As := [.int (48 : Int32), .int (57 : Int32)]) (rest := []) (wc := [(mo, oB 7 [.ref mo_now, .ref mo_aside, .ref mo_past, .int states, .ref mo_refusals, .ref mo_text, .int length, .ref mo_vars, .ref mo_sights, .int many, .int steps, .int isCut, .ref mo_isThere, .ref mo_taints, .ref mo_known, .int taint, .ref mo_knows, .int isOther, .int at_, .int isFaulty, .int orders, .ref mo_letters, .ref mo_numbers, .long hash]), (mo_text, aI G 120 text)]) (w1 := [(mo, oB 7 [.ref mo_now, .ref mo_aside, .ref mo_past, .int states, .ref mo_refusals, .ref mo_text, .int length, .ref mo_vars, .ref mo_sights, .int many, .int steps, .int isCut, .ref mo_isThere, .ref mo_taints, .ref mo_known, .int taint, .ref mo_knows, .int isOther, .int at_, .int isFaulty, .int orders, .ref mo_letters, .ref mo_numbers, .long hash]), (mo_text, aI G 120 text)]) (wr := []) (WS' := [(mo, oB 7 [.ref mo_now, .ref mo_aside, .ref mo_past, .int states, .ref mo_refusals, .ref mo_text, .int length, .ref mo_vars, .ref mo_sights, .int many, .int steps, .int isCut, .ref mo_isThere, .ref mo_taints, .ref mo_known, .int taint, .ref mo_knows, .int isOther, .int at_, .int isFaulty, .int orders, .ref mo_letters, .ref mo_numbers, .long hash]), (mo_text, aI G 120 text)]) C (c7_isAt hq6) gX7_number_X7_isAt (by decide +kernel) rfl rfl rfl rfl rfl rfl ⟨by decide, by decide⟩ rfl [0, 1] [] [0, 1] rfl (by decide) rfl (by decide) (by decide) rfl (by decide) (Nat.le_of_ble_eq_true rfl) ⟨Nat.zero_le _, Nat.zero_le _⟩ rfl dX7_number_40 ?_
    refine g_if_eq (tgt := 116) C dX7_number_43 (by decide) (fun c7 => ?_) (fun c7 => ?_)
    · replace hf := ite_t c7 hf
      refine g_iload_n C dX7_number_116 rfl 1 rfl ?_
      obtain rfl := Option.some.inj hf
      exact hR _ _ dX7_number_117
    · replace hf := ite_f c7 hf
      refine g_iinc (v := (x2 + (1 : Int32))) (lv' := [(0, .ref mo), (1, .int x1), (2, .int (x2 + (1 : Int32)))]) C dX7_number_46 2 rfl rfl (by decide) [1, 2, 0] rfl ?_
      refine g_aload_n C dX7_number_49 rfl 0 rfl ?_
      refine g_iload_n C dX7_number_50 rfl 2 rfl ?_
      refine g_iconst (v := (2 : Int32)) C dX7_number_51 (by decide +kernel) ?_
      refine g_icmp_le (tgt := 59) C dX7_number_52 (by decide) (fun c8 => ?_) (fun c8 => ?_)
      · replace hf := ite_t c8 hf
        refine g_iconst (v := (0 : Int32)) C dX7_number_59 (by decide +kernel) ?_
        exact k7_number_60 C hR hk28 hf
      · replace hf := ite_f c8 hf
        refine g_iconst (v := (1 : Int32)) C dX7_number_55 (by decide +kernel) ?_
        refine g_goto (tgt := 60) C dX7_number_56 (by decide) ?_
        exact k7_number_60 C hR hk28 hf
set_option maxHeartbeats 4000000 in
set_option maxRecDepth 100000 in
theorem k7_number_28 {p : Program} {l : Launch} {e : Env} {s : State} {m : MethodId} {args : Array Value} {below : List Frame} {meth : Method} {c : Code} {G : gG} {A : Nat → Prop} {Q : State → Prop} {mo mo_now mo_aside mo_past mo_refusals mo_text mo_vars mo_sights mo_isThere mo_taints mo_known mo_knows mo_letters mo_numbers : Nat} (C : CX p s m args meth c G A cX7_number 3 RX7 wsX7_number) {states : Int32} {many : Int32} {steps : Int32} {isCut : Int32} {taint : Int32} {isOther : Int32} {orders : Int32} {hash : Int64} {text : Nat → Int32} {length : Int32} {res : Int32 × Int32 × Int32} (hR : ∀ (lv : List (Nat × Value)) (pc : Nat), decode cX7_number pc = .ok (.ireturn, 1) → GG p l e rm7_number s m args below meth c G A 3 0 0 Q [(mo, oB 7 [.ref mo_now, .ref mo_aside, .ref mo_past, .int states, .ref mo_refusals, .ref mo_text, .int length, .ref mo_vars, .ref mo_sights, .int many, .int steps, .int isCut, .ref mo_isThere, .ref mo_taints, .ref mo_known, .int taint, .ref mo_knows, .int isOther, .int res.2.1, .int res.2.2, .int orders, .ref mo_letters, .ref mo_numbers, .long hash]), (mo_text, aI G 120 text)] lv pc [.int res.1]) : ∀ (n : Nat) (s1 : Int32 × Int32 × Int32 × Int32), f7_number_28 text length n s1 = some res → GG p l e rm7_number s m args below meth c G A 3 0 0 Q [(mo, oB 7 [.ref mo_now, .ref mo_aside, .ref mo_past, .int states, .ref mo_refusals, .ref mo_text, .int length, .ref mo_vars, .ref mo_sights, .int many, .int steps, .int isCut, .ref mo_isThere, .ref mo_taints, .ref mo_known, .int taint, .ref mo_knows, .int isOther, .int s1.1, .int s1.2.1, .int orders, .ref mo_letters, .ref mo_numbers, .long hash]), (mo_text, aI G 120 text)] [(0, .ref mo), (1, .int s1.2.2.1), (2, .int s1.2.2.2)] 28 [] :=
  itf_ind (fun k s1 ih hf => k7_number_28b C hR ih hf)
set_option maxHeartbeats 4000000 in
set_option maxRecDepth 100000 in
theorem c7_number {l : Launch} {G : gG} {mo mo_now mo_aside mo_past mo_refusals mo_text mo_vars mo_sights mo_isThere mo_taints mo_known mo_knows mo_letters mo_numbers : Nat} {states : Int32} {text : Nat → Int32} {length : Int32} {many : Int32} {steps : Int32} {isCut : Int32} {taint : Int32} {isOther : Int32} {at_ : Int32} {isFaulty : Int32} {orders : Int32} {hash : Int64} {res : Int32 × Int32 × Int32} (hf : f7_number text length at_ isFaulty = some res) : MI l yX7_number wsX7_number rm7_number G [.ref mo] [(mo, oB 7 [.ref mo_now, .ref mo_aside, .ref mo_past, .int states, .ref mo_refusals, .ref mo_text, .int length, .ref mo_vars, .ref mo_sights, .int many, .int steps, .int isCut, .ref mo_isThere, .ref mo_taints, .ref mo_known, .int taint, .ref mo_knows, .int isOther, .int at_, .int isFaulty, .int orders, .ref mo_letters, .ref mo_numbers, .long hash]), (mo_text, aI G 120 text)] (res.1) [(mo, oB 7 [.ref mo_now, .ref mo_aside, .ref mo_past, .int states, .ref mo_refusals, .ref mo_text, .int length, .ref mo_vars, .ref mo_sights, .int many, .int steps, .int isCut, .ref mo_isThere, .ref mo_taints, .ref mo_known, .int taint, .ref mo_knows, .int isOther, .int res.2.1, .int res.2.2, .int orders, .ref mo_letters, .ref mo_numbers, .long hash]), (mo_text, aI G 120 text)] := by
  refine MI_of (res.1) (cc := cX7_number) (nL := 3) (lv := [(0, .ref mo)]) (by decide +kernel) rfl (Nat.le_of_ble_eq_true rfl) rfl ?_
  intro p e s m args below meth c A Q C hR
  unfold f7_number at hf
  refine g_aload_n C dX7_number_0 rfl 0 rfl ?_
  obtain ⟨q9, hq9, hf⟩ := bs hf
  refine g_callVv (n := 0) (As := []) (rest := []) (wc := [(mo, oB 7 [.ref mo_now, .ref mo_aside, .ref mo_past, .int states, .ref mo_refusals, .ref mo_text, .int length, .ref mo_vars, .ref mo_sights, .int many, .int steps, .int isCut, .ref mo_isThere, .ref mo_taints, .ref mo_known, .int taint, .ref mo_knows, .int isOther, .int at_, .int isFaulty, .int orders, .ref mo_letters, .ref mo_numbers, .long hash]), (mo_text, aI G 120 text)]) (w1 := [(mo, oB 7 [.ref mo_now, .ref mo_aside, .ref mo_past, .int states, .ref mo_refusals, .ref mo_text, .int length, .ref mo_vars, .ref mo_sights, .int many, .int steps, .int isCut, .ref mo_isThere, .ref mo_taints, .ref mo_known, .int taint, .ref mo_knows, .int isOther, .int q9, .int isFaulty, .int orders, .ref mo_letters, .ref mo_numbers, .long hash]), (mo_text, aI G 120 text)]) (wr := []) (WS' := [(mo, oB 7 [.ref mo_now, .ref mo_aside, .ref mo_past, .int states, .ref mo_refusals, .ref mo_text, .int length, .ref mo_vars, .ref mo_sights, .int many, .int steps, .int isCut, .ref mo_isThere, .ref mo_taints, .ref mo_known, .int taint, .ref mo_knows, .int isOther, .int q9, .int isFaulty, .int orders, .ref mo_letters, .ref mo_numbers, .long hash]), (mo_text, aI G 120 text)]) C (c7_blanks hq9) gX7_number_X7_blanks (by decide +kernel) rfl rfl rfl rfl rfl rfl ⟨by decide, by decide⟩ rfl [0, 1] [] [0, 1] rfl (by decide) rfl (by decide) (by decide) rfl (by decide) (Nat.le_of_ble_eq_true rfl) ⟨Nat.zero_le _, Nat.zero_le _⟩ rfl dX7_number_1 ?_
  refine g_iconst (v := (0 : Int32)) C dX7_number_4 (by decide +kernel) ?_
  refine g_istore_n (lv' := [(0, .ref mo), (1, .int (0 : Int32))]) C dX7_number_5 rfl (by decide) [1, 0] rfl ?_
  refine g_iconst (v := (0 : Int32)) C dX7_number_6 (by decide +kernel) ?_
  refine g_istore_n (lv' := [(0, .ref mo), (1, .int (0 : Int32)), (2, .int (0 : Int32))]) C dX7_number_7 rfl (by decide) [1, 2, 0] rfl ?_
  refine g_aload_n C dX7_number_8 rfl 0 rfl ?_
  refine g_aload_n C dX7_number_9 rfl 0 rfl ?_
  refine g_bipush (v := (48 : Int32)) C dX7_number_10 (by decide +kernel) ?_
  refine g_bipush (v := (57 : Int32)) C dX7_number_12 (by decide +kernel) ?_
  obtain ⟨q10, hq10, hf⟩ := bs hf
  refine g_callVi (n := 2) (As := [.int (48 : Int32), .int (57 : Int32)]) (rest := [.ref mo]) (wc := [(mo, oB 7 [.ref mo_now, .ref mo_aside, .ref mo_past, .int states, .ref mo_refusals, .ref mo_text, .int length, .ref mo_vars, .ref mo_sights, .int many, .int steps, .int isCut, .ref mo_isThere, .ref mo_taints, .ref mo_known, .int taint, .ref mo_knows, .int isOther, .int q9, .int isFaulty, .int orders, .ref mo_letters, .ref mo_numbers, .long hash]), (mo_text, aI G 120 text)]) (w1 := [(mo, oB 7 [.ref mo_now, .ref mo_aside, .ref mo_past, .int states, .ref mo_refusals, .ref mo_text, .int length, .ref mo_vars, .ref mo_sights, .int many, .int steps, .int isCut, .ref mo_isThere, .ref mo_taints, .ref mo_known, .int taint, .ref mo_knows, .int isOther, .int q9, .int isFaulty, .int orders, .ref mo_letters, .ref mo_numbers, .long hash]), (mo_text, aI G 120 text)]) (wr := []) (WS' := [(mo, oB 7 [.ref mo_now, .ref mo_aside, .ref mo_past, .int states, .ref mo_refusals, .ref mo_text, .int length, .ref mo_vars, .ref mo_sights, .int many, .int steps, .int isCut, .ref mo_isThere, .ref mo_taints, .ref mo_known, .int taint, .ref mo_knows, .int isOther, .int q9, .int isFaulty, .int orders, .ref mo_letters, .ref mo_numbers, .long hash]), (mo_text, aI G 120 text)]) C (c7_isAt hq10) gX7_number_X7_isAt (by decide +kernel) rfl rfl rfl rfl rfl rfl ⟨by decide, by decide⟩ rfl [0, 1] [] [0, 1] rfl (by decide) rfl (by decide) (by decide) rfl (by decide) (Nat.le_of_ble_eq_true rfl) ⟨Nat.zero_le _, Nat.zero_le _⟩ rfl dX7_number_14 ?_
  refine g_if_ne (tgt := 24) C dX7_number_17 (by decide) (fun c11 => ?_) (fun c11 => ?_)
  · replace hf := ite_f c11 hf
    refine g_iconst (v := (0 : Int32)) C dX7_number_24 (by decide +kernel) ?_
    refine g_put (C0 := RX7) (T := TX7) (N := 24) (ci := 7) (ty := .boolean) (WS' := [(mo, oB 7 [.ref mo_now, .ref mo_aside, .ref mo_past, .int states, .ref mo_refusals, .ref mo_text, .int length, .ref mo_vars, .ref mo_sights, .int many, .int steps, .int isCut, .ref mo_isThere, .ref mo_taints, .ref mo_known, .int taint, .ref mo_knows, .int isOther, .int q9, .int (0 : Int32), .int orders, .ref mo_letters, .ref mo_numbers, .long hash]), (mo_text, aI G 120 text)]) C hm7_number_0 tyX7 tyX7_ok nmX7 0 rfl rfl 19 (by decide) hm7_number_2 rfl rfl rfl rfl (Nat.le_of_ble_eq_true rfl) dX7_number_25 rfl ?_
    exact k7_number_28 C hR _ _ hf
  · replace hf := ite_t c11 hf
    refine g_iconst (v := (1 : Int32)) C dX7_number_20 (by decide +kernel) ?_
    refine g_goto (tgt := 25) C dX7_number_21 (by decide) ?_
    refine g_put (C0 := RX7) (T := TX7) (N := 24) (ci := 7) (ty := .boolean) (WS' := [(mo, oB 7 [.ref mo_now, .ref mo_aside, .ref mo_past, .int states, .ref mo_refusals, .ref mo_text, .int length, .ref mo_vars, .ref mo_sights, .int many, .int steps, .int isCut, .ref mo_isThere, .ref mo_taints, .ref mo_known, .int taint, .ref mo_knows, .int isOther, .int q9, .int (1 : Int32), .int orders, .ref mo_letters, .ref mo_numbers, .long hash]), (mo_text, aI G 120 text)]) C hm7_number_0 tyX7 tyX7_ok nmX7 0 rfl rfl 19 (by decide) hm7_number_2 rfl rfl rfl rfl (Nat.le_of_ble_eq_true rfl) dX7_number_25 rfl ?_
    exact k7_number_28 C hR _ _ hf

-- X7_manyOf
def f7_manyOf (v0 : Int32) : Option (Int32) :=
  (if v0 = (100 : Int32) then
    (some (1 : Int32))
    else (if v0 = (108 : Int32) then
    (some (4 : Int32))
    else (if v0 = (112 : Int32) then
    (some (2 : Int32))
    else (if v0 = (116 : Int32) then
    (some (2 : Int32))
    else (if v0 = (118 : Int32) then
    (some (2 : Int32))
    else (some (0 : Int32)))))))
def rm7_manyOf : Room := { frames := 0, cells := 0, slots := 0, locals := 0 }
set_option maxHeartbeats 4000000 in
set_option maxRecDepth 100000 in
theorem c7_manyOf {l : Launch} {G : gG} {v0 : Int32} {res : Int32} (hf : f7_manyOf v0 = some res) : MI l yX7_manyOf wsX7_manyOf rm7_manyOf G [.int v0] [] (res) [] := by
  refine MI_of (res) (cc := cX7_manyOf) (nL := 1) (lv := [(0, .int v0)]) (by decide +kernel) rfl (Nat.le_of_ble_eq_true rfl) rfl ?_
  intro p e s m args below meth c A Q C hR
  unfold f7_manyOf at hf
  refine g_iload_n C dX7_manyOf_0 rfl 0 rfl ?_
  by_cases c1 : v0 = (100 : Int32)
  · replace hf := ite_t c1 hf
    refine g_lookup (off := 53) (tgt := 54) C dX7_manyOf_1 (by decide +kernel) (by rw [c1]; decide +kernel) (by decide) ?_
    refine g_iconst (v := (1 : Int32)) C dX7_manyOf_54 (by decide +kernel) ?_
    obtain rfl := Option.some.inj hf
    exact hR _ _ dX7_manyOf_55
  replace hf := ite_f c1 hf
  by_cases c2 : v0 = (108 : Int32)
  · replace hf := ite_t c2 hf
    refine g_lookup (off := 51) (tgt := 52) C dX7_manyOf_1 (by decide +kernel) (by rw [c2]; decide +kernel) (by decide) ?_
    refine g_iconst (v := (4 : Int32)) C dX7_manyOf_52 (by decide +kernel) ?_
    obtain rfl := Option.some.inj hf
    exact hR _ _ dX7_manyOf_53
  replace hf := ite_f c2 hf
  by_cases c3 : v0 = (112 : Int32)
  · replace hf := ite_t c3 hf
    refine g_lookup (off := 55) (tgt := 56) C dX7_manyOf_1 (by decide +kernel) (by rw [c3]; decide +kernel) (by decide) ?_
    refine g_iconst (v := (2 : Int32)) C dX7_manyOf_56 (by decide +kernel) ?_
    obtain rfl := Option.some.inj hf
    exact hR _ _ dX7_manyOf_57
  replace hf := ite_f c3 hf
  by_cases c4 : v0 = (116 : Int32)
  · replace hf := ite_t c4 hf
    refine g_lookup (off := 55) (tgt := 56) C dX7_manyOf_1 (by decide +kernel) (by rw [c4]; decide +kernel) (by decide) ?_
    refine g_iconst (v := (2 : Int32)) C dX7_manyOf_56 (by decide +kernel) ?_
    obtain rfl := Option.some.inj hf
    exact hR _ _ dX7_manyOf_57
  replace hf := ite_f c4 hf
  by_cases c5 : v0 = (118 : Int32)
  · replace hf := ite_t c5 hf
    refine g_lookup (off := 55) (tgt := 56) C dX7_manyOf_1 (by decide +kernel) (by rw [c5]; decide +kernel) (by decide) ?_
    refine g_iconst (v := (2 : Int32)) C dX7_manyOf_56 (by decide +kernel) ?_
    obtain rfl := Option.some.inj hf
    exact hR _ _ dX7_manyOf_57
  replace hf := ite_f c5 hf
  refine g_lookup (off := 57) (tgt := 58) C dX7_manyOf_1 (by decide +kernel) (by refine (lv_osw (k := (100 : Int32)) c1 (by decide +kernel)).trans ?_; refine (lv_osw (k := (108 : Int32)) c2 (by decide +kernel)).trans ?_; refine (lv_osw (k := (112 : Int32)) c3 (by decide +kernel)).trans ?_; refine (lv_osw (k := (116 : Int32)) c4 (by decide +kernel)).trans ?_; refine (lv_osw (k := (118 : Int32)) c5 (by decide +kernel)).trans ?_; rfl) (by decide) ?_
  refine g_iconst (v := (0 : Int32)) C dX7_manyOf_58 (by decide +kernel) ?_
  obtain rfl := Option.some.inj hf
  exact hR _ _ dX7_manyOf_59

-- X7_readsOrder
def f7_readsOrder_134 (text : Nat → Int32) (length : Int32) (at_ : Int32) (isFaulty : Int32) (orders : Int32) (letters : Nat → Int32) (numbers : Nat → Int32) (x1 : Int32) (x2 : Int32) (x3 : Int32) (y1 : Int32) (y2 : Int32) : Option (Int32 × Int32 × Int32 × (Nat → Int32) × (Nat → Int32)) :=
  if isFaulty = 0 then
    (ck (inb orders 41) <|
    some ((y1 + y2), isFaulty, (orders + (1 : Int32)), (upd letters orders.toNatClampNeg x1), numbers))
    else (some ((y1 + y2), isFaulty, orders, letters, numbers))
def f7_readsOrder_114 (text : Nat → Int32) (length : Int32) (at_ : Int32) (isFaulty : Int32) (orders : Int32) (letters : Nat → Int32) (numbers : Nat → Int32) (x1 : Int32) (x2 : Int32) (x3 : Int32) (y1 : Int32) : Option (Int32 × Int32 × Int32 × (Nat → Int32) × (Nat → Int32)) :=
  ck (isb y1) <|
    if y1 = 0 then
    (f7_readsOrder_134 text length at_ y1 orders letters numbers x1 x2 x3 at_ (1 : Int32))
    else (f7_readsOrder_134 text length at_ y1 orders letters numbers x1 x2 x3 at_ (0 : Int32))
def f7_readsOrder_51b (text : Nat → Int32) (length : Int32) (k51 : Int32 × Int32 × Int32 × (Nat → Int32) × (Nat → Int32) × Int32 × Int32 × Int32 → Option (Int32 × Int32 × Int32 × (Nat → Int32) × (Nat → Int32))) (at_ : Int32) (isFaulty : Int32) (orders : Int32) (letters : Nat → Int32) (numbers : Nat → Int32) (x1 : Int32) (x2 : Int32) (x3 : Int32) : Option (Int32 × Int32 × Int32 × (Nat → Int32) × (Nat → Int32)) :=
  if x2 ≤ x3 then
    (if isFaulty = 0 then
    ((f7_blanks text length at_).bind <| fun q9 =>
    (f7_isAt text length q9 (59 : Int32) (59 : Int32)).bind <| fun q10 =>
    if q10 = 0 then
    (f7_readsOrder_114 text length q9 isFaulty orders letters numbers x1 x2 x3 (1 : Int32))
    else (f7_readsOrder_114 text length q9 isFaulty orders letters numbers x1 x2 x3 (0 : Int32)))
    else (if isFaulty = 0 then
    (ck (inb orders 41) <|
    some (at_, isFaulty, (orders + (1 : Int32)), (upd letters orders.toNatClampNeg x1), numbers))
    else (some (at_, isFaulty, orders, letters, numbers))))
    else (if isFaulty = 0 then
    ((f7_number text length at_ isFaulty).bind <| fun q19 =>
    ck (inb (((4 : Int32) * orders) + x3) 164) <|
    k51 (q19.2.1, q19.2.2, orders, letters, (upd numbers (((4 : Int32) * orders) + x3).toNatClampNeg q19.1), x1, x2, (x3 + (1 : Int32))))
    else (if isFaulty = 0 then
    ((f7_blanks text length at_).bind <| fun q16 =>
    (f7_isAt text length q16 (59 : Int32) (59 : Int32)).bind <| fun q17 =>
    if q17 = 0 then
    (f7_readsOrder_114 text length q16 isFaulty orders letters numbers x1 x2 x3 (1 : Int32))
    else (f7_readsOrder_114 text length q16 isFaulty orders letters numbers x1 x2 x3 (0 : Int32)))
    else (if isFaulty = 0 then
    (ck (inb orders 41) <|
    some (at_, isFaulty, (orders + (1 : Int32)), (upd letters orders.toNatClampNeg x1), numbers))
    else (some (at_, isFaulty, orders, letters, numbers)))))
def f7_readsOrder_51 (text : Nat → Int32) (length : Int32) (n : Nat) (s : Int32 × Int32 × Int32 × (Nat → Int32) × (Nat → Int32) × Int32 × Int32 × Int32) : Option (Int32 × Int32 × Int32 × (Nat → Int32) × (Nat → Int32)) := itf (fun k s => f7_readsOrder_51b text length k s.1 s.2.1 s.2.2.1 s.2.2.2.1 s.2.2.2.2.1 s.2.2.2.2.2.1 s.2.2.2.2.2.2.1 s.2.2.2.2.2.2.2) n s
def f7_readsOrder_45 (text : Nat → Int32) (length : Int32) (at_ : Int32) (isFaulty : Int32) (orders : Int32) (letters : Nat → Int32) (numbers : Nat → Int32) (x1 : Int32) (x2 : Int32) (y1 : Int32) (y2 : Int32) : Option (Int32 × Int32 × Int32 × (Nat → Int32) × (Nat → Int32)) :=
  f7_readsOrder_51 text length 1000 ((y1 + y2), isFaulty, orders, letters, numbers, x1, x2, (0 : Int32))
def f7_readsOrder_25 (text : Nat → Int32) (length : Int32) (at_ : Int32) (isFaulty : Int32) (orders : Int32) (letters : Nat → Int32) (numbers : Nat → Int32) (x1 : Int32) (x2 : Int32) (y1 : Int32) : Option (Int32 × Int32 × Int32 × (Nat → Int32) × (Nat → Int32)) :=
  ck (isb y1) <|
    if y1 = 0 then
    (f7_readsOrder_45 text length at_ y1 orders letters numbers x1 x2 at_ (1 : Int32))
    else (f7_readsOrder_45 text length at_ y1 orders letters numbers x1 x2 at_ (0 : Int32))
def f7_readsOrder (text : Nat → Int32) (length : Int32) (at_ : Int32) (isFaulty : Int32) (orders : Int32) (letters : Nat → Int32) (numbers : Nat → Int32) : Option (Int32 × Int32 × Int32 × (Nat → Int32) × (Nat → Int32)) :=
  ck (inb at_ 120) <|
    (f7_manyOf (text at_.toNatClampNeg)).bind <| fun q24 =>
    if q24 = 0 then
    (f7_readsOrder_25 text length at_ isFaulty orders letters numbers (text at_.toNatClampNeg) q24 (1 : Int32))
    else (f7_readsOrder_25 text length at_ isFaulty orders letters numbers (text at_.toNatClampNeg) q24 (0 : Int32))
def rm7_readsOrder : Room := { frames := 4, cells := 0, slots := 0, locals := 86 }
theorem hm7_readsOrder_0 : ∀ w ∈ u_ws RX7 TX7 24, w ∈ wsX7_readsOrder := by decide +kernel
theorem hm7_readsOrder_1 : Cond.fieldLink RX7 217 "SecretStepsModel" "at" "I" ∈ wsX7_readsOrder := by decide +kernel
theorem hm7_readsOrder_2 : Cond.fieldLink RX7 226 "SecretStepsModel" "isFaulty" "Z" ∈ wsX7_readsOrder := by decide +kernel
theorem hm7_readsOrder_3 : Cond.fieldLink RX7 44 "SecretStepsModel" "letters" "[I" ∈ wsX7_readsOrder := by decide +kernel
theorem hm7_readsOrder_4 : Cond.fieldLink RX7 232 "SecretStepsModel" "orders" "I" ∈ wsX7_readsOrder := by decide +kernel
theorem hm7_readsOrder_5 : Cond.fieldLink RX7 47 "SecretStepsModel" "numbers" "[I" ∈ wsX7_readsOrder := by decide +kernel
theorem hm7_readsOrder_6 : Cond.fieldLink RX7 22 "SecretStepsModel" "text" "[I" ∈ wsX7_readsOrder := by decide +kernel
set_option maxHeartbeats 4000000 in
set_option maxRecDepth 100000 in
theorem k7_readsOrder_134 {p : Program} {l : Launch} {e : Env} {s : State} {m : MethodId} {args : Array Value} {below : List Frame} {meth : Method} {c : Code} {G : gG} {A : Nat → Prop} {Q : State → Prop} {mo mo_now mo_aside mo_past mo_refusals mo_text mo_vars mo_sights mo_isThere mo_taints mo_known mo_knows mo_letters mo_numbers : Nat} (C : CX p s m args meth c G A cX7_readsOrder 4 RX7 wsX7_readsOrder) {states : Int32} {many : Int32} {steps : Int32} {isCut : Int32} {taint : Int32} {isOther : Int32} {hash : Int64} {text : Nat → Int32} {length : Int32} {at_ : Int32} {isFaulty : Int32} {orders : Int32} {letters : Nat → Int32} {numbers : Nat → Int32} {x1 : Int32} {x2 : Int32} {x3 : Int32} {y1 : Int32} {y2 : Int32} {res : Int32 × Int32 × Int32 × (Nat → Int32) × (Nat → Int32)} (hR : ∀ (lv : List (Nat × Value)) (pc : Nat), decode cX7_readsOrder pc = .ok (.return_, 1) → GG p l e rm7_readsOrder s m args below meth c G A 4 0 0 Q [(mo, oB 7 [.ref mo_now, .ref mo_aside, .ref mo_past, .int states, .ref mo_refusals, .ref mo_text, .int length, .ref mo_vars, .ref mo_sights, .int many, .int steps, .int isCut, .ref mo_isThere, .ref mo_taints, .ref mo_known, .int taint, .ref mo_knows, .int isOther, .int res.1, .int res.2.1, .int res.2.2.1, .ref mo_letters, .ref mo_numbers, .long hash]), (mo_text, aI G 120 text), (mo_letters, aI G 41 res.2.2.2.1), (mo_numbers, aI G 164 res.2.2.2.2)] lv pc [])
    (hf : f7_readsOrder_134 text length at_ isFaulty orders letters numbers x1 x2 x3 y1 y2 = some res) : GG p l e rm7_readsOrder s m args below meth c G A 4 0 0 Q [(mo, oB 7 [.ref mo_now, .ref mo_aside, .ref mo_past, .int states, .ref mo_refusals, .ref mo_text, .int length, .ref mo_vars, .ref mo_sights, .int many, .int steps, .int isCut, .ref mo_isThere, .ref mo_taints, .ref mo_known, .int taint, .ref mo_knows, .int isOther, .int at_, .int isFaulty, .int orders, .ref mo_letters, .ref mo_numbers, .long hash]), (mo_text, aI G 120 text), (mo_letters, aI G 41 letters), (mo_numbers, aI G 164 numbers)] [(0, .ref mo), (1, .int x1), (2, .int x2), (3, .int x3)] 134 [.int y2, .int y1, .ref mo] := by
  unfold f7_readsOrder_134 at hf
  refine g_iadd C dX7_readsOrder_134 ?_
  refine g_put (C0 := RX7) (T := TX7) (N := 24) (ci := 7) (ty := .int) (WS' := [(mo, oB 7 [.ref mo_now, .ref mo_aside, .ref mo_past, .int states, .ref mo_refusals, .ref mo_text, .int length, .ref mo_vars, .ref mo_sights, .int many, .int steps, .int isCut, .ref mo_isThere, .ref mo_taints, .ref mo_known, .int taint, .ref mo_knows, .int isOther, .int (y1 + y2), .int isFaulty, .int orders, .ref mo_letters, .ref mo_numbers, .long hash]), (mo_text, aI G 120 text), (mo_letters, aI G 41 letters), (mo_numbers, aI G 164 numbers)]) C hm7_readsOrder_0 tyX7 tyX7_ok nmX7 0 rfl rfl 18 (by decide) hm7_readsOrder_1 rfl rfl rfl rfl (Nat.le_of_ble_eq_true rfl) dX7_readsOrder_135 rfl ?_
  refine g_aload_n C dX7_readsOrder_138 rfl 0 rfl ?_
  refine g_get (C0 := RX7) (T := TX7) (N := 24) (ci := 7) (v := .int isFaulty) C hm7_readsOrder_0 0 rfl rfl 19 (by decide) hm7_readsOrder_2 rfl dX7_readsOrder_139 ?_
  refine g_if_ne (tgt := 165) C dX7_readsOrder_142 (by decide) (fun c1 => ?_) (fun c1 => ?_)
  · replace hf := ite_f c1 hf
    obtain rfl := Option.some.inj hf
    exact hR _ _ dX7_readsOrder_165
  · replace hf := ite_t c1 hf
    refine g_aload_n C dX7_readsOrder_145 rfl 0 rfl ?_
    refine g_get (C0 := RX7) (T := TX7) (N := 24) (ci := 7) (v := .ref mo_letters) C hm7_readsOrder_0 0 rfl rfl 21 (by decide) hm7_readsOrder_3 rfl dX7_readsOrder_146 ?_
    refine g_aload_n C dX7_readsOrder_149 rfl 0 rfl ?_
    refine g_get (C0 := RX7) (T := TX7) (N := 24) (ci := 7) (v := .int orders) C hm7_readsOrder_0 0 rfl rfl 20 (by decide) hm7_readsOrder_4 rfl dX7_readsOrder_150 ?_
    refine g_iload_n C dX7_readsOrder_153 rfl 1 rfl ?_
    obtain ⟨h2, hf⟩ := ck_some hf
    refine g_iast (n := 41) (WS' := [(mo, oB 7 [.ref mo_now, .ref mo_aside, .ref mo_past, .int states, .ref mo_refusals, .ref mo_text, .int length, .ref mo_vars, .ref mo_sights, .int many, .int steps, .int isCut, .ref mo_isThere, .ref mo_taints, .ref mo_known, .int taint, .ref mo_knows, .int isOther, .int (y1 + y2), .int isFaulty, .int orders, .ref mo_letters, .ref mo_numbers, .long hash]), (mo_text, aI G 120 text), (mo_letters, aI G 41 (upd letters orders.toNatClampNeg x1)), (mo_numbers, aI G 164 numbers)]) C 2 rfl h2 rfl dX7_readsOrder_154 rfl ?_
    refine g_aload_n C dX7_readsOrder_155 rfl 0 rfl ?_
    refine g_dup C dX7_readsOrder_156 rfl ?_
    refine g_get (C0 := RX7) (T := TX7) (N := 24) (ci := 7) (v := .int orders) C hm7_readsOrder_0 0 rfl rfl 20 (by decide) hm7_readsOrder_4 rfl dX7_readsOrder_157 ?_
    refine g_iconst (v := (1 : Int32)) C dX7_readsOrder_160 (by decide +kernel) ?_
    refine g_iadd C dX7_readsOrder_161 ?_
    refine g_put (C0 := RX7) (T := TX7) (N := 24) (ci := 7) (ty := .int) (WS' := [(mo, oB 7 [.ref mo_now, .ref mo_aside, .ref mo_past, .int states, .ref mo_refusals, .ref mo_text, .int length, .ref mo_vars, .ref mo_sights, .int many, .int steps, .int isCut, .ref mo_isThere, .ref mo_taints, .ref mo_known, .int taint, .ref mo_knows, .int isOther, .int (y1 + y2), .int isFaulty, .int (orders + (1 : Int32)), .ref mo_letters, .ref mo_numbers, .long hash]), (mo_text, aI G 120 text), (mo_letters, aI G 41 (upd letters orders.toNatClampNeg x1)), (mo_numbers, aI G 164 numbers)]) C hm7_readsOrder_0 tyX7 tyX7_ok nmX7 0 rfl rfl 20 (by decide) hm7_readsOrder_4 rfl rfl rfl rfl (Nat.le_of_ble_eq_true rfl) dX7_readsOrder_162 rfl ?_
    obtain rfl := Option.some.inj hf
    exact hR _ _ dX7_readsOrder_165
set_option maxHeartbeats 4000000 in
set_option maxRecDepth 100000 in
theorem k7_readsOrder_114 {p : Program} {l : Launch} {e : Env} {s : State} {m : MethodId} {args : Array Value} {below : List Frame} {meth : Method} {c : Code} {G : gG} {A : Nat → Prop} {Q : State → Prop} {mo mo_now mo_aside mo_past mo_refusals mo_text mo_vars mo_sights mo_isThere mo_taints mo_known mo_knows mo_letters mo_numbers : Nat} (C : CX p s m args meth c G A cX7_readsOrder 4 RX7 wsX7_readsOrder) {states : Int32} {many : Int32} {steps : Int32} {isCut : Int32} {taint : Int32} {isOther : Int32} {hash : Int64} {text : Nat → Int32} {length : Int32} {at_ : Int32} {isFaulty : Int32} {orders : Int32} {letters : Nat → Int32} {numbers : Nat → Int32} {x1 : Int32} {x2 : Int32} {x3 : Int32} {y1 : Int32} {res : Int32 × Int32 × Int32 × (Nat → Int32) × (Nat → Int32)} (hR : ∀ (lv : List (Nat × Value)) (pc : Nat), decode cX7_readsOrder pc = .ok (.return_, 1) → GG p l e rm7_readsOrder s m args below meth c G A 4 0 0 Q [(mo, oB 7 [.ref mo_now, .ref mo_aside, .ref mo_past, .int states, .ref mo_refusals, .ref mo_text, .int length, .ref mo_vars, .ref mo_sights, .int many, .int steps, .int isCut, .ref mo_isThere, .ref mo_taints, .ref mo_known, .int taint, .ref mo_knows, .int isOther, .int res.1, .int res.2.1, .int res.2.2.1, .ref mo_letters, .ref mo_numbers, .long hash]), (mo_text, aI G 120 text), (mo_letters, aI G 41 res.2.2.2.1), (mo_numbers, aI G 164 res.2.2.2.2)] lv pc [])
    (hf : f7_readsOrder_114 text length at_ isFaulty orders letters numbers x1 x2 x3 y1 = some res) : GG p l e rm7_readsOrder s m args below meth c G A 4 0 0 Q [(mo, oB 7 [.ref mo_now, .ref mo_aside, .ref mo_past, .int states, .ref mo_refusals, .ref mo_text, .int length, .ref mo_vars, .ref mo_sights, .int many, .int steps, .int isCut, .ref mo_isThere, .ref mo_taints, .ref mo_known, .int taint, .ref mo_knows, .int isOther, .int at_, .int isFaulty, .int orders, .ref mo_letters, .ref mo_numbers, .long hash]), (mo_text, aI G 120 text), (mo_letters, aI G 41 letters), (mo_numbers, aI G 164 numbers)] [(0, .ref mo), (1, .int x1), (2, .int x2), (3, .int x3)] 114 [.int y1, .ref mo] := by
  unfold f7_readsOrder_114 at hf
  obtain ⟨h3, hf⟩ := ck_some hf
  refine g_put (C0 := RX7) (T := TX7) (N := 24) (ci := 7) (ty := .boolean) (WS' := [(mo, oB 7 [.ref mo_now, .ref mo_aside, .ref mo_past, .int states, .ref mo_refusals, .ref mo_text, .int length, .ref mo_vars, .ref mo_sights, .int many, .int steps, .int isCut, .ref mo_isThere, .ref mo_taints, .ref mo_known, .int taint, .ref mo_knows, .int isOther, .int at_, .int y1, .int orders, .ref mo_letters, .ref mo_numbers, .long hash]), (mo_text, aI G 120 text), (mo_letters, aI G 41 letters), (mo_numbers, aI G 164 numbers)]) C hm7_readsOrder_0 tyX7 tyX7_ok nmX7 0 rfl rfl 19 (by decide) hm7_readsOrder_2 rfl rfl (isb_n h3) (isb_f h3) (Nat.le_of_ble_eq_true rfl) dX7_readsOrder_114 rfl ?_
  refine g_aload_n C dX7_readsOrder_117 rfl 0 rfl ?_
  refine g_dup C dX7_readsOrder_118 rfl ?_
  refine g_get (C0 := RX7) (T := TX7) (N := 24) (ci := 7) (v := .int at_) C hm7_readsOrder_0 0 rfl rfl 18 (by decide) hm7_readsOrder_1 rfl dX7_readsOrder_119 ?_
  refine g_aload_n C dX7_readsOrder_122 rfl 0 rfl ?_
  refine g_get (C0 := RX7) (T := TX7) (N := 24) (ci := 7) (v := .int y1) C hm7_readsOrder_0 0 rfl rfl 19 (by decide) hm7_readsOrder_2 rfl dX7_readsOrder_123 ?_
  refine g_if_eq (tgt := 133) C dX7_readsOrder_126 (by decide) (fun c4 => ?_) (fun c4 => ?_)
  · replace hf := ite_t c4 hf
    refine g_iconst (v := (1 : Int32)) C dX7_readsOrder_133 (by decide +kernel) ?_
    exact k7_readsOrder_134 C hR hf
  · replace hf := ite_f c4 hf
    refine g_iconst (v := (0 : Int32)) C dX7_readsOrder_129 (by decide +kernel) ?_
    refine g_goto (tgt := 134) C dX7_readsOrder_130 (by decide) ?_
    exact k7_readsOrder_134 C hR hf
set_option maxHeartbeats 4000000 in
set_option maxRecDepth 100000 in
theorem k7_readsOrder_51b {p : Program} {l : Launch} {e : Env} {s : State} {m : MethodId} {args : Array Value} {below : List Frame} {meth : Method} {c : Code} {G : gG} {A : Nat → Prop} {Q : State → Prop} {mo mo_now mo_aside mo_past mo_refusals mo_text mo_vars mo_sights mo_isThere mo_taints mo_known mo_knows mo_letters mo_numbers : Nat} (C : CX p s m args meth c G A cX7_readsOrder 4 RX7 wsX7_readsOrder) {states : Int32} {many : Int32} {steps : Int32} {isCut : Int32} {taint : Int32} {isOther : Int32} {hash : Int64} {text : Nat → Int32} {length : Int32} {k51 : Int32 × Int32 × Int32 × (Nat → Int32) × (Nat → Int32) × Int32 × Int32 × Int32 → Option (Int32 × Int32 × Int32 × (Nat → Int32) × (Nat → Int32))} {at_ : Int32} {isFaulty : Int32} {orders : Int32} {letters : Nat → Int32} {numbers : Nat → Int32} {x1 : Int32} {x2 : Int32} {x3 : Int32} {res : Int32 × Int32 × Int32 × (Nat → Int32) × (Nat → Int32)} (hR : ∀ (lv : List (Nat × Value)) (pc : Nat), decode cX7_readsOrder pc = .ok (.return_, 1) → GG p l e rm7_readsOrder s m args below meth c G A 4 0 0 Q [(mo, oB 7 [.ref mo_now, .ref mo_aside, .ref mo_past, .int states, .ref mo_refusals, .ref mo_text, .int length, .ref mo_vars, .ref mo_sights, .int many, .int steps, .int isCut, .ref mo_isThere, .ref mo_taints, .ref mo_known, .int taint, .ref mo_knows, .int isOther, .int res.1, .int res.2.1, .int res.2.2.1, .ref mo_letters, .ref mo_numbers, .long hash]), (mo_text, aI G 120 text), (mo_letters, aI G 41 res.2.2.2.1), (mo_numbers, aI G 164 res.2.2.2.2)] lv pc [])
    (hk51 : ∀ s', k51 s' = some res → GG p l e rm7_readsOrder s m args below meth c G A 4 0 0 Q [(mo, oB 7 [.ref mo_now, .ref mo_aside, .ref mo_past, .int states, .ref mo_refusals, .ref mo_text, .int length, .ref mo_vars, .ref mo_sights, .int many, .int steps, .int isCut, .ref mo_isThere, .ref mo_taints, .ref mo_known, .int taint, .ref mo_knows, .int isOther, .int s'.1, .int s'.2.1, .int s'.2.2.1, .ref mo_letters, .ref mo_numbers, .long hash]), (mo_text, aI G 120 text), (mo_letters, aI G 41 s'.2.2.2.1), (mo_numbers, aI G 164 s'.2.2.2.2.1)] [(0, .ref mo), (1, .int s'.2.2.2.2.2.1), (2, .int s'.2.2.2.2.2.2.1), (3, .int s'.2.2.2.2.2.2.2)] 51 [])
    (hf : f7_readsOrder_51b text length k51 at_ isFaulty orders letters numbers x1 x2 x3 = some res) : GG p l e rm7_readsOrder s m args below meth c G A 4 0 0 Q [(mo, oB 7 [.ref mo_now, .ref mo_aside, .ref mo_past, .int states, .ref mo_refusals, .ref mo_text, .int length, .ref mo_vars, .ref mo_sights, .int many, .int steps, .int isCut, .ref mo_isThere, .ref mo_taints, .ref mo_known, .int taint, .ref mo_knows, .int isOther, .int at_, .int isFaulty, .int orders, .ref mo_letters, .ref mo_numbers, .long hash]), (mo_text, aI G 120 text), (mo_letters, aI G 41 letters), (mo_numbers, aI G 164 numbers)] [(0, .ref mo), (1, .int x1), (2, .int x2), (3, .int x3)] 51 [] := by
  unfold f7_readsOrder_51b at hf
  refine g_iload_n C dX7_readsOrder_51 rfl 3 rfl ?_
  refine g_iload_n C dX7_readsOrder_52 rfl 2 rfl ?_
  refine g_icmp_ge (tgt := 86) C dX7_readsOrder_53 (by decide) (fun c5 => ?_) (fun c5 => ?_)
  · replace hf := ite_t c5 hf
    refine g_aload_n C dX7_readsOrder_86 rfl 0 rfl ?_
    refine g_get (C0 := RX7) (T := TX7) (N := 24) (ci := 7) (v := .int isFaulty) C hm7_readsOrder_0 0 rfl rfl 19 (by decide) hm7_readsOrder_2 rfl dX7_readsOrder_87 ?_
    refine g_if_ne (tgt := 138) C dX7_readsOrder_90 (by decide) (fun c6 => ?_) (fun c6 => ?_)
    · replace hf := ite_f c6 hf
      refine g_aload_n C dX7_readsOrder_138 rfl 0 rfl ?_
      refine g_get (C0 := RX7) (T := TX7) (N := 24) (ci := 7) (v := .int isFaulty) C hm7_readsOrder_0 0 rfl rfl 19 (by decide) hm7_readsOrder_2 rfl dX7_readsOrder_139 ?_
      refine g_if_ne (tgt := 165) C dX7_readsOrder_142 (by decide) (fun c7 => ?_) (fun c7 => ?_)
      · replace hf := ite_f c7 hf
        obtain rfl := Option.some.inj hf
        exact hR _ _ dX7_readsOrder_165
      · replace hf := ite_t c7 hf
        refine g_aload_n C dX7_readsOrder_145 rfl 0 rfl ?_
        refine g_get (C0 := RX7) (T := TX7) (N := 24) (ci := 7) (v := .ref mo_letters) C hm7_readsOrder_0 0 rfl rfl 21 (by decide) hm7_readsOrder_3 rfl dX7_readsOrder_146 ?_
        refine g_aload_n C dX7_readsOrder_149 rfl 0 rfl ?_
        refine g_get (C0 := RX7) (T := TX7) (N := 24) (ci := 7) (v := .int orders) C hm7_readsOrder_0 0 rfl rfl 20 (by decide) hm7_readsOrder_4 rfl dX7_readsOrder_150 ?_
        refine g_iload_n C dX7_readsOrder_153 rfl 1 rfl ?_
        obtain ⟨h8, hf⟩ := ck_some hf
        refine g_iast (n := 41) (WS' := [(mo, oB 7 [.ref mo_now, .ref mo_aside, .ref mo_past, .int states, .ref mo_refusals, .ref mo_text, .int length, .ref mo_vars, .ref mo_sights, .int many, .int steps, .int isCut, .ref mo_isThere, .ref mo_taints, .ref mo_known, .int taint, .ref mo_knows, .int isOther, .int at_, .int isFaulty, .int orders, .ref mo_letters, .ref mo_numbers, .long hash]), (mo_text, aI G 120 text), (mo_letters, aI G 41 (upd letters orders.toNatClampNeg x1)), (mo_numbers, aI G 164 numbers)]) C 2 rfl h8 rfl dX7_readsOrder_154 rfl ?_
        refine g_aload_n C dX7_readsOrder_155 rfl 0 rfl ?_
        refine g_dup C dX7_readsOrder_156 rfl ?_
        refine g_get (C0 := RX7) (T := TX7) (N := 24) (ci := 7) (v := .int orders) C hm7_readsOrder_0 0 rfl rfl 20 (by decide) hm7_readsOrder_4 rfl dX7_readsOrder_157 ?_
        refine g_iconst (v := (1 : Int32)) C dX7_readsOrder_160 (by decide +kernel) ?_
        refine g_iadd C dX7_readsOrder_161 ?_
        refine g_put (C0 := RX7) (T := TX7) (N := 24) (ci := 7) (ty := .int) (WS' := [(mo, oB 7 [.ref mo_now, .ref mo_aside, .ref mo_past, .int states, .ref mo_refusals, .ref mo_text, .int length, .ref mo_vars, .ref mo_sights, .int many, .int steps, .int isCut, .ref mo_isThere, .ref mo_taints, .ref mo_known, .int taint, .ref mo_knows, .int isOther, .int at_, .int isFaulty, .int (orders + (1 : Int32)), .ref mo_letters, .ref mo_numbers, .long hash]), (mo_text, aI G 120 text), (mo_letters, aI G 41 (upd letters orders.toNatClampNeg x1)), (mo_numbers, aI G 164 numbers)]) C hm7_readsOrder_0 tyX7 tyX7_ok nmX7 0 rfl rfl 20 (by decide) hm7_readsOrder_4 rfl rfl rfl rfl (Nat.le_of_ble_eq_true rfl) dX7_readsOrder_162 rfl ?_
        obtain rfl := Option.some.inj hf
        exact hR _ _ dX7_readsOrder_165
    · replace hf := ite_t c6 hf
      refine g_aload_n C dX7_readsOrder_93 rfl 0 rfl ?_
      obtain ⟨q9, hq9, hf⟩ := bs hf
      refine g_callVv (n := 0) (As := []) (rest := []) (wc := [(mo, oB 7 [.ref mo_now, .ref mo_aside, .ref mo_past, .int states, .ref mo_refusals, .ref mo_text, .int length, .ref mo_vars, .ref mo_sights, .int many, .int steps, .int isCut, .ref mo_isThere, .ref mo_taints, .ref mo_known, .int taint, .ref mo_knows, .int isOther, .int at_, .int isFaulty, .int orders, .ref mo_letters, .ref mo_numbers, .long hash]), (mo_text, aI G 120 text)]) (w1 := [(mo, oB 7 [.ref mo_now, .ref mo_aside, .ref mo_past, .int states, .ref mo_refusals, .ref mo_text, .int length, .ref mo_vars, .ref mo_sights, .int many, .int steps, .int isCut, .ref mo_isThere, .ref mo_taints, .ref mo_known, .int taint, .ref mo_knows, .int isOther, .int q9, .int isFaulty, .int orders, .ref mo_letters, .ref mo_numbers, .long hash]), (mo_text, aI G 120 text)]) (wr := [(mo_letters, aI G 41 letters), (mo_numbers, aI G 164 numbers)]) (WS' := [(mo, oB 7 [.ref mo_now, .ref mo_aside, .ref mo_past, .int states, .ref mo_refusals, .ref mo_text, .int length, .ref mo_vars, .ref mo_sights, .int many, .int steps, .int isCut, .ref mo_isThere, .ref mo_taints, .ref mo_known, .int taint, .ref mo_knows, .int isOther, .int q9, .int isFaulty, .int orders, .ref mo_letters, .ref mo_numbers, .long hash]), (mo_text, aI G 120 text), (mo_letters, aI G 41 letters), (mo_numbers, aI G 164 numbers)]) C (c7_blanks hq9) gX7_readsOrder_X7_blanks (by decide +kernel) rfl rfl rfl rfl rfl rfl ⟨by decide, by decide⟩ rfl [0, 1] [2, 3] [2, 3, 0, 1] rfl (by decide) rfl (by decide) (by decide) rfl (by decide) (Nat.le_of_ble_eq_true rfl) ⟨Nat.zero_le _, Nat.zero_le _⟩ rfl dX7_readsOrder_94 ?_
      refine g_aload_n C dX7_readsOrder_97 rfl 0 rfl ?_
      refine g_aload_n C dX7_readsOrder_98 rfl 0 rfl ?_
      refine g_bipush (v := (59 : Int32)) C dX7_readsOrder_99 (by decide +kernel) ?_
      refine g_bipush (v := (59 : Int32)) C dX7_readsOrder_101 (by decide +kernel) ?_
      obtain ⟨q10, hq10, hf⟩ := bs hf
      refine g_callVi (n := 2) (As := [.int (59 : Int32), .int (59 : Int32)]) (rest := [.ref mo]) (wc := [(mo, oB 7 [.ref mo_now, .ref mo_aside, .ref mo_past, .int states, .ref mo_refusals, .ref mo_text, .int length, .ref mo_vars, .ref mo_sights, .int many, .int steps, .int isCut, .ref mo_isThere, .ref mo_taints, .ref mo_known, .int taint, .ref mo_knows, .int isOther, .int q9, .int isFaulty, .int orders, .ref mo_letters, .ref mo_numbers, .long hash]), (mo_text, aI G 120 text)]) (w1 := [(mo, oB 7 [.ref mo_now, .ref mo_aside, .ref mo_past, .int states, .ref mo_refusals, .ref mo_text, .int length, .ref mo_vars, .ref mo_sights, .int many, .int steps, .int isCut, .ref mo_isThere, .ref mo_taints, .ref mo_known, .int taint, .ref mo_knows, .int isOther, .int q9, .int isFaulty, .int orders, .ref mo_letters, .ref mo_numbers, .long hash]), (mo_text, aI G 120 text)]) (wr := [(mo_letters, aI G 41 letters), (mo_numbers, aI G 164 numbers)]) (WS' := [(mo, oB 7 [.ref mo_now, .ref mo_aside, .ref mo_past, .int states, .ref mo_refusals, .ref mo_text, .int length, .ref mo_vars, .ref mo_sights, .int many, .int steps, .int isCut, .ref mo_isThere, .ref mo_taints, .ref mo_known, .int taint, .ref mo_knows, .int isOther, .int q9, .int isFaulty, .int orders, .ref mo_letters, .ref mo_numbers, .long hash]), (mo_text, aI G 120 text), (mo_letters, aI G 41 letters), (mo_numbers, aI G 164 numbers)]) C (c7_isAt hq10) gX7_readsOrder_X7_isAt (by decide +kernel) rfl rfl rfl rfl rfl rfl ⟨by decide, by decide⟩ rfl [0, 1] [2, 3] [2, 3, 0, 1] rfl (by decide) rfl (by decide) (by decide) rfl (by decide) (Nat.le_of_ble_eq_true rfl) ⟨Nat.zero_le _, Nat.zero_le _⟩ rfl dX7_readsOrder_103 ?_
      refine g_if_ne (tgt := 113) C dX7_readsOrder_106 (by decide) (fun c11 => ?_) (fun c11 => ?_)
      · replace hf := ite_f c11 hf
        refine g_iconst (v := (0 : Int32)) C dX7_readsOrder_113 (by decide +kernel) ?_
        exact k7_readsOrder_114 C hR hf
      · replace hf := ite_t c11 hf
        refine g_iconst (v := (1 : Int32)) C dX7_readsOrder_109 (by decide +kernel) ?_
        refine g_goto (tgt := 114) C dX7_readsOrder_110 (by decide) ?_
        exact k7_readsOrder_114 C hR hf
  · replace hf := ite_f c5 hf
    refine g_aload_n C dX7_readsOrder_56 rfl 0 rfl ?_
    refine g_get (C0 := RX7) (T := TX7) (N := 24) (ci := 7) (v := .int isFaulty) C hm7_readsOrder_0 0 rfl rfl 19 (by decide) hm7_readsOrder_2 rfl dX7_readsOrder_57 ?_
    refine g_if_ne (tgt := 86) C dX7_readsOrder_60 (by decide) (fun c12 => ?_) (fun c12 => ?_)
    · replace hf := ite_f c12 hf
      refine g_aload_n C dX7_readsOrder_86 rfl 0 rfl ?_
      refine g_get (C0 := RX7) (T := TX7) (N := 24) (ci := 7) (v := .int isFaulty) C hm7_readsOrder_0 0 rfl rfl 19 (by decide) hm7_readsOrder_2 rfl dX7_readsOrder_87 ?_
      refine g_if_ne (tgt := 138) C dX7_readsOrder_90 (by decide) (fun c13 => ?_) (fun c13 => ?_)
      · replace hf := ite_f c13 hf
        refine g_aload_n C dX7_readsOrder_138 rfl 0 rfl ?_
        refine g_get (C0 := RX7) (T := TX7) (N := 24) (ci := 7) (v := .int isFaulty) C hm7_readsOrder_0 0 rfl rfl 19 (by decide) hm7_readsOrder_2 rfl dX7_readsOrder_139 ?_
        refine g_if_ne (tgt := 165) C dX7_readsOrder_142 (by decide) (fun c14 => ?_) (fun c14 => ?_)
        · replace hf := ite_f c14 hf
          obtain rfl := Option.some.inj hf
          exact hR _ _ dX7_readsOrder_165
        · replace hf := ite_t c14 hf
          refine g_aload_n C dX7_readsOrder_145 rfl 0 rfl ?_
          refine g_get (C0 := RX7) (T := TX7) (N := 24) (ci := 7) (v := .ref mo_letters) C hm7_readsOrder_0 0 rfl rfl 21 (by decide) hm7_readsOrder_3 rfl dX7_readsOrder_146 ?_
          refine g_aload_n C dX7_readsOrder_149 rfl 0 rfl ?_
          refine g_get (C0 := RX7) (T := TX7) (N := 24) (ci := 7) (v := .int orders) C hm7_readsOrder_0 0 rfl rfl 20 (by decide) hm7_readsOrder_4 rfl dX7_readsOrder_150 ?_
          refine g_iload_n C dX7_readsOrder_153 rfl 1 rfl ?_
          obtain ⟨h15, hf⟩ := ck_some hf
          refine g_iast (n := 41) (WS' := [(mo, oB 7 [.ref mo_now, .ref mo_aside, .ref mo_past, .int states, .ref mo_refusals, .ref mo_text, .int length, .ref mo_vars, .ref mo_sights, .int many, .int steps, .int isCut, .ref mo_isThere, .ref mo_taints, .ref mo_known, .int taint, .ref mo_knows, .int isOther, .int at_, .int isFaulty, .int orders, .ref mo_letters, .ref mo_numbers, .long hash]), (mo_text, aI G 120 text), (mo_letters, aI G 41 (upd letters orders.toNatClampNeg x1)), (mo_numbers, aI G 164 numbers)]) C 2 rfl h15 rfl dX7_readsOrder_154 rfl ?_
          refine g_aload_n C dX7_readsOrder_155 rfl 0 rfl ?_
          refine g_dup C dX7_readsOrder_156 rfl ?_
          refine g_get (C0 := RX7) (T := TX7) (N := 24) (ci := 7) (v := .int orders) C hm7_readsOrder_0 0 rfl rfl 20 (by decide) hm7_readsOrder_4 rfl dX7_readsOrder_157 ?_
          refine g_iconst (v := (1 : Int32)) C dX7_readsOrder_160 (by decide +kernel) ?_
          refine g_iadd C dX7_readsOrder_161 ?_
          refine g_put (C0 := RX7) (T := TX7) (N := 24) (ci := 7) (ty := .int) (WS' := [(mo, oB 7 [.ref mo_now, .ref mo_aside, .ref mo_past, .int states, .ref mo_refusals, .ref mo_text, .int length, .ref mo_vars, .ref mo_sights, .int many, .int steps, .int isCut, .ref mo_isThere, .ref mo_taints, .ref mo_known, .int taint, .ref mo_knows, .int isOther, .int at_, .int isFaulty, .int (orders + (1 : Int32)), .ref mo_letters, .ref mo_numbers, .long hash]), (mo_text, aI G 120 text), (mo_letters, aI G 41 (upd letters orders.toNatClampNeg x1)), (mo_numbers, aI G 164 numbers)]) C hm7_readsOrder_0 tyX7 tyX7_ok nmX7 0 rfl rfl 20 (by decide) hm7_readsOrder_4 rfl rfl rfl rfl (Nat.le_of_ble_eq_true rfl) dX7_readsOrder_162 rfl ?_
          obtain rfl := Option.some.inj hf
          exact hR _ _ dX7_readsOrder_165
      · replace hf := ite_t c13 hf
        refine g_aload_n C dX7_readsOrder_93 rfl 0 rfl ?_
        obtain ⟨q16, hq16, hf⟩ := bs hf
        refine g_callVv (n := 0) (As := []) (rest := []) (wc := [(mo, oB 7 [.ref mo_now, .ref mo_aside, .ref mo_past, .int states, .ref mo_refusals, .ref mo_text, .int length, .ref mo_vars, .ref mo_sights, .int many, .int steps, .int isCut, .ref mo_isThere, .ref mo_taints, .ref mo_known, .int taint, .ref mo_knows, .int isOther, .int at_, .int isFaulty, .int orders, .ref mo_letters, .ref mo_numbers, .long hash]), (mo_text, aI G 120 text)]) (w1 := [(mo, oB 7 [.ref mo_now, .ref mo_aside, .ref mo_past, .int states, .ref mo_refusals, .ref mo_text, .int length, .ref mo_vars, .ref mo_sights, .int many, .int steps, .int isCut, .ref mo_isThere, .ref mo_taints, .ref mo_known, .int taint, .ref mo_knows, .int isOther, .int q16, .int isFaulty, .int orders, .ref mo_letters, .ref mo_numbers, .long hash]), (mo_text, aI G 120 text)]) (wr := [(mo_letters, aI G 41 letters), (mo_numbers, aI G 164 numbers)]) (WS' := [(mo, oB 7 [.ref mo_now, .ref mo_aside, .ref mo_past, .int states, .ref mo_refusals, .ref mo_text, .int length, .ref mo_vars, .ref mo_sights, .int many, .int steps, .int isCut, .ref mo_isThere, .ref mo_taints, .ref mo_known, .int taint, .ref mo_knows, .int isOther, .int q16, .int isFaulty, .int orders, .ref mo_letters, .ref mo_numbers, .long hash]), (mo_text, aI G 120 text), (mo_letters, aI G 41 letters), (mo_numbers, aI G 164 numbers)]) C (c7_blanks hq16) gX7_readsOrder_X7_blanks (by decide +kernel) rfl rfl rfl rfl rfl rfl ⟨by decide, by decide⟩ rfl [0, 1] [2, 3] [2, 3, 0, 1] rfl (by decide) rfl (by decide) (by decide) rfl (by decide) (Nat.le_of_ble_eq_true rfl) ⟨Nat.zero_le _, Nat.zero_le _⟩ rfl dX7_readsOrder_94 ?_
        refine g_aload_n C dX7_readsOrder_97 rfl 0 rfl ?_
        refine g_aload_n C dX7_readsOrder_98 rfl 0 rfl ?_
        refine g_bipush (v := (59 : Int32)) C dX7_readsOrder_99 (by decide +kernel) ?_
        refine g_bipush (v := (59 : Int32)) C dX7_readsOrder_101 (by decide +kernel) ?_
        obtain ⟨q17, hq17, hf⟩ := bs hf
        refine g_callVi (n := 2) (As := [.int (59 : Int32), .int (59 : Int32)]) (rest := [.ref mo]) (wc := [(mo, oB 7 [.ref mo_now, .ref mo_aside, .ref mo_past, .int states, .ref mo_refusals, .ref mo_text, .int length, .ref mo_vars, .ref mo_sights, .int many, .int steps, .int isCut, .ref mo_isThere, .ref mo_taints, .ref mo_known, .int taint, .ref mo_knows, .int isOther, .int q16, .int isFaulty, .int orders, .ref mo_letters, .ref mo_numbers, .long hash]), (mo_text, aI G 120 text)]) (w1 := [(mo, oB 7 [.ref mo_now, .ref mo_aside, .ref mo_past, .int states, .ref mo_refusals, .ref mo_text, .int length, .ref mo_vars, .ref mo_sights, .int many, .int steps, .int isCut, .ref mo_isThere, .ref mo_taints, .ref mo_known, .int taint, .ref mo_knows, .int isOther, .int q16, .int isFaulty, .int orders, .ref mo_letters, .ref mo_numbers, .long hash]), (mo_text, aI G 120 text)]) (wr := [(mo_letters, aI G 41 letters), (mo_numbers, aI G 164 numbers)]) (WS' := [(mo, oB 7 [.ref mo_now, .ref mo_aside, .ref mo_past, .int states, .ref mo_refusals, .ref mo_text, .int length, .ref mo_vars, .ref mo_sights, .int many, .int steps, .int isCut, .ref mo_isThere, .ref mo_taints, .ref mo_known, .int taint, .ref mo_knows, .int isOther, .int q16, .int isFaulty, .int orders, .ref mo_letters, .ref mo_numbers, .long hash]), (mo_text, aI G 120 text), (mo_letters, aI G 41 letters), (mo_numbers, aI G 164 numbers)]) C (c7_isAt hq17) gX7_readsOrder_X7_isAt (by decide +kernel) rfl rfl rfl rfl rfl rfl ⟨by decide, by decide⟩ rfl [0, 1] [2, 3] [2, 3, 0, 1] rfl (by decide) rfl (by decide) (by decide) rfl (by decide) (Nat.le_of_ble_eq_true rfl) ⟨Nat.zero_le _, Nat.zero_le _⟩ rfl dX7_readsOrder_103 ?_
        refine g_if_ne (tgt := 113) C dX7_readsOrder_106 (by decide) (fun c18 => ?_) (fun c18 => ?_)
        · replace hf := ite_f c18 hf
          refine g_iconst (v := (0 : Int32)) C dX7_readsOrder_113 (by decide +kernel) ?_
          exact k7_readsOrder_114 C hR hf
        · replace hf := ite_t c18 hf
          refine g_iconst (v := (1 : Int32)) C dX7_readsOrder_109 (by decide +kernel) ?_
          refine g_goto (tgt := 114) C dX7_readsOrder_110 (by decide) ?_
          exact k7_readsOrder_114 C hR hf
    · replace hf := ite_t c12 hf
      refine g_aload_n C dX7_readsOrder_63 rfl 0 rfl ?_
      refine g_get (C0 := RX7) (T := TX7) (N := 24) (ci := 7) (v := .ref mo_numbers) C hm7_readsOrder_0 0 rfl rfl 22 (by decide) hm7_readsOrder_5 rfl dX7_readsOrder_64 ?_
      refine g_iconst (v := (4 : Int32)) C dX7_readsOrder_67 (by decide +kernel) ?_
      refine g_aload_n C dX7_readsOrder_68 rfl 0 rfl ?_
      refine g_get (C0 := RX7) (T := TX7) (N := 24) (ci := 7) (v := .int orders) C hm7_readsOrder_0 0 rfl rfl 20 (by decide) hm7_readsOrder_4 rfl dX7_readsOrder_69 ?_
      refine g_imul C dX7_readsOrder_72 ?_
      refine g_iload_n C dX7_readsOrder_73 rfl 3 rfl ?_
      refine g_iadd C dX7_readsOrder_74 ?_
      refine g_aload_n C dX7_readsOrder_75 rfl 0 rfl ?_
      obtain ⟨q19, hq19, hf⟩ := bs hf
      refine g_callVi (n := 0) (As := []) (rest := [.int (((4 : Int32) * orders) + x3), .ref mo_numbers]) (wc := [(mo, oB 7 [.ref mo_now, .ref mo_aside, .ref mo_past, .int states, .ref mo_refusals, .ref mo_text, .int length, .ref mo_vars, .ref mo_sights, .int many, .int steps, .int isCut, .ref mo_isThere, .ref mo_taints, .ref mo_known, .int taint, .ref mo_knows, .int isOther, .int at_, .int isFaulty, .int orders, .ref mo_letters, .ref mo_numbers, .long hash]), (mo_text, aI G 120 text)]) (w1 := [(mo, oB 7 [.ref mo_now, .ref mo_aside, .ref mo_past, .int states, .ref mo_refusals, .ref mo_text, .int length, .ref mo_vars, .ref mo_sights, .int many, .int steps, .int isCut, .ref mo_isThere, .ref mo_taints, .ref mo_known, .int taint, .ref mo_knows, .int isOther, .int q19.2.1, .int q19.2.2, .int orders, .ref mo_letters, .ref mo_numbers, .long hash]), (mo_text, aI G 120 text)]) (wr := [(mo_letters, aI G 41 letters), (mo_numbers, aI G 164 numbers)]) (WS' := [(mo, oB 7 [.ref mo_now, .ref mo_aside, .ref mo_past, .int states, .ref mo_refusals, .ref mo_text, .int length, .ref mo_vars, .ref mo_sights, .int many, .int steps, .int isCut, .ref mo_isThere, .ref mo_taints, .ref mo_known, .int taint, .ref mo_knows, .int isOther, .int q19.2.1, .int q19.2.2, .int orders, .ref mo_letters, .ref mo_numbers, .long hash]), (mo_text, aI G 120 text), (mo_letters, aI G 41 letters), (mo_numbers, aI G 164 numbers)]) C (c7_number hq19) gX7_readsOrder_X7_number (by decide +kernel) rfl rfl rfl rfl rfl rfl ⟨by decide, by decide⟩ rfl [0, 1] [2, 3] [2, 3, 0, 1] rfl (by decide) rfl (by decide) (by decide) rfl (by decide) (Nat.le_of_ble_eq_true rfl) ⟨Nat.zero_le _, Nat.zero_le _⟩ rfl dX7_readsOrder_76 ?_
      obtain ⟨h20, hf⟩ := ck_some hf
      refine g_iast (n := 164) (WS' := [(mo, oB 7 [.ref mo_now, .ref mo_aside, .ref mo_past, .int states, .ref mo_refusals, .ref mo_text, .int length, .ref mo_vars, .ref mo_sights, .int many, .int steps, .int isCut, .ref mo_isThere, .ref mo_taints, .ref mo_known, .int taint, .ref mo_knows, .int isOther, .int q19.2.1, .int q19.2.2, .int orders, .ref mo_letters, .ref mo_numbers, .long hash]), (mo_text, aI G 120 text), (mo_letters, aI G 41 letters), (mo_numbers, aI G 164 (upd numbers (((4 : Int32) * orders) + x3).toNatClampNeg q19.1))]) C 3 rfl h20 rfl dX7_readsOrder_79 rfl ?_
      refine g_iinc (v := (x3 + (1 : Int32))) (lv' := [(0, .ref mo), (1, .int x1), (2, .int x2), (3, .int (x3 + (1 : Int32)))]) C dX7_readsOrder_80 3 rfl rfl (by decide) [1, 2, 3, 0] rfl ?_
      refine g_goto (tgt := 51) C dX7_readsOrder_83 (by decide) ?_
      exact hk51 _ hf
set_option maxHeartbeats 4000000 in
set_option maxRecDepth 100000 in
theorem k7_readsOrder_51 {p : Program} {l : Launch} {e : Env} {s : State} {m : MethodId} {args : Array Value} {below : List Frame} {meth : Method} {c : Code} {G : gG} {A : Nat → Prop} {Q : State → Prop} {mo mo_now mo_aside mo_past mo_refusals mo_text mo_vars mo_sights mo_isThere mo_taints mo_known mo_knows mo_letters mo_numbers : Nat} (C : CX p s m args meth c G A cX7_readsOrder 4 RX7 wsX7_readsOrder) {states : Int32} {many : Int32} {steps : Int32} {isCut : Int32} {taint : Int32} {isOther : Int32} {hash : Int64} {text : Nat → Int32} {length : Int32} {res : Int32 × Int32 × Int32 × (Nat → Int32) × (Nat → Int32)} (hR : ∀ (lv : List (Nat × Value)) (pc : Nat), decode cX7_readsOrder pc = .ok (.return_, 1) → GG p l e rm7_readsOrder s m args below meth c G A 4 0 0 Q [(mo, oB 7 [.ref mo_now, .ref mo_aside, .ref mo_past, .int states, .ref mo_refusals, .ref mo_text, .int length, .ref mo_vars, .ref mo_sights, .int many, .int steps, .int isCut, .ref mo_isThere, .ref mo_taints, .ref mo_known, .int taint, .ref mo_knows, .int isOther, .int res.1, .int res.2.1, .int res.2.2.1, .ref mo_letters, .ref mo_numbers, .long hash]), (mo_text, aI G 120 text), (mo_letters, aI G 41 res.2.2.2.1), (mo_numbers, aI G 164 res.2.2.2.2)] lv pc []) : ∀ (n : Nat) (s1 : Int32 × Int32 × Int32 × (Nat → Int32) × (Nat → Int32) × Int32 × Int32 × Int32), f7_readsOrder_51 text length n s1 = some res → GG p l e rm7_readsOrder s m args below meth c G A 4 0 0 Q [(mo, oB 7 [.ref mo_now, .ref mo_aside, .ref mo_past, .int states, .ref mo_refusals, .ref mo_text, .int length, .ref mo_vars, .ref mo_sights, .int many, .int steps, .int isCut, .ref mo_isThere, .ref mo_taints, .ref mo_known, .int taint, .ref mo_knows, .int isOther, .int s1.1, .int s1.2.1, .int s1.2.2.1, .ref mo_letters, .ref mo_numbers, .long hash]), (mo_text, aI G 120 text), (mo_letters, aI G 41 s1.2.2.2.1), (mo_numbers, aI G 164 s1.2.2.2.2.1)] [(0, .ref mo), (1, .int s1.2.2.2.2.2.1), (2, .int s1.2.2.2.2.2.2.1), (3, .int s1.2.2.2.2.2.2.2)] 51 [] :=
  itf_ind (fun k s1 ih hf => k7_readsOrder_51b C hR ih hf)
set_option maxHeartbeats 4000000 in
set_option maxRecDepth 100000 in
theorem k7_readsOrder_45 {p : Program} {l : Launch} {e : Env} {s : State} {m : MethodId} {args : Array Value} {below : List Frame} {meth : Method} {c : Code} {G : gG} {A : Nat → Prop} {Q : State → Prop} {mo mo_now mo_aside mo_past mo_refusals mo_text mo_vars mo_sights mo_isThere mo_taints mo_known mo_knows mo_letters mo_numbers : Nat} (C : CX p s m args meth c G A cX7_readsOrder 4 RX7 wsX7_readsOrder) {states : Int32} {many : Int32} {steps : Int32} {isCut : Int32} {taint : Int32} {isOther : Int32} {hash : Int64} {text : Nat → Int32} {length : Int32} {at_ : Int32} {isFaulty : Int32} {orders : Int32} {letters : Nat → Int32} {numbers : Nat → Int32} {x1 : Int32} {x2 : Int32} {y1 : Int32} {y2 : Int32} {res : Int32 × Int32 × Int32 × (Nat → Int32) × (Nat → Int32)} (hR : ∀ (lv : List (Nat × Value)) (pc : Nat), decode cX7_readsOrder pc = .ok (.return_, 1) → GG p l e rm7_readsOrder s m args below meth c G A 4 0 0 Q [(mo, oB 7 [.ref mo_now, .ref mo_aside, .ref mo_past, .int states, .ref mo_refusals, .ref mo_text, .int length, .ref mo_vars, .ref mo_sights, .int many, .int steps, .int isCut, .ref mo_isThere, .ref mo_taints, .ref mo_known, .int taint, .ref mo_knows, .int isOther, .int res.1, .int res.2.1, .int res.2.2.1, .ref mo_letters, .ref mo_numbers, .long hash]), (mo_text, aI G 120 text), (mo_letters, aI G 41 res.2.2.2.1), (mo_numbers, aI G 164 res.2.2.2.2)] lv pc [])
    (hf : f7_readsOrder_45 text length at_ isFaulty orders letters numbers x1 x2 y1 y2 = some res) : GG p l e rm7_readsOrder s m args below meth c G A 4 0 0 Q [(mo, oB 7 [.ref mo_now, .ref mo_aside, .ref mo_past, .int states, .ref mo_refusals, .ref mo_text, .int length, .ref mo_vars, .ref mo_sights, .int many, .int steps, .int isCut, .ref mo_isThere, .ref mo_taints, .ref mo_known, .int taint, .ref mo_knows, .int isOther, .int at_, .int isFaulty, .int orders, .ref mo_letters, .ref mo_numbers, .long hash]), (mo_text, aI G 120 text), (mo_letters, aI G 41 letters), (mo_numbers, aI G 164 numbers)] [(0, .ref mo), (1, .int x1), (2, .int x2)] 45 [.int y2, .int y1, .ref mo] := by
  unfold f7_readsOrder_45 at hf
  refine g_iadd C dX7_readsOrder_45 ?_
  refine g_put (C0 := RX7) (T := TX7) (N := 24) (ci := 7) (ty := .int) (WS' := [(mo, oB 7 [.ref mo_now, .ref mo_aside, .ref mo_past, .int states, .ref mo_refusals, .ref mo_text, .int length, .ref mo_vars, .ref mo_sights, .int many, .int steps, .int isCut, .ref mo_isThere, .ref mo_taints, .ref mo_known, .int taint, .ref mo_knows, .int isOther, .int (y1 + y2), .int isFaulty, .int orders, .ref mo_letters, .ref mo_numbers, .long hash]), (mo_text, aI G 120 text), (mo_letters, aI G 41 letters), (mo_numbers, aI G 164 numbers)]) C hm7_readsOrder_0 tyX7 tyX7_ok nmX7 0 rfl rfl 18 (by decide) hm7_readsOrder_1 rfl rfl rfl rfl (Nat.le_of_ble_eq_true rfl) dX7_readsOrder_46 rfl ?_
  refine g_iconst (v := (0 : Int32)) C dX7_readsOrder_49 (by decide +kernel) ?_
  refine g_istore_n (lv' := [(0, .ref mo), (1, .int x1), (2, .int x2), (3, .int (0 : Int32))]) C dX7_readsOrder_50 rfl (by decide) [1, 2, 3, 0] rfl ?_
  exact k7_readsOrder_51 C hR _ _ hf
set_option maxHeartbeats 4000000 in
set_option maxRecDepth 100000 in
theorem k7_readsOrder_25 {p : Program} {l : Launch} {e : Env} {s : State} {m : MethodId} {args : Array Value} {below : List Frame} {meth : Method} {c : Code} {G : gG} {A : Nat → Prop} {Q : State → Prop} {mo mo_now mo_aside mo_past mo_refusals mo_text mo_vars mo_sights mo_isThere mo_taints mo_known mo_knows mo_letters mo_numbers : Nat} (C : CX p s m args meth c G A cX7_readsOrder 4 RX7 wsX7_readsOrder) {states : Int32} {many : Int32} {steps : Int32} {isCut : Int32} {taint : Int32} {isOther : Int32} {hash : Int64} {text : Nat → Int32} {length : Int32} {at_ : Int32} {isFaulty : Int32} {orders : Int32} {letters : Nat → Int32} {numbers : Nat → Int32} {x1 : Int32} {x2 : Int32} {y1 : Int32} {res : Int32 × Int32 × Int32 × (Nat → Int32) × (Nat → Int32)} (hR : ∀ (lv : List (Nat × Value)) (pc : Nat), decode cX7_readsOrder pc = .ok (.return_, 1) → GG p l e rm7_readsOrder s m args below meth c G A 4 0 0 Q [(mo, oB 7 [.ref mo_now, .ref mo_aside, .ref mo_past, .int states, .ref mo_refusals, .ref mo_text, .int length, .ref mo_vars, .ref mo_sights, .int many, .int steps, .int isCut, .ref mo_isThere, .ref mo_taints, .ref mo_known, .int taint, .ref mo_knows, .int isOther, .int res.1, .int res.2.1, .int res.2.2.1, .ref mo_letters, .ref mo_numbers, .long hash]), (mo_text, aI G 120 text), (mo_letters, aI G 41 res.2.2.2.1), (mo_numbers, aI G 164 res.2.2.2.2)] lv pc [])
    (hf : f7_readsOrder_25 text length at_ isFaulty orders letters numbers x1 x2 y1 = some res) : GG p l e rm7_readsOrder s m args below meth c G A 4 0 0 Q [(mo, oB 7 [.ref mo_now, .ref mo_aside, .ref mo_past, .int states, .ref mo_refusals, .ref mo_text, .int length, .ref mo_vars, .ref mo_sights, .int many, .int steps, .int isCut, .ref mo_isThere, .ref mo_taints, .ref mo_known, .int taint, .ref mo_knows, .int isOther, .int at_, .int isFaulty, .int orders, .ref mo_letters, .ref mo_numbers, .long hash]), (mo_text, aI G 120 text), (mo_letters, aI G 41 letters), (mo_numbers, aI G 164 numbers)] [(0, .ref mo), (1, .int x1), (2, .int x2)] 25 [.int y1, .ref mo] := by
  unfold f7_readsOrder_25 at hf
  obtain ⟨h21, hf⟩ := ck_some hf
  refine g_put (C0 := RX7) (T := TX7) (N := 24) (ci := 7) (ty := .boolean) (WS' := [(mo, oB 7 [.ref mo_now, .ref mo_aside, .ref mo_past, .int states, .ref mo_refusals, .ref mo_text, .int length, .ref mo_vars, .ref mo_sights, .int many, .int steps, .int isCut, .ref mo_isThere, .ref mo_taints, .ref mo_known, .int taint, .ref mo_knows, .int isOther, .int at_, .int y1, .int orders, .ref mo_letters, .ref mo_numbers, .long hash]), (mo_text, aI G 120 text), (mo_letters, aI G 41 letters), (mo_numbers, aI G 164 numbers)]) C hm7_readsOrder_0 tyX7 tyX7_ok nmX7 0 rfl rfl 19 (by decide) hm7_readsOrder_2 rfl rfl (isb_n h21) (isb_f h21) (Nat.le_of_ble_eq_true rfl) dX7_readsOrder_25 rfl ?_
  refine g_aload_n C dX7_readsOrder_28 rfl 0 rfl ?_
  refine g_dup C dX7_readsOrder_29 rfl ?_
  refine g_get (C0 := RX7) (T := TX7) (N := 24) (ci := 7) (v := .int at_) C hm7_readsOrder_0 0 rfl rfl 18 (by decide) hm7_readsOrder_1 rfl dX7_readsOrder_30 ?_
  refine g_aload_n C dX7_readsOrder_33 rfl 0 rfl ?_
  refine g_get (C0 := RX7) (T := TX7) (N := 24) (ci := 7) (v := .int y1) C hm7_readsOrder_0 0 rfl rfl 19 (by decide) hm7_readsOrder_2 rfl dX7_readsOrder_34 ?_
  refine g_if_eq (tgt := 44) C dX7_readsOrder_37 (by decide) (fun c22 => ?_) (fun c22 => ?_)
  · replace hf := ite_t c22 hf
    refine g_iconst (v := (1 : Int32)) C dX7_readsOrder_44 (by decide +kernel) ?_
    exact k7_readsOrder_45 C hR hf
  · replace hf := ite_f c22 hf
    refine g_iconst (v := (0 : Int32)) C dX7_readsOrder_40 (by decide +kernel) ?_
    refine g_goto (tgt := 45) C dX7_readsOrder_41 (by decide) ?_
    exact k7_readsOrder_45 C hR hf
set_option maxHeartbeats 4000000 in
set_option maxRecDepth 100000 in
theorem c7_readsOrder {l : Launch} {G : gG} {mo mo_now mo_aside mo_past mo_refusals mo_text mo_vars mo_sights mo_isThere mo_taints mo_known mo_knows mo_letters mo_numbers : Nat} {states : Int32} {text : Nat → Int32} {length : Int32} {many : Int32} {steps : Int32} {isCut : Int32} {taint : Int32} {isOther : Int32} {at_ : Int32} {isFaulty : Int32} {orders : Int32} {letters : Nat → Int32} {numbers : Nat → Int32} {hash : Int64} {res : Int32 × Int32 × Int32 × (Nat → Int32) × (Nat → Int32)} (hf : f7_readsOrder text length at_ isFaulty orders letters numbers = some res) : MV l yX7_readsOrder wsX7_readsOrder rm7_readsOrder G [.ref mo] [(mo, oB 7 [.ref mo_now, .ref mo_aside, .ref mo_past, .int states, .ref mo_refusals, .ref mo_text, .int length, .ref mo_vars, .ref mo_sights, .int many, .int steps, .int isCut, .ref mo_isThere, .ref mo_taints, .ref mo_known, .int taint, .ref mo_knows, .int isOther, .int at_, .int isFaulty, .int orders, .ref mo_letters, .ref mo_numbers, .long hash]), (mo_text, aI G 120 text), (mo_letters, aI G 41 letters), (mo_numbers, aI G 164 numbers)] [(mo, oB 7 [.ref mo_now, .ref mo_aside, .ref mo_past, .int states, .ref mo_refusals, .ref mo_text, .int length, .ref mo_vars, .ref mo_sights, .int many, .int steps, .int isCut, .ref mo_isThere, .ref mo_taints, .ref mo_known, .int taint, .ref mo_knows, .int isOther, .int res.1, .int res.2.1, .int res.2.2.1, .ref mo_letters, .ref mo_numbers, .long hash]), (mo_text, aI G 120 text), (mo_letters, aI G 41 res.2.2.2.1), (mo_numbers, aI G 164 res.2.2.2.2)] := by
  refine MV_of (cc := cX7_readsOrder) (nL := 4) (lv := [(0, .ref mo)]) (by decide +kernel) rfl (Nat.le_of_ble_eq_true rfl) rfl ?_
  intro p e s m args below meth c A Q C hR
  unfold f7_readsOrder at hf
  refine g_aload_n C dX7_readsOrder_0 rfl 0 rfl ?_
  refine g_get (C0 := RX7) (T := TX7) (N := 24) (ci := 7) (v := .ref mo_text) C hm7_readsOrder_0 0 rfl rfl 5 (by decide) hm7_readsOrder_6 rfl dX7_readsOrder_1 ?_
  refine g_aload_n C dX7_readsOrder_4 rfl 0 rfl ?_
  refine g_get (C0 := RX7) (T := TX7) (N := 24) (ci := 7) (v := .int at_) C hm7_readsOrder_0 0 rfl rfl 18 (by decide) hm7_readsOrder_1 rfl dX7_readsOrder_5 ?_
  obtain ⟨h23, hf⟩ := ck_some hf
  refine g_iald (n := 120) (v := (text at_.toNatClampNeg)) C 1 rfl h23 rfl rfl dX7_readsOrder_8 ?_
  refine g_istore_n (lv' := [(0, .ref mo), (1, .int (text at_.toNatClampNeg))]) C dX7_readsOrder_9 rfl (by decide) [1, 0] rfl ?_
  refine g_iload_n C dX7_readsOrder_10 rfl 1 rfl ?_
  obtain ⟨q24, hq24, hf⟩ := bs hf
  refine g_callSi (n := 1) (As := [.int (text at_.toNatClampNeg)]) (rest := []) (wc := []) (w1 := []) (wr := [(mo, oB 7 [.ref mo_now, .ref mo_aside, .ref mo_past, .int states, .ref mo_refusals, .ref mo_text, .int length, .ref mo_vars, .ref mo_sights, .int many, .int steps, .int isCut, .ref mo_isThere, .ref mo_taints, .ref mo_known, .int taint, .ref mo_knows, .int isOther, .int at_, .int isFaulty, .int orders, .ref mo_letters, .ref mo_numbers, .long hash]), (mo_text, aI G 120 text), (mo_letters, aI G 41 letters), (mo_numbers, aI G 164 numbers)]) (WS' := [(mo, oB 7 [.ref mo_now, .ref mo_aside, .ref mo_past, .int states, .ref mo_refusals, .ref mo_text, .int length, .ref mo_vars, .ref mo_sights, .int many, .int steps, .int isCut, .ref mo_isThere, .ref mo_taints, .ref mo_known, .int taint, .ref mo_knows, .int isOther, .int at_, .int isFaulty, .int orders, .ref mo_letters, .ref mo_numbers, .long hash]), (mo_text, aI G 120 text), (mo_letters, aI G 41 letters), (mo_numbers, aI G 164 numbers)]) C (c7_manyOf hq24) gX7_readsOrder_X7_manyOf (by decide +kernel) rfl rfl rfl ⟨by decide, by decide⟩ rfl [] [0, 1, 2, 3] [0, 1, 2, 3] rfl (by decide) rfl (by decide) (by decide) rfl (by decide) (Nat.le_of_ble_eq_true rfl) ⟨Nat.zero_le _, Nat.zero_le _⟩ rfl dX7_readsOrder_11 ?_
  refine g_istore_n (lv' := [(0, .ref mo), (1, .int (text at_.toNatClampNeg)), (2, .int q24)]) C dX7_readsOrder_14 rfl (by decide) [1, 2, 0] rfl ?_
  refine g_aload_n C dX7_readsOrder_15 rfl 0 rfl ?_
  refine g_iload_n C dX7_readsOrder_16 rfl 2 rfl ?_
  refine g_if_ne (tgt := 24) C dX7_readsOrder_17 (by decide) (fun c25 => ?_) (fun c25 => ?_)
  · replace hf := ite_f c25 hf
    refine g_iconst (v := (0 : Int32)) C dX7_readsOrder_24 (by decide +kernel) ?_
    exact k7_readsOrder_25 C hR hf
  · replace hf := ite_t c25 hf
    refine g_iconst (v := (1 : Int32)) C dX7_readsOrder_20 (by decide +kernel) ?_
    refine g_goto (tgt := 25) C dX7_readsOrder_21 (by decide) ?_
    exact k7_readsOrder_25 C hR hf

-- X7_isRead
def f7_isRead_34b (text : Nat → Int32) (length : Int32) (k34 : Int32 × Int32 × Int32 × (Nat → Int32) × (Nat → Int32) → Option (Int32 × Int32 × Int32 × Int32 × (Nat → Int32) × (Nat → Int32))) (at_ : Int32) (isFaulty : Int32) (orders : Int32) (letters : Nat → Int32) (numbers : Nat → Int32) : Option (Int32 × Int32 × Int32 × Int32 × (Nat → Int32) × (Nat → Int32)) :=
  if isFaulty = 0 then
    (if length ≤ at_ then
    (if isFaulty = 0 then
    (some ((1 : Int32), at_, isFaulty, orders, letters, numbers))
    else (some ((0 : Int32), at_, isFaulty, orders, letters, numbers)))
    else ((f7_readsOrder text length at_ isFaulty orders letters numbers).bind <| fun q5 =>
    if q5.2.1 = 0 then
    ((f7_blanks text length q5.1).bind <| fun q7 =>
    k34 (q7, q5.2.1, q5.2.2.1, q5.2.2.2.1, q5.2.2.2.2))
    else (k34 (q5.1, q5.2.1, q5.2.2.1, q5.2.2.2.1, q5.2.2.2.2))))
    else (if isFaulty = 0 then
    (some ((1 : Int32), at_, isFaulty, orders, letters, numbers))
    else (some ((0 : Int32), at_, isFaulty, orders, letters, numbers)))
def f7_isRead_34 (text : Nat → Int32) (length : Int32) (n : Nat) (s : Int32 × Int32 × Int32 × (Nat → Int32) × (Nat → Int32)) : Option (Int32 × Int32 × Int32 × Int32 × (Nat → Int32) × (Nat → Int32)) := itf (fun k s => f7_isRead_34b text length k s.1 s.2.1 s.2.2.1 s.2.2.2.1 s.2.2.2.2) n s
def f7_isRead (text : Nat → Int32) (length : Int32) (at_ : Int32) (isFaulty : Int32) (orders : Int32) (letters : Nat → Int32) (numbers : Nat → Int32) : Option (Int32 × Int32 × Int32 × Int32 × (Nat → Int32) × (Nat → Int32)) :=
  (f7_blanks text length (0 : Int32)).bind <| fun q8 =>
    if q8 = length then
    (f7_isRead_34 text length 1000 (q8, (1 : Int32), (0 : Int32), letters, numbers))
    else (f7_isRead_34 text length 1000 (q8, (0 : Int32), (0 : Int32), letters, numbers))
def rm7_isRead : Room := { frames := 5, cells := 0, slots := 0, locals := 109 }
theorem hm7_isRead_0 : ∀ w ∈ u_ws RX7 TX7 24, w ∈ wsX7_isRead := by decide +kernel
theorem hm7_isRead_1 : Cond.fieldLink RX7 226 "SecretStepsModel" "isFaulty" "Z" ∈ wsX7_isRead := by decide +kernel
theorem hm7_isRead_2 : Cond.fieldLink RX7 217 "SecretStepsModel" "at" "I" ∈ wsX7_isRead := by decide +kernel
theorem hm7_isRead_3 : Cond.fieldLink RX7 214 "SecretStepsModel" "length" "I" ∈ wsX7_isRead := by decide +kernel
theorem hm7_isRead_4 : Cond.fieldLink RX7 232 "SecretStepsModel" "orders" "I" ∈ wsX7_isRead := by decide +kernel
set_option maxHeartbeats 4000000 in
set_option maxRecDepth 100000 in
theorem k7_isRead_34b {p : Program} {l : Launch} {e : Env} {s : State} {m : MethodId} {args : Array Value} {below : List Frame} {meth : Method} {c : Code} {G : gG} {A : Nat → Prop} {Q : State → Prop} {mo mo_now mo_aside mo_past mo_refusals mo_text mo_vars mo_sights mo_isThere mo_taints mo_known mo_knows mo_letters mo_numbers : Nat} (C : CX p s m args meth c G A cX7_isRead 1 RX7 wsX7_isRead) {states : Int32} {many : Int32} {steps : Int32} {isCut : Int32} {taint : Int32} {isOther : Int32} {hash : Int64} {text : Nat → Int32} {length : Int32} {k34 : Int32 × Int32 × Int32 × (Nat → Int32) × (Nat → Int32) → Option (Int32 × Int32 × Int32 × Int32 × (Nat → Int32) × (Nat → Int32))} {at_ : Int32} {isFaulty : Int32} {orders : Int32} {letters : Nat → Int32} {numbers : Nat → Int32} {res : Int32 × Int32 × Int32 × Int32 × (Nat → Int32) × (Nat → Int32)} (hR : ∀ (lv : List (Nat × Value)) (pc : Nat), decode cX7_isRead pc = .ok (.ireturn, 1) → isb res.1 = true → GG p l e rm7_isRead s m args below meth c G A 1 0 0 Q [(mo, oB 7 [.ref mo_now, .ref mo_aside, .ref mo_past, .int states, .ref mo_refusals, .ref mo_text, .int length, .ref mo_vars, .ref mo_sights, .int many, .int steps, .int isCut, .ref mo_isThere, .ref mo_taints, .ref mo_known, .int taint, .ref mo_knows, .int isOther, .int res.2.1, .int res.2.2.1, .int res.2.2.2.1, .ref mo_letters, .ref mo_numbers, .long hash]), (mo_text, aI G 120 text), (mo_letters, aI G 41 res.2.2.2.2.1), (mo_numbers, aI G 164 res.2.2.2.2.2)] lv pc [.int res.1])
    (hk34 : ∀ s', k34 s' = some res → GG p l e rm7_isRead s m args below meth c G A 1 0 0 Q [(mo, oB 7 [.ref mo_now, .ref mo_aside, .ref mo_past, .int states, .ref mo_refusals, .ref mo_text, .int length, .ref mo_vars, .ref mo_sights, .int many, .int steps, .int isCut, .ref mo_isThere, .ref mo_taints, .ref mo_known, .int taint, .ref mo_knows, .int isOther, .int s'.1, .int s'.2.1, .int s'.2.2.1, .ref mo_letters, .ref mo_numbers, .long hash]), (mo_text, aI G 120 text), (mo_letters, aI G 41 s'.2.2.2.1), (mo_numbers, aI G 164 s'.2.2.2.2)] [(0, .ref mo)] 34 [])
    (hf : f7_isRead_34b text length k34 at_ isFaulty orders letters numbers = some res) : GG p l e rm7_isRead s m args below meth c G A 1 0 0 Q [(mo, oB 7 [.ref mo_now, .ref mo_aside, .ref mo_past, .int states, .ref mo_refusals, .ref mo_text, .int length, .ref mo_vars, .ref mo_sights, .int many, .int steps, .int isCut, .ref mo_isThere, .ref mo_taints, .ref mo_known, .int taint, .ref mo_knows, .int isOther, .int at_, .int isFaulty, .int orders, .ref mo_letters, .ref mo_numbers, .long hash]), (mo_text, aI G 120 text), (mo_letters, aI G 41 letters), (mo_numbers, aI G 164 numbers)] [(0, .ref mo)] 34 [] := by
  unfold f7_isRead_34b at hf
  refine g_aload_n C dX7_isRead_34 rfl 0 rfl ?_
  refine g_get (C0 := RX7) (T := TX7) (N := 24) (ci := 7) (v := .int isFaulty) C hm7_isRead_0 0 rfl rfl 19 (by decide) hm7_isRead_1 rfl dX7_isRead_35 ?_
  refine g_if_ne (tgt := 70) C dX7_isRead_38 (by decide) (fun c1 => ?_) (fun c1 => ?_)
  · replace hf := ite_f c1 hf
    refine g_aload_n C dX7_isRead_70 rfl 0 rfl ?_
    refine g_get (C0 := RX7) (T := TX7) (N := 24) (ci := 7) (v := .int isFaulty) C hm7_isRead_0 0 rfl rfl 19 (by decide) hm7_isRead_1 rfl dX7_isRead_71 ?_
    refine g_if_ne (tgt := 81) C dX7_isRead_74 (by decide) (fun c2 => ?_) (fun c2 => ?_)
    · replace hf := ite_f c2 hf
      refine g_iconst (v := (0 : Int32)) C dX7_isRead_81 (by decide +kernel) ?_
      obtain rfl := Option.some.inj hf
      exact hR _ _ dX7_isRead_82 isb0
    · replace hf := ite_t c2 hf
      refine g_iconst (v := (1 : Int32)) C dX7_isRead_77 (by decide +kernel) ?_
      refine g_goto (tgt := 82) C dX7_isRead_78 (by decide) ?_
      obtain rfl := Option.some.inj hf
      exact hR _ _ dX7_isRead_82 isb1
  · replace hf := ite_t c1 hf
    refine g_aload_n C dX7_isRead_41 rfl 0 rfl ?_
    refine g_get (C0 := RX7) (T := TX7) (N := 24) (ci := 7) (v := .int at_) C hm7_isRead_0 0 rfl rfl 18 (by decide) hm7_isRead_2 rfl dX7_isRead_42 ?_
    refine g_aload_n C dX7_isRead_45 rfl 0 rfl ?_
    refine g_get (C0 := RX7) (T := TX7) (N := 24) (ci := 7) (v := .int length) C hm7_isRead_0 0 rfl rfl 6 (by decide) hm7_isRead_3 rfl dX7_isRead_46 ?_
    refine g_icmp_ge (tgt := 70) C dX7_isRead_49 (by decide) (fun c3 => ?_) (fun c3 => ?_)
    · replace hf := ite_t c3 hf
      refine g_aload_n C dX7_isRead_70 rfl 0 rfl ?_
      refine g_get (C0 := RX7) (T := TX7) (N := 24) (ci := 7) (v := .int isFaulty) C hm7_isRead_0 0 rfl rfl 19 (by decide) hm7_isRead_1 rfl dX7_isRead_71 ?_
      refine g_if_ne (tgt := 81) C dX7_isRead_74 (by decide) (fun c4 => ?_) (fun c4 => ?_)
      · replace hf := ite_f c4 hf
        refine g_iconst (v := (0 : Int32)) C dX7_isRead_81 (by decide +kernel) ?_
        obtain rfl := Option.some.inj hf
        exact hR _ _ dX7_isRead_82 isb0
      · replace hf := ite_t c4 hf
        refine g_iconst (v := (1 : Int32)) C dX7_isRead_77 (by decide +kernel) ?_
        refine g_goto (tgt := 82) C dX7_isRead_78 (by decide) ?_
        obtain rfl := Option.some.inj hf
        exact hR _ _ dX7_isRead_82 isb1
    · replace hf := ite_f c3 hf
      refine g_aload_n C dX7_isRead_52 rfl 0 rfl ?_
      obtain ⟨q5, hq5, hf⟩ := bs hf
      refine g_callVv (n := 0) (As := []) (rest := []) (wc := [(mo, oB 7 [.ref mo_now, .ref mo_aside, .ref mo_past, .int states, .ref mo_refusals, .ref mo_text, .int length, .ref mo_vars, .ref mo_sights, .int many, .int steps, .int isCut, .ref mo_isThere, .ref mo_taints, .ref mo_known, .int taint, .ref mo_knows, .int isOther, .int at_, .int isFaulty, .int orders, .ref mo_letters, .ref mo_numbers, .long hash]), (mo_text, aI G 120 text), (mo_letters, aI G 41 letters), (mo_numbers, aI G 164 numbers)]) (w1 := [(mo, oB 7 [.ref mo_now, .ref mo_aside, .ref mo_past, .int states, .ref mo_refusals, .ref mo_text, .int length, .ref mo_vars, .ref mo_sights, .int many, .int steps, .int isCut, .ref mo_isThere, .ref mo_taints, .ref mo_known, .int taint, .ref mo_knows, .int isOther, .int q5.1, .int q5.2.1, .int q5.2.2.1, .ref mo_letters, .ref mo_numbers, .long hash]), (mo_text, aI G 120 text), (mo_letters, aI G 41 q5.2.2.2.1), (mo_numbers, aI G 164 q5.2.2.2.2)]) (wr := []) (WS' := [(mo, oB 7 [.ref mo_now, .ref mo_aside, .ref mo_past, .int states, .ref mo_refusals, .ref mo_text, .int length, .ref mo_vars, .ref mo_sights, .int many, .int steps, .int isCut, .ref mo_isThere, .ref mo_taints, .ref mo_known, .int taint, .ref mo_knows, .int isOther, .int q5.1, .int q5.2.1, .int q5.2.2.1, .ref mo_letters, .ref mo_numbers, .long hash]), (mo_text, aI G 120 text), (mo_letters, aI G 41 q5.2.2.2.1), (mo_numbers, aI G 164 q5.2.2.2.2)]) C (c7_readsOrder hq5) gX7_isRead_X7_readsOrder (by decide +kernel) rfl rfl rfl rfl rfl rfl ⟨by decide, by decide⟩ rfl [0, 1, 2, 3] [] [0, 1, 2, 3] rfl (by decide) rfl (by decide) (by decide) rfl (by decide) (Nat.le_of_ble_eq_true rfl) ⟨Nat.zero_le _, Nat.zero_le _⟩ rfl dX7_isRead_53 ?_
      refine g_aload_n C dX7_isRead_56 rfl 0 rfl ?_
      refine g_get (C0 := RX7) (T := TX7) (N := 24) (ci := 7) (v := .int q5.2.1) C hm7_isRead_0 0 rfl rfl 19 (by decide) hm7_isRead_1 rfl dX7_isRead_57 ?_
      refine g_if_ne (tgt := 34) C dX7_isRead_60 (by decide) (fun c6 => ?_) (fun c6 => ?_)
      · replace hf := ite_f c6 hf
        exact hk34 _ hf
      · replace hf := ite_t c6 hf
        refine g_aload_n C dX7_isRead_63 rfl 0 rfl ?_
        obtain ⟨q7, hq7, hf⟩ := bs hf
        refine g_callVv (n := 0) (As := []) (rest := []) (wc := [(mo, oB 7 [.ref mo_now, .ref mo_aside, .ref mo_past, .int states, .ref mo_refusals, .ref mo_text, .int length, .ref mo_vars, .ref mo_sights, .int many, .int steps, .int isCut, .ref mo_isThere, .ref mo_taints, .ref mo_known, .int taint, .ref mo_knows, .int isOther, .int q5.1, .int q5.2.1, .int q5.2.2.1, .ref mo_letters, .ref mo_numbers, .long hash]), (mo_text, aI G 120 text)]) (w1 := [(mo, oB 7 [.ref mo_now, .ref mo_aside, .ref mo_past, .int states, .ref mo_refusals, .ref mo_text, .int length, .ref mo_vars, .ref mo_sights, .int many, .int steps, .int isCut, .ref mo_isThere, .ref mo_taints, .ref mo_known, .int taint, .ref mo_knows, .int isOther, .int q7, .int q5.2.1, .int q5.2.2.1, .ref mo_letters, .ref mo_numbers, .long hash]), (mo_text, aI G 120 text)]) (wr := [(mo_letters, aI G 41 q5.2.2.2.1), (mo_numbers, aI G 164 q5.2.2.2.2)]) (WS' := [(mo, oB 7 [.ref mo_now, .ref mo_aside, .ref mo_past, .int states, .ref mo_refusals, .ref mo_text, .int length, .ref mo_vars, .ref mo_sights, .int many, .int steps, .int isCut, .ref mo_isThere, .ref mo_taints, .ref mo_known, .int taint, .ref mo_knows, .int isOther, .int q7, .int q5.2.1, .int q5.2.2.1, .ref mo_letters, .ref mo_numbers, .long hash]), (mo_text, aI G 120 text), (mo_letters, aI G 41 q5.2.2.2.1), (mo_numbers, aI G 164 q5.2.2.2.2)]) C (c7_blanks hq7) gX7_isRead_X7_blanks (by decide +kernel) rfl rfl rfl rfl rfl rfl ⟨by decide, by decide⟩ rfl [0, 1] [2, 3] [2, 3, 0, 1] rfl (by decide) rfl (by decide) (by decide) rfl (by decide) (Nat.le_of_ble_eq_true rfl) ⟨Nat.zero_le _, Nat.zero_le _⟩ rfl dX7_isRead_64 ?_
        refine g_goto (tgt := 34) C dX7_isRead_67 (by decide) ?_
        exact hk34 _ hf
set_option maxHeartbeats 4000000 in
set_option maxRecDepth 100000 in
theorem k7_isRead_34 {p : Program} {l : Launch} {e : Env} {s : State} {m : MethodId} {args : Array Value} {below : List Frame} {meth : Method} {c : Code} {G : gG} {A : Nat → Prop} {Q : State → Prop} {mo mo_now mo_aside mo_past mo_refusals mo_text mo_vars mo_sights mo_isThere mo_taints mo_known mo_knows mo_letters mo_numbers : Nat} (C : CX p s m args meth c G A cX7_isRead 1 RX7 wsX7_isRead) {states : Int32} {many : Int32} {steps : Int32} {isCut : Int32} {taint : Int32} {isOther : Int32} {hash : Int64} {text : Nat → Int32} {length : Int32} {res : Int32 × Int32 × Int32 × Int32 × (Nat → Int32) × (Nat → Int32)} (hR : ∀ (lv : List (Nat × Value)) (pc : Nat), decode cX7_isRead pc = .ok (.ireturn, 1) → isb res.1 = true → GG p l e rm7_isRead s m args below meth c G A 1 0 0 Q [(mo, oB 7 [.ref mo_now, .ref mo_aside, .ref mo_past, .int states, .ref mo_refusals, .ref mo_text, .int length, .ref mo_vars, .ref mo_sights, .int many, .int steps, .int isCut, .ref mo_isThere, .ref mo_taints, .ref mo_known, .int taint, .ref mo_knows, .int isOther, .int res.2.1, .int res.2.2.1, .int res.2.2.2.1, .ref mo_letters, .ref mo_numbers, .long hash]), (mo_text, aI G 120 text), (mo_letters, aI G 41 res.2.2.2.2.1), (mo_numbers, aI G 164 res.2.2.2.2.2)] lv pc [.int res.1]) : ∀ (n : Nat) (s1 : Int32 × Int32 × Int32 × (Nat → Int32) × (Nat → Int32)), f7_isRead_34 text length n s1 = some res → GG p l e rm7_isRead s m args below meth c G A 1 0 0 Q [(mo, oB 7 [.ref mo_now, .ref mo_aside, .ref mo_past, .int states, .ref mo_refusals, .ref mo_text, .int length, .ref mo_vars, .ref mo_sights, .int many, .int steps, .int isCut, .ref mo_isThere, .ref mo_taints, .ref mo_known, .int taint, .ref mo_knows, .int isOther, .int s1.1, .int s1.2.1, .int s1.2.2.1, .ref mo_letters, .ref mo_numbers, .long hash]), (mo_text, aI G 120 text), (mo_letters, aI G 41 s1.2.2.2.1), (mo_numbers, aI G 164 s1.2.2.2.2)] [(0, .ref mo)] 34 [] :=
  itf_ind (fun k s1 ih hf => k7_isRead_34b C hR ih hf)
set_option maxHeartbeats 4000000 in
set_option maxRecDepth 100000 in
theorem c7_isRead {l : Launch} {G : gG} {mo mo_now mo_aside mo_past mo_refusals mo_text mo_vars mo_sights mo_isThere mo_taints mo_known mo_knows mo_letters mo_numbers : Nat} {states : Int32} {text : Nat → Int32} {length : Int32} {many : Int32} {steps : Int32} {isCut : Int32} {taint : Int32} {isOther : Int32} {at_ : Int32} {isFaulty : Int32} {orders : Int32} {letters : Nat → Int32} {numbers : Nat → Int32} {hash : Int64} {res : Int32 × Int32 × Int32 × Int32 × (Nat → Int32) × (Nat → Int32)} (hf : f7_isRead text length at_ isFaulty orders letters numbers = some res) : MI l yX7_isRead wsX7_isRead rm7_isRead G [.ref mo] [(mo, oB 7 [.ref mo_now, .ref mo_aside, .ref mo_past, .int states, .ref mo_refusals, .ref mo_text, .int length, .ref mo_vars, .ref mo_sights, .int many, .int steps, .int isCut, .ref mo_isThere, .ref mo_taints, .ref mo_known, .int taint, .ref mo_knows, .int isOther, .int at_, .int isFaulty, .int orders, .ref mo_letters, .ref mo_numbers, .long hash]), (mo_text, aI G 120 text), (mo_letters, aI G 41 letters), (mo_numbers, aI G 164 numbers)] (res.1) [(mo, oB 7 [.ref mo_now, .ref mo_aside, .ref mo_past, .int states, .ref mo_refusals, .ref mo_text, .int length, .ref mo_vars, .ref mo_sights, .int many, .int steps, .int isCut, .ref mo_isThere, .ref mo_taints, .ref mo_known, .int taint, .ref mo_knows, .int isOther, .int res.2.1, .int res.2.2.1, .int res.2.2.2.1, .ref mo_letters, .ref mo_numbers, .long hash]), (mo_text, aI G 120 text), (mo_letters, aI G 41 res.2.2.2.2.1), (mo_numbers, aI G 164 res.2.2.2.2.2)] := by
  refine MZ_of (res.1) (cc := cX7_isRead) (nL := 1) (lv := [(0, .ref mo)]) (by decide +kernel) rfl (Nat.le_of_ble_eq_true rfl) rfl ?_
  intro p e s m args below meth c A Q C hR
  unfold f7_isRead at hf
  refine g_aload_n C dX7_isRead_0 rfl 0 rfl ?_
  refine g_iconst (v := (0 : Int32)) C dX7_isRead_1 (by decide +kernel) ?_
  refine g_put (C0 := RX7) (T := TX7) (N := 24) (ci := 7) (ty := .int) (WS' := [(mo, oB 7 [.ref mo_now, .ref mo_aside, .ref mo_past, .int states, .ref mo_refusals, .ref mo_text, .int length, .ref mo_vars, .ref mo_sights, .int many, .int steps, .int isCut, .ref mo_isThere, .ref mo_taints, .ref mo_known, .int taint, .ref mo_knows, .int isOther, .int (0 : Int32), .int isFaulty, .int orders, .ref mo_letters, .ref mo_numbers, .long hash]), (mo_text, aI G 120 text), (mo_letters, aI G 41 letters), (mo_numbers, aI G 164 numbers)]) C hm7_isRead_0 tyX7 tyX7_ok nmX7 0 rfl rfl 18 (by decide) hm7_isRead_2 rfl rfl rfl rfl (Nat.le_of_ble_eq_true rfl) dX7_isRead_2 rfl ?_
  refine g_aload_n C dX7_isRead_5 rfl 0 rfl ?_
  refine g_iconst (v := (0 : Int32)) C dX7_isRead_6 (by decide +kernel) ?_
  refine g_put (C0 := RX7) (T := TX7) (N := 24) (ci := 7) (ty := .int) (WS' := [(mo, oB 7 [.ref mo_now, .ref mo_aside, .ref mo_past, .int states, .ref mo_refusals, .ref mo_text, .int length, .ref mo_vars, .ref mo_sights, .int many, .int steps, .int isCut, .ref mo_isThere, .ref mo_taints, .ref mo_known, .int taint, .ref mo_knows, .int isOther, .int (0 : Int32), .int isFaulty, .int (0 : Int32), .ref mo_letters, .ref mo_numbers, .long hash]), (mo_text, aI G 120 text), (mo_letters, aI G 41 letters), (mo_numbers, aI G 164 numbers)]) C hm7_isRead_0 tyX7 tyX7_ok nmX7 0 rfl rfl 20 (by decide) hm7_isRead_4 rfl rfl rfl rfl (Nat.le_of_ble_eq_true rfl) dX7_isRead_7 rfl ?_
  refine g_aload_n C dX7_isRead_10 rfl 0 rfl ?_
  obtain ⟨q8, hq8, hf⟩ := bs hf
  refine g_callVv (n := 0) (As := []) (rest := []) (wc := [(mo, oB 7 [.ref mo_now, .ref mo_aside, .ref mo_past, .int states, .ref mo_refusals, .ref mo_text, .int length, .ref mo_vars, .ref mo_sights, .int many, .int steps, .int isCut, .ref mo_isThere, .ref mo_taints, .ref mo_known, .int taint, .ref mo_knows, .int isOther, .int (0 : Int32), .int isFaulty, .int (0 : Int32), .ref mo_letters, .ref mo_numbers, .long hash]), (mo_text, aI G 120 text)]) (w1 := [(mo, oB 7 [.ref mo_now, .ref mo_aside, .ref mo_past, .int states, .ref mo_refusals, .ref mo_text, .int length, .ref mo_vars, .ref mo_sights, .int many, .int steps, .int isCut, .ref mo_isThere, .ref mo_taints, .ref mo_known, .int taint, .ref mo_knows, .int isOther, .int q8, .int isFaulty, .int (0 : Int32), .ref mo_letters, .ref mo_numbers, .long hash]), (mo_text, aI G 120 text)]) (wr := [(mo_letters, aI G 41 letters), (mo_numbers, aI G 164 numbers)]) (WS' := [(mo, oB 7 [.ref mo_now, .ref mo_aside, .ref mo_past, .int states, .ref mo_refusals, .ref mo_text, .int length, .ref mo_vars, .ref mo_sights, .int many, .int steps, .int isCut, .ref mo_isThere, .ref mo_taints, .ref mo_known, .int taint, .ref mo_knows, .int isOther, .int q8, .int isFaulty, .int (0 : Int32), .ref mo_letters, .ref mo_numbers, .long hash]), (mo_text, aI G 120 text), (mo_letters, aI G 41 letters), (mo_numbers, aI G 164 numbers)]) C (c7_blanks hq8) gX7_isRead_X7_blanks (by decide +kernel) rfl rfl rfl rfl rfl rfl ⟨by decide, by decide⟩ rfl [0, 1] [2, 3] [2, 3, 0, 1] rfl (by decide) rfl (by decide) (by decide) rfl (by decide) (Nat.le_of_ble_eq_true rfl) ⟨Nat.zero_le _, Nat.zero_le _⟩ rfl dX7_isRead_11 ?_
  refine g_aload_n C dX7_isRead_14 rfl 0 rfl ?_
  refine g_aload_n C dX7_isRead_15 rfl 0 rfl ?_
  refine g_get (C0 := RX7) (T := TX7) (N := 24) (ci := 7) (v := .int q8) C hm7_isRead_0 0 rfl rfl 18 (by decide) hm7_isRead_2 rfl dX7_isRead_16 ?_
  refine g_aload_n C dX7_isRead_19 rfl 0 rfl ?_
  refine g_get (C0 := RX7) (T := TX7) (N := 24) (ci := 7) (v := .int length) C hm7_isRead_0 0 rfl rfl 6 (by decide) hm7_isRead_3 rfl dX7_isRead_20 ?_
  refine g_icmp_ne (tgt := 30) C dX7_isRead_23 (by decide) (fun c9 => ?_) (fun c9 => ?_)
  · replace hf := ite_f c9 hf
    refine g_iconst (v := (0 : Int32)) C dX7_isRead_30 (by decide +kernel) ?_
    refine g_put (C0 := RX7) (T := TX7) (N := 24) (ci := 7) (ty := .boolean) (WS' := [(mo, oB 7 [.ref mo_now, .ref mo_aside, .ref mo_past, .int states, .ref mo_refusals, .ref mo_text, .int length, .ref mo_vars, .ref mo_sights, .int many, .int steps, .int isCut, .ref mo_isThere, .ref mo_taints, .ref mo_known, .int taint, .ref mo_knows, .int isOther, .int q8, .int (0 : Int32), .int (0 : Int32), .ref mo_letters, .ref mo_numbers, .long hash]), (mo_text, aI G 120 text), (mo_letters, aI G 41 letters), (mo_numbers, aI G 164 numbers)]) C hm7_isRead_0 tyX7 tyX7_ok nmX7 0 rfl rfl 19 (by decide) hm7_isRead_1 rfl rfl rfl rfl (Nat.le_of_ble_eq_true rfl) dX7_isRead_31 rfl ?_
    exact k7_isRead_34 C hR _ _ hf
  · replace hf := ite_t c9 hf
    refine g_iconst (v := (1 : Int32)) C dX7_isRead_26 (by decide +kernel) ?_
    refine g_goto (tgt := 31) C dX7_isRead_27 (by decide) ?_
    refine g_put (C0 := RX7) (T := TX7) (N := 24) (ci := 7) (ty := .boolean) (WS' := [(mo, oB 7 [.ref mo_now, .ref mo_aside, .ref mo_past, .int states, .ref mo_refusals, .ref mo_text, .int length, .ref mo_vars, .ref mo_sights, .int many, .int steps, .int isCut, .ref mo_isThere, .ref mo_taints, .ref mo_known, .int taint, .ref mo_knows, .int isOther, .int q8, .int (1 : Int32), .int (0 : Int32), .ref mo_letters, .ref mo_numbers, .long hash]), (mo_text, aI G 120 text), (mo_letters, aI G 41 letters), (mo_numbers, aI G 164 numbers)]) C hm7_isRead_0 tyX7 tyX7_ok nmX7 0 rfl rfl 19 (by decide) hm7_isRead_1 rfl rfl rfl rfl (Nat.le_of_ble_eq_true rfl) dX7_isRead_31 rfl ?_
    exact k7_isRead_34 C hR _ _ hf

-- X7_doesOrder
def f7_doesOrder_20 (letters : Nat → Int32) (numbers : Nat → Int32) (now : Nat → Int32) (x1 : Int32) (x2 : Int32) (x3 : Int32) : Option (Int32 × (Nat → Int32)) :=
  ck (inb x1 41) <|
    (if (letters x1.toNatClampNeg) = (100 : Int32) then
    ((f7_dropsLine now x2).bind <| fun q3 =>
    some (q3.1, q3.2))
    else (if (letters x1.toNatClampNeg) = (108 : Int32) then
    (ck (inb (((4 : Int32) * x1) + (2 : Int32)) 164) <|
    ck (inb (((4 : Int32) * x1) + (3 : Int32)) 164) <|
    (f7_addsLine now x2 x3 (numbers (((4 : Int32) * x1) + (2 : Int32)).toNatClampNeg) (numbers (((4 : Int32) * x1) + (3 : Int32)).toNatClampNeg)).bind <| fun q7 =>
    some (q7.1, q7.2))
    else (if (letters x1.toNatClampNeg) = (116 : Int32) then
    ((f7_setsTable now x2 x3).bind <| fun q9 =>
    some (q9.1, q9.2))
    else (if (letters x1.toNatClampNeg) = (118 : Int32) then
    ((f7_setsStart now x2 x3).bind <| fun q11 =>
    some (q11.1, q11.2))
    else ((f7_setsSecret now x2 x3).bind <| fun q12 =>
    some (q12.1, q12.2))))))
def f7_doesOrder (letters : Nat → Int32) (numbers : Nat → Int32) (now : Nat → Int32) (v0 : Int32) : Option (Int32 × (Nat → Int32)) :=
  ck (inb ((4 : Int32) * v0) 164) <|
    ck (inb (((4 : Int32) * v0) + (1 : Int32)) 164) <|
    f7_doesOrder_20 letters numbers now v0 (numbers ((4 : Int32) * v0).toNatClampNeg) (numbers (((4 : Int32) * v0) + (1 : Int32)).toNatClampNeg)
def rm7_doesOrder : Room := { frames := 4, cells := 0, slots := 0, locals := 89 }
theorem hm7_doesOrder_0 : ∀ w ∈ u_ws RX7 TX7 24, w ∈ wsX7_doesOrder := by decide +kernel
theorem hm7_doesOrder_1 : Cond.fieldLink RX7 44 "SecretStepsModel" "letters" "[I" ∈ wsX7_doesOrder := by decide +kernel
theorem hm7_doesOrder_2 : Cond.fieldLink RX7 47 "SecretStepsModel" "numbers" "[I" ∈ wsX7_doesOrder := by decide +kernel
set_option maxHeartbeats 4000000 in
set_option maxRecDepth 100000 in
theorem k7_doesOrder_20 {p : Program} {l : Launch} {e : Env} {s : State} {m : MethodId} {args : Array Value} {below : List Frame} {meth : Method} {c : Code} {G : gG} {A : Nat → Prop} {Q : State → Prop} {mo mo_now mo_aside mo_past mo_refusals mo_text mo_vars mo_sights mo_isThere mo_taints mo_known mo_knows mo_letters mo_numbers : Nat} (C : CX p s m args meth c G A cX7_doesOrder 4 RX7 wsX7_doesOrder) {states : Int32} {length : Int32} {many : Int32} {steps : Int32} {isCut : Int32} {taint : Int32} {isOther : Int32} {at_ : Int32} {isFaulty : Int32} {orders : Int32} {hash : Int64} {letters : Nat → Int32} {numbers : Nat → Int32} {now : Nat → Int32} {x1 : Int32} {x2 : Int32} {x3 : Int32} {res : Int32 × (Nat → Int32)} (hR : ∀ (lv : List (Nat × Value)) (pc : Nat), decode cX7_doesOrder pc = .ok (.ireturn, 1) → GG p l e rm7_doesOrder s m args below meth c G A 4 0 0 Q [(mo, oB 7 [.ref mo_now, .ref mo_aside, .ref mo_past, .int states, .ref mo_refusals, .ref mo_text, .int length, .ref mo_vars, .ref mo_sights, .int many, .int steps, .int isCut, .ref mo_isThere, .ref mo_taints, .ref mo_known, .int taint, .ref mo_knows, .int isOther, .int at_, .int isFaulty, .int orders, .ref mo_letters, .ref mo_numbers, .long hash]), (mo_now, aI G 104 res.2), (mo_letters, aI G 41 letters), (mo_numbers, aI G 164 numbers)] lv pc [.int res.1])
    (hf : f7_doesOrder_20 letters numbers now x1 x2 x3 = some res) : GG p l e rm7_doesOrder s m args below meth c G A 4 0 0 Q [(mo, oB 7 [.ref mo_now, .ref mo_aside, .ref mo_past, .int states, .ref mo_refusals, .ref mo_text, .int length, .ref mo_vars, .ref mo_sights, .int many, .int steps, .int isCut, .ref mo_isThere, .ref mo_taints, .ref mo_known, .int taint, .ref mo_knows, .int isOther, .int at_, .int isFaulty, .int orders, .ref mo_letters, .ref mo_numbers, .long hash]), (mo_now, aI G 104 now), (mo_letters, aI G 41 letters), (mo_numbers, aI G 164 numbers)] [(0, .ref mo), (1, .int x1), (2, .int x2), (3, .int x3)] 20 [] := by
  unfold f7_doesOrder_20 at hf
  refine g_aload_n C dX7_doesOrder_20 rfl 0 rfl ?_
  refine g_get (C0 := RX7) (T := TX7) (N := 24) (ci := 7) (v := .ref mo_letters) C hm7_doesOrder_0 0 rfl rfl 21 (by decide) hm7_doesOrder_1 rfl dX7_doesOrder_21 ?_
  refine g_iload_n C dX7_doesOrder_24 rfl 1 rfl ?_
  obtain ⟨h1, hf⟩ := ck_some hf
  refine g_iald (n := 41) (v := (letters x1.toNatClampNeg)) C 2 rfl h1 rfl rfl dX7_doesOrder_25 ?_
  by_cases c2 : (letters x1.toNatClampNeg) = (100 : Int32)
  · replace hf := ite_t c2 hf
    refine g_lookup (off := 69) (tgt := 95) C dX7_doesOrder_26 (by decide +kernel) (by rw [c2]; decide +kernel) (by decide) ?_
    refine g_aload_n C dX7_doesOrder_95 rfl 0 rfl ?_
    refine g_iload_n C dX7_doesOrder_96 rfl 2 rfl ?_
    obtain ⟨q3, hq3, hf⟩ := bs hf
    refine g_callVi (n := 1) (As := [.int x2]) (rest := []) (wc := [(mo, oB 7 [.ref mo_now, .ref mo_aside, .ref mo_past, .int states, .ref mo_refusals, .ref mo_text, .int length, .ref mo_vars, .ref mo_sights, .int many, .int steps, .int isCut, .ref mo_isThere, .ref mo_taints, .ref mo_known, .int taint, .ref mo_knows, .int isOther, .int at_, .int isFaulty, .int orders, .ref mo_letters, .ref mo_numbers, .long hash]), (mo_now, aI G 104 now)]) (w1 := [(mo, oB 7 [.ref mo_now, .ref mo_aside, .ref mo_past, .int states, .ref mo_refusals, .ref mo_text, .int length, .ref mo_vars, .ref mo_sights, .int many, .int steps, .int isCut, .ref mo_isThere, .ref mo_taints, .ref mo_known, .int taint, .ref mo_knows, .int isOther, .int at_, .int isFaulty, .int orders, .ref mo_letters, .ref mo_numbers, .long hash]), (mo_now, aI G 104 q3.2)]) (wr := [(mo_letters, aI G 41 letters), (mo_numbers, aI G 164 numbers)]) (WS' := [(mo, oB 7 [.ref mo_now, .ref mo_aside, .ref mo_past, .int states, .ref mo_refusals, .ref mo_text, .int length, .ref mo_vars, .ref mo_sights, .int many, .int steps, .int isCut, .ref mo_isThere, .ref mo_taints, .ref mo_known, .int taint, .ref mo_knows, .int isOther, .int at_, .int isFaulty, .int orders, .ref mo_letters, .ref mo_numbers, .long hash]), (mo_now, aI G 104 q3.2), (mo_letters, aI G 41 letters), (mo_numbers, aI G 164 numbers)]) C (c7_dropsLine hq3) gX7_doesOrder_X7_dropsLine (by decide +kernel) rfl rfl rfl rfl rfl rfl ⟨by decide, by decide⟩ rfl [0, 1] [2, 3] [2, 3, 0, 1] rfl (by decide) rfl (by decide) (by decide) rfl (by decide) (Nat.le_of_ble_eq_true rfl) ⟨Nat.zero_le _, Nat.zero_le _⟩ rfl dX7_doesOrder_97 ?_
    obtain rfl := Option.some.inj hf
    exact hR _ _ dX7_doesOrder_100
  replace hf := ite_f c2 hf
  by_cases c4 : (letters x1.toNatClampNeg) = (108 : Int32)
  · replace hf := ite_t c4 hf
    refine g_lookup (off := 42) (tgt := 68) C dX7_doesOrder_26 (by decide +kernel) (by rw [c4]; decide +kernel) (by decide) ?_
    refine g_aload_n C dX7_doesOrder_68 rfl 0 rfl ?_
    refine g_iload_n C dX7_doesOrder_69 rfl 2 rfl ?_
    refine g_iload_n C dX7_doesOrder_70 rfl 3 rfl ?_
    refine g_aload_n C dX7_doesOrder_71 rfl 0 rfl ?_
    refine g_get (C0 := RX7) (T := TX7) (N := 24) (ci := 7) (v := .ref mo_numbers) C hm7_doesOrder_0 0 rfl rfl 22 (by decide) hm7_doesOrder_2 rfl dX7_doesOrder_72 ?_
    refine g_iconst (v := (4 : Int32)) C dX7_doesOrder_75 (by decide +kernel) ?_
    refine g_iload_n C dX7_doesOrder_76 rfl 1 rfl ?_
    refine g_imul C dX7_doesOrder_77 ?_
    refine g_iconst (v := (2 : Int32)) C dX7_doesOrder_78 (by decide +kernel) ?_
    refine g_iadd C dX7_doesOrder_79 ?_
    obtain ⟨h5, hf⟩ := ck_some hf
    refine g_iald (n := 164) (v := (numbers (((4 : Int32) * x1) + (2 : Int32)).toNatClampNeg)) C 3 rfl h5 rfl rfl dX7_doesOrder_80 ?_
    refine g_aload_n C dX7_doesOrder_81 rfl 0 rfl ?_
    refine g_get (C0 := RX7) (T := TX7) (N := 24) (ci := 7) (v := .ref mo_numbers) C hm7_doesOrder_0 0 rfl rfl 22 (by decide) hm7_doesOrder_2 rfl dX7_doesOrder_82 ?_
    refine g_iconst (v := (4 : Int32)) C dX7_doesOrder_85 (by decide +kernel) ?_
    refine g_iload_n C dX7_doesOrder_86 rfl 1 rfl ?_
    refine g_imul C dX7_doesOrder_87 ?_
    refine g_iconst (v := (3 : Int32)) C dX7_doesOrder_88 (by decide +kernel) ?_
    refine g_iadd C dX7_doesOrder_89 ?_
    obtain ⟨h6, hf⟩ := ck_some hf
    refine g_iald (n := 164) (v := (numbers (((4 : Int32) * x1) + (3 : Int32)).toNatClampNeg)) C 3 rfl h6 rfl rfl dX7_doesOrder_90 ?_
    obtain ⟨q7, hq7, hf⟩ := bs hf
    refine g_callVi (n := 4) (As := [.int x2, .int x3, .int (numbers (((4 : Int32) * x1) + (2 : Int32)).toNatClampNeg), .int (numbers (((4 : Int32) * x1) + (3 : Int32)).toNatClampNeg)]) (rest := []) (wc := [(mo, oB 7 [.ref mo_now, .ref mo_aside, .ref mo_past, .int states, .ref mo_refusals, .ref mo_text, .int length, .ref mo_vars, .ref mo_sights, .int many, .int steps, .int isCut, .ref mo_isThere, .ref mo_taints, .ref mo_known, .int taint, .ref mo_knows, .int isOther, .int at_, .int isFaulty, .int orders, .ref mo_letters, .ref mo_numbers, .long hash]), (mo_now, aI G 104 now)]) (w1 := [(mo, oB 7 [.ref mo_now, .ref mo_aside, .ref mo_past, .int states, .ref mo_refusals, .ref mo_text, .int length, .ref mo_vars, .ref mo_sights, .int many, .int steps, .int isCut, .ref mo_isThere, .ref mo_taints, .ref mo_known, .int taint, .ref mo_knows, .int isOther, .int at_, .int isFaulty, .int orders, .ref mo_letters, .ref mo_numbers, .long hash]), (mo_now, aI G 104 q7.2)]) (wr := [(mo_letters, aI G 41 letters), (mo_numbers, aI G 164 numbers)]) (WS' := [(mo, oB 7 [.ref mo_now, .ref mo_aside, .ref mo_past, .int states, .ref mo_refusals, .ref mo_text, .int length, .ref mo_vars, .ref mo_sights, .int many, .int steps, .int isCut, .ref mo_isThere, .ref mo_taints, .ref mo_known, .int taint, .ref mo_knows, .int isOther, .int at_, .int isFaulty, .int orders, .ref mo_letters, .ref mo_numbers, .long hash]), (mo_now, aI G 104 q7.2), (mo_letters, aI G 41 letters), (mo_numbers, aI G 164 numbers)]) C (c7_addsLine hq7) gX7_doesOrder_X7_addsLine (by decide +kernel) rfl rfl rfl rfl rfl rfl ⟨by decide, by decide⟩ rfl [0, 1] [2, 3] [2, 3, 0, 1] rfl (by decide) rfl (by decide) (by decide) rfl (by decide) (Nat.le_of_ble_eq_true rfl) ⟨Nat.zero_le _, Nat.zero_le _⟩ rfl dX7_doesOrder_91 ?_
    obtain rfl := Option.some.inj hf
    exact hR _ _ dX7_doesOrder_94
  replace hf := ite_f c4 hf
  by_cases c8 : (letters x1.toNatClampNeg) = (116 : Int32)
  · replace hf := ite_t c8 hf
    refine g_lookup (off := 75) (tgt := 101) C dX7_doesOrder_26 (by decide +kernel) (by rw [c8]; decide +kernel) (by decide) ?_
    refine g_aload_n C dX7_doesOrder_101 rfl 0 rfl ?_
    refine g_iload_n C dX7_doesOrder_102 rfl 2 rfl ?_
    refine g_iload_n C dX7_doesOrder_103 rfl 3 rfl ?_
    obtain ⟨q9, hq9, hf⟩ := bs hf
    refine g_callVi (n := 2) (As := [.int x2, .int x3]) (rest := []) (wc := [(mo, oB 7 [.ref mo_now, .ref mo_aside, .ref mo_past, .int states, .ref mo_refusals, .ref mo_text, .int length, .ref mo_vars, .ref mo_sights, .int many, .int steps, .int isCut, .ref mo_isThere, .ref mo_taints, .ref mo_known, .int taint, .ref mo_knows, .int isOther, .int at_, .int isFaulty, .int orders, .ref mo_letters, .ref mo_numbers, .long hash]), (mo_now, aI G 104 now)]) (w1 := [(mo, oB 7 [.ref mo_now, .ref mo_aside, .ref mo_past, .int states, .ref mo_refusals, .ref mo_text, .int length, .ref mo_vars, .ref mo_sights, .int many, .int steps, .int isCut, .ref mo_isThere, .ref mo_taints, .ref mo_known, .int taint, .ref mo_knows, .int isOther, .int at_, .int isFaulty, .int orders, .ref mo_letters, .ref mo_numbers, .long hash]), (mo_now, aI G 104 q9.2)]) (wr := [(mo_letters, aI G 41 letters), (mo_numbers, aI G 164 numbers)]) (WS' := [(mo, oB 7 [.ref mo_now, .ref mo_aside, .ref mo_past, .int states, .ref mo_refusals, .ref mo_text, .int length, .ref mo_vars, .ref mo_sights, .int many, .int steps, .int isCut, .ref mo_isThere, .ref mo_taints, .ref mo_known, .int taint, .ref mo_knows, .int isOther, .int at_, .int isFaulty, .int orders, .ref mo_letters, .ref mo_numbers, .long hash]), (mo_now, aI G 104 q9.2), (mo_letters, aI G 41 letters), (mo_numbers, aI G 164 numbers)]) C (c7_setsTable hq9) gX7_doesOrder_X7_setsTable (by decide +kernel) rfl rfl rfl rfl rfl rfl ⟨by decide, by decide⟩ rfl [0, 1] [2, 3] [2, 3, 0, 1] rfl (by decide) rfl (by decide) (by decide) rfl (by decide) (Nat.le_of_ble_eq_true rfl) ⟨Nat.zero_le _, Nat.zero_le _⟩ rfl dX7_doesOrder_104 ?_
    obtain rfl := Option.some.inj hf
    exact hR _ _ dX7_doesOrder_107
  replace hf := ite_f c8 hf
  by_cases c10 : (letters x1.toNatClampNeg) = (118 : Int32)
  · replace hf := ite_t c10 hf
    refine g_lookup (off := 82) (tgt := 108) C dX7_doesOrder_26 (by decide +kernel) (by rw [c10]; decide +kernel) (by decide) ?_
    refine g_aload_n C dX7_doesOrder_108 rfl 0 rfl ?_
    refine g_iload_n C dX7_doesOrder_109 rfl 2 rfl ?_
    refine g_iload_n C dX7_doesOrder_110 rfl 3 rfl ?_
    obtain ⟨q11, hq11, hf⟩ := bs hf
    refine g_callVi (n := 2) (As := [.int x2, .int x3]) (rest := []) (wc := [(mo, oB 7 [.ref mo_now, .ref mo_aside, .ref mo_past, .int states, .ref mo_refusals, .ref mo_text, .int length, .ref mo_vars, .ref mo_sights, .int many, .int steps, .int isCut, .ref mo_isThere, .ref mo_taints, .ref mo_known, .int taint, .ref mo_knows, .int isOther, .int at_, .int isFaulty, .int orders, .ref mo_letters, .ref mo_numbers, .long hash]), (mo_now, aI G 104 now)]) (w1 := [(mo, oB 7 [.ref mo_now, .ref mo_aside, .ref mo_past, .int states, .ref mo_refusals, .ref mo_text, .int length, .ref mo_vars, .ref mo_sights, .int many, .int steps, .int isCut, .ref mo_isThere, .ref mo_taints, .ref mo_known, .int taint, .ref mo_knows, .int isOther, .int at_, .int isFaulty, .int orders, .ref mo_letters, .ref mo_numbers, .long hash]), (mo_now, aI G 104 q11.2)]) (wr := [(mo_letters, aI G 41 letters), (mo_numbers, aI G 164 numbers)]) (WS' := [(mo, oB 7 [.ref mo_now, .ref mo_aside, .ref mo_past, .int states, .ref mo_refusals, .ref mo_text, .int length, .ref mo_vars, .ref mo_sights, .int many, .int steps, .int isCut, .ref mo_isThere, .ref mo_taints, .ref mo_known, .int taint, .ref mo_knows, .int isOther, .int at_, .int isFaulty, .int orders, .ref mo_letters, .ref mo_numbers, .long hash]), (mo_now, aI G 104 q11.2), (mo_letters, aI G 41 letters), (mo_numbers, aI G 164 numbers)]) C (c7_setsStart hq11) gX7_doesOrder_X7_setsStart (by decide +kernel) rfl rfl rfl rfl rfl rfl ⟨by decide, by decide⟩ rfl [0, 1] [2, 3] [2, 3, 0, 1] rfl (by decide) rfl (by decide) (by decide) rfl (by decide) (Nat.le_of_ble_eq_true rfl) ⟨Nat.zero_le _, Nat.zero_le _⟩ rfl dX7_doesOrder_111 ?_
    obtain rfl := Option.some.inj hf
    exact hR _ _ dX7_doesOrder_114
  replace hf := ite_f c10 hf
  refine g_lookup (off := 89) (tgt := 115) C dX7_doesOrder_26 (by decide +kernel) (by refine (lv_osw (k := (100 : Int32)) c2 (by decide +kernel)).trans ?_; refine (lv_osw (k := (108 : Int32)) c4 (by decide +kernel)).trans ?_; refine (lv_osw (k := (116 : Int32)) c8 (by decide +kernel)).trans ?_; refine (lv_osw (k := (118 : Int32)) c10 (by decide +kernel)).trans ?_; rfl) (by decide) ?_
  refine g_aload_n C dX7_doesOrder_115 rfl 0 rfl ?_
  refine g_iload_n C dX7_doesOrder_116 rfl 2 rfl ?_
  refine g_iload_n C dX7_doesOrder_117 rfl 3 rfl ?_
  obtain ⟨q12, hq12, hf⟩ := bs hf
  refine g_callVi (n := 2) (As := [.int x2, .int x3]) (rest := []) (wc := [(mo, oB 7 [.ref mo_now, .ref mo_aside, .ref mo_past, .int states, .ref mo_refusals, .ref mo_text, .int length, .ref mo_vars, .ref mo_sights, .int many, .int steps, .int isCut, .ref mo_isThere, .ref mo_taints, .ref mo_known, .int taint, .ref mo_knows, .int isOther, .int at_, .int isFaulty, .int orders, .ref mo_letters, .ref mo_numbers, .long hash]), (mo_now, aI G 104 now)]) (w1 := [(mo, oB 7 [.ref mo_now, .ref mo_aside, .ref mo_past, .int states, .ref mo_refusals, .ref mo_text, .int length, .ref mo_vars, .ref mo_sights, .int many, .int steps, .int isCut, .ref mo_isThere, .ref mo_taints, .ref mo_known, .int taint, .ref mo_knows, .int isOther, .int at_, .int isFaulty, .int orders, .ref mo_letters, .ref mo_numbers, .long hash]), (mo_now, aI G 104 q12.2)]) (wr := [(mo_letters, aI G 41 letters), (mo_numbers, aI G 164 numbers)]) (WS' := [(mo, oB 7 [.ref mo_now, .ref mo_aside, .ref mo_past, .int states, .ref mo_refusals, .ref mo_text, .int length, .ref mo_vars, .ref mo_sights, .int many, .int steps, .int isCut, .ref mo_isThere, .ref mo_taints, .ref mo_known, .int taint, .ref mo_knows, .int isOther, .int at_, .int isFaulty, .int orders, .ref mo_letters, .ref mo_numbers, .long hash]), (mo_now, aI G 104 q12.2), (mo_letters, aI G 41 letters), (mo_numbers, aI G 164 numbers)]) C (c7_setsSecret hq12) gX7_doesOrder_X7_setsSecret (by decide +kernel) rfl rfl rfl rfl rfl rfl ⟨by decide, by decide⟩ rfl [0, 1] [2, 3] [2, 3, 0, 1] rfl (by decide) rfl (by decide) (by decide) rfl (by decide) (Nat.le_of_ble_eq_true rfl) ⟨Nat.zero_le _, Nat.zero_le _⟩ rfl dX7_doesOrder_118 ?_
  obtain rfl := Option.some.inj hf
  exact hR _ _ dX7_doesOrder_121
set_option maxHeartbeats 4000000 in
set_option maxRecDepth 100000 in
theorem c7_doesOrder {l : Launch} {G : gG} {mo mo_now mo_aside mo_past mo_refusals mo_text mo_vars mo_sights mo_isThere mo_taints mo_known mo_knows mo_letters mo_numbers : Nat} {now : Nat → Int32} {states : Int32} {length : Int32} {many : Int32} {steps : Int32} {isCut : Int32} {taint : Int32} {isOther : Int32} {at_ : Int32} {isFaulty : Int32} {orders : Int32} {letters : Nat → Int32} {numbers : Nat → Int32} {hash : Int64} {v0 : Int32} {res : Int32 × (Nat → Int32)} (hf : f7_doesOrder letters numbers now v0 = some res) : MI l yX7_doesOrder wsX7_doesOrder rm7_doesOrder G [.ref mo, .int v0] [(mo, oB 7 [.ref mo_now, .ref mo_aside, .ref mo_past, .int states, .ref mo_refusals, .ref mo_text, .int length, .ref mo_vars, .ref mo_sights, .int many, .int steps, .int isCut, .ref mo_isThere, .ref mo_taints, .ref mo_known, .int taint, .ref mo_knows, .int isOther, .int at_, .int isFaulty, .int orders, .ref mo_letters, .ref mo_numbers, .long hash]), (mo_now, aI G 104 now), (mo_letters, aI G 41 letters), (mo_numbers, aI G 164 numbers)] (res.1) [(mo, oB 7 [.ref mo_now, .ref mo_aside, .ref mo_past, .int states, .ref mo_refusals, .ref mo_text, .int length, .ref mo_vars, .ref mo_sights, .int many, .int steps, .int isCut, .ref mo_isThere, .ref mo_taints, .ref mo_known, .int taint, .ref mo_knows, .int isOther, .int at_, .int isFaulty, .int orders, .ref mo_letters, .ref mo_numbers, .long hash]), (mo_now, aI G 104 res.2), (mo_letters, aI G 41 letters), (mo_numbers, aI G 164 numbers)] := by
  refine MI_of (res.1) (cc := cX7_doesOrder) (nL := 4) (lv := [(0, .ref mo), (1, .int v0)]) (by decide +kernel) rfl (Nat.le_of_ble_eq_true rfl) rfl ?_
  intro p e s m args below meth c A Q C hR
  unfold f7_doesOrder at hf
  refine g_aload_n C dX7_doesOrder_0 rfl 0 rfl ?_
  refine g_get (C0 := RX7) (T := TX7) (N := 24) (ci := 7) (v := .ref mo_numbers) C hm7_doesOrder_0 0 rfl rfl 22 (by decide) hm7_doesOrder_2 rfl dX7_doesOrder_1 ?_
  refine g_iconst (v := (4 : Int32)) C dX7_doesOrder_4 (by decide +kernel) ?_
  refine g_iload_n C dX7_doesOrder_5 rfl 1 rfl ?_
  refine g_imul C dX7_doesOrder_6 ?_
  obtain ⟨h13, hf⟩ := ck_some hf
  refine g_iald (n := 164) (v := (numbers ((4 : Int32) * v0).toNatClampNeg)) C 3 rfl h13 rfl rfl dX7_doesOrder_7 ?_
  refine g_istore_n (lv' := [(0, .ref mo), (1, .int v0), (2, .int (numbers ((4 : Int32) * v0).toNatClampNeg))]) C dX7_doesOrder_8 rfl (by decide) [1, 2, 0] rfl ?_
  refine g_aload_n C dX7_doesOrder_9 rfl 0 rfl ?_
  refine g_get (C0 := RX7) (T := TX7) (N := 24) (ci := 7) (v := .ref mo_numbers) C hm7_doesOrder_0 0 rfl rfl 22 (by decide) hm7_doesOrder_2 rfl dX7_doesOrder_10 ?_
  refine g_iconst (v := (4 : Int32)) C dX7_doesOrder_13 (by decide +kernel) ?_
  refine g_iload_n C dX7_doesOrder_14 rfl 1 rfl ?_
  refine g_imul C dX7_doesOrder_15 ?_
  refine g_iconst (v := (1 : Int32)) C dX7_doesOrder_16 (by decide +kernel) ?_
  refine g_iadd C dX7_doesOrder_17 ?_
  obtain ⟨h14, hf⟩ := ck_some hf
  refine g_iald (n := 164) (v := (numbers (((4 : Int32) * v0) + (1 : Int32)).toNatClampNeg)) C 3 rfl h14 rfl rfl dX7_doesOrder_18 ?_
  refine g_istore_n (lv' := [(0, .ref mo), (1, .int v0), (2, .int (numbers ((4 : Int32) * v0).toNatClampNeg)), (3, .int (numbers (((4 : Int32) * v0) + (1 : Int32)).toNatClampNeg))]) C dX7_doesOrder_19 rfl (by decide) [1, 2, 3, 0] rfl ?_
  exact k7_doesOrder_20 C hR hf

-- X7_does
def f7_does_75 (text : Nat → Int32) (length : Int32) (now : Nat → Int32) (aside : Nat → Int32) (past : Nat → Int32) (states : Int32) (at_ : Int32) (isFaulty : Int32) (orders : Int32) (letters : Nat → Int32) (numbers : Nat → Int32) (x1 : Int32) : Option (Int32 × (Nat → Int32) × (Nat → Int32) × (Nat → Int32) × Int32 × Int32 × Int32 × Int32 × (Nat → Int32) × (Nat → Int32)) :=
  (f7_leaves aside past states).bind <| fun q1 =>
    some (orders, now, aside, q1.1, q1.2, at_, isFaulty, orders, letters, numbers)
def f7_does_63 (text : Nat → Int32) (length : Int32) (now : Nat → Int32) (aside : Nat → Int32) (past : Nat → Int32) (states : Int32) (at_ : Int32) (isFaulty : Int32) (orders : Int32) (letters : Nat → Int32) (numbers : Nat → Int32) (x1 : Int32) (x2 : Int32) : Option (Int32 × (Nat → Int32) × (Nat → Int32) × (Nat → Int32) × Int32 × Int32 × Int32 × Int32 × (Nat → Int32) × (Nat → Int32)) :=
  some (((-1000 : Int32) - x1), now, aside, past, states, at_, isFaulty, orders, letters, numbers)
def f7_does_39b (text : Nat → Int32) (length : Int32) (k39 : (Nat → Int32) × (Nat → Int32) × (Nat → Int32) × Int32 × Int32 × Int32 × Int32 × (Nat → Int32) × (Nat → Int32) × Int32 × Int32 → Option (Int32 × (Nat → Int32) × (Nat → Int32) × (Nat → Int32) × Int32 × Int32 × Int32 × Int32 × (Nat → Int32) × (Nat → Int32))) (now : Nat → Int32) (aside : Nat → Int32) (past : Nat → Int32) (states : Int32) (at_ : Int32) (isFaulty : Int32) (orders : Int32) (letters : Nat → Int32) (numbers : Nat → Int32) (x1 : Int32) (x2 : Int32) : Option (Int32 × (Nat → Int32) × (Nat → Int32) × (Nat → Int32) × Int32 × Int32 × Int32 × Int32 × (Nat → Int32) × (Nat → Int32)) :=
  if (104 : Int32) ≤ x2 then
    (f7_does_63 text length now aside past states at_ isFaulty orders letters numbers x1 x2)
    else (ck (inb x2 104) <|
    ck (inb x2 104) <|
    k39 ((upd now x2.toNatClampNeg (aside x2.toNatClampNeg)), aside, past, states, at_, isFaulty, orders, letters, numbers, x1, (x2 + (1 : Int32))))
def f7_does_39 (text : Nat → Int32) (length : Int32) (n : Nat) (s : (Nat → Int32) × (Nat → Int32) × (Nat → Int32) × Int32 × Int32 × Int32 × Int32 × (Nat → Int32) × (Nat → Int32) × Int32 × Int32) : Option (Int32 × (Nat → Int32) × (Nat → Int32) × (Nat → Int32) × Int32 × Int32 × Int32 × Int32 × (Nat → Int32) × (Nat → Int32)) := itf (fun k s => f7_does_39b text length k s.1 s.2.1 s.2.2.1 s.2.2.2.1 s.2.2.2.2.1 s.2.2.2.2.2.1 s.2.2.2.2.2.2.1 s.2.2.2.2.2.2.2.1 s.2.2.2.2.2.2.2.2.1 s.2.2.2.2.2.2.2.2.2.1 s.2.2.2.2.2.2.2.2.2.2) n s
def f7_does_21b (text : Nat → Int32) (length : Int32) (k21 : (Nat → Int32) × (Nat → Int32) × (Nat → Int32) × Int32 × Int32 × Int32 × Int32 × (Nat → Int32) × (Nat → Int32) × Int32 → Option (Int32 × (Nat → Int32) × (Nat → Int32) × (Nat → Int32) × Int32 × Int32 × Int32 × Int32 × (Nat → Int32) × (Nat → Int32))) (now : Nat → Int32) (aside : Nat → Int32) (past : Nat → Int32) (states : Int32) (at_ : Int32) (isFaulty : Int32) (orders : Int32) (letters : Nat → Int32) (numbers : Nat → Int32) (x1 : Int32) : Option (Int32 × (Nat → Int32) × (Nat → Int32) × (Nat → Int32) × Int32 × Int32 × Int32 × Int32 × (Nat → Int32) × (Nat → Int32)) :=
  if orders ≤ x1 then
    (f7_does_75 text length now aside past states at_ isFaulty orders letters numbers x1)
    else ((f7_doesOrder letters numbers now x1).bind <| fun q6 =>
    if 0 ≤ q6.1 then
    (k21 (q6.2, aside, past, states, at_, isFaulty, orders, letters, numbers, (x1 + (1 : Int32))))
    else (f7_does_39 text length 1000 (q6.2, aside, past, states, at_, isFaulty, orders, letters, numbers, x1, (0 : Int32))))
def f7_does_21 (text : Nat → Int32) (length : Int32) (n : Nat) (s : (Nat → Int32) × (Nat → Int32) × (Nat → Int32) × Int32 × Int32 × Int32 × Int32 × (Nat → Int32) × (Nat → Int32) × Int32) : Option (Int32 × (Nat → Int32) × (Nat → Int32) × (Nat → Int32) × Int32 × Int32 × Int32 × Int32 × (Nat → Int32) × (Nat → Int32)) := itf (fun k s => f7_does_21b text length k s.1 s.2.1 s.2.2.1 s.2.2.2.1 s.2.2.2.2.1 s.2.2.2.2.2.1 s.2.2.2.2.2.2.1 s.2.2.2.2.2.2.2.1 s.2.2.2.2.2.2.2.2.1 s.2.2.2.2.2.2.2.2.2) n s
def f7_does (text : Nat → Int32) (length : Int32) (now : Nat → Int32) (aside : Nat → Int32) (past : Nat → Int32) (states : Int32) (at_ : Int32) (isFaulty : Int32) (orders : Int32) (letters : Nat → Int32) (numbers : Nat → Int32) : Option (Int32 × (Nat → Int32) × (Nat → Int32) × (Nat → Int32) × Int32 × Int32 × Int32 × Int32 × (Nat → Int32) × (Nat → Int32)) :=
  (f7_isRead text length at_ isFaulty orders letters numbers).bind <| fun q8 =>
    if q8.1 = 0 then
    (some (((-10 : Int32) - q8.2.1), now, aside, past, states, q8.2.1, q8.2.2.1, q8.2.2.2.1, q8.2.2.2.2.1, q8.2.2.2.2.2))
    else ((f7_laysAside now aside).bind <| fun q10 =>
    f7_does_21 text length 1000 (now, q10, past, states, q8.2.1, q8.2.2.1, q8.2.2.2.1, q8.2.2.2.2.1, q8.2.2.2.2.2, (0 : Int32)))
def rm7_does : Room := { frames := 6, cells := 0, slots := 0, locals := 129 }
theorem hm7_does_0 : ∀ w ∈ u_ws RX7 TX7 24, w ∈ wsX7_does := by decide +kernel
theorem hm7_does_1 : Cond.fieldLink RX7 232 "SecretStepsModel" "orders" "I" ∈ wsX7_does := by decide +kernel
theorem hm7_does_2 : Cond.fieldLink RX7 7 "SecretStepsModel" "now" "[I" ∈ wsX7_does := by decide +kernel
theorem hm7_does_3 : Cond.fieldLink RX7 13 "SecretStepsModel" "aside" "[I" ∈ wsX7_does := by decide +kernel
theorem hm7_does_4 : Cond.fieldLink RX7 217 "SecretStepsModel" "at" "I" ∈ wsX7_does := by decide +kernel
set_option maxHeartbeats 4000000 in
set_option maxRecDepth 100000 in
theorem k7_does_75 {p : Program} {l : Launch} {e : Env} {s : State} {m : MethodId} {args : Array Value} {below : List Frame} {meth : Method} {c : Code} {G : gG} {A : Nat → Prop} {Q : State → Prop} {mo mo_now mo_aside mo_past mo_refusals mo_text mo_vars mo_sights mo_isThere mo_taints mo_known mo_knows mo_letters mo_numbers : Nat} (C : CX p s m args meth c G A cX7_does 3 RX7 wsX7_does) {many : Int32} {steps : Int32} {isCut : Int32} {taint : Int32} {isOther : Int32} {hash : Int64} {text : Nat → Int32} {length : Int32} {now : Nat → Int32} {aside : Nat → Int32} {past : Nat → Int32} {states : Int32} {at_ : Int32} {isFaulty : Int32} {orders : Int32} {letters : Nat → Int32} {numbers : Nat → Int32} {x1 : Int32} {res : Int32 × (Nat → Int32) × (Nat → Int32) × (Nat → Int32) × Int32 × Int32 × Int32 × Int32 × (Nat → Int32) × (Nat → Int32)} (hR : ∀ (lv : List (Nat × Value)) (pc : Nat), decode cX7_does pc = .ok (.ireturn, 1) → GG p l e rm7_does s m args below meth c G A 3 0 0 Q [(mo, oB 7 [.ref mo_now, .ref mo_aside, .ref mo_past, .int res.2.2.2.2.1, .ref mo_refusals, .ref mo_text, .int length, .ref mo_vars, .ref mo_sights, .int many, .int steps, .int isCut, .ref mo_isThere, .ref mo_taints, .ref mo_known, .int taint, .ref mo_knows, .int isOther, .int res.2.2.2.2.2.1, .int res.2.2.2.2.2.2.1, .int res.2.2.2.2.2.2.2.1, .ref mo_letters, .ref mo_numbers, .long hash]), (mo_now, aI G 104 res.2.1), (mo_aside, aI G 104 res.2.2.1), (mo_past, aI G 520 res.2.2.2.1), (mo_text, aI G 120 text), (mo_letters, aI G 41 res.2.2.2.2.2.2.2.2.1), (mo_numbers, aI G 164 res.2.2.2.2.2.2.2.2.2)] lv pc [.int res.1])
    (hf : f7_does_75 text length now aside past states at_ isFaulty orders letters numbers x1 = some res) : GG p l e rm7_does s m args below meth c G A 3 0 0 Q [(mo, oB 7 [.ref mo_now, .ref mo_aside, .ref mo_past, .int states, .ref mo_refusals, .ref mo_text, .int length, .ref mo_vars, .ref mo_sights, .int many, .int steps, .int isCut, .ref mo_isThere, .ref mo_taints, .ref mo_known, .int taint, .ref mo_knows, .int isOther, .int at_, .int isFaulty, .int orders, .ref mo_letters, .ref mo_numbers, .long hash]), (mo_now, aI G 104 now), (mo_aside, aI G 104 aside), (mo_past, aI G 520 past), (mo_text, aI G 120 text), (mo_letters, aI G 41 letters), (mo_numbers, aI G 164 numbers)] [(0, .ref mo), (1, .int x1)] 75 [] := by
  unfold f7_does_75 at hf
  refine g_aload_n C dX7_does_75 rfl 0 rfl ?_
  obtain ⟨q1, hq1, hf⟩ := bs hf
  refine g_callVv (n := 0) (As := []) (rest := []) (wc := [(mo, oB 7 [.ref mo_now, .ref mo_aside, .ref mo_past, .int states, .ref mo_refusals, .ref mo_text, .int length, .ref mo_vars, .ref mo_sights, .int many, .int steps, .int isCut, .ref mo_isThere, .ref mo_taints, .ref mo_known, .int taint, .ref mo_knows, .int isOther, .int at_, .int isFaulty, .int orders, .ref mo_letters, .ref mo_numbers, .long hash]), (mo_aside, aI G 104 aside), (mo_past, aI G 520 past)]) (w1 := [(mo, oB 7 [.ref mo_now, .ref mo_aside, .ref mo_past, .int q1.2, .ref mo_refusals, .ref mo_text, .int length, .ref mo_vars, .ref mo_sights, .int many, .int steps, .int isCut, .ref mo_isThere, .ref mo_taints, .ref mo_known, .int taint, .ref mo_knows, .int isOther, .int at_, .int isFaulty, .int orders, .ref mo_letters, .ref mo_numbers, .long hash]), (mo_aside, aI G 104 aside), (mo_past, aI G 520 q1.1)]) (wr := [(mo_now, aI G 104 now), (mo_text, aI G 120 text), (mo_letters, aI G 41 letters), (mo_numbers, aI G 164 numbers)]) (WS' := [(mo, oB 7 [.ref mo_now, .ref mo_aside, .ref mo_past, .int q1.2, .ref mo_refusals, .ref mo_text, .int length, .ref mo_vars, .ref mo_sights, .int many, .int steps, .int isCut, .ref mo_isThere, .ref mo_taints, .ref mo_known, .int taint, .ref mo_knows, .int isOther, .int at_, .int isFaulty, .int orders, .ref mo_letters, .ref mo_numbers, .long hash]), (mo_now, aI G 104 now), (mo_aside, aI G 104 aside), (mo_past, aI G 520 q1.1), (mo_text, aI G 120 text), (mo_letters, aI G 41 letters), (mo_numbers, aI G 164 numbers)]) C (c7_leaves hq1) gX7_does_X7_leaves (by decide +kernel) rfl rfl rfl rfl rfl rfl ⟨by decide, by decide⟩ rfl [0, 2, 3] [1, 4, 5, 6] [4, 0, 5, 6, 1, 2, 3] rfl (by decide) rfl (by decide) (by decide) rfl (by decide) (Nat.le_of_ble_eq_true rfl) ⟨Nat.zero_le _, Nat.zero_le _⟩ rfl dX7_does_76 ?_
  refine g_aload_n C dX7_does_79 rfl 0 rfl ?_
  refine g_get (C0 := RX7) (T := TX7) (N := 24) (ci := 7) (v := .int orders) C hm7_does_0 0 rfl rfl 20 (by decide) hm7_does_1 rfl dX7_does_80 ?_
  obtain rfl := Option.some.inj hf
  exact hR _ _ dX7_does_83
set_option maxHeartbeats 4000000 in
set_option maxRecDepth 100000 in
theorem k7_does_63 {p : Program} {l : Launch} {e : Env} {s : State} {m : MethodId} {args : Array Value} {below : List Frame} {meth : Method} {c : Code} {G : gG} {A : Nat → Prop} {Q : State → Prop} {mo mo_now mo_aside mo_past mo_refusals mo_text mo_vars mo_sights mo_isThere mo_taints mo_known mo_knows mo_letters mo_numbers : Nat} (C : CX p s m args meth c G A cX7_does 3 RX7 wsX7_does) {many : Int32} {steps : Int32} {isCut : Int32} {taint : Int32} {isOther : Int32} {hash : Int64} {text : Nat → Int32} {length : Int32} {now : Nat → Int32} {aside : Nat → Int32} {past : Nat → Int32} {states : Int32} {at_ : Int32} {isFaulty : Int32} {orders : Int32} {letters : Nat → Int32} {numbers : Nat → Int32} {x1 : Int32} {x2 : Int32} {res : Int32 × (Nat → Int32) × (Nat → Int32) × (Nat → Int32) × Int32 × Int32 × Int32 × Int32 × (Nat → Int32) × (Nat → Int32)} (hR : ∀ (lv : List (Nat × Value)) (pc : Nat), decode cX7_does pc = .ok (.ireturn, 1) → GG p l e rm7_does s m args below meth c G A 3 0 0 Q [(mo, oB 7 [.ref mo_now, .ref mo_aside, .ref mo_past, .int res.2.2.2.2.1, .ref mo_refusals, .ref mo_text, .int length, .ref mo_vars, .ref mo_sights, .int many, .int steps, .int isCut, .ref mo_isThere, .ref mo_taints, .ref mo_known, .int taint, .ref mo_knows, .int isOther, .int res.2.2.2.2.2.1, .int res.2.2.2.2.2.2.1, .int res.2.2.2.2.2.2.2.1, .ref mo_letters, .ref mo_numbers, .long hash]), (mo_now, aI G 104 res.2.1), (mo_aside, aI G 104 res.2.2.1), (mo_past, aI G 520 res.2.2.2.1), (mo_text, aI G 120 text), (mo_letters, aI G 41 res.2.2.2.2.2.2.2.2.1), (mo_numbers, aI G 164 res.2.2.2.2.2.2.2.2.2)] lv pc [.int res.1])
    (hf : f7_does_63 text length now aside past states at_ isFaulty orders letters numbers x1 x2 = some res) : GG p l e rm7_does s m args below meth c G A 3 0 0 Q [(mo, oB 7 [.ref mo_now, .ref mo_aside, .ref mo_past, .int states, .ref mo_refusals, .ref mo_text, .int length, .ref mo_vars, .ref mo_sights, .int many, .int steps, .int isCut, .ref mo_isThere, .ref mo_taints, .ref mo_known, .int taint, .ref mo_knows, .int isOther, .int at_, .int isFaulty, .int orders, .ref mo_letters, .ref mo_numbers, .long hash]), (mo_now, aI G 104 now), (mo_aside, aI G 104 aside), (mo_past, aI G 520 past), (mo_text, aI G 120 text), (mo_letters, aI G 41 letters), (mo_numbers, aI G 164 numbers)] [(0, .ref mo), (1, .int x1), (2, .int x2)] 63 [] := by
  unfold f7_does_63 at hf
  refine g_sipush (v := (-1000 : Int32)) C dX7_does_63 (by decide +kernel) ?_
  refine g_iload_n C dX7_does_66 rfl 1 rfl ?_
  refine g_isub C dX7_does_67 ?_
  obtain rfl := Option.some.inj hf
  exact hR _ _ dX7_does_68
set_option maxHeartbeats 4000000 in
set_option maxRecDepth 100000 in
theorem k7_does_39b {p : Program} {l : Launch} {e : Env} {s : State} {m : MethodId} {args : Array Value} {below : List Frame} {meth : Method} {c : Code} {G : gG} {A : Nat → Prop} {Q : State → Prop} {mo mo_now mo_aside mo_past mo_refusals mo_text mo_vars mo_sights mo_isThere mo_taints mo_known mo_knows mo_letters mo_numbers : Nat} (C : CX p s m args meth c G A cX7_does 3 RX7 wsX7_does) {many : Int32} {steps : Int32} {isCut : Int32} {taint : Int32} {isOther : Int32} {hash : Int64} {text : Nat → Int32} {length : Int32} {k39 : (Nat → Int32) × (Nat → Int32) × (Nat → Int32) × Int32 × Int32 × Int32 × Int32 × (Nat → Int32) × (Nat → Int32) × Int32 × Int32 → Option (Int32 × (Nat → Int32) × (Nat → Int32) × (Nat → Int32) × Int32 × Int32 × Int32 × Int32 × (Nat → Int32) × (Nat → Int32))} {now : Nat → Int32} {aside : Nat → Int32} {past : Nat → Int32} {states : Int32} {at_ : Int32} {isFaulty : Int32} {orders : Int32} {letters : Nat → Int32} {numbers : Nat → Int32} {x1 : Int32} {x2 : Int32} {res : Int32 × (Nat → Int32) × (Nat → Int32) × (Nat → Int32) × Int32 × Int32 × Int32 × Int32 × (Nat → Int32) × (Nat → Int32)} (hR : ∀ (lv : List (Nat × Value)) (pc : Nat), decode cX7_does pc = .ok (.ireturn, 1) → GG p l e rm7_does s m args below meth c G A 3 0 0 Q [(mo, oB 7 [.ref mo_now, .ref mo_aside, .ref mo_past, .int res.2.2.2.2.1, .ref mo_refusals, .ref mo_text, .int length, .ref mo_vars, .ref mo_sights, .int many, .int steps, .int isCut, .ref mo_isThere, .ref mo_taints, .ref mo_known, .int taint, .ref mo_knows, .int isOther, .int res.2.2.2.2.2.1, .int res.2.2.2.2.2.2.1, .int res.2.2.2.2.2.2.2.1, .ref mo_letters, .ref mo_numbers, .long hash]), (mo_now, aI G 104 res.2.1), (mo_aside, aI G 104 res.2.2.1), (mo_past, aI G 520 res.2.2.2.1), (mo_text, aI G 120 text), (mo_letters, aI G 41 res.2.2.2.2.2.2.2.2.1), (mo_numbers, aI G 164 res.2.2.2.2.2.2.2.2.2)] lv pc [.int res.1])
    (hk39 : ∀ s', k39 s' = some res → GG p l e rm7_does s m args below meth c G A 3 0 0 Q [(mo, oB 7 [.ref mo_now, .ref mo_aside, .ref mo_past, .int s'.2.2.2.1, .ref mo_refusals, .ref mo_text, .int length, .ref mo_vars, .ref mo_sights, .int many, .int steps, .int isCut, .ref mo_isThere, .ref mo_taints, .ref mo_known, .int taint, .ref mo_knows, .int isOther, .int s'.2.2.2.2.1, .int s'.2.2.2.2.2.1, .int s'.2.2.2.2.2.2.1, .ref mo_letters, .ref mo_numbers, .long hash]), (mo_now, aI G 104 s'.1), (mo_aside, aI G 104 s'.2.1), (mo_past, aI G 520 s'.2.2.1), (mo_text, aI G 120 text), (mo_letters, aI G 41 s'.2.2.2.2.2.2.2.1), (mo_numbers, aI G 164 s'.2.2.2.2.2.2.2.2.1)] [(0, .ref mo), (1, .int s'.2.2.2.2.2.2.2.2.2.1), (2, .int s'.2.2.2.2.2.2.2.2.2.2)] 39 [])
    (hf : f7_does_39b text length k39 now aside past states at_ isFaulty orders letters numbers x1 x2 = some res) : GG p l e rm7_does s m args below meth c G A 3 0 0 Q [(mo, oB 7 [.ref mo_now, .ref mo_aside, .ref mo_past, .int states, .ref mo_refusals, .ref mo_text, .int length, .ref mo_vars, .ref mo_sights, .int many, .int steps, .int isCut, .ref mo_isThere, .ref mo_taints, .ref mo_known, .int taint, .ref mo_knows, .int isOther, .int at_, .int isFaulty, .int orders, .ref mo_letters, .ref mo_numbers, .long hash]), (mo_now, aI G 104 now), (mo_aside, aI G 104 aside), (mo_past, aI G 520 past), (mo_text, aI G 120 text), (mo_letters, aI G 41 letters), (mo_numbers, aI G 164 numbers)] [(0, .ref mo), (1, .int x1), (2, .int x2)] 39 [] := by
  unfold f7_does_39b at hf
  refine g_iload_n C dX7_does_39 rfl 2 rfl ?_
  refine g_bipush (v := (104 : Int32)) C dX7_does_40 (by decide +kernel) ?_
  refine g_icmp_ge (tgt := 63) C dX7_does_42 (by decide) (fun c2 => ?_) (fun c2 => ?_)
  · replace hf := ite_t c2 hf
    exact k7_does_63 C hR hf
  · replace hf := ite_f c2 hf
    refine g_aload_n C dX7_does_45 rfl 0 rfl ?_
    refine g_get (C0 := RX7) (T := TX7) (N := 24) (ci := 7) (v := .ref mo_now) C hm7_does_0 0 rfl rfl 0 (by decide) hm7_does_2 rfl dX7_does_46 ?_
    refine g_iload_n C dX7_does_49 rfl 2 rfl ?_
    refine g_aload_n C dX7_does_50 rfl 0 rfl ?_
    refine g_get (C0 := RX7) (T := TX7) (N := 24) (ci := 7) (v := .ref mo_aside) C hm7_does_0 0 rfl rfl 1 (by decide) hm7_does_3 rfl dX7_does_51 ?_
    refine g_iload_n C dX7_does_54 rfl 2 rfl ?_
    obtain ⟨h3, hf⟩ := ck_some hf
    refine g_iald (n := 104) (v := (aside x2.toNatClampNeg)) C 2 rfl h3 rfl rfl dX7_does_55 ?_
    obtain ⟨h4, hf⟩ := ck_some hf
    refine g_iast (n := 104) (WS' := [(mo, oB 7 [.ref mo_now, .ref mo_aside, .ref mo_past, .int states, .ref mo_refusals, .ref mo_text, .int length, .ref mo_vars, .ref mo_sights, .int many, .int steps, .int isCut, .ref mo_isThere, .ref mo_taints, .ref mo_known, .int taint, .ref mo_knows, .int isOther, .int at_, .int isFaulty, .int orders, .ref mo_letters, .ref mo_numbers, .long hash]), (mo_now, aI G 104 (upd now x2.toNatClampNeg (aside x2.toNatClampNeg))), (mo_aside, aI G 104 aside), (mo_past, aI G 520 past), (mo_text, aI G 120 text), (mo_letters, aI G 41 letters), (mo_numbers, aI G 164 numbers)]) C 1 rfl h4 rfl dX7_does_56 rfl ?_
    refine g_iinc (v := (x2 + (1 : Int32))) (lv' := [(0, .ref mo), (1, .int x1), (2, .int (x2 + (1 : Int32)))]) C dX7_does_57 2 rfl rfl (by decide) [1, 2, 0] rfl ?_
    refine g_goto (tgt := 39) C dX7_does_60 (by decide) ?_
    exact hk39 _ hf
set_option maxHeartbeats 4000000 in
set_option maxRecDepth 100000 in
theorem k7_does_39 {p : Program} {l : Launch} {e : Env} {s : State} {m : MethodId} {args : Array Value} {below : List Frame} {meth : Method} {c : Code} {G : gG} {A : Nat → Prop} {Q : State → Prop} {mo mo_now mo_aside mo_past mo_refusals mo_text mo_vars mo_sights mo_isThere mo_taints mo_known mo_knows mo_letters mo_numbers : Nat} (C : CX p s m args meth c G A cX7_does 3 RX7 wsX7_does) {many : Int32} {steps : Int32} {isCut : Int32} {taint : Int32} {isOther : Int32} {hash : Int64} {text : Nat → Int32} {length : Int32} {res : Int32 × (Nat → Int32) × (Nat → Int32) × (Nat → Int32) × Int32 × Int32 × Int32 × Int32 × (Nat → Int32) × (Nat → Int32)} (hR : ∀ (lv : List (Nat × Value)) (pc : Nat), decode cX7_does pc = .ok (.ireturn, 1) → GG p l e rm7_does s m args below meth c G A 3 0 0 Q [(mo, oB 7 [.ref mo_now, .ref mo_aside, .ref mo_past, .int res.2.2.2.2.1, .ref mo_refusals, .ref mo_text, .int length, .ref mo_vars, .ref mo_sights, .int many, .int steps, .int isCut, .ref mo_isThere, .ref mo_taints, .ref mo_known, .int taint, .ref mo_knows, .int isOther, .int res.2.2.2.2.2.1, .int res.2.2.2.2.2.2.1, .int res.2.2.2.2.2.2.2.1, .ref mo_letters, .ref mo_numbers, .long hash]), (mo_now, aI G 104 res.2.1), (mo_aside, aI G 104 res.2.2.1), (mo_past, aI G 520 res.2.2.2.1), (mo_text, aI G 120 text), (mo_letters, aI G 41 res.2.2.2.2.2.2.2.2.1), (mo_numbers, aI G 164 res.2.2.2.2.2.2.2.2.2)] lv pc [.int res.1]) : ∀ (n : Nat) (s1 : (Nat → Int32) × (Nat → Int32) × (Nat → Int32) × Int32 × Int32 × Int32 × Int32 × (Nat → Int32) × (Nat → Int32) × Int32 × Int32), f7_does_39 text length n s1 = some res → GG p l e rm7_does s m args below meth c G A 3 0 0 Q [(mo, oB 7 [.ref mo_now, .ref mo_aside, .ref mo_past, .int s1.2.2.2.1, .ref mo_refusals, .ref mo_text, .int length, .ref mo_vars, .ref mo_sights, .int many, .int steps, .int isCut, .ref mo_isThere, .ref mo_taints, .ref mo_known, .int taint, .ref mo_knows, .int isOther, .int s1.2.2.2.2.1, .int s1.2.2.2.2.2.1, .int s1.2.2.2.2.2.2.1, .ref mo_letters, .ref mo_numbers, .long hash]), (mo_now, aI G 104 s1.1), (mo_aside, aI G 104 s1.2.1), (mo_past, aI G 520 s1.2.2.1), (mo_text, aI G 120 text), (mo_letters, aI G 41 s1.2.2.2.2.2.2.2.1), (mo_numbers, aI G 164 s1.2.2.2.2.2.2.2.2.1)] [(0, .ref mo), (1, .int s1.2.2.2.2.2.2.2.2.2.1), (2, .int s1.2.2.2.2.2.2.2.2.2.2)] 39 [] :=
  itf_ind (fun k s1 ih hf => k7_does_39b C hR ih hf)
set_option maxHeartbeats 4000000 in
set_option maxRecDepth 100000 in
theorem k7_does_21b {p : Program} {l : Launch} {e : Env} {s : State} {m : MethodId} {args : Array Value} {below : List Frame} {meth : Method} {c : Code} {G : gG} {A : Nat → Prop} {Q : State → Prop} {mo mo_now mo_aside mo_past mo_refusals mo_text mo_vars mo_sights mo_isThere mo_taints mo_known mo_knows mo_letters mo_numbers : Nat} (C : CX p s m args meth c G A cX7_does 3 RX7 wsX7_does) {many : Int32} {steps : Int32} {isCut : Int32} {taint : Int32} {isOther : Int32} {hash : Int64} {text : Nat → Int32} {length : Int32} {k21 : (Nat → Int32) × (Nat → Int32) × (Nat → Int32) × Int32 × Int32 × Int32 × Int32 × (Nat → Int32) × (Nat → Int32) × Int32 → Option (Int32 × (Nat → Int32) × (Nat → Int32) × (Nat → Int32) × Int32 × Int32 × Int32 × Int32 × (Nat → Int32) × (Nat → Int32))} {now : Nat → Int32} {aside : Nat → Int32} {past : Nat → Int32} {states : Int32} {at_ : Int32} {isFaulty : Int32} {orders : Int32} {letters : Nat → Int32} {numbers : Nat → Int32} {x1 : Int32} {res : Int32 × (Nat → Int32) × (Nat → Int32) × (Nat → Int32) × Int32 × Int32 × Int32 × Int32 × (Nat → Int32) × (Nat → Int32)} (hR : ∀ (lv : List (Nat × Value)) (pc : Nat), decode cX7_does pc = .ok (.ireturn, 1) → GG p l e rm7_does s m args below meth c G A 3 0 0 Q [(mo, oB 7 [.ref mo_now, .ref mo_aside, .ref mo_past, .int res.2.2.2.2.1, .ref mo_refusals, .ref mo_text, .int length, .ref mo_vars, .ref mo_sights, .int many, .int steps, .int isCut, .ref mo_isThere, .ref mo_taints, .ref mo_known, .int taint, .ref mo_knows, .int isOther, .int res.2.2.2.2.2.1, .int res.2.2.2.2.2.2.1, .int res.2.2.2.2.2.2.2.1, .ref mo_letters, .ref mo_numbers, .long hash]), (mo_now, aI G 104 res.2.1), (mo_aside, aI G 104 res.2.2.1), (mo_past, aI G 520 res.2.2.2.1), (mo_text, aI G 120 text), (mo_letters, aI G 41 res.2.2.2.2.2.2.2.2.1), (mo_numbers, aI G 164 res.2.2.2.2.2.2.2.2.2)] lv pc [.int res.1])
    (hk21 : ∀ s', k21 s' = some res → GG p l e rm7_does s m args below meth c G A 3 0 0 Q [(mo, oB 7 [.ref mo_now, .ref mo_aside, .ref mo_past, .int s'.2.2.2.1, .ref mo_refusals, .ref mo_text, .int length, .ref mo_vars, .ref mo_sights, .int many, .int steps, .int isCut, .ref mo_isThere, .ref mo_taints, .ref mo_known, .int taint, .ref mo_knows, .int isOther, .int s'.2.2.2.2.1, .int s'.2.2.2.2.2.1, .int s'.2.2.2.2.2.2.1, .ref mo_letters, .ref mo_numbers, .long hash]), (mo_now, aI G 104 s'.1), (mo_aside, aI G 104 s'.2.1), (mo_past, aI G 520 s'.2.2.1), (mo_text, aI G 120 text), (mo_letters, aI G 41 s'.2.2.2.2.2.2.2.1), (mo_numbers, aI G 164 s'.2.2.2.2.2.2.2.2.1)] [(0, .ref mo), (1, .int s'.2.2.2.2.2.2.2.2.2)] 21 [])
    (hf : f7_does_21b text length k21 now aside past states at_ isFaulty orders letters numbers x1 = some res) : GG p l e rm7_does s m args below meth c G A 3 0 0 Q [(mo, oB 7 [.ref mo_now, .ref mo_aside, .ref mo_past, .int states, .ref mo_refusals, .ref mo_text, .int length, .ref mo_vars, .ref mo_sights, .int many, .int steps, .int isCut, .ref mo_isThere, .ref mo_taints, .ref mo_known, .int taint, .ref mo_knows, .int isOther, .int at_, .int isFaulty, .int orders, .ref mo_letters, .ref mo_numbers, .long hash]), (mo_now, aI G 104 now), (mo_aside, aI G 104 aside), (mo_past, aI G 520 past), (mo_text, aI G 120 text), (mo_letters, aI G 41 letters), (mo_numbers, aI G 164 numbers)] [(0, .ref mo), (1, .int x1)] 21 [] := by
  unfold f7_does_21b at hf
  refine g_iload_n C dX7_does_21 rfl 1 rfl ?_
  refine g_aload_n C dX7_does_22 rfl 0 rfl ?_
  refine g_get (C0 := RX7) (T := TX7) (N := 24) (ci := 7) (v := .int orders) C hm7_does_0 0 rfl rfl 20 (by decide) hm7_does_1 rfl dX7_does_23 ?_
  refine g_icmp_ge (tgt := 75) C dX7_does_26 (by decide) (fun c5 => ?_) (fun c5 => ?_)
  · replace hf := ite_t c5 hf
    exact k7_does_75 C hR hf
  · replace hf := ite_f c5 hf
    refine g_aload_n C dX7_does_29 rfl 0 rfl ?_
    refine g_iload_n C dX7_does_30 rfl 1 rfl ?_
    obtain ⟨q6, hq6, hf⟩ := bs hf
    refine g_callVi (n := 1) (As := [.int x1]) (rest := []) (wc := [(mo, oB 7 [.ref mo_now, .ref mo_aside, .ref mo_past, .int states, .ref mo_refusals, .ref mo_text, .int length, .ref mo_vars, .ref mo_sights, .int many, .int steps, .int isCut, .ref mo_isThere, .ref mo_taints, .ref mo_known, .int taint, .ref mo_knows, .int isOther, .int at_, .int isFaulty, .int orders, .ref mo_letters, .ref mo_numbers, .long hash]), (mo_now, aI G 104 now), (mo_letters, aI G 41 letters), (mo_numbers, aI G 164 numbers)]) (w1 := [(mo, oB 7 [.ref mo_now, .ref mo_aside, .ref mo_past, .int states, .ref mo_refusals, .ref mo_text, .int length, .ref mo_vars, .ref mo_sights, .int many, .int steps, .int isCut, .ref mo_isThere, .ref mo_taints, .ref mo_known, .int taint, .ref mo_knows, .int isOther, .int at_, .int isFaulty, .int orders, .ref mo_letters, .ref mo_numbers, .long hash]), (mo_now, aI G 104 q6.2), (mo_letters, aI G 41 letters), (mo_numbers, aI G 164 numbers)]) (wr := [(mo_aside, aI G 104 aside), (mo_past, aI G 520 past), (mo_text, aI G 120 text)]) (WS' := [(mo, oB 7 [.ref mo_now, .ref mo_aside, .ref mo_past, .int states, .ref mo_refusals, .ref mo_text, .int length, .ref mo_vars, .ref mo_sights, .int many, .int steps, .int isCut, .ref mo_isThere, .ref mo_taints, .ref mo_known, .int taint, .ref mo_knows, .int isOther, .int at_, .int isFaulty, .int orders, .ref mo_letters, .ref mo_numbers, .long hash]), (mo_now, aI G 104 q6.2), (mo_aside, aI G 104 aside), (mo_past, aI G 520 past), (mo_text, aI G 120 text), (mo_letters, aI G 41 letters), (mo_numbers, aI G 164 numbers)]) C (c7_doesOrder hq6) gX7_does_X7_doesOrder (by decide +kernel) rfl rfl rfl rfl rfl rfl ⟨by decide, by decide⟩ rfl [0, 1, 5, 6] [2, 3, 4] [3, 4, 0, 1, 2, 5, 6] rfl (by decide) rfl (by decide) (by decide) rfl (by decide) (Nat.le_of_ble_eq_true rfl) ⟨Nat.zero_le _, Nat.zero_le _⟩ rfl dX7_does_31 ?_
    refine g_if_ge (tgt := 69) C dX7_does_34 (by decide) (fun c7 => ?_) (fun c7 => ?_)
    · replace hf := ite_t c7 hf
      refine g_iinc (v := (x1 + (1 : Int32))) (lv' := [(0, .ref mo), (1, .int (x1 + (1 : Int32)))]) C dX7_does_69 1 rfl rfl (by decide) [1, 0] rfl ?_
      refine g_goto (tgt := 21) C dX7_does_72 (by decide) ?_
      exact hk21 _ hf
    · replace hf := ite_f c7 hf
      refine g_iconst (v := (0 : Int32)) C dX7_does_37 (by decide +kernel) ?_
      refine g_istore_n (lv' := [(0, .ref mo), (1, .int x1), (2, .int (0 : Int32))]) C dX7_does_38 rfl (by decide) [1, 2, 0] rfl ?_
      exact k7_does_39 C hR _ _ hf
set_option maxHeartbeats 4000000 in
set_option maxRecDepth 100000 in
theorem k7_does_21 {p : Program} {l : Launch} {e : Env} {s : State} {m : MethodId} {args : Array Value} {below : List Frame} {meth : Method} {c : Code} {G : gG} {A : Nat → Prop} {Q : State → Prop} {mo mo_now mo_aside mo_past mo_refusals mo_text mo_vars mo_sights mo_isThere mo_taints mo_known mo_knows mo_letters mo_numbers : Nat} (C : CX p s m args meth c G A cX7_does 3 RX7 wsX7_does) {many : Int32} {steps : Int32} {isCut : Int32} {taint : Int32} {isOther : Int32} {hash : Int64} {text : Nat → Int32} {length : Int32} {res : Int32 × (Nat → Int32) × (Nat → Int32) × (Nat → Int32) × Int32 × Int32 × Int32 × Int32 × (Nat → Int32) × (Nat → Int32)} (hR : ∀ (lv : List (Nat × Value)) (pc : Nat), decode cX7_does pc = .ok (.ireturn, 1) → GG p l e rm7_does s m args below meth c G A 3 0 0 Q [(mo, oB 7 [.ref mo_now, .ref mo_aside, .ref mo_past, .int res.2.2.2.2.1, .ref mo_refusals, .ref mo_text, .int length, .ref mo_vars, .ref mo_sights, .int many, .int steps, .int isCut, .ref mo_isThere, .ref mo_taints, .ref mo_known, .int taint, .ref mo_knows, .int isOther, .int res.2.2.2.2.2.1, .int res.2.2.2.2.2.2.1, .int res.2.2.2.2.2.2.2.1, .ref mo_letters, .ref mo_numbers, .long hash]), (mo_now, aI G 104 res.2.1), (mo_aside, aI G 104 res.2.2.1), (mo_past, aI G 520 res.2.2.2.1), (mo_text, aI G 120 text), (mo_letters, aI G 41 res.2.2.2.2.2.2.2.2.1), (mo_numbers, aI G 164 res.2.2.2.2.2.2.2.2.2)] lv pc [.int res.1]) : ∀ (n : Nat) (s1 : (Nat → Int32) × (Nat → Int32) × (Nat → Int32) × Int32 × Int32 × Int32 × Int32 × (Nat → Int32) × (Nat → Int32) × Int32), f7_does_21 text length n s1 = some res → GG p l e rm7_does s m args below meth c G A 3 0 0 Q [(mo, oB 7 [.ref mo_now, .ref mo_aside, .ref mo_past, .int s1.2.2.2.1, .ref mo_refusals, .ref mo_text, .int length, .ref mo_vars, .ref mo_sights, .int many, .int steps, .int isCut, .ref mo_isThere, .ref mo_taints, .ref mo_known, .int taint, .ref mo_knows, .int isOther, .int s1.2.2.2.2.1, .int s1.2.2.2.2.2.1, .int s1.2.2.2.2.2.2.1, .ref mo_letters, .ref mo_numbers, .long hash]), (mo_now, aI G 104 s1.1), (mo_aside, aI G 104 s1.2.1), (mo_past, aI G 520 s1.2.2.1), (mo_text, aI G 120 text), (mo_letters, aI G 41 s1.2.2.2.2.2.2.2.1), (mo_numbers, aI G 164 s1.2.2.2.2.2.2.2.2.1)] [(0, .ref mo), (1, .int s1.2.2.2.2.2.2.2.2.2)] 21 [] :=
  itf_ind (fun k s1 ih hf => k7_does_21b C hR ih hf)
set_option maxHeartbeats 4000000 in
set_option maxRecDepth 100000 in
theorem c7_does {l : Launch} {G : gG} {mo mo_now mo_aside mo_past mo_refusals mo_text mo_vars mo_sights mo_isThere mo_taints mo_known mo_knows mo_letters mo_numbers : Nat} {now : Nat → Int32} {aside : Nat → Int32} {past : Nat → Int32} {states : Int32} {text : Nat → Int32} {length : Int32} {many : Int32} {steps : Int32} {isCut : Int32} {taint : Int32} {isOther : Int32} {at_ : Int32} {isFaulty : Int32} {orders : Int32} {letters : Nat → Int32} {numbers : Nat → Int32} {hash : Int64} {res : Int32 × (Nat → Int32) × (Nat → Int32) × (Nat → Int32) × Int32 × Int32 × Int32 × Int32 × (Nat → Int32) × (Nat → Int32)} (hf : f7_does text length now aside past states at_ isFaulty orders letters numbers = some res) : MI l yX7_does wsX7_does rm7_does G [.ref mo] [(mo, oB 7 [.ref mo_now, .ref mo_aside, .ref mo_past, .int states, .ref mo_refusals, .ref mo_text, .int length, .ref mo_vars, .ref mo_sights, .int many, .int steps, .int isCut, .ref mo_isThere, .ref mo_taints, .ref mo_known, .int taint, .ref mo_knows, .int isOther, .int at_, .int isFaulty, .int orders, .ref mo_letters, .ref mo_numbers, .long hash]), (mo_now, aI G 104 now), (mo_aside, aI G 104 aside), (mo_past, aI G 520 past), (mo_text, aI G 120 text), (mo_letters, aI G 41 letters), (mo_numbers, aI G 164 numbers)] (res.1) [(mo, oB 7 [.ref mo_now, .ref mo_aside, .ref mo_past, .int res.2.2.2.2.1, .ref mo_refusals, .ref mo_text, .int length, .ref mo_vars, .ref mo_sights, .int many, .int steps, .int isCut, .ref mo_isThere, .ref mo_taints, .ref mo_known, .int taint, .ref mo_knows, .int isOther, .int res.2.2.2.2.2.1, .int res.2.2.2.2.2.2.1, .int res.2.2.2.2.2.2.2.1, .ref mo_letters, .ref mo_numbers, .long hash]), (mo_now, aI G 104 res.2.1), (mo_aside, aI G 104 res.2.2.1), (mo_past, aI G 520 res.2.2.2.1), (mo_text, aI G 120 text), (mo_letters, aI G 41 res.2.2.2.2.2.2.2.2.1), (mo_numbers, aI G 164 res.2.2.2.2.2.2.2.2.2)] := by
  refine MI_of (res.1) (cc := cX7_does) (nL := 3) (lv := [(0, .ref mo)]) (by decide +kernel) rfl (Nat.le_of_ble_eq_true rfl) rfl ?_
  intro p e s m args below meth c A Q C hR
  unfold f7_does at hf
  refine g_aload_n C dX7_does_0 rfl 0 rfl ?_
  obtain ⟨q8, hq8, hf⟩ := bs hf
  refine g_callVi (n := 0) (As := []) (rest := []) (wc := [(mo, oB 7 [.ref mo_now, .ref mo_aside, .ref mo_past, .int states, .ref mo_refusals, .ref mo_text, .int length, .ref mo_vars, .ref mo_sights, .int many, .int steps, .int isCut, .ref mo_isThere, .ref mo_taints, .ref mo_known, .int taint, .ref mo_knows, .int isOther, .int at_, .int isFaulty, .int orders, .ref mo_letters, .ref mo_numbers, .long hash]), (mo_text, aI G 120 text), (mo_letters, aI G 41 letters), (mo_numbers, aI G 164 numbers)]) (w1 := [(mo, oB 7 [.ref mo_now, .ref mo_aside, .ref mo_past, .int states, .ref mo_refusals, .ref mo_text, .int length, .ref mo_vars, .ref mo_sights, .int many, .int steps, .int isCut, .ref mo_isThere, .ref mo_taints, .ref mo_known, .int taint, .ref mo_knows, .int isOther, .int q8.2.1, .int q8.2.2.1, .int q8.2.2.2.1, .ref mo_letters, .ref mo_numbers, .long hash]), (mo_text, aI G 120 text), (mo_letters, aI G 41 q8.2.2.2.2.1), (mo_numbers, aI G 164 q8.2.2.2.2.2)]) (wr := [(mo_now, aI G 104 now), (mo_aside, aI G 104 aside), (mo_past, aI G 520 past)]) (WS' := [(mo, oB 7 [.ref mo_now, .ref mo_aside, .ref mo_past, .int states, .ref mo_refusals, .ref mo_text, .int length, .ref mo_vars, .ref mo_sights, .int many, .int steps, .int isCut, .ref mo_isThere, .ref mo_taints, .ref mo_known, .int taint, .ref mo_knows, .int isOther, .int q8.2.1, .int q8.2.2.1, .int q8.2.2.2.1, .ref mo_letters, .ref mo_numbers, .long hash]), (mo_now, aI G 104 now), (mo_aside, aI G 104 aside), (mo_past, aI G 520 past), (mo_text, aI G 120 text), (mo_letters, aI G 41 q8.2.2.2.2.1), (mo_numbers, aI G 164 q8.2.2.2.2.2)]) C (c7_isRead hq8) gX7_does_X7_isRead (by decide +kernel) rfl rfl rfl rfl rfl rfl ⟨by decide, by decide⟩ rfl [0, 4, 5, 6] [1, 2, 3] [3, 0, 1, 2, 4, 5, 6] rfl (by decide) rfl (by decide) (by decide) rfl (by decide) (Nat.le_of_ble_eq_true rfl) ⟨Nat.zero_le _, Nat.zero_le _⟩ rfl dX7_does_1 ?_
  refine g_if_ne (tgt := 15) C dX7_does_4 (by decide) (fun c9 => ?_) (fun c9 => ?_)
  · replace hf := ite_f c9 hf
    refine g_aload_n C dX7_does_15 rfl 0 rfl ?_
    obtain ⟨q10, hq10, hf⟩ := bs hf
    refine g_callVv (n := 0) (As := []) (rest := []) (wc := [(mo, oB 7 [.ref mo_now, .ref mo_aside, .ref mo_past, .int states, .ref mo_refusals, .ref mo_text, .int length, .ref mo_vars, .ref mo_sights, .int many, .int steps, .int isCut, .ref mo_isThere, .ref mo_taints, .ref mo_known, .int taint, .ref mo_knows, .int isOther, .int q8.2.1, .int q8.2.2.1, .int q8.2.2.2.1, .ref mo_letters, .ref mo_numbers, .long hash]), (mo_now, aI G 104 now), (mo_aside, aI G 104 aside)]) (w1 := [(mo, oB 7 [.ref mo_now, .ref mo_aside, .ref mo_past, .int states, .ref mo_refusals, .ref mo_text, .int length, .ref mo_vars, .ref mo_sights, .int many, .int steps, .int isCut, .ref mo_isThere, .ref mo_taints, .ref mo_known, .int taint, .ref mo_knows, .int isOther, .int q8.2.1, .int q8.2.2.1, .int q8.2.2.2.1, .ref mo_letters, .ref mo_numbers, .long hash]), (mo_now, aI G 104 now), (mo_aside, aI G 104 q10)]) (wr := [(mo_past, aI G 520 past), (mo_text, aI G 120 text), (mo_letters, aI G 41 q8.2.2.2.2.1), (mo_numbers, aI G 164 q8.2.2.2.2.2)]) (WS' := [(mo, oB 7 [.ref mo_now, .ref mo_aside, .ref mo_past, .int states, .ref mo_refusals, .ref mo_text, .int length, .ref mo_vars, .ref mo_sights, .int many, .int steps, .int isCut, .ref mo_isThere, .ref mo_taints, .ref mo_known, .int taint, .ref mo_knows, .int isOther, .int q8.2.1, .int q8.2.2.1, .int q8.2.2.2.1, .ref mo_letters, .ref mo_numbers, .long hash]), (mo_now, aI G 104 now), (mo_aside, aI G 104 q10), (mo_past, aI G 520 past), (mo_text, aI G 120 text), (mo_letters, aI G 41 q8.2.2.2.2.1), (mo_numbers, aI G 164 q8.2.2.2.2.2)]) C (c7_laysAside hq10) gX7_does_X7_laysAside (by decide +kernel) rfl rfl rfl rfl rfl rfl ⟨by decide, by decide⟩ rfl [0, 1, 2] [3, 4, 5, 6] [4, 5, 6, 0, 1, 2, 3] rfl (by decide) rfl (by decide) (by decide) rfl (by decide) (Nat.le_of_ble_eq_true rfl) ⟨Nat.zero_le _, Nat.zero_le _⟩ rfl dX7_does_16 ?_
    refine g_iconst (v := (0 : Int32)) C dX7_does_19 (by decide +kernel) ?_
    refine g_istore_n (lv' := [(0, .ref mo), (1, .int (0 : Int32))]) C dX7_does_20 rfl (by decide) [1, 0] rfl ?_
    exact k7_does_21 C hR _ _ hf
  · replace hf := ite_t c9 hf
    refine g_bipush (v := (-10 : Int32)) C dX7_does_7 (by decide +kernel) ?_
    refine g_aload_n C dX7_does_9 rfl 0 rfl ?_
    refine g_get (C0 := RX7) (T := TX7) (N := 24) (ci := 7) (v := .int q8.2.1) C hm7_does_0 0 rfl rfl 18 (by decide) hm7_does_4 rfl dX7_does_10 ?_
    refine g_isub C dX7_does_13 ?_
    obtain rfl := Option.some.inj hf
    exact hR _ _ dX7_does_14
